set_option maxHeartbeats 4000000 in
/-- THE SMALL MACHINE IS SOUND: what it says of a method is a contract of the method -/
theorem q_sound (l : Launch) (dC : Nat → ClassId) (dI : Nat → Nat → Nat) (kA : Nat → ClassId) (L : Nat) (xs : Nat → Int32) : ∀ (d y : Nat) (as : List Value) (μ : q_Mem) (Q : Value → q_Mem → Prop), q_W d y as μ Q → q_MetS l dC dI kA L xs d y as μ Q := by
  intro d
  induction d with
  | zero => exact fun y as μ Q h => h.elim
  | succ d ih =>
    intro y as μ Q h ad sz hok
    obtain ⟨⟨hj, hlen, hlg⟩, hX⟩ := h
    have hj : y < 226 := Nat.ble_eq.mp hj
    have hlen : (q_lay as).length ≤ (q_m y).1.2.2.1 := Nat.ble_eq.mp hlen
    have hM := q_ckM_get hj
    unfold q_ckM at hM
    rw [Bool.and_eq_true] at hM
    refine va_MetF (cc := (q_m y).1.2.1) (maxL := (q_m y).1.2.2.1) (ret := (q_m y).1.2.2.2) hM.1 rfl ?_
    intro p e s m args below meth c s₁ B hml hv
    obtain ⟨rfl, hsz, hP, hK, hD0⟩ := hv
    subst hsz
    have hts := atoms_spec (ws := q_ws y) B.pre
    have hlocks := B.notSynchronized
    have F : q_Fr p (q_rm (d + 1) y) s m (as.map (q_rn ad)).toArray meth c dC dI kA (va_A (q_world ad kA μ) s.heap.size) L 0 xs μ.1.length ad y :=
      ⟨⟨B.exec, B.bytes, hml, findClass_of_methodNamed B.named⟩, fun w hw => hts w (List.mem_cons_of_mem _ hw), hK, fun q hq => Or.inr hq, fun h => absurd h (by omega), ⟨Nat.le_add_left 1 d, by show 64 ≤ 64 * (d + 1); omega, Nat.le_refl _, Nat.le_refl _⟩, fun h => (name_of_methodNamed B.named B.method).1.trans h⟩
    have hrt : q_RH p l e (q_rm (d + 1) y) s m (as.map (q_rn ad)).toArray below meth c (MQ below (q_Po dC dI kA L xs y Q μ ad s.heap.size) (as.map (q_rn ad)).toArray s (q_mc y) (q_ms y) (va_A (q_world ad kA μ) s.heap.size)) dC dI kA (va_A (q_world ad kA μ) s.heap.size) L xs μ.1.length ad y (fun v μ' _ _ => Q v μ') := by
      refine ⟨fun pc ls x μ' uc us ty hr hn hq hc hs hdg => fun ad' H locs lsR r => W.widen hc hs (W.zret B.exec B.bytes (B.returns.trans hr) hn (fun t ht hW => ⟨⟨.int x, μ', ad', by rw [hr]; rfl, hq, r.1.1, r.1.2.1, r.1.2.2.1, r.1.2.2.2, by rw [ht]; exact r.2.1.1, r.2.1.2.1⟩, r.2.1.2.2.F ht⟩) (fun q hq => r.2.1.2.2.2.2 q hq) hdg), fun pc ls x μ' uc us hr hq hc hs hdg => fun ad' H locs lsR r => W.widen hc hs (W.lret B.exec B.bytes (B.returns.trans hr) (fun t ht hW => ⟨⟨.long x, μ', ad', by rw [hr]; rfl, hq, r.1.1, r.1.2.1, r.1.2.2.1, r.1.2.2.2, by rw [ht]; exact r.2.1.1, r.2.1.2.1⟩, r.2.1.2.2.F ht⟩) (fun q hq => r.2.1.2.2.2.2 q hq) hdg), fun pc ls μ' uc us hr hq hc hs hdg => fun ad' H locs lsR r => W.widen hc hs (W.vret B.exec B.bytes (B.returns.trans hr) (fun t ht hW => ⟨⟨.null, μ', ad', by rw [hr]; rfl, hq, r.1.1, r.1.2.1, r.1.2.2.1, r.1.2.2.2, by rw [ht]; exact r.2.1.1, r.2.1.2.1⟩, r.2.1.2.2.F ht⟩) (fun q hq => r.2.1.2.2.2.2 q hq) hdg)⟩
    have hV := q_snd_X (by omega) F ⟨Nat.le_refl _, Nat.le_refl _⟩ ih hrt hX
    have h1 := hV ad s.heap [] _ ⟨⟨hok, Nat.le_refl _, fun _ _ => rfl, fun _ => rfl⟩, ⟨hP, hD0.self, va_S.rf⟩, q_LS_entry hlen hlg⟩
    rw [lg_entry_eq]
    exact h1
