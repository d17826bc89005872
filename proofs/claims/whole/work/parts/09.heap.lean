theorem q_clo_rn {n : Nat} {ad ad' : Nat → Nat} (ha : ∀ k, k < n → ad' k = ad k) {ls : List (Option Value)} {st : List Value} (h : q_clo n ls st = true) : st.map (q_rn ad') = st.map (q_rn ad) ∧ ∀ (lg : List Nat) (lsR : Array Slot) (nL : Nat), q_LS ad lg ls lsR nL → q_LS ad' lg ls lsR nL := by
  unfold q_clo at h
  rw [Bool.and_eq_true, List.all_eq_true, List.all_eq_true] at h
  have key : ∀ v : Value, q_vlt n v = true → q_rn ad' v = q_rn ad v := by
    intro v hv
    cases v <;> first | rfl | skip
    rename_i t
    exact congrArg Value.ref (ha t (Nat.ble_eq.mp hv))
  refine ⟨List.map_congr_left fun v hv => key v (h.2 v hv), fun lg lsR nL h' => ⟨h'.1, h'.2.1, h'.2.2.1, fun i v hi => ?_⟩⟩
  obtain ⟨h1, h2⟩ := h'.2.2.2 i v hi
  refine ⟨?_, h2⟩
  rw [key v (h.1 (some v) (List.mem_of_getElem? hi))]
  exact h1
theorem q_cell_set {ad : Nat → Nat} {kA : Nat → ClassId} {μ μ' : q_Mem} {o a b n : Nat} {v : Value} (ha : a < 11) (hb : b < q_N a) (hk : ∀ k, k ≠ b → q_fv ad μ' o a k = q_fv ad μ o a k) (hv : q_fv ad μ' o a b = v) : q_cell ad kA μ' o (a, n) = .inr (a, ((List.range (q_N a)).map fun k => q_fv ad μ o a k).set b v) := by
  unfold q_cell
  rw [if_pos (show a ≤ 10 by omega)]
  congr 2
  apply List.ext_getElem?
  intro i
  rw [List.getElem?_map, List.getElem?_set]
  by_cases hi : b = i
  · subst hi
    rw [if_pos rfl, if_pos (by simpa using hb), List.getElem?_range hb, Option.map_some, hv]
  · rw [if_neg hi, List.getElem?_map]
    by_cases hl : i < q_N a
    · rw [List.getElem?_range hl, Option.map_some, Option.map_some, hk i (fun e => hi e.symm)]
    · rw [List.getElem?_eq_none (by simpa using hl)]
      rfl
section HEAP
variable {p : Program} {l : Launch} {e : Env} {R : Room} {s : State} {m : MethodId} {args : Array Value} {below : List Frame} {meth : Method} {c : Code} {Qf : State → Prop} {dC : Nat → ClassId} {dI : Nat → Nat → Nat} {kA : Nat → ClassId} {A : Nat → Prop} {L b0 : Nat} {xs : Nat → Int32} {n0 : Nat} {ad0 : Nat → Nat} {j pc a b uc us idx : Nat} {ls : List (Option Value)} {st : List Value} {μ : q_Mem} {x y : Int32} {x8 y8 : Int64} {v w : Value} {off k : Int}
theorem q_i_get (F : q_Fr p R s m args meth c dC dI kA A L b0 xs n0 ad0 j) (ha : a < 11) (hb : b < q_N a) (hw : Cond.fieldLink (q_own j) idx (q_T a b).1 (q_T a b).2.1 (q_T a b).2.2.1 ∈ lw_tbl) {o : Nat} (ho : q_isO μ.1 o a = true) (hv : ∀ ad, q_fv ad μ o a b = q_rn ad v) (hdg : decode (q_m j).1.2.1 pc = .ok (.getfield idx, 3)) (h : (q_V p l e R s m args below meth c Qf dC dI kA A L xs n0 ad0 j) (pc + 3, ls, v :: st, μ, uc, us)) : (q_V p l e R s m args below meth c Qf dC dI kA A L xs n0 ad0 j) (pc, ls, .ref o :: st, μ, uc, us) := fun ad H locs lsR r => by
  obtain ⟨n, hn⟩ := q_isO_spec ho
  obtain ⟨h0, hwd⟩ := q_world_at (ad := ad) (kA := kA) r.1.1 hn (show a ≠ 99 by omega)
  have hce : q_cell ad kA μ o (a, n) = .inr (a, (List.range (q_N a)).map fun k => q_fv ad μ o a k) := by
    unfold q_cell
    rw [if_pos (show a ≤ 10 by omega)]
  rw [hce] at hwd
  refine va_get F.1.1 F.1.2.1 F.2.1 (q_uwg a ha) F.1.2.2.2 F.2.2.1.1 r.2.1.1 (o - 1) hwd (q_clc a ha) b hb (q_hts F hw rfl) (fun x h => h) ?_ hdg (h ad H locs lsR r)
  rw [List.getElem?_map, List.getElem?_range hb, Option.map_some, hv]
theorem q_i_put {μ' : q_Mem} (F : q_Fr p R s m args meth c dC dI kA A L b0 xs n0 ad0 j) (ha : a < 11) (hb : b < q_N a) (hw : Cond.fieldLink (q_own j) idx (q_T a b).1 (q_T a b).2.1 (q_T a b).2.2.1 ∈ lw_tbl) (hfi : (q_T a b).2.2.2 = true → (q_T a b).1 = q_own j ∧ (q_m j).1.1.name = "<init>") {o : Nat} (ho : q_isO μ.1 o a = true) (hok : o ≠ 0 → q_ok L xs μ → q_ok L xs μ') (hs : μ'.1 = μ.1) (hx : ∀ ad o' q', o' ≠ o → q_cell ad kA μ' o' q' = q_cell ad kA μ o' q') (hk : ∀ ad k, k ≠ b → q_fv ad μ' o a k = q_fv ad μ o a k) (hv : ∀ ad, q_fv ad μ' o a b = q_rn ad v) (hn : ∀ ad, narrow (q_tyf a b) (q_rn ad v) = q_rn ad v) (hfit : ∀ ad, fits (q_tyf a b) (q_rn ad v) = true)
    (hdg : decode (q_m j).1.2.1 pc = .ok (.putfield idx, 3)) (h : (q_V p l e R s m args below meth c Qf dC dI kA A L xs n0 ad0 j) (pc + 3, ls, st, μ', uc, us)) : (q_V p l e R s m args below meth c Qf dC dI kA A L xs n0 ad0 j) (pc, ls, v :: .ref o :: st, μ, uc, us) := fun ad H locs lsR r => by
  obtain ⟨n, hno⟩ := q_isO_spec ho
  obtain ⟨h0, hwd⟩ := q_world_at (ad := ad) (kA := kA) r.1.1 hno (show a ≠ 99 by omega)
  have hce : q_cell ad kA μ o (a, n) = .inr (a, (List.range (q_N a)).map fun k => q_fv ad μ o a k) := by
    unfold q_cell
    rw [if_pos (show a ≤ 10 by omega)]
  rw [hce] at hwd
  have ew := q_world_set (ad := ad) (kA := kA) h0 hno hs (hx ad)
  rw [q_cell_set ha hb (hk ad) (hv ad)] at ew
  have kk : ∀ (H1 : Heap) (locs1 : List Loc), va_P (dC, dI) vwCl ((q_world ad kA μ).set (o - 1) (ad o, .inr (a, ((List.range (q_N a)).map fun k => q_fv ad μ o a k).set b (q_rn ad v)))) H1 → va_D A ((q_world ad kA μ).set (o - 1) (ad o, .inr (a, ((List.range (q_N a)).map fun k => q_fv ad μ o a k).set b (q_rn ad v)))) → va_S A s.heap H1 locs1 → W p l e R s m args below meth c H1 locs1 uc us Qf (F0 m (pc + 3) lsR (st.map (q_rn ad))) := fun H1 locs1 hP hD hS => by
    rw [← ew] at hP hD
    exact h ad H1 locs1 lsR ⟨⟨hok h0 r.1.1, by show n0 ≤ μ'.1.length; rw [hs]; exact r.1.2.1, r.1.2.2⟩, ⟨hP, hD, hS⟩, r.2.2⟩
  have hl : b < ((List.range (q_N a)).map fun k => q_fv ad μ o a k).length := by simpa using hb
  cases hfin : (q_T a b).2.2.2 with
  | false => exact va_put F.1.1 F.1.2.1 F.2.1 (q_uwg a ha) (q_tyf a) (q_tys a ha) (q_nms a ha) F.1.2.2.2 F.2.2.1.1 r.2.1.1 r.2.1.2.1 r.2.1.2.2 (o - 1) hwd (q_clc a ha) b hb (q_hts F hw rfl) (fun x h => h) hfin (q_tys a ha b hb) (hn ad) (hfit ad) hl hdg kk
  | true => exact va_putF F.1.1 F.1.2.1 F.2.1 (q_uwg a ha) (q_tyf a) (q_tys a ha) (q_nms a ha) F.1.2.2.2 F.2.2.1.1 r.2.1.1 r.2.1.2.1 r.2.1.2.2 (o - 1) hwd (q_clc a ha) b hb (q_hts F hw rfl) (fun x h => h) hfin (F.2.2.2.2.2.2 (hfi hfin).2) (hfi hfin).1 (q_tys a ha b hb) (hn ad) (hfit ad) hl hdg kk
theorem q_i_iaload (F : q_Fr p R s m args meth c dC dI kA A L b0 xs n0 ad0 j) {o N : Nat} (ho : q_ard j μ.1 o = some N) (hin : ¬ (x < 0 ∨ N ≤ x.toNatClampNeg)) (hdg : decode (q_m j).1.2.1 pc = .ok (.iaload, 1)) (h : (q_V p l e R s m args below meth c Qf dC dI kA A L xs n0 ad0 j) (pc + 1, ls, .int (μ.2.1 o x.toNatClampNeg) :: st, μ, uc, us)) : (q_V p l e R s m args below meth c Qf dC dI kA A L xs n0 ad0 j) (pc, ls, .int x :: .ref o :: st, μ, uc, us) := fun ad H locs lsR r => by
  rcases q_ard_spec ho with hn | ⟨hj, rfl, hn⟩
  · obtain ⟨h0, hwd⟩ := q_world_at (ad := ad) (kA := kA) r.1.1 hn (by dsimp only; decide)
    have hce : q_cell ad kA μ o (100, N) = .inl (kA 100, N, .inl (μ.2.1 o)) := rfl
    rw [hce] at hwd
    exact va_iald F.1.1 F.1.2.1 F.2.2.1.1 r.2.1.1 (o - 1) 0 hwd rfl hin hdg (h ad H locs lsR r)
  · obtain ⟨hX, hbl, hbA, had, hn0⟩ := F.2.2.2.2.1 hj
    have e1 : ad 0 = b0 := (r.1.2.2.1 0 hn0).trans had
    have e2 : N = L := by
      have h2 := r.1.1.1
      rw [hn] at h2
      cases h2
      rfl
    subst e2
    have h3 := h ad H locs lsR r
    rw [r.1.1.2.1] at h3
    show W p l e R s m args below meth c H locs uc us Qf (F0 m pc lsR (.int x :: .ref (ad 0) :: st.map (q_rn ad)))
    rw [e1]
    exact va_sld F.1.1 F.1.2.1 hX hbl hbA r.2.1.2.2 hin hdg h3
theorem q_i_laload (F : q_Fr p R s m args meth c dC dI kA A L b0 xs n0 ad0 j) {o N : Nat} (ho : q_arr μ.1 o 101 = some N) (hin : ¬ (x < 0 ∨ N ≤ x.toNatClampNeg)) (hdg : decode (q_m j).1.2.1 pc = .ok (.laload, 1)) (h : (q_V p l e R s m args below meth c Qf dC dI kA A L xs n0 ad0 j) (pc + 1, ls, .long (μ.2.2.1 o x.toNatClampNeg) :: st, μ, uc, us)) : (q_V p l e R s m args below meth c Qf dC dI kA A L xs n0 ad0 j) (pc, ls, .int x :: .ref o :: st, μ, uc, us) := fun ad H locs lsR r => by
  have hn := q_arr_spec ho
  obtain ⟨h0, hwd⟩ := q_world_at (ad := ad) (kA := kA) r.1.1 hn (by dsimp only; decide)
  have hce : q_cell ad kA μ o (101, N) = .inl (kA 101, N, .inr (.inl (μ.2.2.1 o))) := rfl
  rw [hce] at hwd
  exact va_lald F.1.1 F.1.2.1 F.2.2.1.1 r.2.1.1 (o - 1) 1 hwd rfl hin hdg (h ad H locs lsR r)
theorem q_cellA {ad : Nat → Nat} {o n : Nat} {k : Nat} (hk : q_okA k = true) : q_cell ad kA μ o (k, n) = .inl (kA k, n, .inr (.inr (.inr (.inr fun i => (μ.2.2.2 o i).map ad)))) := by
  rcases q_okA_cases hk with rfl | rfl | rfl <;> rfl
theorem q_i_aaload {t : Nat} (F : q_Fr p R s m args meth c dC dI kA A L b0 xs n0 ad0 j) {o : Nat} {N : Nat × Nat} (ho : q_arq μ.1 o = some N) (hin : ¬ (x < 0 ∨ N.2 ≤ x.toNatClampNeg)) (hR : μ.2.2.2 o x.toNatClampNeg = some t) (hdg : decode (q_m j).1.2.1 pc = .ok (.aaload, 1)) (h : (q_V p l e R s m args below meth c Qf dC dI kA A L xs n0 ad0 j) (pc + 1, ls, .ref t :: st, μ, uc, us)) : (q_V p l e R s m args below meth c Qf dC dI kA A L xs n0 ad0 j) (pc, ls, .int x :: .ref o :: st, μ, uc, us) := fun ad H locs lsR r => by
  obtain ⟨hn, hk⟩ := q_arq_spec ho
  obtain ⟨h0, hwd⟩ := q_world_at (ad := ad) (kA := kA) r.1.1 hn (by rcases q_okA_cases hk with e | e | e <;> (dsimp only; omega))
  rw [q_cellA hk] at hwd
  obtain ⟨t0, ht0⟩ := q_tyA (kA := kA) hk
  refine va_aldq F.1.1 F.1.2.1 F.2.2.1.1 r.2.1.1 (o - 1) t0 hwd ht0 hin hdg ?_
  rw [hR]
  exact h ad H locs lsR r
theorem q_i_iastore (F : q_Fr p R s m args meth c dC dI kA A L b0 xs n0 ad0 j) {o N : Nat} (ho : q_arr μ.1 o 100 = some N) (hin : ¬ (x < 0 ∨ N ≤ x.toNatClampNeg)) (hdg : decode (q_m j).1.2.1 pc = .ok (.iastore, 1)) (h : (q_V p l e R s m args below meth c Qf dC dI kA A L xs n0 ad0 j) (pc + 1, ls, st, q_sI μ o x.toNatClampNeg y, uc, us)) : (q_V p l e R s m args below meth c Qf dC dI kA A L xs n0 ad0 j) (pc, ls, .int y :: .int x :: .ref o :: st, μ, uc, us) := fun ad H locs lsR r => by
  have hn := q_arr_spec ho
  obtain ⟨h0, hwd⟩ := q_world_at (ad := ad) (kA := kA) r.1.1 hn (by dsimp only; decide)
  have hce : q_cell ad kA μ o (100, N) = .inl (kA 100, N, .inl (μ.2.1 o)) := rfl
  rw [hce] at hwd
  have e := q_wI (ad := ad) (kA := kA) (k := x.toNatClampNeg) (v := y) r.1.1 hn (by dsimp only; decide)
  have hce2 : q_cell ad kA (q_sI μ o x.toNatClampNeg y) o (100, N) = .inl (kA 100, N, .inl ((q_sI μ o x.toNatClampNeg y).2.1 o)) := rfl
  rw [hce2, q_sI_eq] at e
  refine va_iast F.1.1 F.1.2.1 F.2.2.1.1 r.2.1.1 r.2.1.2.1 r.2.1.2.2 (o - 1) 0 hwd rfl hin hdg fun H1 locs1 hP hD hS => ?_
  rw [← e] at hP hD
  exact h ad H1 locs1 lsR ⟨⟨q_ok_sI r.1.1 h0, r.1.2⟩, ⟨hP, hD, hS⟩, r.2.2⟩
theorem q_i_lastore (F : q_Fr p R s m args meth c dC dI kA A L b0 xs n0 ad0 j) {o N : Nat} (ho : q_arr μ.1 o 101 = some N) (hin : ¬ (x < 0 ∨ N ≤ x.toNatClampNeg)) (hdg : decode (q_m j).1.2.1 pc = .ok (.lastore, 1)) (h : (q_V p l e R s m args below meth c Qf dC dI kA A L xs n0 ad0 j) (pc + 1, ls, st, q_sL μ o x.toNatClampNeg x8, uc, us)) : (q_V p l e R s m args below meth c Qf dC dI kA A L xs n0 ad0 j) (pc, ls, .long x8 :: .int x :: .ref o :: st, μ, uc, us) := fun ad H locs lsR r => by
  have hn := q_arr_spec ho
  obtain ⟨h0, hwd⟩ := q_world_at (ad := ad) (kA := kA) r.1.1 hn (by dsimp only; decide)
  have hce : q_cell ad kA μ o (101, N) = .inl (kA 101, N, .inr (.inl (μ.2.2.1 o))) := rfl
  rw [hce] at hwd
  have e := q_wL (ad := ad) (kA := kA) (k := x.toNatClampNeg) (v := x8) r.1.1 hn (by dsimp only; decide)
  have hce2 : q_cell ad kA (q_sL μ o x.toNatClampNeg x8) o (101, N) = .inl (kA 101, N, .inr (.inl ((q_sL μ o x.toNatClampNeg x8).2.2.1 o))) := rfl
  rw [hce2, q_sL_eq] at e
  refine va_last F.1.1 F.1.2.1 F.2.2.1.1 r.2.1.1 r.2.1.2.1 r.2.1.2.2 (o - 1) 1 hwd rfl hin hdg fun H1 locs1 hP hD hS => ?_
  rw [← e] at hP hD
  exact h ad H1 locs1 lsR ⟨⟨q_ok_sL r.1.1, r.1.2⟩, ⟨hP, hD, hS⟩, r.2.2⟩
theorem q_i_aastore (F : q_Fr p R s m args meth c dC dI kA A L b0 xs n0 ad0 j) {o t : Nat} {N : Nat × Nat} (ho : q_arq μ.1 o = some N) (ht : q_isO μ.1 t N.1 = true) (hin : ¬ (x < 0 ∨ N.2 ≤ x.toNatClampNeg)) (hdg : decode (q_m j).1.2.1 pc = .ok (.aastore, 1)) (h : (q_V p l e R s m args below meth c Qf dC dI kA A L xs n0 ad0 j) (pc + 1, ls, st, q_sR μ o x.toNatClampNeg (some t), uc, us)) : (q_V p l e R s m args below meth c Qf dC dI kA A L xs n0 ad0 j) (pc, ls, .ref t :: .int x :: .ref o :: st, μ, uc, us) := fun ad H locs lsR r => by
  obtain ⟨hn, hk⟩ := q_arq_spec ho
  have hk2 := q_okA_cases hk
  obtain ⟨h0, hwd⟩ := q_world_at (ad := ad) (kA := kA) r.1.1 hn (by dsimp only; omega)
  rw [q_cellA hk] at hwd
  obtain ⟨nt, hnt⟩ := q_isO_spec ht
  have hN : N.1 < 11 := by omega
  obtain ⟨h0t, hwt⟩ := q_world_at (ad := ad) (kA := kA) r.1.1 hnt (by dsimp only; omega)
  have hct : q_cell ad kA μ t (N.1, nt) = .inr (N.1, (List.range (q_N N.1)).map fun k => q_fv ad μ t N.1 k) := by
    unfold q_cell
    rw [if_pos (show N.1 ≤ 10 by omega)]
  rw [hct] at hwt
  obtain ⟨t0, ht0⟩ := q_tyA (kA := kA) hk
  have e3 : 102 + N.1 - 102 = N.1 := by omega
  rw [e3] at ht0
  have e := q_wR (ad := ad) (kA := kA) (k := x.toNatClampNeg) (v := some t) r.1.1 hn (by dsimp only; omega)
  rw [q_cellA hk] at e
  have e4 : (fun i => ((q_sR μ o x.toNatClampNeg (some t)).2.2.2 o i).map ad) = va_up (fun i => (μ.2.2.2 o i).map ad) x.toNatClampNeg (some (ad t)) := by
    funext i
    simp only [q_sR, va_up, true_and]
    split <;> rfl
  rw [e4] at e
  refine va_astq F.1.1 F.1.2.1 F.2.2.1.1 r.2.1.1 r.2.1.2.1 r.2.1.2.2 (o - 1) t0 (t - 1) N.1 hwd ht0 hwt (q_clc N.1 hN) hin hdg fun H1 locs1 hP hD hS => ?_
  rw [← e] at hP hD
  exact h ad H1 locs1 lsR ⟨⟨q_ok_sR r.1.1 (List.getElem?_eq_some_iff.mp hnt).1, r.1.2⟩, ⟨hP, hD, hS⟩, r.2.2⟩
theorem q_i_arraylength (F : q_Fr p R s m args meth c dC dI kA A L b0 xs n0 ad0 j) {o N : Nat} (ho : q_arl j μ.1 o = some N) (hdg : decode (q_m j).1.2.1 pc = .ok (.arraylength, 1)) (h : (q_V p l e R s m args below meth c Qf dC dI kA A L xs n0 ad0 j) (pc + 1, ls, .int (Int32.ofNat N) :: st, μ, uc, us)) : (q_V p l e R s m args below meth c Qf dC dI kA A L xs n0 ad0 j) (pc, ls, .ref o :: st, μ, uc, us) := fun ad H locs lsR r => by
  rcases q_arl_spec ho with ⟨k, hn, hk⟩ | ⟨hj, rfl, hn⟩
  · rcases hk with rfl | rfl | hk
    · obtain ⟨h0, hwd⟩ := q_world_at (ad := ad) (kA := kA) r.1.1 hn (by dsimp only; decide)
      have hce : q_cell ad kA μ o (100, N) = .inl (kA 100, N, .inl (μ.2.1 o)) := rfl
      rw [hce] at hwd
      exact va_alen F.1.1 F.1.2.1 F.2.2.1.1 r.2.1.1 (o - 1) 0 hwd rfl rfl hdg (h ad H locs lsR r)
    · obtain ⟨h0, hwd⟩ := q_world_at (ad := ad) (kA := kA) r.1.1 hn (by dsimp only; decide)
      have hce : q_cell ad kA μ o (101, N) = .inl (kA 101, N, .inr (.inl (μ.2.2.1 o))) := rfl
      rw [hce] at hwd
      exact va_alen F.1.1 F.1.2.1 F.2.2.1.1 r.2.1.1 (o - 1) 1 hwd rfl rfl hdg (h ad H locs lsR r)
    · obtain ⟨h0, hwd⟩ := q_world_at (ad := ad) (kA := kA) r.1.1 hn (by rcases q_okA_cases hk with e | e | e <;> (dsimp only; omega))
      rw [q_cellA hk] at hwd
      obtain ⟨t0, ht0⟩ := q_tyA (kA := kA) hk
      exact va_alen F.1.1 F.1.2.1 F.2.2.1.1 r.2.1.1 (o - 1) t0 hwd ht0 rfl hdg (h ad H locs lsR r)
  · obtain ⟨hX, hbl, hbA, had, hn0⟩ := F.2.2.2.2.1 hj
    have e1 : ad 0 = b0 := (r.1.2.2.1 0 hn0).trans had
    have e2 : N = L := by
      have h2 := r.1.1.1
      rw [hn] at h2
      cases h2
      rfl
    subst e2
    show W p l e R s m args below meth c H locs uc us Qf (F0 m pc lsR (.ref (ad 0) :: st.map (q_rn ad)))
    rw [e1]
    exact va_slen F.1.1 F.1.2.1 hX hbl hbA r.2.1.2.2 hdg (h ad H locs lsR r)
/-- behind a making: the new object has the next number -/
theorem q_born {H1 : Heap} {locs : List Loc} {lsR : Array Slot} {ad : Nat → Nat} {H : Heap} {kk nn q pc' uc' us' : Nat} (r : q_Re s dC dI kA A L xs n0 ad0 j ad H locs lsR ls μ) (hcl : q_clo μ.1.length ls st = true) (hmc : q_mc j ≠ 0) (hP : va_P (dC, dI) vwCl (q_world ad kA μ ++ [(q, q_cell ad kA (q_new μ kk nn) μ.1.length (kk, nn))]) H1) (hD : va_D A (q_world ad kA μ ++ [(q, q_cell ad kA (q_new μ kk nn) μ.1.length (kk, nn))])) (hS : va_S A s.heap H1 locs) (h : (q_V p l e R s m args below meth c Qf dC dI kA A L xs n0 ad0 j) (pc', ls, .ref μ.1.length :: st, q_new μ kk nn, uc', us')) : W p l e R s m args below meth c H1 locs uc' us' Qf (F0 m pc' lsR (.ref q :: st.map (q_rn ad))) := by
  have hag : ∀ k, k < μ.1.length → (fun i => if i = μ.1.length then q else ad i) k = ad k := fun k hk => by
    show (if k = μ.1.length then q else ad k) = ad k
    rw [if_neg (by omega)]
  obtain ⟨e1, e2⟩ := q_clo_rn hag hcl
  rw [← q_wnew r.1.1 kk nn q] at hP hD
  have h1 := h (fun i => if i = μ.1.length then q else ad i) H1 locs lsR ⟨⟨q_ok_new r.1.1 kk nn, by show n0 ≤ (μ.1 ++ [(kk, nn)]).length; rw [List.length_append]; exact Nat.le_trans r.1.2.1 (Nat.le_add_right _ _), fun k hk => (hag k (Nat.lt_of_lt_of_le hk r.1.2.1)).trans (r.1.2.2.1 k hk), fun h => absurd h hmc⟩, ⟨hP, hD, hS⟩, e2 _ _ _ r.2.2⟩
  have e3 : (Value.ref μ.1.length :: st).map (q_rn (fun i => if i = μ.1.length then q else ad i)) = .ref q :: st.map (q_rn ad) := by
    rw [List.map_cons, e1]
    congr 1
    show Value.ref (if μ.1.length = μ.1.length then q else ad μ.1.length) = .ref q
    rw [if_pos rfl]
  dsimp only at h1
  rw [e3] at h1
  exact h1
theorem q_i_new (F : q_Fr p R s m args meth c dC dI kA A L b0 xs n0 ad0 j) (ha : a < 11) (hw : Cond.classLink (q_own j) idx (q_cn a) ∈ lw_tbl) (hcl : q_clo μ.1.length ls st = true) (hc : uc + 1 ≤ q_mc j) (hs : us + q_N a ≤ q_ms j) (hdg : decode (q_m j).1.2.1 pc = .ok (.new idx, 3)) (h : (q_V p l e R s m args below meth c Qf dC dI kA A L xs n0 ad0 j) (pc + 3, ls, .ref μ.1.length :: st, q_new μ a (q_N a), uc + 1, us + q_N a)) : (q_V p l e R s m args below meth c Qf dC dI kA A L xs n0 ad0 j) (pc, ls, st, μ, uc, us) := fun ad H locs lsR r => by
  have hck := List.all_eq_true.mp q_ckN_ok a (List.mem_range.mpr ha)
  simp only [Bool.and_eq_true, decide_eq_true_eq] at hck
  have hce : q_cell ad kA (q_new μ a (q_N a)) μ.1.length (a, q_N a) = .inr (a, (List.range (q_N a)).map fun k => q_fv ad (q_new μ a (q_N a)) μ.1.length a k) := by
    unfold q_cell
    rw [if_pos (show a ≤ 10 by omega)]
  refine va_new (fs := (List.range (q_N a)).map fun k => q_fv ad (q_new μ a (q_N a)) μ.1.length a k) F.1.1 F.1.2.1 F.2.1 (q_uwg a ha) (q_tyf a) (q_tys a ha) F.1.2.2.2 (q_hts F hw rfl) (q_hts F hck.1 rfl) (q_hts F hck.2 rfl) F.2.2.1.1 r.2.1.1 r.2.1.2.1 r.2.1.2.2 F.2.2.2.1 (q_clc a ha) (fun k hk => ?_) (Nat.le_trans hc F.2.2.2.2.2.1.2.2.1) (Nat.le_trans hs F.2.2.2.2.2.1.2.2.2) hdg (fun q H1 hP hD hS => ?_)
  · unfold vp_V
    rw [List.getD_eq_getElem?_getD, List.getElem?_map, List.getElem?_range hk, Option.map_some, Option.getD_some]
    have hI : (q_new μ a (q_N a)).2.1 μ.1.length k = 0 := by simp [q_new]
    have hR : (q_new μ a (q_N a)).2.2.2 μ.1.length k = none := by simp [q_new]
    have hf := q_fks a ha k hk
    unfold q_fv
    rw [hI, hR]
    cases ht : q_tyf a k <;> rw [ht] at hf <;> first | exact hf.elim | rfl
  · rw [← hce] at hP hD
    exact q_born r hcl (by omega) hP hD hS h
theorem q_va_cA {ty : FieldType} {cA c0 : ClassId} (hK : va_K (dC, dI) vwCl (q_TY kA ++ [(cA, ty)]) s) {t : Nat} (ht : (q_TY kA)[t]? = some (c0, ty)) : cA = c0 := by
  have h1 := (hK.2 5 (cA, ty) rfl).2
  have ht5 : t < 5 := (List.getElem?_eq_some_iff.mp ht).1
  have h2 := (hK.2 t (c0, ty) (by rw [List.getElem?_append_left (show t < (q_TY kA).length from ht5)]; exact ht)).2
  unfold va_RA at h1 h2
  cases ty with
  | object C =>
    obtain ⟨_, _, _, _, _, g1⟩ := h1
    obtain ⟨_, _, _, _, _, g2⟩ := h2
    exact Option.some.inj (g1.symm.trans g2)
  | _ => exact Option.some.inj (Eq.trans (Eq.symm h1) h2)
theorem q_i_newI (F : q_Fr p R s m args meth c dC dI kA A L b0 xs n0 ad0 j) (hw : Cond.arrayClass .int ∈ lw_tbl) (hx : ¬ x < 0) (hx2 : x.toNatClampNeg ≤ 60000) (hcl : q_clo μ.1.length ls st = true) (hc : uc + 1 ≤ q_mc j) (hs : us + x.toNatClampNeg ≤ q_ms j) (hdg : decode (q_m j).1.2.1 pc = .ok (.newarray .int, 2)) (h : (q_V p l e R s m args below meth c Qf dC dI kA A L xs n0 ad0 j) (pc + 2, ls, .ref μ.1.length :: st, q_new μ 100 x.toNatClampNeg, uc + 1, us + x.toNatClampNeg)) : (q_V p l e R s m args below meth c Qf dC dI kA A L xs n0 ad0 j) (pc, ls, .int x :: st, μ, uc, us) := fun ad H locs lsR r => by
  refine va_newa (atype := .int) (ty := .int) (a0 := (x.toNatClampNeg, .inl fun _ => 0)) (N' := x.toNatClampNeg) F.1.1 F.1.2.1 (q_hts F hw rfl) rfl F.2.2.1.1 r.2.1.1 r.2.1.2.1 r.2.1.2.2 F.2.2.2.1 (fun _ => rfl) hx rfl (by show x.toNatClampNeg * 4 ≤ _; omega) (Nat.le_trans hc F.2.2.2.2.2.1.2.2.1) (Nat.le_trans hs F.2.2.2.2.2.1.2.2.2) hdg (fun q cA H1 hK hP hD hS => ?_)
  have ec := q_va_cA hK (t := 0) rfl
  subst ec
  have hce : q_cell ad kA (q_new μ 100 x.toNatClampNeg) μ.1.length (100, x.toNatClampNeg) = .inl (kA 100, x.toNatClampNeg, .inl fun _ => 0) := by
    have e : (q_new μ 100 x.toNatClampNeg).2.1 μ.1.length = fun _ => 0 := by
      funext b
      simp [q_new]
    show Sum.inl (kA 100, x.toNatClampNeg, Sum.inl ((q_new μ 100 x.toNatClampNeg).2.1 μ.1.length)) = _
    rw [e]
  rw [← hce] at hP hD
  exact q_born r hcl (by omega) hP hD hS h
theorem q_i_newJ (F : q_Fr p R s m args meth c dC dI kA A L b0 xs n0 ad0 j) (hw : Cond.arrayClass .long ∈ lw_tbl) (hx : ¬ x < 0) (hx2 : x.toNatClampNeg ≤ 60000) (hcl : q_clo μ.1.length ls st = true) (hc : uc + 1 ≤ q_mc j) (hs : us + x.toNatClampNeg ≤ q_ms j) (hdg : decode (q_m j).1.2.1 pc = .ok (.newarray .long, 2)) (h : (q_V p l e R s m args below meth c Qf dC dI kA A L xs n0 ad0 j) (pc + 2, ls, .ref μ.1.length :: st, q_new μ 101 x.toNatClampNeg, uc + 1, us + x.toNatClampNeg)) : (q_V p l e R s m args below meth c Qf dC dI kA A L xs n0 ad0 j) (pc, ls, .int x :: st, μ, uc, us) := fun ad H locs lsR r => by
  refine va_newa (atype := .long) (ty := .long) (a0 := (x.toNatClampNeg, .inr (.inl fun _ => 0))) (N' := x.toNatClampNeg) F.1.1 F.1.2.1 (q_hts F hw rfl) rfl F.2.2.1.1 r.2.1.1 r.2.1.2.1 r.2.1.2.2 F.2.2.2.1 (fun _ => rfl) hx rfl (by show x.toNatClampNeg * 8 ≤ _; omega) (Nat.le_trans hc F.2.2.2.2.2.1.2.2.1) (Nat.le_trans hs F.2.2.2.2.2.1.2.2.2) hdg (fun q cA H1 hK hP hD hS => ?_)
  have ec := q_va_cA hK (t := 1) rfl
  subst ec
  have hce : q_cell ad kA (q_new μ 101 x.toNatClampNeg) μ.1.length (101, x.toNatClampNeg) = .inl (kA 101, x.toNatClampNeg, .inr (.inl fun _ => 0)) := by
    have e : (q_new μ 101 x.toNatClampNeg).2.2.1 μ.1.length = fun _ => 0 := by
      funext b
      simp [q_new]
    show Sum.inl (kA 101, x.toNatClampNeg, Sum.inr (Sum.inl ((q_new μ 101 x.toNatClampNeg).2.2.1 μ.1.length))) = _
    rw [e]
  rw [← hce] at hP hD
  exact q_born r hcl (by omega) hP hD hS h
theorem q_i_newA (F : q_Fr p R s m args meth c dC dI kA A L b0 xs n0 ad0 j) (ha : q_okA (102 + a) = true) (hao : va_AO (q_cn a) s) (hw : Cond.classLink (q_own j) idx (q_cn a) ∈ lw_tbl) (hx : ¬ x < 0) (hx2 : x.toNatClampNeg ≤ 60000) (hcl : q_clo μ.1.length ls st = true) (hc : uc + 1 ≤ q_mc j) (hs : us + x.toNatClampNeg ≤ q_ms j) (hdg : decode (q_m j).1.2.1 pc = .ok (.anewarray idx, 3)) (h : (q_V p l e R s m args below meth c Qf dC dI kA A L xs n0 ad0 j) (pc + 3, ls, .ref μ.1.length :: st, q_new μ (102 + a) x.toNatClampNeg, uc + 1, us + x.toNatClampNeg)) : (q_V p l e R s m args below meth c Qf dC dI kA A L xs n0 ad0 j) (pc, ls, .int x :: st, μ, uc, us) := fun ad H locs lsR r => by
  refine va_newq (N' := x.toNatClampNeg) F.1.1 F.1.2.1 F.1.2.2.2 (q_hts F hw rfl) hao F.2.2.1.1 r.2.1.1 r.2.1.2.1 r.2.1.2.2 F.2.2.2.1 hx rfl (by omega) (Nat.le_trans hc F.2.2.2.2.2.1.2.2.1) (Nat.le_trans hs F.2.2.2.2.2.1.2.2.2) hdg (fun q cA H1 hK hP hD hS => ?_)
  obtain ⟨t0, ht0⟩ := q_tyA (kA := kA) ha
  have e3 : 102 + a - 102 = a := by omega
  rw [e3] at ht0
  have ec := q_va_cA hK ht0
  subst ec
  have hce : q_cell ad kA (q_new μ (102 + a) x.toNatClampNeg) μ.1.length (102 + a, x.toNatClampNeg) = .inl (kA (102 + a), x.toNatClampNeg, .inr (.inr (.inr (.inr fun _ => none)))) := by
    rw [q_cellA ha]
    have e : ∀ i, (q_new μ (102 + a) x.toNatClampNeg).2.2.2 μ.1.length i = none := fun i => by simp [q_new]
    simp only [e, Option.map_none]
  rw [← hce] at hP hD
  exact q_born r hcl (by omega) hP hD hS h
end HEAP
