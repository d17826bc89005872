/-! from the law's entry to its loop -/
def q_I00 (xs : Nat → Int32) : Nat → Nat → Int32 := fun o k => if o = 0 then xs k else q_I0 o k
theorem q_arrV_congr {cI : ClassId} {N : Nat} {f g : Nat → Value} (h : ∀ j, j < N → f j = g j) : arrV cI N f = arrV cI N g := by
  unfold arrV
  congr 1
  exact congrArg Array.ofFn (funext fun j => h j.1 j.2)
set_option maxRecDepth 20000 in
theorem q_SH_len {L : Nat} : (q_SH L).length = 148 := rfl
theorem q_SH_at {L o : Nat} (h0 : o ≠ 0) : (q_SH L).getD o (0, 0) = (q_SH 0).getD o (0, 0) := by
  cases o with
  | zero => exact absurd rfl h0
  | succ o => rfl
/-- two memories that agree where objects have places lie alike in a heap -/
theorem q_world_same {ad : Nat → Nat} {kA : Nat → ClassId} {D : va_G} {μ μ' : q_Mem} {H : Heap} (hsh : μ'.1 = μ.1) (h : ∀ o, o ≠ 0 → o < μ.1.length → ∀ k, k < (μ.1.getD o (0, 0)).2 → μ'.2.1 o k = μ.2.1 o k ∧ μ'.2.2.2 o k = μ.2.2.2 o k ∧ ((μ.1.getD o (0, 0)).1 = 101 → μ'.2.2.1 o k = μ.2.2.1 o k)) (hN : ∀ o, o ≠ 0 → o < μ.1.length → (μ.1.getD o (0, 0)).1 ≤ 10 → q_N (μ.1.getD o (0, 0)).1 ≤ (μ.1.getD o (0, 0)).2) (hP : va_P D vwCl (q_world ad kA μ) H) : va_P D vwCl (q_world ad kA μ') H := by
  intro k q hq
  unfold q_world at hq
  rw [hsh, List.getElem?_map] at hq
  by_cases hl : k < μ.1.length - 1
  · rw [List.getElem?_range hl, Option.map_some] at hq
    have h1 := hP k (ad (k + 1), q_cell ad kA μ (k + 1) (μ.1.getD (k + 1) (0, 0))) (by
      unfold q_world
      rw [List.getElem?_map, List.getElem?_range hl]
      rfl)
    cases hq
    have hk := h (k + 1) (by omega) (by omega)
    have hN1 := hN (k + 1) (by omega) (by omega)
    revert h1 hk hN1
    generalize μ.1.getD (k + 1) (0, 0) = sh
    intro h1 hk hN1
    unfold q_cell at h1 ⊢
    by_cases c1 : sh.1 ≤ 10
    · rw [if_pos c1] at h1 ⊢
      have e : (List.range (q_N sh.1)).map (fun k_1 => q_fv ad μ' (k + 1) sh.1 k_1) = (List.range (q_N sh.1)).map (fun k_1 => q_fv ad μ (k + 1) sh.1 k_1) := by
        apply List.map_congr_left
        intro i hi
        have hi := List.mem_range.mp hi
        obtain ⟨g1, g2, -⟩ := hk i (Nat.lt_of_lt_of_le hi (hN1 c1))
        unfold q_fv
        rw [g1, g2]
      rw [e]
      exact h1
    · rw [if_neg c1] at h1 ⊢
      by_cases c2 : sh.1 = 100
      · rw [if_pos c2] at h1 ⊢
        refine (show H[ad (k + 1)]? = some (vp_cell _ _) from h1).trans ?_
        congr 1
        exact q_arrV_congr (f := fun j => .int (μ.2.1 (k + 1) j)) (g := fun j => .int (μ'.2.1 (k + 1) j)) fun i hi => by rw [(hk i hi).1]
      · rw [if_neg c2] at h1 ⊢
        by_cases c3 : sh.1 = 101
        · rw [if_pos c3] at h1 ⊢
          refine (show H[ad (k + 1)]? = some (vp_cell _ _) from h1).trans ?_
          congr 1
          exact q_arrV_congr (f := fun j => .long (μ.2.2.1 (k + 1) j)) (g := fun j => .long (μ'.2.2.1 (k + 1) j)) fun i hi => by rw [(hk i hi).2.2 c3]
        · rw [if_neg c3] at h1 ⊢
          refine (show H[ad (k + 1)]? = some (vp_cell _ _) from h1).trans ?_
          congr 1
          exact q_arrV_congr (f := fun j => va_rf ((μ.2.2.2 (k + 1) j).map ad)) (g := fun j => va_rf ((μ'.2.2.2 (k + 1) j).map ad)) fun i hi => by rw [(hk i hi).2.1]
  · rw [List.getElem?_eq_none (by simpa using hl)] at hq
    cases hq
theorem q_world_addr {ad : Nat → Nat} {kA : Nat → ClassId} {A : Nat → Prop} {μ μ' : q_Mem} (hsh : μ'.1 = μ.1) (hD : va_D A (q_world ad kA μ)) : va_D A (q_world ad kA μ') := by
  have key : ∀ (k : Nat) (q : Nat × va_E), (q_world ad kA μ')[k]? = some q → ∃ q0, (q_world ad kA μ)[k]? = some q0 ∧ q0.1 = q.1 := by
    intro k q hq
    unfold q_world at hq ⊢
    rw [hsh, List.getElem?_map] at hq
    by_cases hl : k < μ.1.length - 1
    · rw [List.getElem?_range hl, Option.map_some] at hq
      cases hq
      exact ⟨(ad (k + 1), q_cell ad kA μ (k + 1) (μ.1.getD (k + 1) (0, 0))), by rw [List.getElem?_map, List.getElem?_range hl]; rfl, rfl⟩
    · rw [List.getElem?_eq_none (by simpa using hl)] at hq
      cases hq
  refine ⟨fun i j p q hi hj he => ?_, fun k q hq => ?_⟩
  · obtain ⟨p0, h1, h2⟩ := key i p hi
    obtain ⟨q0, h3, h4⟩ := key j q hj
    exact hD.1 i j p0 q0 h1 h3 (h2.trans (he.trans h4.symm))
  · obtain ⟨q0, h1, h2⟩ := key k q hq
    rw [← h2]
    exact hD.2 k q0 h1
theorem q_RR_lt : ((List.range 148).all fun o => (List.range 40).all fun k => match q_RR 96 o k with
  | some t => decide (t < 148)
  | none => true) = true := by decide +kernel
theorem q_RRt_len : q_RRt.length = 148 ∧ (q_RRt.all fun l => decide (l.length ≤ 40)) = true := by decide +kernel
theorem q_RR_ok {o k t : Nat} (h : q_RR 96 o k = some t) : t < 148 := by
  have ho : o < 148 := by
    rcases Nat.lt_or_ge o 148 with h1 | h1
    · exact h1
    · exfalso
      unfold q_RR at h
      split at h
      · rename_i hb
        rw [Bool.and_eq_true] at hb
        have := eq_of_beq hb.1
        omega
      · rw [List.getD_eq_getElem?_getD (l := q_RRt), List.getElem?_eq_none (by rw [q_RRt_len.1]; exact h1)] at h
        simp at h
  have hk : k < 40 := by
    rcases Nat.lt_or_ge k 40 with h1 | h1
    · exact h1
    · exfalso
      unfold q_RR at h
      split at h
      · rename_i hb
        rw [Bool.and_eq_true] at hb
        have := eq_of_beq hb.2
        omega
      · have h2 : (q_RRt.getD o []).length ≤ 40 := by
          rw [List.getD_eq_getElem?_getD]
          cases hz : q_RRt[o]? with
          | none => simp
          | some l => exact of_decide_eq_true (List.all_eq_true.mp q_RRt_len.2 l (List.mem_of_getElem? hz))
        rw [List.getD_eq_getElem?_getD, List.getElem?_eq_none (by omega)] at h
        cases h
  have h3 := List.all_eq_true.mp (List.all_eq_true.mp q_RR_lt o (List.mem_range.mpr ho)) k (List.mem_range.mpr hk)
  rw [h] at h3
  exact of_decide_eq_true h3
theorem q_N_ok : ((List.range 148).all fun o => o == 0 || !(Nat.ble ((q_SH 0).getD o (0, 0)).1 10) || Nat.ble (q_N ((q_SH 0).getD o (0, 0)).1) ((q_SH 0).getD o (0, 0)).2) = true := by decide +kernel

section SPLICE
variable {p : Program} {l : Launch} {e : Env} {R : Room} {s : State} {m : MethodId} {args : Array Value} {below : List Frame} {meth : Method} {c : Code} {Qf : State → Prop} {dC : Nat → ClassId} {dI : Nat → Nat → Nat} {kA : Nat → ClassId} {A : Nat → Prop} {L b0 : Nat} {xs : Nat → Int32} {n0 : Nat} {ad0 : Nat → Nat} {j d : Nat}
theorem q_snd_cl (hj : j < 227) (F : q_Fr p R s m args meth c dC dI kA A L b0 xs n0 ad0 j) (hR : d + 1 ≤ R.frames ∧ 64 * (d + 1) ≤ R.locals) {cl : Nat → List Value → q_Mem → (Value → q_Mem → Prop) → Prop} (hcl : ∀ y as μ Q, cl y as μ Q → q_MetS l dC dI kA L xs d y as μ Q) {rt : Value → q_Mem → Nat → Nat → Prop} (hrt : q_RH p l e R s m args below meth c Qf dC dI kA A L xs n0 ad0 j rt) (t : q_St) (ht : q_stepP cl rt j (q_V p l e R s m args below meth c Qf dC dI kA A L xs n0 ad0 j) t) : q_V p l e R s m args below meth c Qf dC dI kA A L xs n0 ad0 j t := by
  obtain ⟨pc, ls, st, μ, uc, us⟩ := t
  obtain ⟨⟨i, n, a, b, pl⟩, he, hx⟩ := q_onS_spec ht
  exact q_snd_ex F hR hcl hrt i (q_ckI_all j hj pc _ he) hx
/-- the made memory may be told by its table -/
theorem q_V_table {pc uc us : Nat} {ls : List (Option Value)} {st : List Value} {μ : q_Mem} (hs : q_sim μ q_nu2) (h : q_V p l e R s m args below meth c Qf dC dI kA A L xs n0 ad0 j (pc, ls, st, q_mm L (q_I00 xs) (fun _ _ => 0) 96, uc, us)) : q_V p l e R s m args below meth c Qf dC dI kA A L xs n0 ad0 j (pc, ls, st, μ, uc, us) := by
  intro ad H locs lsR r
  have hL0 := r.1.1.1
  dsimp only at hL0
  have hsh : μ.1 = q_SH L := by
    obtain ⟨⟨L1, L2, tl, h1, h2⟩, -⟩ := hs
    rw [h1] at hL0
    cases hL0
    have h3 := q_nu2_sh
    rw [h2] at h3
    have h4 : tl = (q_SH 0).tail := by
      have h5 := congrArg List.tail h3
      exact h5
    rw [h1, h4]
    rfl
  have hsh2 : (q_mm L (q_I00 xs) (fun _ _ => 0) 96).1 = μ.1 := hsh.symm
  have hin : ∀ o, o ≠ 0 → o < μ.1.length → ∀ k, k < (μ.1.getD o (0, 0)).2 → (q_mm L (q_I00 xs) (fun _ _ => 0) 96).2.1 o k = μ.2.1 o k ∧ (q_mm L (q_I00 xs) (fun _ _ => 0) 96).2.2.2 o k = μ.2.2.2 o k ∧ ((μ.1.getD o (0, 0)).1 = 101 → (q_mm L (q_I00 xs) (fun _ _ => 0) 96).2.2.1 o k = μ.2.2.1 o k) := by
    intro o h0 hl k hk
    rw [hsh, q_SH_len] at hl
    rw [hsh, q_SH_at h0] at hk
    obtain ⟨f1, f2, f3⟩ := hs.2 o h0
    have g1 := List.all_eq_true.mp q_nu2_I o (List.mem_range.mpr hl)
    have g2 := List.all_eq_true.mp q_nu2_R o (List.mem_range.mpr hl)
    have g3 := List.all_eq_true.mp q_nu2_J o (List.mem_range.mpr hl)
    rw [Bool.or_eq_true] at g1 g2 g3
    have n0 : ¬ (o == 0) = true := fun z => h0 (eq_of_beq z)
    have g1 := of_decide_eq_true (List.all_eq_true.mp (g1.resolve_left n0) k (List.mem_range.mpr hk))
    have g2 := of_decide_eq_true (List.all_eq_true.mp (g2.resolve_left n0) k (List.mem_range.mpr hk))
    refine ⟨?_, ?_, fun h101 => ?_⟩
    · rw [f1, g1]
      show (if o = 0 then xs k else q_I0 o k) = q_I0 o k
      rw [if_neg h0]
    · rw [f3, g2]
      rfl
    · rw [hsh, q_SH_at h0] at h101
      have n1 : ¬ (!((q_SH 0).getD o (0, 0)).1 == 101) = true := by
        rw [h101]
        decide
      have g3 := of_decide_eq_true (List.all_eq_true.mp (g3.resolve_left n1) k (List.mem_range.mpr hk))
      rw [f2, g3]
      rfl
  have hN : ∀ o, o ≠ 0 → o < μ.1.length → (μ.1.getD o (0, 0)).1 ≤ 10 → q_N (μ.1.getD o (0, 0)).1 ≤ (μ.1.getD o (0, 0)).2 := by
    intro o h0 hl hk
    rw [hsh, q_SH_len] at hl
    rw [hsh, q_SH_at h0] at hk ⊢
    have g1 := List.all_eq_true.mp q_N_ok o (List.mem_range.mpr hl)
    simp only [Bool.or_eq_true, Bool.not_eq_true', beq_iff_eq] at g1
    rcases g1 with (g1 | g1) | g1
    · exact absurd g1 h0
    · rw [Nat.ble_eq_true_of_le hk] at g1
      cases g1
    · exact Nat.le_of_ble_eq_true g1
  have hok : q_ok L xs (q_mm L (q_I00 xs) (fun _ _ => 0) 96) := ⟨rfl, fun i => rfl, fun o k t ht => by
    show t < (q_SH L).length
    rw [q_SH_len]
    exact q_RR_ok ht⟩
  exact h ad H locs lsR ⟨⟨hok, by rw [hsh2]; exact r.1.2.1, r.1.2.2⟩, ⟨q_world_same hsh2 hin hN r.2.1.1, q_world_addr hsh2 r.2.1.2.1, r.2.1.2.2⟩, r.2.2⟩
end SPLICE
