/-! Host: what its methods say -/
theorem s_hasPlug {L d : Nat} {Q : Value → q_Mem → Prop} {I : Nat → Nat → Int32} {J : Nat → Nat → Int64} {t : Nat} {n : Nat} {x : Int32} (hn : I 3 2 = nI n) (h12 : n ≤ 12) : q_W (d + 1) 20 [.ref 3, .int x] (q_mm L I J t) Q = Q (.int (q_bb (q_in x n))) (q_mm L I J t) := by
  rw [e_Host_hasPlug, hn, Int32.lt_iff_toInt_lt, Int32.le_iff_toInt_le, nI_toInt (by omega), Int32.toInt_zero]
  unfold q_in
  by_cases h0 : x.toInt < 0
  · rw [decide_eq_false (by omega)]
    simp [h0, q_bb]
  · by_cases h1 : (n : Int) ≤ x.toInt
    · rw [decide_eq_false (by omega)]
      simp [h0, h1, q_bb]
    · rw [decide_eq_true (by omega)]
      simp [h0, h1, q_bb]
theorem s_runs {L d : Nat} {Q : Value → q_Mem → Prop} {I : Nat → Nat → Int32} {J : Nat → Nat → Int64} {t : Nat} {n : Nat} {x : Int32} (hn : I 3 2 = nI n) (h12 : n ≤ 12) : q_W (d + 2) 21 [.ref 3, .int x] (q_mm L I J t) Q = Q (.int (q_bb (q_in x n && decide (I (6 + x.toNatClampNeg) 9 = 1)))) (q_mm L I J t) := by
  rw [e_Host_runs, s_hasPlug hn h12]
  simp only [q_onI_i, g_Host_runs_5]
  cases hb : q_in x n with
  | false => simp only [q_onI_i, q_onJ_j, q_onS_s, q_onB_t, true_and, and_true, true_or, or_true, eq_self, true_implies, not_true_eq_false, not_false_eq_true, false_implies, q_bb0, q_bbok, Bool.true_eq_false, Bool.false_eq_true, reduceCtorEq]; rfl
  | true =>
    obtain ⟨k, hk, rfl⟩ := q_in_get hb
    simp only [q_onI_i, q_onJ_j, q_onS_s, q_onB_t, true_and, and_true, true_or, or_true, eq_self, true_implies, not_true_eq_false, not_false_eq_true, false_implies, q_bb0, q_bbok, Bool.true_eq_false, Bool.false_eq_true, reduceCtorEq, q_bnd (show k < 12 by omega) (by decide), q_clamp (show k < 2 ^ 31 by omega), r_plug (show k < 12 by omega), i_plug (show k < 12 by omega)]
    by_cases h9 : I (6 + k) 9 = 1 <;> simp [h9, q_bb]
