/-! Plug: services -/
theorem s_needs {L d : Nat} {Q : Value → q_Mem → Prop} {I : Nat → Nat → Int32} {J : Nat → Nat → Int64} {t : Nat} {o k : Nat} (ho : q_isO (q_SH L) o 5 = true) (hk : k < 31) : q_W (d + 1) 40 [.ref o, .int (nI k)] (q_mm L I J t) Q = Q (.int (q_bb (q_bt (I o 2) k))) (q_mm L I J t) := by
  rw [e_Plug_needsService, ho]
  simp only [q_onI_i, q_onJ_j, q_onS_s, q_onB_t, true_and, and_true, true_or, or_true, eq_self, true_implies, not_true_eq_false, not_false_eq_true, false_implies, q_bb0, q_bbok, q_bbok2, Bool.true_eq_false, Bool.false_eq_true, reduceCtorEq, q_shr0 hk]
  cases q_bt (I o 2) k <;> simp [q_bb]
theorem s_offers {L d : Nat} {Q : Value → q_Mem → Prop} {I : Nat → Nat → Int32} {J : Nat → Nat → Int64} {t : Nat} {o k : Nat} (ho : q_isO (q_SH L) o 5 = true) (hk : k < 31) : q_W (d + 1) 41 [.ref o, .int (nI k)] (q_mm L I J t) Q = Q (.int (q_bb (q_bt (I o 3) k))) (q_mm L I J t) := by
  rw [e_Plug_offersService, ho]
  simp only [q_onI_i, q_onJ_j, q_onS_s, q_onB_t, true_and, and_true, true_or, or_true, eq_self, true_implies, not_true_eq_false, not_false_eq_true, false_implies, q_bb0, q_bbok, q_bbok2, Bool.true_eq_false, Bool.false_eq_true, reduceCtorEq, q_shr0 hk]
  cases q_bt (I o 3) k <;> simp [q_bb]
