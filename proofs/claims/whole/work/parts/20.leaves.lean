/-! leaves of the class and of the model -/
theorem s_refuse1 {L d : Nat} {Q : Value → q_Mem → Prop} {I : Nat → Nat → Int32} {J : Nat → Nat → Int64} {t : Nat} : q_W (d + 1) 117 [.ref 1, .int (-1 : Int32)] (q_mm L I J t) Q = Q (.int (-1 : Int32)) (q_mm L (q_u I 113 1 (I 113 1 + 1)) J t) := by
  rw [e_C_refuse]
  rw [q_brn (show ¬ (-(-1 : Int32) < 1) by decide), q_brn (show ¬ ((7 : Int32) < -(-1 : Int32)) by decide)]
  rw [eq_true (show ¬ (-(-1 : Int32) < 0 ∨ 8 ≤ (-(-1 : Int32)).toNatClampNeg) by decide), show (-(-1 : Int32)).toNatClampNeg = 1 by decide]
  simp only [true_and]
theorem s_no1 {L d : Nat} {Q : Value → q_Mem → Prop} {I : Nat → Nat → Int32} {J : Nat → Nat → Int64} {t : Nat} : q_W (d + 1) 133 [.ref 130, .int (-1 : Int32)] (q_mm L I J t) Q = Q (.int (-1 : Int32)) (q_mm L (q_u I 145 1 (I 145 1 + 1)) J t) := by
  rw [e_M_no]
  rw [eq_true (show ¬ (-(-1 : Int32) < 0 ∨ 8 ≤ (-(-1 : Int32)).toNatClampNeg) by decide), show (-(-1 : Int32)).toNatClampNeg = 1 by decide]
  simp only [true_and]
theorem s_refuseT1 {L d : Nat} {Q : Value → q_Mem → Prop} {I : Nat → Nat → Int32} {J : Nat → Nat → Int64} {t : Nat} : q_W (d + 2) 118 [.ref 1, .int (-1 : Int32)] (q_mm L I J t) Q = Q (.int ((-1 : Int32) - 10)) (q_mm L (q_u I 113 1 (I 113 1 + 1)) J t) := by
  rw [e_C_refuseByTen, s_refuse1, q_onI_i, g_C_refuseByTen_5]
theorem s_noT1 {L d : Nat} {Q : Value → q_Mem → Prop} {I : Nat → Nat → Int32} {J : Nat → Nat → Int64} {t : Nat} : q_W (d + 2) 134 [.ref 130, .int (-1 : Int32)] (q_mm L I J t) Q = Q (.int ((-1 : Int32) - 10)) (q_mm L (q_u I 145 1 (I 145 1 + 1)) J t) := by
  rw [e_M_no10, s_no1, q_onI_i, g_M_no10_5]
theorem s_refuse2 {L d : Nat} {Q : Value → q_Mem → Prop} {I : Nat → Nat → Int32} {J : Nat → Nat → Int64} {t : Nat} : q_W (d + 1) 117 [.ref 1, .int (-2 : Int32)] (q_mm L I J t) Q = Q (.int (-2 : Int32)) (q_mm L (q_u I 113 2 (I 113 2 + 1)) J t) := by
  rw [e_C_refuse]
  rw [q_brn (show ¬ (-(-2 : Int32) < 1) by decide), q_brn (show ¬ ((7 : Int32) < -(-2 : Int32)) by decide)]
  rw [eq_true (show ¬ (-(-2 : Int32) < 0 ∨ 8 ≤ (-(-2 : Int32)).toNatClampNeg) by decide), show (-(-2 : Int32)).toNatClampNeg = 2 by decide]
  simp only [true_and]
theorem s_no2 {L d : Nat} {Q : Value → q_Mem → Prop} {I : Nat → Nat → Int32} {J : Nat → Nat → Int64} {t : Nat} : q_W (d + 1) 133 [.ref 130, .int (-2 : Int32)] (q_mm L I J t) Q = Q (.int (-2 : Int32)) (q_mm L (q_u I 145 2 (I 145 2 + 1)) J t) := by
  rw [e_M_no]
  rw [eq_true (show ¬ (-(-2 : Int32) < 0 ∨ 8 ≤ (-(-2 : Int32)).toNatClampNeg) by decide), show (-(-2 : Int32)).toNatClampNeg = 2 by decide]
  simp only [true_and]
theorem s_refuseT2 {L d : Nat} {Q : Value → q_Mem → Prop} {I : Nat → Nat → Int32} {J : Nat → Nat → Int64} {t : Nat} : q_W (d + 2) 118 [.ref 1, .int (-2 : Int32)] (q_mm L I J t) Q = Q (.int ((-2 : Int32) - 10)) (q_mm L (q_u I 113 2 (I 113 2 + 1)) J t) := by
  rw [e_C_refuseByTen, s_refuse2, q_onI_i, g_C_refuseByTen_5]
theorem s_noT2 {L d : Nat} {Q : Value → q_Mem → Prop} {I : Nat → Nat → Int32} {J : Nat → Nat → Int64} {t : Nat} : q_W (d + 2) 134 [.ref 130, .int (-2 : Int32)] (q_mm L I J t) Q = Q (.int ((-2 : Int32) - 10)) (q_mm L (q_u I 145 2 (I 145 2 + 1)) J t) := by
  rw [e_M_no10, s_no2, q_onI_i, g_M_no10_5]
theorem s_refuse3 {L d : Nat} {Q : Value → q_Mem → Prop} {I : Nat → Nat → Int32} {J : Nat → Nat → Int64} {t : Nat} : q_W (d + 1) 117 [.ref 1, .int (-3 : Int32)] (q_mm L I J t) Q = Q (.int (-3 : Int32)) (q_mm L (q_u I 113 3 (I 113 3 + 1)) J t) := by
  rw [e_C_refuse]
  rw [q_brn (show ¬ (-(-3 : Int32) < 1) by decide), q_brn (show ¬ ((7 : Int32) < -(-3 : Int32)) by decide)]
  rw [eq_true (show ¬ (-(-3 : Int32) < 0 ∨ 8 ≤ (-(-3 : Int32)).toNatClampNeg) by decide), show (-(-3 : Int32)).toNatClampNeg = 3 by decide]
  simp only [true_and]
theorem s_no3 {L d : Nat} {Q : Value → q_Mem → Prop} {I : Nat → Nat → Int32} {J : Nat → Nat → Int64} {t : Nat} : q_W (d + 1) 133 [.ref 130, .int (-3 : Int32)] (q_mm L I J t) Q = Q (.int (-3 : Int32)) (q_mm L (q_u I 145 3 (I 145 3 + 1)) J t) := by
  rw [e_M_no]
  rw [eq_true (show ¬ (-(-3 : Int32) < 0 ∨ 8 ≤ (-(-3 : Int32)).toNatClampNeg) by decide), show (-(-3 : Int32)).toNatClampNeg = 3 by decide]
  simp only [true_and]
theorem s_refuseT3 {L d : Nat} {Q : Value → q_Mem → Prop} {I : Nat → Nat → Int32} {J : Nat → Nat → Int64} {t : Nat} : q_W (d + 2) 118 [.ref 1, .int (-3 : Int32)] (q_mm L I J t) Q = Q (.int ((-3 : Int32) - 10)) (q_mm L (q_u I 113 3 (I 113 3 + 1)) J t) := by
  rw [e_C_refuseByTen, s_refuse3, q_onI_i, g_C_refuseByTen_5]
theorem s_noT3 {L d : Nat} {Q : Value → q_Mem → Prop} {I : Nat → Nat → Int32} {J : Nat → Nat → Int64} {t : Nat} : q_W (d + 2) 134 [.ref 130, .int (-3 : Int32)] (q_mm L I J t) Q = Q (.int ((-3 : Int32) - 10)) (q_mm L (q_u I 145 3 (I 145 3 + 1)) J t) := by
  rw [e_M_no10, s_no3, q_onI_i, g_M_no10_5]
theorem s_refuse4 {L d : Nat} {Q : Value → q_Mem → Prop} {I : Nat → Nat → Int32} {J : Nat → Nat → Int64} {t : Nat} : q_W (d + 1) 117 [.ref 1, .int (-4 : Int32)] (q_mm L I J t) Q = Q (.int (-4 : Int32)) (q_mm L (q_u I 113 4 (I 113 4 + 1)) J t) := by
  rw [e_C_refuse]
  rw [q_brn (show ¬ (-(-4 : Int32) < 1) by decide), q_brn (show ¬ ((7 : Int32) < -(-4 : Int32)) by decide)]
  rw [eq_true (show ¬ (-(-4 : Int32) < 0 ∨ 8 ≤ (-(-4 : Int32)).toNatClampNeg) by decide), show (-(-4 : Int32)).toNatClampNeg = 4 by decide]
  simp only [true_and]
theorem s_no4 {L d : Nat} {Q : Value → q_Mem → Prop} {I : Nat → Nat → Int32} {J : Nat → Nat → Int64} {t : Nat} : q_W (d + 1) 133 [.ref 130, .int (-4 : Int32)] (q_mm L I J t) Q = Q (.int (-4 : Int32)) (q_mm L (q_u I 145 4 (I 145 4 + 1)) J t) := by
  rw [e_M_no]
  rw [eq_true (show ¬ (-(-4 : Int32) < 0 ∨ 8 ≤ (-(-4 : Int32)).toNatClampNeg) by decide), show (-(-4 : Int32)).toNatClampNeg = 4 by decide]
  simp only [true_and]
theorem s_refuseT4 {L d : Nat} {Q : Value → q_Mem → Prop} {I : Nat → Nat → Int32} {J : Nat → Nat → Int64} {t : Nat} : q_W (d + 2) 118 [.ref 1, .int (-4 : Int32)] (q_mm L I J t) Q = Q (.int ((-4 : Int32) - 10)) (q_mm L (q_u I 113 4 (I 113 4 + 1)) J t) := by
  rw [e_C_refuseByTen, s_refuse4, q_onI_i, g_C_refuseByTen_5]
theorem s_noT4 {L d : Nat} {Q : Value → q_Mem → Prop} {I : Nat → Nat → Int32} {J : Nat → Nat → Int64} {t : Nat} : q_W (d + 2) 134 [.ref 130, .int (-4 : Int32)] (q_mm L I J t) Q = Q (.int ((-4 : Int32) - 10)) (q_mm L (q_u I 145 4 (I 145 4 + 1)) J t) := by
  rw [e_M_no10, s_no4, q_onI_i, g_M_no10_5]
theorem s_refuse5 {L d : Nat} {Q : Value → q_Mem → Prop} {I : Nat → Nat → Int32} {J : Nat → Nat → Int64} {t : Nat} : q_W (d + 1) 117 [.ref 1, .int (-5 : Int32)] (q_mm L I J t) Q = Q (.int (-5 : Int32)) (q_mm L (q_u I 113 5 (I 113 5 + 1)) J t) := by
  rw [e_C_refuse]
  rw [q_brn (show ¬ (-(-5 : Int32) < 1) by decide), q_brn (show ¬ ((7 : Int32) < -(-5 : Int32)) by decide)]
  rw [eq_true (show ¬ (-(-5 : Int32) < 0 ∨ 8 ≤ (-(-5 : Int32)).toNatClampNeg) by decide), show (-(-5 : Int32)).toNatClampNeg = 5 by decide]
  simp only [true_and]
theorem s_no5 {L d : Nat} {Q : Value → q_Mem → Prop} {I : Nat → Nat → Int32} {J : Nat → Nat → Int64} {t : Nat} : q_W (d + 1) 133 [.ref 130, .int (-5 : Int32)] (q_mm L I J t) Q = Q (.int (-5 : Int32)) (q_mm L (q_u I 145 5 (I 145 5 + 1)) J t) := by
  rw [e_M_no]
  rw [eq_true (show ¬ (-(-5 : Int32) < 0 ∨ 8 ≤ (-(-5 : Int32)).toNatClampNeg) by decide), show (-(-5 : Int32)).toNatClampNeg = 5 by decide]
  simp only [true_and]
theorem s_refuseT5 {L d : Nat} {Q : Value → q_Mem → Prop} {I : Nat → Nat → Int32} {J : Nat → Nat → Int64} {t : Nat} : q_W (d + 2) 118 [.ref 1, .int (-5 : Int32)] (q_mm L I J t) Q = Q (.int ((-5 : Int32) - 10)) (q_mm L (q_u I 113 5 (I 113 5 + 1)) J t) := by
  rw [e_C_refuseByTen, s_refuse5, q_onI_i, g_C_refuseByTen_5]
theorem s_noT5 {L d : Nat} {Q : Value → q_Mem → Prop} {I : Nat → Nat → Int32} {J : Nat → Nat → Int64} {t : Nat} : q_W (d + 2) 134 [.ref 130, .int (-5 : Int32)] (q_mm L I J t) Q = Q (.int ((-5 : Int32) - 10)) (q_mm L (q_u I 145 5 (I 145 5 + 1)) J t) := by
  rw [e_M_no10, s_no5, q_onI_i, g_M_no10_5]
theorem s_refuse6 {L d : Nat} {Q : Value → q_Mem → Prop} {I : Nat → Nat → Int32} {J : Nat → Nat → Int64} {t : Nat} : q_W (d + 1) 117 [.ref 1, .int (-6 : Int32)] (q_mm L I J t) Q = Q (.int (-6 : Int32)) (q_mm L (q_u I 113 6 (I 113 6 + 1)) J t) := by
  rw [e_C_refuse]
  rw [q_brn (show ¬ (-(-6 : Int32) < 1) by decide), q_brn (show ¬ ((7 : Int32) < -(-6 : Int32)) by decide)]
  rw [eq_true (show ¬ (-(-6 : Int32) < 0 ∨ 8 ≤ (-(-6 : Int32)).toNatClampNeg) by decide), show (-(-6 : Int32)).toNatClampNeg = 6 by decide]
  simp only [true_and]
theorem s_no6 {L d : Nat} {Q : Value → q_Mem → Prop} {I : Nat → Nat → Int32} {J : Nat → Nat → Int64} {t : Nat} : q_W (d + 1) 133 [.ref 130, .int (-6 : Int32)] (q_mm L I J t) Q = Q (.int (-6 : Int32)) (q_mm L (q_u I 145 6 (I 145 6 + 1)) J t) := by
  rw [e_M_no]
  rw [eq_true (show ¬ (-(-6 : Int32) < 0 ∨ 8 ≤ (-(-6 : Int32)).toNatClampNeg) by decide), show (-(-6 : Int32)).toNatClampNeg = 6 by decide]
  simp only [true_and]
theorem s_refuseT6 {L d : Nat} {Q : Value → q_Mem → Prop} {I : Nat → Nat → Int32} {J : Nat → Nat → Int64} {t : Nat} : q_W (d + 2) 118 [.ref 1, .int (-6 : Int32)] (q_mm L I J t) Q = Q (.int ((-6 : Int32) - 10)) (q_mm L (q_u I 113 6 (I 113 6 + 1)) J t) := by
  rw [e_C_refuseByTen, s_refuse6, q_onI_i, g_C_refuseByTen_5]
theorem s_noT6 {L d : Nat} {Q : Value → q_Mem → Prop} {I : Nat → Nat → Int32} {J : Nat → Nat → Int64} {t : Nat} : q_W (d + 2) 134 [.ref 130, .int (-6 : Int32)] (q_mm L I J t) Q = Q (.int ((-6 : Int32) - 10)) (q_mm L (q_u I 145 6 (I 145 6 + 1)) J t) := by
  rw [e_M_no10, s_no6, q_onI_i, g_M_no10_5]
theorem s_refuse7 {L d : Nat} {Q : Value → q_Mem → Prop} {I : Nat → Nat → Int32} {J : Nat → Nat → Int64} {t : Nat} : q_W (d + 1) 117 [.ref 1, .int (-7 : Int32)] (q_mm L I J t) Q = Q (.int (-7 : Int32)) (q_mm L (q_u I 113 7 (I 113 7 + 1)) J t) := by
  rw [e_C_refuse]
  rw [q_brn (show ¬ (-(-7 : Int32) < 1) by decide), q_brn (show ¬ ((7 : Int32) < -(-7 : Int32)) by decide)]
  rw [eq_true (show ¬ (-(-7 : Int32) < 0 ∨ 8 ≤ (-(-7 : Int32)).toNatClampNeg) by decide), show (-(-7 : Int32)).toNatClampNeg = 7 by decide]
  simp only [true_and]
theorem s_no7 {L d : Nat} {Q : Value → q_Mem → Prop} {I : Nat → Nat → Int32} {J : Nat → Nat → Int64} {t : Nat} : q_W (d + 1) 133 [.ref 130, .int (-7 : Int32)] (q_mm L I J t) Q = Q (.int (-7 : Int32)) (q_mm L (q_u I 145 7 (I 145 7 + 1)) J t) := by
  rw [e_M_no]
  rw [eq_true (show ¬ (-(-7 : Int32) < 0 ∨ 8 ≤ (-(-7 : Int32)).toNatClampNeg) by decide), show (-(-7 : Int32)).toNatClampNeg = 7 by decide]
  simp only [true_and]
theorem s_refuseT7 {L d : Nat} {Q : Value → q_Mem → Prop} {I : Nat → Nat → Int32} {J : Nat → Nat → Int64} {t : Nat} : q_W (d + 2) 118 [.ref 1, .int (-7 : Int32)] (q_mm L I J t) Q = Q (.int ((-7 : Int32) - 10)) (q_mm L (q_u I 113 7 (I 113 7 + 1)) J t) := by
  rw [e_C_refuseByTen, s_refuse7, q_onI_i, g_C_refuseByTen_5]
theorem s_noT7 {L d : Nat} {Q : Value → q_Mem → Prop} {I : Nat → Nat → Int32} {J : Nat → Nat → Int64} {t : Nat} : q_W (d + 2) 134 [.ref 130, .int (-7 : Int32)] (q_mm L I J t) Q = Q (.int ((-7 : Int32) - 10)) (q_mm L (q_u I 145 7 (I 145 7 + 1)) J t) := by
  rw [e_M_no10, s_no7, q_onI_i, g_M_no10_5]
theorem q_lt0 {x : Int32} : (x < 0) = (x.toInt < 0) := by rw [Int32.lt_iff_toInt_lt, Int32.toInt_zero]
theorem q_lt {x y : Int32} : (x < y) = (x.toInt < y.toInt) := by rw [Int32.lt_iff_toInt_lt]
theorem q_le {x y : Int32} : (x ≤ y) = (x.toInt ≤ y.toInt) := by rw [Int32.le_iff_toInt_le]
theorem q_eqz {x y : Int32} : (x = y) = (x.toInt = y.toInt) := propext Int32.toInt_inj.symm
theorem s_isBelow {L d : Nat} {Q : Value → q_Mem → Prop} {I : Nat → Nat → Int32} {J : Nat → Nat → Int64} {t : Nat} {x c : Int32} : q_W (d + 1) 119 [.int x, .int c] (q_mm L I J t) Q = Q (.int (q_bb (q_in x c.toInt))) (q_mm L I J t) := by
  rw [e_C_isBelow, q_lt0, q_le]
  unfold q_in
  by_cases h0 : x.toInt < 0
  · rw [decide_eq_false (by omega)]
    simp [h0, q_bb]
  · by_cases h1 : c.toInt ≤ x.toInt
    · rw [decide_eq_false (by omega)]
      simp [h0, h1, q_bb]
    · rw [decide_eq_true (by omega)]
      simp [h0, h1, q_bb]
theorem s_isUpTo {L d : Nat} {Q : Value → q_Mem → Prop} {I : Nat → Nat → Int32} {J : Nat → Nat → Int64} {t : Nat} {x c : Int32} : q_W (d + 1) 120 [.int x, .int c] (q_mm L I J t) Q = Q (.int (q_bb (q_in x (c.toInt + 1)))) (q_mm L I J t) := by
  rw [e_C_isUpTo, q_lt0, q_lt]
  unfold q_in
  by_cases h0 : x.toInt < 0
  · rw [decide_eq_false (by omega)]
    simp [h0, q_bb]
  · by_cases h1 : c.toInt < x.toInt
    · rw [decide_eq_false (by omega)]
      simp [h0, h1, q_bb]
    · rw [decide_eq_true (by omega)]
      simp [h0, h1, q_bb]
theorem s_isShelf {L d : Nat} {Q : Value → q_Mem → Prop} {I : Nat → Nat → Int32} {J : Nat → Nat → Int64} {t : Nat} {x : Int32} : q_W (d + 2) 121 [.int x] (q_mm L I J t) Q = Q (.int (q_bb (q_in x 8))) (q_mm L I J t) := by
  rw [e_C_isShelf, s_isBelow, show (8 : Int32).toInt = 8 by decide, q_onI_i, g_C_isShelf_6]
  simp only [q_onI_i, q_onJ_j, q_onS_s, q_onB_t, true_and, and_true, true_or, or_true, eq_self, true_implies, not_true_eq_false, not_false_eq_true, false_implies, q_bb0, q_bbok, q_bbok2, Bool.true_eq_false, Bool.false_eq_true, reduceCtorEq]
theorem s_within {L d : Nat} {Q : Value → q_Mem → Prop} {I : Nat → Nat → Int32} {J : Nat → Nat → Int64} {t : Nat} {x a b : Int32} : q_W (d + 1) 135 [.int x, .int a, .int b] (q_mm L I J t) Q = Q (.int (q_bb (decide (a.toInt ≤ x.toInt ∧ x.toInt ≤ b.toInt)))) (q_mm L I J t) := by
  rw [e_M_within, q_lt, q_lt]
  by_cases h0 : x.toInt < a.toInt
  · rw [decide_eq_false (by omega)]
    simp [h0, q_bb]
  · by_cases h1 : b.toInt < x.toInt
    · rw [decide_eq_false (by omega)]
      simp [h0, h1, q_bb]
    · rw [decide_eq_true (by omega)]
      simp [h0, h1, q_bb]
theorem q_in_w {x : Int32} {c : Int} : decide (0 ≤ x.toInt ∧ x.toInt ≤ c) = q_in x (c + 1) := by
  unfold q_in
  congr 1
  apply propext
  omega
theorem s_within0 {L d : Nat} {Q : Value → q_Mem → Prop} {I : Nat → Nat → Int32} {J : Nat → Nat → Int64} {t : Nat} {x b : Int32} : q_W (d + 1) 135 [.int x, .int 0, .int b] (q_mm L I J t) Q = Q (.int (q_bb (q_in x (b.toInt + 1)))) (q_mm L I J t) := by
  rw [s_within, Int32.toInt_zero, q_in_w]
theorem s_isPoint {L d : Nat} {Q : Value → q_Mem → Prop} {I : Nat → Nat → Int32} {J : Nat → Nat → Int64} {t : Nat} {x : Int32} : q_W (d + 2) 137 [.int x] (q_mm L I J t) Q = Q (.int (q_bb (q_in x 4))) (q_mm L I J t) := by
  rw [e_M_isPoint, s_within0, show (3 : Int32).toInt + 1 = 4 by decide, q_onI_i, g_M_isPoint_6]
  simp only [q_onI_i, q_onJ_j, q_onS_s, q_onB_t, true_and, and_true, true_or, or_true, eq_self, true_implies, not_true_eq_false, not_false_eq_true, false_implies, q_bb0, q_bbok, q_bbok2, Bool.true_eq_false, Bool.false_eq_true, reduceCtorEq]
theorem s_isService {L d : Nat} {Q : Value → q_Mem → Prop} {I : Nat → Nat → Int32} {J : Nat → Nat → Int64} {t : Nat} {x : Int32} : q_W (d + 2) 138 [.int x] (q_mm L I J t) Q = Q (.int (q_bb (q_in x 8))) (q_mm L I J t) := by
  rw [e_M_isService, s_within0, show (7 : Int32).toInt + 1 = 8 by decide, q_onI_i, g_M_isService_7]
  simp only [q_onI_i, q_onJ_j, q_onS_s, q_onB_t, true_and, and_true, true_or, or_true, eq_self, true_implies, not_true_eq_false, not_false_eq_true, false_implies, q_bb0, q_bbok, q_bbok2, Bool.true_eq_false, Bool.false_eq_true, reduceCtorEq]
theorem q_pred {n : Nat} (hn : n < 2 ^ 31) : (nI n - 1).toInt + 1 = (n : Int) := by
  cases n with
  | zero => decide
  | succ n => rw [nI_pred, nI_toInt (by omega)]; omega
theorem s_isPlug {L d : Nat} {Q : Value → q_Mem → Prop} {I : Nat → Nat → Int32} {J : Nat → Nat → Int64} {t : Nat} {n : Nat} {x : Int32} (hn : I 130 0 = nI n) (h12 : n ≤ 12) : q_W (d + 2) 136 [.ref 130, .int x] (q_mm L I J t) Q = Q (.int (q_bb (q_in x n))) (q_mm L I J t) := by
  rw [e_M_isPlug, hn, s_within0, q_pred (by omega), q_onI_i, g_M_isPlug_11]
  simp only [q_onI_i, q_onJ_j, q_onS_s, q_onB_t, true_and, and_true, true_or, or_true, eq_self, true_implies, not_true_eq_false, not_false_eq_true, false_implies, q_bb0, q_bbok, q_bbok2, Bool.true_eq_false, Bool.false_eq_true, reduceCtorEq]
theorem s_state {L d : Nat} {Q : Value → q_Mem → Prop} {I : Nat → Nat → Int32} {J : Nat → Nat → Int64} {t : Nat} {p : Nat} (hp : p < 108) : q_W (d + 1) 141 [.ref 130, .int (nI p)] (q_mm L I J t) Q = Q (.int (I 131 p)) (q_mm L I J t) := by
  rw [e_M_state]
  simp only [q_clamp (show p < 2 ^ 31 by omega), q_bnd hp (by decide), true_and]
theorem q_mul {a b : Nat} : nI a * nI b = nI (a * b) := by
  unfold nI
  rw [Int32.ofNat_mul]
theorem q_add {a b : Nat} : nI a + nI b = nI (a + b) := by
  unfold nI
  rw [Int32.ofNat_add]
theorem s_of {L d : Nat} {Q : Value → q_Mem → Prop} {I : Nat → Nat → Int32} {J : Nat → Nat → Int64} {t : Nat} {a p : Nat} (hp : 12 * a + p < 108) : q_W (d + 1) 140 [.ref 130, .int (nI a), .int (nI p)] (q_mm L I J t) Q = Q (.int (I 131 (12 * a + p))) (q_mm L I J t) := by
  rw [e_M_of, show (12 : Int32) = nI 12 by decide, q_mul, q_add]
  simp only [q_clamp (show 12 * a + p < 2 ^ 31 by omega), q_bnd hp (by decide), true_and]
theorem s_hk {L d : Nat} {Q : Value → q_Mem → Prop} {I : Nat → Nat → Int32} {J : Nat → Nat → Int64} {t : Nat} {a p : Nat} (hp : 24 * a + p < 120) : q_W (d + 1) 194 [.ref 130, .int (nI a), .int (nI p)] (q_mm L I J t) Q = Q (.int (I 132 (24 * a + p))) (q_mm L I J t) := by
  rw [e_M_hk, show (24 : Int32) = nI 24 by decide, q_mul, q_add]
  simp only [q_clamp (show 24 * a + p < 2 ^ 31 by omega), q_bnd hp (by decide), true_and]
theorem s_isNeeded {L d : Nat} {Q : Value → q_Mem → Prop} {I : Nat → Nat → Int32} {J : Nat → Nat → Int64} {t : Nat} {p s : Nat} (hp : p < 12) (hs : s < 31) : q_W (d + 2) 142 [.ref 130, .int (nI p), .int (nI s)] (q_mm L I J t) Q = Q (.int (q_bb (q_bt (I 131 (36 + p)) s))) (q_mm L I J t) := by
  rw [e_M_isNeeded, show (3 : Int32) = nI 3 by decide, s_of (by omega), q_onI_i, g_M_isNeeded_6, q_shr1 hs]
  cases h : q_bt (I 131 (12 * 3 + p)) s <;> simp [h, q_bb]
theorem s_isOffered {L d : Nat} {Q : Value → q_Mem → Prop} {I : Nat → Nat → Int32} {J : Nat → Nat → Int64} {t : Nat} {p s : Nat} (hp : p < 12) (hs : s < 31) : q_W (d + 2) 143 [.ref 130, .int (nI p), .int (nI s)] (q_mm L I J t) Q = Q (.int (q_bb (q_bt (I 131 (48 + p)) s))) (q_mm L I J t) := by
  rw [e_M_isOffered, show (4 : Int32) = nI 4 by decide, s_of (by omega), q_onI_i, g_M_isOffered_6, q_shr1 hs]
  cases h : q_bt (I 131 (12 * 4 + p)) s <;> simp [h, q_bb]
theorem s_isOlder {L d : Nat} {Q : Value → q_Mem → Prop} {I : Nat → Nat → Int32} {J : Nat → Nat → Int64} {t : Nat} {p q : Nat} (hp : p < 12) (hq : q < 12) : q_W (d + 2) 144 [.ref 130, .int (nI p), .int (nI q)] (q_mm L I J t) Q = Q (.int (q_bb (decide (I 131 (84 + p) < I 131 (84 + q))))) (q_mm L I J t) := by
  rw [e_M_isOlder, show (7 : Int32) = nI 7 by decide, s_of (by omega), q_onI_i, g_M_isOlder_7, show (7 : Int32) = nI 7 by decide, s_of (by omega), q_onI_i, g_M_isOlder_14]
  by_cases h : I 131 (84 + p) < I 131 (84 + q)
  · rw [q_brn (Int32.not_le.mpr h)]
    simp [h, q_bb]
  · rw [q_br (Int32.not_lt.mp h)]
    simp [h, q_bb]
theorem s_isRow {L d : Nat} {Q : Value → q_Mem → Prop} {I : Nat → Nat → Int32} {J : Nat → Nat → Int64} {t : Nat} {s : Nat} (hs : s < 8) : q_W (d + 1) 139 [.ref 130, .int (nI s)] (q_mm L I J t) Q = Q (.int (q_bb (decide (¬ I 133 s < 100)))) (q_mm L I J t) := by
  rw [e_M_isRow]
  simp only [q_clamp (show s < 2 ^ 31 by omega), q_bnd hs (by decide), true_and]
  by_cases h : I 133 s < 100 <;> simp [h, q_bb]
theorem s_hasRow {L d : Nat} {Q : Value → q_Mem → Prop} {I : Nat → Nat → Int32} {J : Nat → Nat → Int64} {t : Nat} {o : Nat} (ho : q_isO (q_SH L) o 6 = true) : q_W (d + 1) 50 [.ref o] (q_mm L I J t) Q = Q (.int (q_bb (decide (¬ I o 1 = -1)))) (q_mm L I J t) := by
  rw [e_Shelf_hasRow, ho]
  by_cases h : I o 1 = -1 <;> simp [h, q_bb, q_onB_t]
theorem s_hasPlugS {L d : Nat} {Q : Value → q_Mem → Prop} {I : Nat → Nat → Int32} {J : Nat → Nat → Int64} {t : Nat} {o : Nat} (ho : q_isO (q_SH L) o 6 = true) : q_W (d + 1) 51 [.ref o] (q_mm L I J t) Q = Q (.int (q_bb (decide (¬ I o 3 = -1)))) (q_mm L I J t) := by
  rw [e_Shelf_hasPlug, ho]
  by_cases h : I o 3 = -1 <;> simp [h, q_bb, q_onB_t]
theorem s_hasElement {L d : Nat} {Q : Value → q_Mem → Prop} {I : Nat → Nat → Int32} {J : Nat → Nat → Int64} {t : Nat} {o : Nat} {x : Int32} (ho : q_isO (q_SH L) o 6 = true) : q_W (d + 1) 52 [.ref o, .int x] (q_mm L I J t) Q = Q (.int (q_bb (q_in x (I o 2).toInt))) (q_mm L I J t) := by
  rw [e_Shelf_hasElement, ho, q_lt0, q_le]
  unfold q_in
  by_cases h0 : x.toInt < 0
  · rw [decide_eq_false (by omega)]
    simp [h0, q_bb]
  · by_cases h1 : (I o 2).toInt ≤ x.toInt
    · rw [decide_eq_false (by omega)]
      simp [h0, h1, q_bb, q_onB_t]
    · rw [decide_eq_true (by omega)]
      simp [h0, h1, q_bb, q_onB_t]
theorem s_holdNothing {L d : Nat} {Q : Value → q_Mem → Prop} {I : Nat → Nat → Int32} {J : Nat → Nat → Int64} {t : Nat} {o : Nat} (ho : q_isO (q_SH L) o 6 = true) : q_W (d + 1) 49 [.ref o] (q_mm L I J t) Q = Q .null (q_mm L (q_u (q_u (q_u I o 1 (-1)) o 2 0) o 3 (-1)) J t) := by
  rw [e_Shelf_holdNothing, ho]
  rfl
theorem s_holdPlug {L d : Nat} {Q : Value → q_Mem → Prop} {I : Nat → Nat → Int32} {J : Nat → Nat → Int64} {t : Nat} {o : Nat} {x : Int32} (ho : q_isO (q_SH L) o 6 = true) : q_W (d + 2) 48 [.ref o, .int x] (q_mm L I J t) Q = Q .null (q_mm L (q_u (q_u (q_u (q_u I o 1 (-1)) o 2 0) o 3 (-1)) o 3 x) J t) := by
  rw [e_Shelf_holdPlug, ho, q_onB_t, s_holdNothing ho, g_Shelf_holdPlug_4, ho, q_onB_t]
/-- what a shelf is no row for: 0, -1, -2, -3 -/
def q_rp (I : Nat → Nat → Int32) (x : Int32) : Int32 := match q_in x 8 with
  | false => -1
  | true => if I (114 + 2 * x.toNatClampNeg) 3 = -1 then (if I (114 + 2 * x.toNatClampNeg) 1 = -1 then -3 else 0) else -2
theorem s_rowProblem {L d : Nat} {Q : Value → q_Mem → Prop} {I : Nat → Nat → Int32} {J : Nat → Nat → Int64} {t : Nat} {x : Int32} : q_W (d + 3) 122 [.ref 1, .int x] (q_mm L I J t) Q = Q (.int (q_rp I x)) (q_mm L I J t) := by
  rw [e_C_rowProblem, s_isShelf, q_onI_i, g_C_rowProblem_4]
  unfold q_rp
  cases hb : q_in x 8 with
  | false => simp only [q_onI_i, q_onJ_j, q_onS_s, q_onB_t, true_and, and_true, true_or, or_true, eq_self, true_implies, not_true_eq_false, not_false_eq_true, false_implies, q_bb0, q_bbok, q_bbok2, Bool.true_eq_false, Bool.false_eq_true, reduceCtorEq]
  | true =>
    obtain ⟨k, hk, rfl⟩ := q_in_get (n := 8) hb
    simp only [q_onI_i, q_onJ_j, q_onS_s, q_onB_t, true_and, and_true, true_or, or_true, eq_self, true_implies, not_true_eq_false, not_false_eq_true, false_implies, q_bb0, q_bbok, q_bbok2, Bool.true_eq_false, Bool.false_eq_true, reduceCtorEq, q_clamp (show k < 2 ^ 31 by omega), q_bnd hk (by decide), r_shelf hk, i_shelf hk, s_hasPlugS (i_shelf hk), s_hasRow (i_shelf hk), g_C_rowProblem_18, g_C_rowProblem_33]
    by_cases h3 : I (114 + 2 * k) 3 = -1 <;> by_cases h1 : I (114 + 2 * k) 1 = -1 <;> simp [h3, h1]
