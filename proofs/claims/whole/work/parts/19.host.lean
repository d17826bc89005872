/-! Host: what its methods say -/
theorem s_hasPlug {L d : Nat} {Q : Value → q_Mem → Prop} {I : Nat → Nat → Int32} {J : Nat → Nat → Int64} {t : Nat} {n : Nat} {x : Int32} (hn : I 3 2 = nI n) (h12 : n ≤ 12) : q_W (d + 1) 20 [.ref 3, .int x] (q_mm L I J t) Q = Q (.int (q_bb (q_in x n))) (q_mm L I J t) := by
  rw [e_Host_hasPlug, hn, Int32.lt_iff_toInt_lt, Int32.le_iff_toInt_le, nI_toInt (by omega), Int32.toInt_zero]
  unfold q_in
  by_cases h0 : x.toInt < 0
  · rw [decide_eq_false (by omega)]
    simp [h0, q_bb]
  · by_cases h1 : (n : Int) ≤ x.toInt
    · rw [decide_eq_false (by omega)]
      simp [h0, h1, q_bb]
    · rw [decide_eq_true (by omega)]
      simp [h0, h1, q_bb]
theorem s_runs {L d : Nat} {Q : Value → q_Mem → Prop} {I : Nat → Nat → Int32} {J : Nat → Nat → Int64} {t : Nat} {n : Nat} {x : Int32} (hn : I 3 2 = nI n) (h12 : n ≤ 12) : q_W (d + 2) 21 [.ref 3, .int x] (q_mm L I J t) Q = Q (.int (q_bb (q_in x n && decide (I (6 + x.toNatClampNeg) 9 = 1)))) (q_mm L I J t) := by
  rw [e_Host_runs, s_hasPlug hn h12]
  simp only [q_onI_i, g_Host_runs_5]
  cases hb : q_in x n with
  | false => simp only [q_onI_i, q_onJ_j, q_onS_s, q_onB_t, true_and, and_true, true_or, or_true, eq_self, true_implies, not_true_eq_false, not_false_eq_true, false_implies, q_bb0, q_bbok, q_bbok2, Bool.true_eq_false, Bool.false_eq_true, reduceCtorEq]; rfl
  | true =>
    obtain ⟨k, hk, rfl⟩ := q_in_get hb
    simp only [q_onI_i, q_onJ_j, q_onS_s, q_onB_t, true_and, and_true, true_or, or_true, eq_self, true_implies, not_true_eq_false, not_false_eq_true, false_implies, q_bb0, q_bbok, q_bbok2, Bool.true_eq_false, Bool.false_eq_true, reduceCtorEq, q_bnd (show k < 12 by omega) (by decide), q_clamp (show k < 2 ^ 31 by omega), r_plug (show k < 12 by omega), i_plug (show k < 12 by omega)]
    by_cases h9 : I (6 + k) 9 = 1 <;> simp [h9, q_bb]
theorem l_hasName {L d : Nat} {rt : Value → q_Mem → Nat → Nat → Prop} {I : Nat → Nat → Int32} {J : Nat → Nat → Int64} {t : Nat} {n : Nat} {x : Int32} (hn : I 3 2 = nI n) (h12 : n ≤ 12) : ∀ k i, i + k = n → q_X (q_W d) rt 22 (2, [some (.ref 3), some (.int x), some (.int (nI i))], [], (q_mm L I J t), 0, 0) = rt (.int (q_bb (q_any (fun p => !decide (I (6 + p) 9 = 3) && decide (I (6 + p) 5 = x)) i k))) (q_mm L I J t) 0 0
  | 0, i, h => by
    rw [g_Host_hasName_2, hn, q_leN (by omega) (by omega), q_br (by omega)]
    simp only [q_onI_i, q_onJ_j, q_onS_s, q_onB_t, true_and, and_true, true_or, or_true, eq_self, true_implies, not_true_eq_false, not_false_eq_true, false_implies, q_bb0, q_bbok, q_bbok2, Bool.true_eq_false, Bool.false_eq_true, reduceCtorEq]
    rfl
  | k + 1, i, h => by
    rw [g_Host_hasName_2, hn, q_leN (by omega) (by omega), q_brn (by omega)]
    simp only [q_onI_i, q_onJ_j, q_onS_s, q_onB_t, true_and, and_true, true_or, or_true, eq_self, true_implies, not_true_eq_false, not_false_eq_true, false_implies, q_bb0, q_bbok, q_bbok2, Bool.true_eq_false, Bool.false_eq_true, reduceCtorEq, q_clamp (show i < 2 ^ 31 by omega), q_bnd (show i < 12 by omega) (by decide), r_plug (show i < 12 by omega), i_plug (show i < 12 by omega), q_n1, l_hasName hn h12 k (i + 1) (by omega)]
    rw [q_any_s]
    by_cases h9 : I (6 + i) 9 = 3 <;> by_cases h5 : I (6 + i) 5 = x <;> simp [h9, h5, q_bb]
theorem s_hasName {L d : Nat} {Q : Value → q_Mem → Prop} {I : Nat → Nat → Int32} {J : Nat → Nat → Int64} {t : Nat} {n : Nat} {x : Int32} (hn : I 3 2 = nI n) (h12 : n ≤ 12) : q_W (d + 1) 22 [.ref 3, .int x] (q_mm L I J t) Q = Q (.int (q_bb (q_any (fun p => !decide (I (6 + p) 9 = 3) && decide (I (6 + p) 5 = x)) 0 n))) (q_mm L I J t) := by
  rw [e_Host_hasName]
  exact l_hasName hn h12 n 0 (by omega)
theorem l_countIn {L d : Nat} {rt : Value → q_Mem → Nat → Nat → Prop} {I : Nat → Nat → Int32} {J : Nat → Nat → Int64} {t : Nat} {n : Nat} {x : Int32} (hn : I 3 2 = nI n) (h12 : n ≤ 12) : ∀ k i (c : Int32), i + k = n → q_X (q_W d) rt 23 (4, [some (.ref 3), some (.int x), some (.int c), some (.int (nI i))], [], (q_mm L I J t), 0, 0) = rt (.int (q_it (fun p c => if I (6 + p) 9 = x then c + 1 else c) i k c)) (q_mm L I J t) 0 0
  | 0, i, c, h => by
    rw [g_Host_countIn_4, hn, q_leN (by omega) (by omega), q_br (by omega)]
    rfl
  | k + 1, i, c, h => by
    rw [g_Host_countIn_4, hn, q_leN (by omega) (by omega), q_brn (by omega)]
    simp only [q_onI_i, q_onJ_j, q_onS_s, q_onB_t, true_and, and_true, true_or, or_true, eq_self, true_implies, not_true_eq_false, not_false_eq_true, false_implies, q_bb0, q_bbok, q_bbok2, Bool.true_eq_false, Bool.false_eq_true, reduceCtorEq, q_clamp (show i < 2 ^ 31 by omega), q_bnd (show i < 12 by omega) (by decide), r_plug (show i < 12 by omega), i_plug (show i < 12 by omega), q_n1, l_countIn hn h12 k (i + 1) _ (show i + 1 + k = n by omega)]
    rw [q_it_s]
    by_cases h9 : I (6 + i) 9 = x <;> simp [h9]
theorem s_countIn {L d : Nat} {Q : Value → q_Mem → Prop} {I : Nat → Nat → Int32} {J : Nat → Nat → Int64} {t : Nat} {n : Nat} {x : Int32} (hn : I 3 2 = nI n) (h12 : n ≤ 12) : q_W (d + 1) 23 [.ref 3, .int x] (q_mm L I J t) Q = Q (.int (q_it (fun p c => if I (6 + p) 9 = x then c + 1 else c) 0 n 0)) (q_mm L I J t) := by
  rw [e_Host_countIn]
  exact l_countIn hn h12 n 0 0 (by omega)
theorem l_runningBits {L d : Nat} {rt : Value → q_Mem → Nat → Nat → Prop} {I : Nat → Nat → Int32} {J : Nat → Nat → Int64} {t : Nat} {n : Nat} (hn : I 3 2 = nI n) (h12 : n ≤ 12) : ∀ k i (b : Int32), i + k = n → q_X (q_W d) rt 24 (4, [some (.ref 3), some (.int b), some (.int (nI i))], [], (q_mm L I J t), 0, 0) = rt (.int (q_it (q_orb fun p => decide (I (6 + p) 9 = 1)) i k b)) (q_mm L I J t) 0 0
  | 0, i, c, h => by
    rw [g_Host_runningBits_4, hn, q_leN (by omega) (by omega), q_br (by omega)]
    rfl
  | k + 1, i, c, h => by
    rw [g_Host_runningBits_4, hn, q_leN (by omega) (by omega), q_brn (by omega)]
    simp only [q_onI_i, q_onJ_j, q_onS_s, q_onB_t, true_and, and_true, true_or, or_true, eq_self, true_implies, not_true_eq_false, not_false_eq_true, false_implies, q_bb0, q_bbok, q_bbok2, Bool.true_eq_false, Bool.false_eq_true, reduceCtorEq, q_clamp (show i < 2 ^ 31 by omega), q_bnd (show i < 12 by omega) (by decide), r_plug (show i < 12 by omega), i_plug (show i < 12 by omega), q_n1, l_runningBits hn h12 k (i + 1) _ (show i + 1 + k = n by omega)]
    rw [q_it_s]
    by_cases h9 : I (6 + i) 9 = 1 <;> simp [h9, q_orb]
theorem s_runningBits {L d : Nat} {Q : Value → q_Mem → Prop} {I : Nat → Nat → Int32} {J : Nat → Nat → Int64} {t : Nat} {n : Nat} (hn : I 3 2 = nI n) (h12 : n ≤ 12) : q_W (d + 1) 24 [.ref 3] (q_mm L I J t) Q = Q (.int (q_mk (fun p => decide (I (6 + p) 9 = 1)) n)) (q_mm L I J t) := by
  rw [e_Host_runningBits]
  exact l_runningBits hn h12 n 0 0 (by omega)
theorem l_olderThan {L d : Nat} {rt : Value → q_Mem → Nat → Nat → Prop} {I : Nat → Nat → Int32} {J : Nat → Nat → Int64} {t : Nat} {n q : Nat} (hn : I 3 2 = nI n) (h12 : n ≤ 12) (hq : q < n) : ∀ k i (b : Int32), i + k = n → q_X (q_W d) rt 25 (14, [some (.ref 3), some (.int (nI q)), some (.int b), some (.int (nI i))], [], (q_mm L I J t), 0, 0) = rt (.int (q_it (q_orb fun p => decide (I (6 + p) 9 = 1) && decide (I (6 + p) 10 < I (6 + q) 10)) i k b)) (q_mm L I J t) 0 0
  | 0, i, c, h => by
    rw [g_Host_olderThan_14, hn, q_leN (by omega) (by omega), q_br (by omega)]
    rfl
  | k + 1, i, c, h => by
    rw [g_Host_olderThan_14, hn, q_leN (by omega) (by omega), q_brn (by omega)]
    simp only [q_onI_i, q_onJ_j, q_onS_s, q_onB_t, true_and, and_true, true_or, or_true, eq_self, true_implies, not_true_eq_false, not_false_eq_true, false_implies, q_bb0, q_bbok, q_bbok2, Bool.true_eq_false, Bool.false_eq_true, reduceCtorEq, q_clamp (show i < 2 ^ 31 by omega), q_clamp (show q < 2 ^ 31 by omega), q_bnd (show i < 12 by omega) (by decide), q_bnd (show q < 12 by omega) (by decide), r_plug (show i < 12 by omega), i_plug (show i < 12 by omega), r_plug (show q < 12 by omega), i_plug (show q < 12 by omega), q_n1, l_olderThan hn h12 hq k (i + 1) _ (show i + 1 + k = n by omega)]
    rw [q_it_s]
    by_cases h9 : I (6 + i) 9 = 1 <;> by_cases h5 : I (6 + i) 10 < I (6 + q) 10
    · simp [h9, h5, q_orb, Int32.not_le.mpr h5]
    · simp [h9, h5, q_orb, Int32.not_lt.mp h5]
    · simp [h9, q_orb]
    · simp [h9, q_orb]
theorem s_olderThan {L d : Nat} {Q : Value → q_Mem → Prop} {I : Nat → Nat → Int32} {J : Nat → Nat → Int64} {t : Nat} {n q : Nat} (hn : I 3 2 = nI n) (h12 : n ≤ 12) (hq : q < n) : q_W (d + 2) 25 [.ref 3, .int (nI q)] (q_mm L I J t) Q = Q (.int (q_mk (fun p => decide (I (6 + p) 9 = 1) && decide (I (6 + p) 10 < I (6 + q) 10)) n)) (q_mm L I J t) := by
  rw [e_Host_olderThan, s_hasPlug hn h12, q_in_nI (by omega), decide_eq_true hq]
  simp only [q_onI_i, q_onJ_j, q_onS_s, q_onB_t, true_and, and_true, true_or, or_true, eq_self, true_implies, not_true_eq_false, not_false_eq_true, false_implies, q_bb0, q_bbok, q_bbok2, Bool.true_eq_false, Bool.false_eq_true, reduceCtorEq, g_Host_olderThan_5]
  exact l_olderThan hn h12 hq n 0 0 (by omega)
theorem l_offering {L d : Nat} {rt : Value → q_Mem → Nat → Nat → Prop} {I : Nat → Nat → Int32} {J : Nat → Nat → Int64} {t : Nat} {n s : Nat} {m : Int32} (hn : I 3 2 = nI n) (h12 : n ≤ 12) (hs : s < 31) : ∀ k i (b : Int32), i + k = n → q_X (q_W (d + 1)) rt 26 (5, [some (.ref 3), some (.int (nI s)), some (.int m), some (.int b), some (.int (nI i))], [], (q_mm L I J t), 0, 0) = rt (.int (q_it (q_orb fun p => q_bt m p && q_bt (I (6 + p) 3) s) i k b)) (q_mm L I J t) 0 0
  | 0, i, c, h => by
    rw [g_Host_offering_5, hn, q_leN (by omega) (by omega), q_br (by omega)]
    rfl
  | k + 1, i, c, h => by
    rw [g_Host_offering_5, hn, q_leN (by omega) (by omega), q_brn (by omega), q_shr0 (by omega)]
    simp only [q_onI_i, q_onJ_j, q_onS_s, q_onB_t, true_and, and_true, true_or, or_true, eq_self, true_implies, not_true_eq_false, not_false_eq_true, false_implies, q_bb0, q_bbok, q_bbok2, Bool.true_eq_false, Bool.false_eq_true, reduceCtorEq, q_clamp (show i < 2 ^ 31 by omega), q_bnd (show i < 12 by omega) (by decide), r_plug (show i < 12 by omega), i_plug (show i < 12 by omega), q_n1, l_offering hn h12 hs k (i + 1) _ (show i + 1 + k = n by omega), s_offers (i_plug (show i < 12 by omega)) hs, g_Host_offering_34]
    rw [q_it_s]
    cases h9 : q_bt m i <;> cases h5 : q_bt (I (6 + i) 3) s <;> simp [h9, h5, q_orb]
theorem s_offering {L d : Nat} {Q : Value → q_Mem → Prop} {I : Nat → Nat → Int32} {J : Nat → Nat → Int64} {t : Nat} {n s : Nat} {m : Int32} (hn : I 3 2 = nI n) (h12 : n ≤ 12) (hs : s < 31) : q_W (d + 2) 26 [.ref 3, .int (nI s), .int m] (q_mm L I J t) Q = Q (.int (q_mk (fun p => q_bt m p && q_bt (I (6 + p) 3) s) n)) (q_mm L I J t) := by
  rw [e_Host_offering]
  exact l_offering hn h12 hs n 0 0 (by omega)
