/-! more calls that read -/
theorem s_strength {L d : Nat} {Q : Value → q_Mem → Prop} {I : Nat → Nat → Int32} {J : Nat → Nat → Int64} {t : Nat} {p : Nat} (hp : p < 12) : q_W (d + 2) 154 [.ref 130, .int (nI p)] (q_mm L I J t) Q = Q (.int (q_str (I 131 (12 + p)) (I 131 (24 + p)) (q_bc (I 131 (48 + p))))) (q_mm L I J t) := by
  rw [e_M_strength, show (2 : Int32) = nI 2 by decide, s_of (by omega), q_onI_i, g_M_strength_6, show (4 : Int32) = nI 4 by decide, s_of (by omega), q_onI_i, g_M_strength_14, s_bitCount, q_onI_i, g_M_strength_17, show (1 : Int32) = nI 1 by decide, s_of (by omega), q_onI_i, g_M_strength_32]
  simp only [Nat.reduceMul]
  unfold q_str
  by_cases h1 : (I 131 (12 + p)).toInt = 1
  · simp [h1]
  · by_cases h2 : (I 131 (12 + p)).toInt = 2
    · simp [h2]
    · by_cases h3 : (I 131 (12 + p)).toInt = 3
      · simp [h3]
      · by_cases h4 : (I 131 (12 + p)).toInt = 4
        · simp [h4]
        · simp [h1, h2, h3, h4]
section OPS2
variable {L c : Nat} {I : Nat → Nat → Int32} {J : Nat → Nat → Int64} {t : Nat}
theorem q_ne_in {x : Int32} {n : Int} (h : q_in x n = false) {k : Int} (h0 : 0 ≤ k) (h1 : k < n) : ¬ x.toInt = k := fun e => by
  have := of_decide_eq_false h
  omega
theorem t_plugOf {x y : Int32} (h : q_J c I J t) : q_SI 100 88 168 [.int x, .int y] (q_J (c + 1)) L I J t := by
  obtain ⟨n, hk, ⟨⟨a1, a2, a3, a4, a5, a6⟩, m2, m3, m4, m5⟩, h2, h3, h4, h5, h6, h7, h8⟩ := id h
  unfold q_SI
  rw [e_C_plugOf, s_hasPlug a1 a3, q_onI_i, g_C_plugOf_8]
  cases hb : q_in x n with
  | false =>
    simp only [q_onI_i, q_onJ_j, q_onS_s, q_onB_t, true_and, and_true, true_or, or_true, eq_self, true_implies, not_true_eq_false, not_false_eq_true, false_implies, q_bb0, q_bbok, q_bbok2, Bool.true_eq_false, Bool.false_eq_true, reduceCtorEq, s_refuse5, g_C_plugOf_17]
    refine ⟨_, _, _, _, rfl, rfl, q_u_ne (by decide), ?_⟩
    rw [e_M_plugOf, s_isPlug (by rw [q_u_ne (by decide)]; exact m2) a3, hb, q_onI_i, g_M_plugOf_5]
    simp only [q_onI_i, q_onJ_j, q_onS_s, q_onB_t, true_and, and_true, true_or, or_true, eq_self, true_implies, not_true_eq_false, not_false_eq_true, false_implies, q_bb0, q_bbok, q_bbok2, Bool.true_eq_false, Bool.false_eq_true, reduceCtorEq, s_no5, g_M_plugOf_24]
    exact ⟨_, _, _, rfl, q_J_refuse 5 h⟩
  | true =>
    obtain ⟨p, hp, rfl⟩ := q_in_get hb
    obtain ⟨⟨b0, b1, b2, b3, b4, b5, b9, b8⟩, bA, bS, bN, bR⟩ := a5 p hp
    simp only [q_onI_i, q_onJ_j, q_onS_s, q_onB_t, true_and, and_true, true_or, or_true, eq_self, true_implies, not_true_eq_false, not_false_eq_true, false_implies, q_bb0, q_bbok, q_bbok2, Bool.true_eq_false, Bool.false_eq_true, reduceCtorEq, q_clamp (show p < 2 ^ 31 by omega), q_bnd (show p < 12 by omega) (by decide), r_plug (show p < 12 by omega), i_plug (show p < 12 by omega)]
    cases hy : q_in y 8 with
    | false =>
      rw [q_brn (q_ne_in hy (by decide) (show (0 : Int) < 8 by decide)), q_brn (q_ne_in hy (by decide) (show (1 : Int) < 8 by decide)), q_brn (q_ne_in hy (by decide) (show (2 : Int) < 8 by decide)), q_brn (q_ne_in hy (by decide) (show (3 : Int) < 8 by decide)), q_brn (q_ne_in hy (by decide) (show (4 : Int) < 8 by decide)), q_brn (q_ne_in hy (by decide) (show (5 : Int) < 8 by decide)), q_brn (q_ne_in hy (by decide) (show (6 : Int) < 8 by decide)), q_brn (q_ne_in hy (by decide) (show (7 : Int) < 8 by decide)), s_refuse5, q_onI_i, g_C_plugOf_122]
      refine ⟨_, _, _, _, rfl, rfl, q_u_ne (by decide), ?_⟩
      rw [e_M_plugOf, s_isPlug (by rw [q_u_ne (by decide)]; exact m2) a3, hb, q_onI_i, g_M_plugOf_5]
      simp only [q_onI_i, q_onJ_j, q_onS_s, q_onB_t, true_and, and_true, true_or, or_true, eq_self, true_implies, not_true_eq_false, not_false_eq_true, false_implies, q_bb0, q_bbok, q_bbok2, Bool.true_eq_false, Bool.false_eq_true, reduceCtorEq]
      rw [s_within0, show (7 : Int32).toInt + 1 = 8 by decide, hy, q_onI_i, g_M_plugOf_15]
      simp only [q_onI_i, q_onJ_j, q_onS_s, q_onB_t, true_and, and_true, true_or, or_true, eq_self, true_implies, not_true_eq_false, not_false_eq_true, false_implies, q_bb0, q_bbok, q_bbok2, Bool.true_eq_false, Bool.false_eq_true, reduceCtorEq, s_no5, g_M_plugOf_24]
      exact ⟨_, _, _, rfl, q_J_refuse 5 h⟩
    | true =>
      obtain ⟨k, hk8, rfl⟩ := q_in_get (n := 8) hy
      match k, hk8 with
      | 0, _ =>
        rw [q_br (show (nI 0).toInt = 0 by decide)]
        refine ⟨_, _, _, _, rfl, rfl, rfl, ?_⟩
        rw [e_M_plugOf, s_isPlug m2 a3, hb, q_onI_i, g_M_plugOf_5]
        simp only [q_onI_i, q_onJ_j, q_onS_s, q_onB_t, true_and, and_true, true_or, or_true, eq_self, true_implies, not_true_eq_false, not_false_eq_true, false_implies, q_bb0, q_bbok, q_bbok2, Bool.true_eq_false, Bool.false_eq_true, reduceCtorEq]
        rw [s_within0, show (7 : Int32).toInt + 1 = 8 by decide, hy, q_onI_i, g_M_plugOf_15]
        simp only [q_onI_i, q_onJ_j, q_onS_s, q_onB_t, true_and, and_true, true_or, or_true, eq_self, true_implies, not_true_eq_false, not_false_eq_true, false_implies, q_bb0, q_bbok, q_bbok2, Bool.true_eq_false, Bool.false_eq_true, reduceCtorEq]
        rw [q_brn (show ¬ ((6 : Int32) ≤ nI 0) by decide), s_of (by omega), q_onI_i, g_M_plugOf_37, g_M_plugOf_61]
        exact ⟨by rw [b9, show 12 * 0 + p = p by omega], _, _, _, rfl, q_J_next h⟩
      | 1, _ =>
        rw [q_brn (show ¬ (nI 1).toInt = 0 by decide), q_br (show (nI 1).toInt = 1 by decide)]
        refine ⟨_, _, _, _, rfl, rfl, rfl, ?_⟩
        rw [e_M_plugOf, s_isPlug m2 a3, hb, q_onI_i, g_M_plugOf_5]
        simp only [q_onI_i, q_onJ_j, q_onS_s, q_onB_t, true_and, and_true, true_or, or_true, eq_self, true_implies, not_true_eq_false, not_false_eq_true, false_implies, q_bb0, q_bbok, q_bbok2, Bool.true_eq_false, Bool.false_eq_true, reduceCtorEq]
        rw [s_within0, show (7 : Int32).toInt + 1 = 8 by decide, hy, q_onI_i, g_M_plugOf_15]
        simp only [q_onI_i, q_onJ_j, q_onS_s, q_onB_t, true_and, and_true, true_or, or_true, eq_self, true_implies, not_true_eq_false, not_false_eq_true, false_implies, q_bb0, q_bbok, q_bbok2, Bool.true_eq_false, Bool.false_eq_true, reduceCtorEq]
        rw [q_brn (show ¬ ((6 : Int32) ≤ nI 1) by decide), s_of (by omega), q_onI_i, g_M_plugOf_37, g_M_plugOf_61]
        exact ⟨by rw [b0], _, _, _, rfl, q_J_next h⟩
      | 2, _ =>
        rw [q_brn (show ¬ (nI 2).toInt = 0 by decide), q_brn (show ¬ (nI 2).toInt = 1 by decide), q_br (show (nI 2).toInt = 2 by decide)]
        refine ⟨_, _, _, _, rfl, rfl, rfl, ?_⟩
        rw [e_M_plugOf, s_isPlug m2 a3, hb, q_onI_i, g_M_plugOf_5]
        simp only [q_onI_i, q_onJ_j, q_onS_s, q_onB_t, true_and, and_true, true_or, or_true, eq_self, true_implies, not_true_eq_false, not_false_eq_true, false_implies, q_bb0, q_bbok, q_bbok2, Bool.true_eq_false, Bool.false_eq_true, reduceCtorEq]
        rw [s_within0, show (7 : Int32).toInt + 1 = 8 by decide, hy, q_onI_i, g_M_plugOf_15]
        simp only [q_onI_i, q_onJ_j, q_onS_s, q_onB_t, true_and, and_true, true_or, or_true, eq_self, true_implies, not_true_eq_false, not_false_eq_true, false_implies, q_bb0, q_bbok, q_bbok2, Bool.true_eq_false, Bool.false_eq_true, reduceCtorEq]
        rw [q_brn (show ¬ ((6 : Int32) ≤ nI 2) by decide), s_of (by omega), q_onI_i, g_M_plugOf_37, g_M_plugOf_61]
        exact ⟨by rw [b1], _, _, _, rfl, q_J_next h⟩
      | 3, _ =>
        rw [q_brn (show ¬ (nI 3).toInt = 0 by decide), q_brn (show ¬ (nI 3).toInt = 1 by decide), q_brn (show ¬ (nI 3).toInt = 2 by decide), q_br (show (nI 3).toInt = 3 by decide)]
        refine ⟨_, _, _, _, rfl, rfl, rfl, ?_⟩
        rw [e_M_plugOf, s_isPlug m2 a3, hb, q_onI_i, g_M_plugOf_5]
        simp only [q_onI_i, q_onJ_j, q_onS_s, q_onB_t, true_and, and_true, true_or, or_true, eq_self, true_implies, not_true_eq_false, not_false_eq_true, false_implies, q_bb0, q_bbok, q_bbok2, Bool.true_eq_false, Bool.false_eq_true, reduceCtorEq]
        rw [s_within0, show (7 : Int32).toInt + 1 = 8 by decide, hy, q_onI_i, g_M_plugOf_15]
        simp only [q_onI_i, q_onJ_j, q_onS_s, q_onB_t, true_and, and_true, true_or, or_true, eq_self, true_implies, not_true_eq_false, not_false_eq_true, false_implies, q_bb0, q_bbok, q_bbok2, Bool.true_eq_false, Bool.false_eq_true, reduceCtorEq]
        rw [q_brn (show ¬ ((6 : Int32) ≤ nI 3) by decide), s_of (by omega), q_onI_i, g_M_plugOf_37, g_M_plugOf_61]
        exact ⟨by rw [b2], _, _, _, rfl, q_J_next h⟩
      | 4, _ =>
        rw [q_brn (show ¬ (nI 4).toInt = 0 by decide), q_brn (show ¬ (nI 4).toInt = 1 by decide), q_brn (show ¬ (nI 4).toInt = 2 by decide), q_brn (show ¬ (nI 4).toInt = 3 by decide), q_br (show (nI 4).toInt = 4 by decide)]
        refine ⟨_, _, _, _, rfl, rfl, rfl, ?_⟩
        rw [e_M_plugOf, s_isPlug m2 a3, hb, q_onI_i, g_M_plugOf_5]
        simp only [q_onI_i, q_onJ_j, q_onS_s, q_onB_t, true_and, and_true, true_or, or_true, eq_self, true_implies, not_true_eq_false, not_false_eq_true, false_implies, q_bb0, q_bbok, q_bbok2, Bool.true_eq_false, Bool.false_eq_true, reduceCtorEq]
        rw [s_within0, show (7 : Int32).toInt + 1 = 8 by decide, hy, q_onI_i, g_M_plugOf_15]
        simp only [q_onI_i, q_onJ_j, q_onS_s, q_onB_t, true_and, and_true, true_or, or_true, eq_self, true_implies, not_true_eq_false, not_false_eq_true, false_implies, q_bb0, q_bbok, q_bbok2, Bool.true_eq_false, Bool.false_eq_true, reduceCtorEq]
        rw [q_brn (show ¬ ((6 : Int32) ≤ nI 4) by decide), s_of (by omega), q_onI_i, g_M_plugOf_37, g_M_plugOf_61]
        exact ⟨by rw [b3], _, _, _, rfl, q_J_next h⟩
      | 5, _ =>
        rw [q_brn (show ¬ (nI 5).toInt = 0 by decide), q_brn (show ¬ (nI 5).toInt = 1 by decide), q_brn (show ¬ (nI 5).toInt = 2 by decide), q_brn (show ¬ (nI 5).toInt = 3 by decide), q_brn (show ¬ (nI 5).toInt = 4 by decide), q_br (show (nI 5).toInt = 5 by decide)]
        refine ⟨_, _, _, _, rfl, rfl, rfl, ?_⟩
        rw [e_M_plugOf, s_isPlug m2 a3, hb, q_onI_i, g_M_plugOf_5]
        simp only [q_onI_i, q_onJ_j, q_onS_s, q_onB_t, true_and, and_true, true_or, or_true, eq_self, true_implies, not_true_eq_false, not_false_eq_true, false_implies, q_bb0, q_bbok, q_bbok2, Bool.true_eq_false, Bool.false_eq_true, reduceCtorEq]
        rw [s_within0, show (7 : Int32).toInt + 1 = 8 by decide, hy, q_onI_i, g_M_plugOf_15]
        simp only [q_onI_i, q_onJ_j, q_onS_s, q_onB_t, true_and, and_true, true_or, or_true, eq_self, true_implies, not_true_eq_false, not_false_eq_true, false_implies, q_bb0, q_bbok, q_bbok2, Bool.true_eq_false, Bool.false_eq_true, reduceCtorEq]
        rw [q_brn (show ¬ ((6 : Int32) ≤ nI 5) by decide), s_of (by omega), q_onI_i, g_M_plugOf_37, g_M_plugOf_61]
        exact ⟨by rw [b4], _, _, _, rfl, q_J_next h⟩
      | 6, _ =>
        rw [q_brn (show ¬ (nI 6).toInt = 0 by decide), q_brn (show ¬ (nI 6).toInt = 1 by decide), q_brn (show ¬ (nI 6).toInt = 2 by decide), q_brn (show ¬ (nI 6).toInt = 3 by decide), q_brn (show ¬ (nI 6).toInt = 4 by decide), q_brn (show ¬ (nI 6).toInt = 5 by decide), q_br (show (nI 6).toInt = 6 by decide)]
        refine ⟨_, _, _, _, rfl, rfl, rfl, ?_⟩
        rw [e_M_plugOf, s_isPlug m2 a3, hb, q_onI_i, g_M_plugOf_5]
        simp only [q_onI_i, q_onJ_j, q_onS_s, q_onB_t, true_and, and_true, true_or, or_true, eq_self, true_implies, not_true_eq_false, not_false_eq_true, false_implies, q_bb0, q_bbok, q_bbok2, Bool.true_eq_false, Bool.false_eq_true, reduceCtorEq]
        rw [s_within0, show (7 : Int32).toInt + 1 = 8 by decide, hy, q_onI_i, g_M_plugOf_15]
        simp only [q_onI_i, q_onJ_j, q_onS_s, q_onB_t, true_and, and_true, true_or, or_true, eq_self, true_implies, not_true_eq_false, not_false_eq_true, false_implies, q_bb0, q_bbok, q_bbok2, Bool.true_eq_false, Bool.false_eq_true, reduceCtorEq]
        rw [q_br (show ((6 : Int32) ≤ nI 6) by decide), q_br (show nI 6 = (6 : Int32) by decide), s_strength (by omega), q_onI_i, g_M_plugOf_51, g_M_plugOf_61]
        exact ⟨by rw [bS, b0, b1, b3], _, _, _, rfl, q_J_next h⟩
      | 7, _ =>
        rw [q_brn (show ¬ (nI 7).toInt = 0 by decide), q_brn (show ¬ (nI 7).toInt = 1 by decide), q_brn (show ¬ (nI 7).toInt = 2 by decide), q_brn (show ¬ (nI 7).toInt = 3 by decide), q_brn (show ¬ (nI 7).toInt = 4 by decide), q_brn (show ¬ (nI 7).toInt = 5 by decide), q_brn (show ¬ (nI 7).toInt = 6 by decide), q_br (show (nI 7).toInt = 7 by decide)]
        refine ⟨_, _, _, _, rfl, rfl, rfl, ?_⟩
        rw [e_M_plugOf, s_isPlug m2 a3, hb, q_onI_i, g_M_plugOf_5]
        simp only [q_onI_i, q_onJ_j, q_onS_s, q_onB_t, true_and, and_true, true_or, or_true, eq_self, true_implies, not_true_eq_false, not_false_eq_true, false_implies, q_bb0, q_bbok, q_bbok2, Bool.true_eq_false, Bool.false_eq_true, reduceCtorEq]
        rw [s_within0, show (7 : Int32).toInt + 1 = 8 by decide, hy, q_onI_i, g_M_plugOf_15]
        simp only [q_onI_i, q_onJ_j, q_onS_s, q_onB_t, true_and, and_true, true_or, or_true, eq_self, true_implies, not_true_eq_false, not_false_eq_true, false_implies, q_bb0, q_bbok, q_bbok2, Bool.true_eq_false, Bool.false_eq_true, reduceCtorEq]
        rw [q_br (show ((6 : Int32) ≤ nI 7) by decide), q_brn (show ¬ nI 7 = (6 : Int32) by decide), show (6 : Int32) = nI 6 by decide, s_of (by omega), q_onI_i, g_M_plugOf_61]
        exact ⟨by rw [b5], _, _, _, rfl, q_J_next h⟩
      | k + 8, hk => exact absurd hk (by omega)
theorem t_hookOf {x y : Int32} (h : q_J c I J t) : q_SI 100 102 196 [.int x, .int y] (q_J (c + 1)) L I J t := by
  obtain ⟨n, hk, ⟨⟨a1, a2, a3, a4, a5, a6⟩, m2, m3, m4, m5⟩, h2, h3, h4, h5, h6, h7, h8⟩ := id h
  unfold q_SI
  rw [e_C_hookOf, a2, s_isBelow, nI_toInt (by omega), q_onI_i, g_C_hookOf_11]
  cases hb : q_in x hk with
  | false =>
    simp only [q_onI_i, q_onJ_j, q_onS_s, q_onB_t, true_and, and_true, true_or, or_true, eq_self, true_implies, not_true_eq_false, not_false_eq_true, false_implies, q_bb0, q_bbok, q_bbok2, Bool.true_eq_false, Bool.false_eq_true, reduceCtorEq, s_refuse5, g_C_hookOf_20]
    refine ⟨_, _, _, _, rfl, rfl, q_u_ne (by decide), ?_⟩
    rw [e_M_hookOf, q_u_ne (show (130 : Nat) ≠ 113 by decide), m3, s_within0, q_pred (by omega), hb, q_onI_i, g_M_hookOf_11]
    simp only [q_onI_i, q_onJ_j, q_onS_s, q_onB_t, true_and, and_true, true_or, or_true, eq_self, true_implies, not_true_eq_false, not_false_eq_true, false_implies, q_bb0, q_bbok, q_bbok2, Bool.true_eq_false, Bool.false_eq_true, reduceCtorEq, s_no5, g_M_hookOf_29]
    exact ⟨_, _, _, rfl, q_J_refuse 5 h⟩
  | true =>
    obtain ⟨p, hp, rfl⟩ := q_in_get hb
    obtain ⟨⟨b0, b1, b2, b3, b4⟩, -⟩ := a6 p hp
    simp only [q_onI_i, q_onJ_j, q_onS_s, q_onB_t, true_and, and_true, true_or, or_true, eq_self, true_implies, not_true_eq_false, not_false_eq_true, false_implies, q_bb0, q_bbok, q_bbok2, Bool.true_eq_false, Bool.false_eq_true, reduceCtorEq, q_clamp (show p < 2 ^ 31 by omega), q_bnd (show p < 24 by omega) (by decide), r_hook (show p < 24 by omega), i_hook (show p < 24 by omega)]
    cases hy : q_in y 5 with
    | false =>
      rw [q_brn (q_ne_in hy (by decide) (show (0 : Int) < 5 by decide)), q_brn (q_ne_in hy (by decide) (show (1 : Int) < 5 by decide)), q_brn (q_ne_in hy (by decide) (show (2 : Int) < 5 by decide)), q_brn (q_ne_in hy (by decide) (show (3 : Int) < 5 by decide)), q_brn (q_ne_in hy (by decide) (show (4 : Int) < 5 by decide)), s_refuse5, q_onI_i, g_C_hookOf_105]
      refine ⟨_, _, _, _, rfl, rfl, q_u_ne (by decide), ?_⟩
      rw [e_M_hookOf, q_u_ne (show (130 : Nat) ≠ 113 by decide), m3, s_within0, q_pred (by omega), hb, q_onI_i, g_M_hookOf_11]
      simp only [q_onI_i, q_onJ_j, q_onS_s, q_onB_t, true_and, and_true, true_or, or_true, eq_self, true_implies, not_true_eq_false, not_false_eq_true, false_implies, q_bb0, q_bbok, q_bbok2, Bool.true_eq_false, Bool.false_eq_true, reduceCtorEq]
      rw [s_within0, show (4 : Int32).toInt + 1 = 5 by decide, hy, q_onI_i, g_M_hookOf_20]
      simp only [q_onI_i, q_onJ_j, q_onS_s, q_onB_t, true_and, and_true, true_or, or_true, eq_self, true_implies, not_true_eq_false, not_false_eq_true, false_implies, q_bb0, q_bbok, q_bbok2, Bool.true_eq_false, Bool.false_eq_true, reduceCtorEq, s_no5, g_M_hookOf_29]
      exact ⟨_, _, _, rfl, q_J_refuse 5 h⟩
    | true =>
      obtain ⟨k, hk8, rfl⟩ := q_in_get (n := 5) hy
      match k, hk8 with
      | 0, _ =>
        rw [q_br (show (nI 0).toInt = 0 by decide)]
        refine ⟨_, _, _, _, rfl, rfl, rfl, ?_⟩
        rw [e_M_hookOf, m3, s_within0, q_pred (by omega), hb, q_onI_i, g_M_hookOf_11]
        simp only [q_onI_i, q_onJ_j, q_onS_s, q_onB_t, true_and, and_true, true_or, or_true, eq_self, true_implies, not_true_eq_false, not_false_eq_true, false_implies, q_bb0, q_bbok, q_bbok2, Bool.true_eq_false, Bool.false_eq_true, reduceCtorEq]
        rw [s_within0, show (4 : Int32).toInt + 1 = 5 by decide, hy, q_onI_i, g_M_hookOf_20]
        simp only [q_onI_i, q_onJ_j, q_onS_s, q_onB_t, true_and, and_true, true_or, or_true, eq_self, true_implies, not_true_eq_false, not_false_eq_true, false_implies, q_bb0, q_bbok, q_bbok2, Bool.true_eq_false, Bool.false_eq_true, reduceCtorEq]
        rw [s_hk (by omega), q_onI_i, g_M_hookOf_36]
        rw [q_brn (show ¬ nI 0 = (2 : Int32) by decide), q_brn (show ¬ nI 0 = (4 : Int32) by decide)]
        exact ⟨by rw [b0]; try simp, _, _, _, rfl, q_J_next h⟩
      | 1, _ =>
        rw [q_brn (show ¬ (nI 1).toInt = 0 by decide), q_br (show (nI 1).toInt = 1 by decide)]
        refine ⟨_, _, _, _, rfl, rfl, rfl, ?_⟩
        rw [e_M_hookOf, m3, s_within0, q_pred (by omega), hb, q_onI_i, g_M_hookOf_11]
        simp only [q_onI_i, q_onJ_j, q_onS_s, q_onB_t, true_and, and_true, true_or, or_true, eq_self, true_implies, not_true_eq_false, not_false_eq_true, false_implies, q_bb0, q_bbok, q_bbok2, Bool.true_eq_false, Bool.false_eq_true, reduceCtorEq]
        rw [s_within0, show (4 : Int32).toInt + 1 = 5 by decide, hy, q_onI_i, g_M_hookOf_20]
        simp only [q_onI_i, q_onJ_j, q_onS_s, q_onB_t, true_and, and_true, true_or, or_true, eq_self, true_implies, not_true_eq_false, not_false_eq_true, false_implies, q_bb0, q_bbok, q_bbok2, Bool.true_eq_false, Bool.false_eq_true, reduceCtorEq]
        rw [s_hk (by omega), q_onI_i, g_M_hookOf_36]
        rw [q_brn (show ¬ nI 1 = (2 : Int32) by decide), q_brn (show ¬ nI 1 = (4 : Int32) by decide)]
        exact ⟨by rw [b1]; try simp, _, _, _, rfl, q_J_next h⟩
      | 2, _ =>
        rw [q_brn (show ¬ (nI 2).toInt = 0 by decide), q_brn (show ¬ (nI 2).toInt = 1 by decide), q_br (show (nI 2).toInt = 2 by decide)]
        refine ⟨_, _, _, _, rfl, rfl, rfl, ?_⟩
        rw [e_M_hookOf, m3, s_within0, q_pred (by omega), hb, q_onI_i, g_M_hookOf_11]
        simp only [q_onI_i, q_onJ_j, q_onS_s, q_onB_t, true_and, and_true, true_or, or_true, eq_self, true_implies, not_true_eq_false, not_false_eq_true, false_implies, q_bb0, q_bbok, q_bbok2, Bool.true_eq_false, Bool.false_eq_true, reduceCtorEq]
        rw [s_within0, show (4 : Int32).toInt + 1 = 5 by decide, hy, q_onI_i, g_M_hookOf_20]
        simp only [q_onI_i, q_onJ_j, q_onS_s, q_onB_t, true_and, and_true, true_or, or_true, eq_self, true_implies, not_true_eq_false, not_false_eq_true, false_implies, q_bb0, q_bbok, q_bbok2, Bool.true_eq_false, Bool.false_eq_true, reduceCtorEq]
        rw [s_hk (by omega), q_onI_i, g_M_hookOf_36]
        rw [q_br (show nI 2 = (2 : Int32) by decide)]
        exact ⟨by rw [b2]; try simp, _, _, _, rfl, q_J_next h⟩
      | 3, _ =>
        rw [q_brn (show ¬ (nI 3).toInt = 0 by decide), q_brn (show ¬ (nI 3).toInt = 1 by decide), q_brn (show ¬ (nI 3).toInt = 2 by decide), q_br (show (nI 3).toInt = 3 by decide)]
        refine ⟨_, _, _, _, rfl, rfl, rfl, ?_⟩
        rw [e_M_hookOf, m3, s_within0, q_pred (by omega), hb, q_onI_i, g_M_hookOf_11]
        simp only [q_onI_i, q_onJ_j, q_onS_s, q_onB_t, true_and, and_true, true_or, or_true, eq_self, true_implies, not_true_eq_false, not_false_eq_true, false_implies, q_bb0, q_bbok, q_bbok2, Bool.true_eq_false, Bool.false_eq_true, reduceCtorEq]
        rw [s_within0, show (4 : Int32).toInt + 1 = 5 by decide, hy, q_onI_i, g_M_hookOf_20]
        simp only [q_onI_i, q_onJ_j, q_onS_s, q_onB_t, true_and, and_true, true_or, or_true, eq_self, true_implies, not_true_eq_false, not_false_eq_true, false_implies, q_bb0, q_bbok, q_bbok2, Bool.true_eq_false, Bool.false_eq_true, reduceCtorEq]
        rw [s_hk (by omega), q_onI_i, g_M_hookOf_36]
        rw [q_brn (show ¬ nI 3 = (2 : Int32) by decide), q_brn (show ¬ nI 3 = (4 : Int32) by decide)]
        exact ⟨by rw [b3]; try simp, _, _, _, rfl, q_J_next h⟩
      | 4, _ =>
        rw [q_brn (show ¬ (nI 4).toInt = 0 by decide), q_brn (show ¬ (nI 4).toInt = 1 by decide), q_brn (show ¬ (nI 4).toInt = 2 by decide), q_brn (show ¬ (nI 4).toInt = 3 by decide), q_br (show (nI 4).toInt = 4 by decide)]
        refine ⟨_, _, _, _, rfl, rfl, rfl, ?_⟩
        rw [e_M_hookOf, m3, s_within0, q_pred (by omega), hb, q_onI_i, g_M_hookOf_11]
        simp only [q_onI_i, q_onJ_j, q_onS_s, q_onB_t, true_and, and_true, true_or, or_true, eq_self, true_implies, not_true_eq_false, not_false_eq_true, false_implies, q_bb0, q_bbok, q_bbok2, Bool.true_eq_false, Bool.false_eq_true, reduceCtorEq]
        rw [s_within0, show (4 : Int32).toInt + 1 = 5 by decide, hy, q_onI_i, g_M_hookOf_20]
        simp only [q_onI_i, q_onJ_j, q_onS_s, q_onB_t, true_and, and_true, true_or, or_true, eq_self, true_implies, not_true_eq_false, not_false_eq_true, false_implies, q_bb0, q_bbok, q_bbok2, Bool.true_eq_false, Bool.false_eq_true, reduceCtorEq]
        rw [s_hk (by omega), q_onI_i, g_M_hookOf_36]
        rw [q_brn (show ¬ nI 4 = (2 : Int32) by decide), q_br (show nI 4 = (4 : Int32) by decide)]
        exact ⟨by rw [b4]; try simp, _, _, _, rfl, q_J_next h⟩
      | k + 5, hk => exact absurd hk (by omega)
theorem t_trace {x : Int32} (h : q_J c I J t) : q_SI 100 110 211 [.int x] (q_J (c + 1)) L I J t := by
  obtain ⟨n, hk, m, h2, h3, h4, ⟨r, r1, r2, r3, r4, r5⟩, h6, h7, h8⟩ := id h
  have e1 : (if (30 : Int32) < I 86 5 then (30 : Int32) else I 86 5) = nI (min r 30) := by
    rw [r2, show (30 : Int32) = nI 30 by decide]
    simp only [q_ltN (show 30 < 2 ^ 31 by decide) (show r < 2 ^ 31 by omega)]
    by_cases hr : 30 < r
    · rw [if_pos hr, Nat.min_eq_right (by omega)]
    · rw [if_neg hr, Nat.min_eq_left (by omega)]
  have e2 : (if I 130 30 < (30 : Int32) then I 130 30 else (30 : Int32)) = nI (min r 30) := by
    rw [r3, show (30 : Int32) = nI 30 by decide]
    simp only [q_ltN (show r < 2 ^ 31 by omega) (show 30 < 2 ^ 31 by decide)]
    by_cases hr : r < 30
    · rw [if_pos hr, Nat.min_eq_left (by omega)]
    · rw [if_neg hr, Nat.min_eq_right (by omega)]
  unfold q_SI
  rw [e_C_trace, e1, s_isBelow, nI_toInt (by omega), q_onI_i, g_C_trace_16]
  cases hb : q_in x ((min r 30 : Nat) : Int) with
  | false =>
    simp only [q_onI_i, q_onJ_j, q_onS_s, q_onB_t, true_and, and_true, true_or, or_true, eq_self, true_implies, not_true_eq_false, not_false_eq_true, false_implies, q_bb0, q_bbok, q_bbok2, Bool.true_eq_false, Bool.false_eq_true, reduceCtorEq]
    refine ⟨_, _, _, _, rfl, rfl, rfl, ?_⟩
    rw [e_M_trace, e2, s_within0, q_pred (by omega), hb, q_onI_i, g_M_trace_16]
    simp only [q_onI_i, q_onJ_j, q_onS_s, q_onB_t, true_and, and_true, true_or, or_true, eq_self, true_implies, not_true_eq_false, not_false_eq_true, false_implies, q_bb0, q_bbok, q_bbok2, Bool.true_eq_false, Bool.false_eq_true, reduceCtorEq]
    exact ⟨_, _, _, rfl, q_J_next h⟩
  | true =>
    obtain ⟨p, hp, rfl⟩ := q_in_get hb
    simp only [q_onI_i, q_onJ_j, q_onS_s, q_onB_t, true_and, and_true, true_or, or_true, eq_self, true_implies, not_true_eq_false, not_false_eq_true, false_implies, q_bb0, q_bbok, q_bbok2, Bool.true_eq_false, Bool.false_eq_true, reduceCtorEq, q_clamp (show p < 2 ^ 31 by omega), q_bnd (show p < 30 by omega) (by decide)]
    refine ⟨_, _, _, _, rfl, rfl, rfl, ?_⟩
    rw [e_M_trace, e2, s_within0, q_pred (by omega), hb, q_onI_i, g_M_trace_16]
    simp only [q_onI_i, q_onJ_j, q_onS_s, q_onB_t, true_and, and_true, true_or, or_true, eq_self, true_implies, not_true_eq_false, not_false_eq_true, false_implies, q_bb0, q_bbok, q_bbok2, Bool.true_eq_false, Bool.false_eq_true, reduceCtorEq, q_clamp (show p < 2 ^ 31 by omega), q_bnd (show p < 30 by omega) (by decide)]
    exact ⟨by rw [r5 p (by omega) (by omega)], _, _, _, rfl, q_J_next h⟩
theorem t_cause {x y : Int32} (h : q_J c I J t) : q_SI 100 93 183 [.int x, .int y] (q_J (c + 1)) L I J t := by
  obtain ⟨n, hk, m, h2, ⟨cc, c1, c2, c3, c4⟩, h4, h5, h6, h7, h8⟩ := id h
  unfold q_SI
  rw [e_C_cause, c2, s_isBelow, nI_toInt (by omega), q_onI_i, g_C_cause_8]
  cases hb : q_in x cc with
  | false =>
    simp only [q_onI_i, q_onJ_j, q_onS_s, q_onB_t, true_and, and_true, true_or, or_true, eq_self, true_implies, not_true_eq_false, not_false_eq_true, false_implies, q_bb0, q_bbok, q_bbok2, Bool.true_eq_false, Bool.false_eq_true, reduceCtorEq, s_refuse5, g_C_cause_25]
    refine ⟨_, _, _, _, rfl, rfl, q_u_ne (by decide), ?_⟩
    rw [e_M_cause, q_u_ne (show (130 : Nat) ≠ 113 by decide), c3, s_within0, q_pred (by omega), hb, q_onI_i, g_M_cause_11]
    simp only [q_onI_i, q_onJ_j, q_onS_s, q_onB_t, true_and, and_true, true_or, or_true, eq_self, true_implies, not_true_eq_false, not_false_eq_true, false_implies, q_bb0, q_bbok, q_bbok2, Bool.true_eq_false, Bool.false_eq_true, reduceCtorEq, s_no5, g_M_cause_29]
    exact ⟨_, _, _, rfl, q_J_refuse 5 h⟩
  | true =>
    obtain ⟨p, hp, rfl⟩ := q_in_get hb
    simp only [q_onI_i, q_onJ_j, q_onS_s, q_onB_t, true_and, and_true, true_or, or_true, eq_self, true_implies, not_true_eq_false, not_false_eq_true, false_implies, q_bb0, q_bbok, q_bbok2, Bool.true_eq_false, Bool.false_eq_true, reduceCtorEq]
    rw [s_isBelow, show (3 : Int32).toInt = 3 by decide, q_onI_i, g_C_cause_16]
    cases hy : q_in y 3 with
    | false =>
      simp only [q_onI_i, q_onJ_j, q_onS_s, q_onB_t, true_and, and_true, true_or, or_true, eq_self, true_implies, not_true_eq_false, not_false_eq_true, false_implies, q_bb0, q_bbok, q_bbok2, Bool.true_eq_false, Bool.false_eq_true, reduceCtorEq, s_refuse5, g_C_cause_25]
      refine ⟨_, _, _, _, rfl, rfl, q_u_ne (by decide), ?_⟩
      rw [e_M_cause, q_u_ne (show (130 : Nat) ≠ 113 by decide), c3, s_within0, q_pred (by omega), hb, q_onI_i, g_M_cause_11]
      simp only [q_onI_i, q_onJ_j, q_onS_s, q_onB_t, true_and, and_true, true_or, or_true, eq_self, true_implies, not_true_eq_false, not_false_eq_true, false_implies, q_bb0, q_bbok, q_bbok2, Bool.true_eq_false, Bool.false_eq_true, reduceCtorEq]
      rw [s_within0, show (2 : Int32).toInt + 1 = 3 by decide, hy, q_onI_i, g_M_cause_20]
      simp only [q_onI_i, q_onJ_j, q_onS_s, q_onB_t, true_and, and_true, true_or, or_true, eq_self, true_implies, not_true_eq_false, not_false_eq_true, false_implies, q_bb0, q_bbok, q_bbok2, Bool.true_eq_false, Bool.false_eq_true, reduceCtorEq, s_no5, g_M_cause_29]
      exact ⟨_, _, _, rfl, q_J_refuse 5 h⟩
    | true =>
      obtain ⟨k, hk8, rfl⟩ := q_in_get (n := 3) hy
      have ei : (3 : Int32) * nI p + nI k = nI (3 * p + k) := by rw [show (3 : Int32) = nI 3 by decide, q_mul, q_add]
      have es : nI cc - 1 - nI p = nI (cc - 1 - p) := by
        apply Int32.toInt_inj.mp
        have e0 : (nI cc - 1).toInt = (cc : Int) - 1 := by have := q_pred (n := cc) (by omega); omega
        rw [Int32.toInt_sub, e0, nI_toInt (by omega), nI_toInt (by omega), Int.bmod_eq_of_le (by omega) (by omega)]
        omega
      have ej : (3 : Int32) * (nI cc - 1 - nI p) + nI k = nI (3 * (cc - 1 - p) + k) := by rw [es, show (3 : Int32) = nI 3 by decide, q_mul, q_add]
      simp only [q_onI_i, q_onJ_j, q_onS_s, q_onB_t, true_and, and_true, true_or, or_true, eq_self, true_implies, not_true_eq_false, not_false_eq_true, false_implies, q_bb0, q_bbok, q_bbok2, Bool.true_eq_false, Bool.false_eq_true, reduceCtorEq, ei, q_clamp (show 3 * p + k < 2 ^ 31 by omega), q_bnd (show 3 * p + k < 36 by omega) (by decide)]
      refine ⟨_, _, _, _, rfl, rfl, rfl, ?_⟩
      rw [e_M_cause, c3, s_within0, q_pred (by omega), hb, q_onI_i, g_M_cause_11]
      simp only [q_onI_i, q_onJ_j, q_onS_s, q_onB_t, true_and, and_true, true_or, or_true, eq_self, true_implies, not_true_eq_false, not_false_eq_true, false_implies, q_bb0, q_bbok, q_bbok2, Bool.true_eq_false, Bool.false_eq_true, reduceCtorEq]
      rw [s_within0, show (2 : Int32).toInt + 1 = 3 by decide, hy, q_onI_i, g_M_cause_20, c3]
      simp only [q_onI_i, q_onJ_j, q_onS_s, q_onB_t, true_and, and_true, true_or, or_true, eq_self, true_implies, not_true_eq_false, not_false_eq_true, false_implies, q_bb0, q_bbok, q_bbok2, Bool.true_eq_false, Bool.false_eq_true, reduceCtorEq, ej, q_clamp (show 3 * (cc - 1 - p) + k < 2 ^ 31 by omega), q_bnd (show 3 * (cc - 1 - p) + k < 36 by omega) (by decide)]
      exact ⟨by rw [c4 p hp k hk8], _, _, _, rfl, q_J_next h⟩
end OPS2
