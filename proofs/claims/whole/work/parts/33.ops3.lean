/-! calls on shelves -/
theorem q_nI_m1 {k : Nat} (hk : k < 2 ^ 31) : (nI k = -1) = False := by
  apply eq_false
  intro h
  have h1 := congrArg Int32.toInt h
  rw [nI_toInt hk, show (-1 : Int32).toInt = -1 by decide] at h1
  omega
theorem q_nI_lt0 {k : Nat} (hk : k < 2 ^ 31) : (nI k < 0) = False := eq_false (nI_pos hk)
theorem q_nI_ge0 {k : Nat} (hk : k < 2 ^ 31) : (0 ≤ nI k) = True := eq_true (nI_pos' hk)
theorem q_nI_lt {k : Nat} (hk : k < 2 ^ 31) : (nI k < 100) = (k < 100) := by rw [show (100 : Int32) = nI 100 by decide, q_ltN hk (by decide)]
theorem s_noRow {L d : Nat} {Q : Value → q_Mem → Prop} {I : Nat → Nat → Int32} {J : Nat → Nat → Int64} {t : Nat} {n : Nat} {x : Int32} {J0 : Nat → Nat → Int64} (h12 : n ≤ 12) (hv : v_shelves I J0 n) : q_W (d + 2) 146 [.ref 130, .int x] (q_mm L I J t) Q = Q (.int (q_rp I x)) (q_mm L I J t) := by
  rw [e_M_noRow, s_within0, show (7 : Int32).toInt + 1 = 8 by decide, q_onI_i, g_M_noRow_7]
  unfold q_rp
  cases hb : q_in x 8 with
  | false => simp only [q_onI_i, q_onJ_j, q_onS_s, q_onB_t, true_and, and_true, true_or, or_true, eq_self, true_implies, not_true_eq_false, not_false_eq_true, false_implies, q_bb0, q_bbok, q_bbok2, Bool.true_eq_false, Bool.false_eq_true, reduceCtorEq]
  | true =>
    obtain ⟨s, hs, rfl⟩ := q_in_get (n := 8) hb
    simp only [q_onI_i, q_onJ_j, q_onS_s, q_onB_t, true_and, and_true, true_or, or_true, eq_self, true_implies, not_true_eq_false, not_false_eq_true, false_implies, q_bb0, q_bbok, q_bbok2, Bool.true_eq_false, Bool.false_eq_true, reduceCtorEq, q_clamp (show s < 2 ^ 31 by omega), q_bnd hs (by decide), s_isRow hs, g_M_noRow_26]
    rcases hv s hs with ⟨a1, a2, a3⟩ | ⟨q, len, b1, b2, b3, b4, b5, b6, b7, b8⟩ | ⟨p, c1, c2, c3, c4⟩
    · rw [a1, a2, a3]
      simp
    · rw [b3, b5, b6]
      simp [q_nI_m1 (show q < 2 ^ 31 by omega), q_nI_lt0 (show 100 + q < 2 ^ 31 by omega), q_nI_lt (show 100 + q < 2 ^ 31 by omega), q_nI_ge0 (show 100 + q < 2 ^ 31 by omega)]
    · rw [c2, c3, c4]
      simp [q_nI_m1 (show p < 2 ^ 31 by omega), q_nI_lt0 (show p < 2 ^ 31 by omega), q_nI_lt (show p < 2 ^ 31 by omega), show p < 100 by omega]
/-- what a shelf may be -/
theorem q_rp_cases {I : Nat → Nat → Int32} {J : Nat → Nat → Int64} {n : Nat} (h12 : n ≤ 12) (hv : v_shelves I J n) (x : Int32) : (q_in x 8 = false ∧ q_rp I x = -1) ∨ ∃ s, s < 8 ∧ x = nI s ∧ q_in x 8 = true ∧ (q_rp I x = -3 ∨ q_rp I x = -2 ∨ (q_rp I x = 0 ∧ ∃ q len, q < 4 ∧ len ≤ 160 ∧ I (114 + 2 * s) 1 = nI q ∧ I (114 + 2 * s) 2 = nI len ∧ I (114 + 2 * s) 3 = -1 ∧ I 133 s = nI (100 + q) ∧ I 134 s = nI len ∧ ∀ i, i < 160 → J (115 + 2 * s) i = J 135 (160 * s + i))) := by
  unfold q_rp
  cases hb : q_in x 8 with
  | false => exact Or.inl ⟨rfl, rfl⟩
  | true =>
    obtain ⟨s, hs, rfl⟩ := q_in_get (n := 8) hb
    refine Or.inr ⟨s, hs, rfl, rfl, ?_⟩
    dsimp only
    rw [q_clamp (show s < 2 ^ 31 by omega)]
    rcases hv s hs with ⟨a1, a2, a3⟩ | ⟨q, len, b1, b2, b3, b4, b5, b6, b7, b8⟩ | ⟨p, c1, c2, c3, c4⟩
    · rw [a1, a2]
      exact Or.inl (by simp)
    · refine Or.inr (Or.inr ⟨?_, q, len, b1, b2, b3, b4, b5, b6, b7, b8⟩)
      rw [b3, b5]
      simp [q_nI_m1 (show q < 2 ^ 31 by omega)]
    · refine Or.inr (Or.inl ?_)
      rw [c3]
      simp [q_nI_m1 (show p < 2 ^ 31 by omega)]
section OPS3
variable {L c : Nat} {I : Nat → Nat → Int32} {J : Nat → Nat → Int64} {t : Nat}
theorem t_seed {x : Int32} (h : q_J c I J t) : q_SI 100 113 216 [.int x] (q_J (c + 1)) L I J t := by
  obtain ⟨n, hk, ⟨⟨a1, a2, a3, a4, a5, a6⟩, m2, m3, m4, m5⟩, hr⟩ := q_J_next h
  unfold q_SI
  rw [e_C_seed]
  refine ⟨_, _, _, _, rfl, rfl, q_u_ne (by decide), ?_⟩
  rw [e_M_seed]
  refine ⟨by rw [m5, q_u_ne (by decide)], _, _, _, rfl, n, hk, ⟨⟨?_, ?_, a3, a4, fun p hp => v_plug_congr ?_ ?_ (a5 p hp), fun i hi => v_hook_congr ?_ ?_ (a6 i hi)⟩, ?_, ?_, ?_, ?_⟩, v_rest_congr (Nat.le_refl n) (fun o ho => ?_) ?_ hr⟩
  · rw [q_u_ne (by decide), q_u_nk (by decide)]; exact a1
  · rw [q_u_ne (by decide), q_u_nk (by decide)]; exact a2
  · rw [q_u_ne (by omega), q_u_ne (by omega)]
  · rw [q_u_ne (by decide), q_u_ne (by decide)]
  · rw [q_u_ne (by omega), q_u_ne (by omega)]
  · rw [q_u_ne (by decide), q_u_ne (by decide)]
  · rw [q_u_nk (by decide), q_u_ne (by decide)]; exact m2
  · rw [q_u_nk (by decide), q_u_ne (by decide)]; exact m3
  · rw [q_u_ne (show (3 : Nat) ≠ 130 by decide), q_u_nk (show (4 : Nat) ≠ 5 by decide), q_u_nk (show (2 : Nat) ≠ 3 by decide), q_u_ne (show (130 : Nat) ≠ 3 by decide)]; exact m4
  · rw [q_u_ne (show (3 : Nat) ≠ 130 by decide), q_u_eq, q_u_eq]
  · rw [q_u_ne (fun e => by subst e; cases ho), q_u_ne (fun e => by subst e; cases ho)]
  · refine ⟨?_, ?_, ?_, ?_, ?_, ?_, ?_⟩ <;> rw [q_u_nk (by decide), q_u_ne (by decide)]
theorem t_holds {x : Int32} (h : q_J c I J t) : q_SI 100 83 151 [.int x] (q_J (c + 1)) L I J t := by
  obtain ⟨n, hk, ⟨⟨a1, a2, a3, a4, a5, a6⟩, m2, m3, m4, m5⟩, h2, h3, h4, h5, h6, h7, h8⟩ := id h
  unfold q_SI
  rw [e_C_holds, s_isShelf, q_onI_i, g_C_holds_4]
  cases hb : q_in x 8 with
  | false =>
    simp only [q_onI_i, q_onJ_j, q_onS_s, q_onB_t, true_and, and_true, true_or, or_true, eq_self, true_implies, not_true_eq_false, not_false_eq_true, false_implies, q_bb0, q_bbok, q_bbok2, Bool.true_eq_false, Bool.false_eq_true, reduceCtorEq]
    refine ⟨_, _, _, _, rfl, rfl, rfl, ?_⟩
    rw [e_M_holds, s_within0, show (7 : Int32).toInt + 1 = 8 by decide, hb, q_onI_i, g_M_holds_7]
    simp only [q_onI_i, q_onJ_j, q_onS_s, q_onB_t, true_and, and_true, true_or, or_true, eq_self, true_implies, not_true_eq_false, not_false_eq_true, false_implies, q_bb0, q_bbok, q_bbok2, Bool.true_eq_false, Bool.false_eq_true, reduceCtorEq]
    exact ⟨_, _, _, rfl, q_J_next h⟩
  | true =>
    obtain ⟨s, hs, rfl⟩ := q_in_get (n := 8) hb
    simp only [q_onI_i, q_onJ_j, q_onS_s, q_onB_t, true_and, and_true, true_or, or_true, eq_self, true_implies, not_true_eq_false, not_false_eq_true, false_implies, q_bb0, q_bbok, q_bbok2, Bool.true_eq_false, Bool.false_eq_true, reduceCtorEq, q_clamp (show s < 2 ^ 31 by omega), q_bnd hs (by decide), r_shelf hs, i_shelf hs, s_hasRow (i_shelf hs), g_C_holds_20]
    have key : (if I (114 + 2 * s) 1 = -1 then I (114 + 2 * s) 3 else (100 : Int32) + I (114 + 2 * s) 1) = I 133 s := by
      rcases h2 s hs with ⟨a1, a2, a3⟩ | ⟨q, len, b1, b2, b3, b4, b5, b6, b7, b8⟩ | ⟨p, c1, c2, c3, c4⟩
      · rw [if_pos a1, a2, a3]
      · rw [b3, if_neg (by rw [q_nI_m1 (show q < 2 ^ 31 by omega)]; exact fun z => z), b6, show (100 : Int32) = nI 100 by decide, q_add]
      · rw [if_pos c2, c3, c4]
    by_cases hr : I (114 + 2 * s) 1 = -1
    · rw [if_pos hr] at key
      simp only [hr, q_onI_i, q_onJ_j, q_onS_s, q_onB_t, true_and, and_true, true_or, or_true, eq_self, true_implies, not_true_eq_false, not_false_eq_true, false_implies, q_bb0, q_bbok, q_bbok2, Bool.true_eq_false, Bool.false_eq_true, reduceCtorEq, decide_true, decide_false, Bool.not_true]
      refine ⟨_, _, _, _, rfl, rfl, rfl, ?_⟩
      rw [e_M_holds, s_within0, show (7 : Int32).toInt + 1 = 8 by decide, hb, q_onI_i, g_M_holds_7]
      simp only [q_onI_i, q_onJ_j, q_onS_s, q_onB_t, true_and, and_true, true_or, or_true, eq_self, true_implies, not_true_eq_false, not_false_eq_true, false_implies, q_bb0, q_bbok, q_bbok2, Bool.true_eq_false, Bool.false_eq_true, reduceCtorEq, q_clamp (show s < 2 ^ 31 by omega), q_bnd hs (by decide)]
      exact ⟨by rw [key], _, _, _, rfl, q_J_next h⟩
    · rw [if_neg hr] at key
      simp only [hr, q_onI_i, q_onJ_j, q_onS_s, q_onB_t, true_and, and_true, true_or, or_true, eq_self, true_implies, not_true_eq_false, not_false_eq_true, false_implies, q_bb0, q_bbok, q_bbok2, Bool.true_eq_false, Bool.false_eq_true, reduceCtorEq, decide_true, decide_false, Bool.not_true]
      refine ⟨_, _, _, _, rfl, rfl, rfl, ?_⟩
      rw [e_M_holds, s_within0, show (7 : Int32).toInt + 1 = 8 by decide, hb, q_onI_i, g_M_holds_7]
      simp only [q_onI_i, q_onJ_j, q_onS_s, q_onB_t, true_and, and_true, true_or, or_true, eq_self, true_implies, not_true_eq_false, not_false_eq_true, false_implies, q_bb0, q_bbok, q_bbok2, Bool.true_eq_false, Bool.false_eq_true, reduceCtorEq, q_clamp (show s < 2 ^ 31 by omega), q_bnd hs (by decide)]
      exact ⟨by rw [key], _, _, _, rfl, q_J_next h⟩
end OPS3
