/-! element, set, show -/
def q_nar (q : Nat) (y : Int64) : Int64 := if q = 0 then y.toInt32.toInt8.toInt32.toInt64 else if q = 1 then y.toInt32.toInt16.toInt32.toInt64 else if q = 2 then y.toInt32.toInt64 else y
theorem s_narrowed {L d : Nat} {Q : Value → q_Mem → Prop} {I : Nat → Nat → Int32} {J : Nat → Nat → Int64} {t : Nat} {o q : Nat} {y : Int64} (ho : q_isO (q_SH L) o 6 = true) (hq : q < 4) (hs : I o 1 = nI q) : q_W (d + 1) 56 [.ref o, .long y] (q_mm L I J t) Q = Q (.long (q_nar q y)) (q_mm L I J t) := by
  rw [e_Shelf_narrowed, ho, q_onB_t, hs]
  match q, hq with
  | 0, _ => rw [q_br (show (nI 0).toInt = 0 by decide)]; rfl
  | 1, _ => rw [q_brn (show ¬ (nI 1).toInt = 0 by decide), q_br (show (nI 1).toInt = 1 by decide)]; rfl
  | 2, _ => rw [q_brn (show ¬ (nI 2).toInt = 0 by decide), q_brn (show ¬ (nI 2).toInt = 1 by decide), q_br (show (nI 2).toInt = 2 by decide)]; rfl
  | 3, _ => rw [q_brn (show ¬ (nI 3).toInt = 0 by decide), q_brn (show ¬ (nI 3).toInt = 1 by decide), q_brn (show ¬ (nI 3).toInt = 2 by decide)]; rfl
  | q + 4, h => exact absurd h (by omega)
theorem s_put {L d : Nat} {Q : Value → q_Mem → Prop} {I : Nat → Nat → Int32} {J : Nat → Nat → Int64} {t : Nat} {s q len k : Nat} {y : Int64} (hs : s < 8) (hq : q < 4) (h1 : I (114 + 2 * s) 1 = nI q) (h2 : I (114 + 2 * s) 2 = nI len) (hl : len ≤ 160) (hk : k < len) : q_W (d + 2) 55 [.ref (114 + 2 * s), .int (nI k), .long y] (q_mm L I J t) Q = Q .null (q_mm L I (q_u8 J (115 + 2 * s) k (q_nar q y)) t) := by
  rw [e_Shelf_put, i_shelf hs, q_onB_t, s_hasElement (i_shelf hs), h2, nI_toInt (by omega), q_in_nI (by omega), decide_eq_true hk, q_onI_i, g_Shelf_put_5]
  simp only [q_onI_i, q_onJ_j, q_onS_s, q_onB_t, true_and, and_true, true_or, or_true, eq_self, true_implies, not_true_eq_false, not_false_eq_true, false_implies, q_bb0, q_bbok, q_bbok2, Bool.true_eq_false, Bool.false_eq_true, reduceCtorEq, i_shelf hs, r_row hs, s_narrowed (i_shelf hs) hq h1, g_Shelf_put_18, a_row hs, q_clamp (show k < 2 ^ 31 by omega), q_bnd (show k < 160 by omega) (by decide)]
section OPS4
variable {L c : Nat} {I : Nat → Nat → Int32} {J : Nat → Nat → Int64} {t : Nat}
theorem q_160 {s k : Nat} : (160 : Int32) * nI s + nI k = nI (160 * s + k) := by rw [show (160 : Int32) = nI 160 by decide, q_mul, q_add]
theorem t_element {x y : Int32} (h : q_J c I J t) : q_SL 100 81 149 [.int x, .int y] (q_J (c + 1)) L I J t := by
  obtain ⟨n, hk, ⟨⟨a1, a2, a3, a4, a5, a6⟩, m2, m3, m4, m5⟩, h2, h3, h4, h5, h6, h7, h8⟩ := id h
  unfold q_SL
  rw [e_C_element, s_rowProblem, q_onI_i, g_C_element_5]
  rcases q_rp_cases a3 h2 x with ⟨hb, hr⟩ | ⟨s, hs, rfl, hb, hr⟩
  · rw [hr, q_brn (by decide)]
    refine ⟨_, _, _, _, rfl, rfl, rfl, ?_⟩
    rw [e_M_element, s_within0, show (7 : Int32).toInt + 1 = 8 by decide, hb, q_onI_i, g_M_element_7]
    simp only [q_onI_i, q_onJ_j, q_onS_s, q_onB_t, true_and, and_true, true_or, or_true, eq_self, true_implies, not_true_eq_false, not_false_eq_true, false_implies, q_bb0, q_bbok, q_bbok2, Bool.true_eq_false, Bool.false_eq_true, reduceCtorEq]
    exact ⟨_, _, _, rfl, q_J_next h⟩
  · have hM : ∀ Q' : Value → q_Mem → Prop, q_W 100 149 [.ref 130, .int (nI s), .int y] (q_mm L I J t) Q' = ((decide (¬ I 133 s < 100) = false → Q' (.long 0) (q_mm L I J t)) ∧ (¬ decide (¬ I 133 s < 100) = false → q_X (q_W 99) (fun v μ' _ _ => Q' v μ') 149 (31, [some (.ref 130), some (.int (nI s)), some (.int y)], [.int (q_bb (q_in y ((I 134 s - 1).toInt + 1)))], (q_mm L I J t), 0, 0))) := by
      intro Q'
      rw [e_M_element, s_within0, show (7 : Int32).toInt + 1 = 8 by decide, hb, q_onI_i, g_M_element_7]
      simp only [q_onI_i, q_onJ_j, q_onS_s, q_onB_t, true_and, and_true, true_or, or_true, eq_self, true_implies, not_true_eq_false, not_false_eq_true, false_implies, q_bb0, q_bbok, q_bbok2, Bool.true_eq_false, Bool.false_eq_true, reduceCtorEq, s_isRow hs, g_M_element_15, q_clamp (show s < 2 ^ 31 by omega), q_bnd hs (by decide), s_within0]
    rcases hr with hr | hr | ⟨hr, q, len, b1, b2, b3, b4, b5, b6, b7, b8⟩
    · have hz : decide (¬ I 133 s < 100) = false := by
        rcases h2 s hs with ⟨z1, z2, z3⟩ | ⟨q, len, b1, b2, b3, b4, b5, b6, b7, b8⟩ | ⟨p, c1, c2, c3, c4⟩
        · rw [z3]; decide
        · exfalso
          unfold q_rp at hr
          rw [hb] at hr
          dsimp only at hr
          rw [q_clamp (show s < 2 ^ 31 by omega), b3, b5] at hr
          simp [q_nI_m1 (show q < 2 ^ 31 by omega)] at hr
        · exact decide_eq_false (fun z => z (by rw [c4, q_nI_lt (show p < 2 ^ 31 by omega)]; omega))
      rw [hr, q_brn (by decide)]
      refine ⟨_, _, _, _, rfl, rfl, rfl, ?_⟩
      rw [hM, hz, q_br rfl]
      exact ⟨rfl, _, _, _, rfl, q_J_next h⟩
    · have hz : decide (¬ I 133 s < 100) = false := by
        rcases h2 s hs with ⟨z1, z2, z3⟩ | ⟨q, len, b1, b2, b3, b4, b5, b6, b7, b8⟩ | ⟨p, c1, c2, c3, c4⟩
        · rw [z3]; decide
        · exfalso
          unfold q_rp at hr
          rw [hb] at hr
          dsimp only at hr
          rw [q_clamp (show s < 2 ^ 31 by omega), b3, b5] at hr
          simp [q_nI_m1 (show q < 2 ^ 31 by omega)] at hr
        · exact decide_eq_false (fun z => z (by rw [c4, q_nI_lt (show p < 2 ^ 31 by omega)]; omega))
      rw [hr, q_brn (by decide)]
      refine ⟨_, _, _, _, rfl, rfl, rfl, ?_⟩
      rw [hM, hz, q_br rfl]
      exact ⟨rfl, _, _, _, rfl, q_J_next h⟩
    · have hz : decide (¬ I 133 s < 100) = true := by
        exact decide_eq_true (by rw [b6, q_nI_lt (show 100 + q < 2 ^ 31 by omega)]; omega)
      rw [hr, q_br rfl]
      simp only [q_onI_i, q_onJ_j, q_onS_s, q_onB_t, true_and, and_true, true_or, or_true, eq_self, true_implies, not_true_eq_false, not_false_eq_true, false_implies, q_bb0, q_bbok, q_bbok2, Bool.true_eq_false, Bool.false_eq_true, reduceCtorEq, q_clamp (show s < 2 ^ 31 by omega), q_bnd hs (by decide), r_shelf hs, i_shelf hs, s_hasElement (i_shelf hs), b4, nI_toInt (show len < 2 ^ 31 by omega), g_C_element_18]
      cases hy : q_in y len with
      | false =>
        simp only [q_onI_i, q_onJ_j, q_onS_s, q_onB_t, true_and, and_true, true_or, or_true, eq_self, true_implies, not_true_eq_false, not_false_eq_true, false_implies, q_bb0, q_bbok, q_bbok2, Bool.true_eq_false, Bool.false_eq_true, reduceCtorEq]
        refine ⟨_, _, _, _, rfl, rfl, rfl, ?_⟩
        rw [hM, hz, q_brn (by decide), b7, q_pred (by omega), hy, g_M_element_31]
        simp only [q_onI_i, q_onJ_j, q_onS_s, q_onB_t, true_and, and_true, true_or, or_true, eq_self, true_implies, not_true_eq_false, not_false_eq_true, false_implies, q_bb0, q_bbok, q_bbok2, Bool.true_eq_false, Bool.false_eq_true, reduceCtorEq]
        exact ⟨_, _, _, rfl, q_J_next h⟩
      | true =>
        obtain ⟨k, hk2, rfl⟩ := q_in_get hy
        simp only [q_onI_i, q_onJ_j, q_onS_s, q_onB_t, true_and, and_true, true_or, or_true, eq_self, true_implies, not_true_eq_false, not_false_eq_true, false_implies, q_bb0, q_bbok, q_bbok2, Bool.true_eq_false, Bool.false_eq_true, reduceCtorEq, r_row hs, a_row hs, q_clamp (show k < 2 ^ 31 by omega), q_bnd (show k < 160 by omega) (by decide)]
        refine ⟨_, _, _, _, rfl, rfl, rfl, ?_⟩
        rw [hM, hz, q_brn (by decide), b7, q_pred (by omega), hy, g_M_element_31, q_160]
        simp only [q_onI_i, q_onJ_j, q_onS_s, q_onB_t, true_and, and_true, true_or, or_true, eq_self, true_implies, not_true_eq_false, not_false_eq_true, false_implies, q_bb0, q_bbok, q_bbok2, Bool.true_eq_false, Bool.false_eq_true, reduceCtorEq, q_clamp (show 160 * s + k < 2 ^ 31 by omega), q_bnd (show 160 * s + k < 1280 by omega) (by decide)]
        exact ⟨by rw [b8 k (by omega)], _, _, _, rfl, q_J_next h⟩
theorem q_u8_ne {o k : Nat} {v : Int64} {a : Nat} (h : a ≠ o) : q_u8 J o k v a = J a := by
  funext b
  unfold q_u8
  rw [if_neg (fun z => h z.1)]
theorem q_u8_eq {o k : Nat} {v : Int64} : q_u8 J o k v o k = v := by
  unfold q_u8
  rw [if_pos ⟨rfl, rfl⟩]
theorem q_u8_nk {o k : Nat} {v : Int64} {b : Nat} (h : b ≠ k) : q_u8 J o k v o b = J o b := by
  unfold q_u8
  rw [if_neg (fun z => h z.2)]
/-- the rest of the invariant when an element was set on both sides -/
theorem v_shelves_set {n s k : Nat} {v : Int64} (hs : s < 8) (hk : k < 160) (h : v_shelves I J n) : v_shelves I (q_u8 (q_u8 J (115 + 2 * s) k v) 135 (160 * s + k) v) n := by
  intro s' hs'
  rcases h s' hs' with h | ⟨q, len, b1, b2, b3, b4, b5, b6, b7, b8⟩ | h
  · exact Or.inl h
  · refine Or.inr (Or.inl ⟨q, len, b1, b2, b3, b4, b5, b6, b7, fun i hi => ?_⟩)
    rw [q_u8_ne (show 115 + 2 * s' ≠ 135 by omega)]
    by_cases e : s' = s
    · subst e
      by_cases e2 : i = k
      · subst e2
        rw [q_u8_eq, q_u8_eq]
      · rw [q_u8_nk e2, q_u8_nk (show 160 * s' + i ≠ 160 * s' + k by omega), q_u8_ne (show 135 ≠ 115 + 2 * s' by omega)]
        exact b8 i hi
    · rw [q_u8_ne (show 115 + 2 * s' ≠ 115 + 2 * s by omega), q_u8_nk (show 160 * s' + i ≠ 160 * s + k by omega), q_u8_ne (show 135 ≠ 115 + 2 * s by omega)]
      exact b8 i hi
  · exact Or.inr (Or.inr h)
theorem q_J_set {n s k : Nat} {v : Int64} (hs : s < 8) (hk : k < 160) (h : q_J c I J t) : q_J (c + 1) I (q_u8 (q_u8 J (115 + 2 * s) k v) 135 (160 * s + k) v) t := by
  obtain ⟨n, hk', m, h2, hr⟩ := q_J_next h
  exact ⟨n, hk', m, v_shelves_set hs hk h2, hr⟩
/-- a refusal whose number is one of three -/
theorem t_ref3 {r : Int32} (hr : r = -1 ∨ r = -2 ∨ r = -3) : ∃ k, k < 8 ∧ (∀ {d : Nat} {I : Nat → Nat → Int32} {J : Nat → Nat → Int64} {t : Nat} {Q : Value → q_Mem → Prop}, q_W (d + 1) 117 [.ref 1, .int r] (q_mm L I J t) Q = Q (.int r) (q_mm L (q_u I 113 k (I 113 k + 1)) J t)) ∧ (∀ {d : Nat} {I : Nat → Nat → Int32} {J : Nat → Nat → Int64} {t : Nat} {Q : Value → q_Mem → Prop}, q_W (d + 1) 133 [.ref 130, .int r] (q_mm L I J t) Q = Q (.int r) (q_mm L (q_u I 145 k (I 145 k + 1)) J t)) ∧ (0 ≤ r) = False := by
  rcases hr with rfl | rfl | rfl
  · exact ⟨1, by decide, s_refuse1, s_no1, eq_false (by decide)⟩
  · exact ⟨2, by decide, s_refuse2, s_no2, eq_false (by decide)⟩
  · exact ⟨3, by decide, s_refuse3, s_no3, eq_false (by decide)⟩
theorem tt_set {x y : Int32} {z : Int64} (h : q_J c I J t) : q_SI 100 79 147 [.int x, .int y, .long z] (q_J (c + 1)) L I J t := by
  obtain ⟨n, hk, ⟨⟨a1, a2, a3, a4, a5, a6⟩, m2, m3, m4, m5⟩, h2, h3, h4, h5, h6, h7, h8⟩ := id h
  have h2' : ∀ k, v_shelves (q_u I 113 k (I 113 k + 1)) J n := fun k s hs => v_shelf_congr (q_u_ne (by omega)) (q_u_ne (by decide)) (q_u_ne (by decide)) rfl rfl (h2 s hs)
  have hrp : ∀ k, q_rp (q_u I 113 k (I 113 k + 1)) x = q_rp I x := by
    intro k
    unfold q_rp
    cases hb : q_in x 8 with
    | false => rfl
    | true =>
      obtain ⟨s, hs, rfl⟩ := q_in_get (n := 8) hb
      dsimp only
      rw [q_clamp (show s < 2 ^ 31 by omega), q_u_ne (show 114 + 2 * s ≠ 113 by omega)]
  unfold q_SI
  rw [e_C_set, s_rowProblem, q_onI_i, g_C_set_5]
  rcases q_rp_cases a3 h2 x with ⟨hb, hr⟩ | ⟨s, hs, rfl, hb, hr⟩
  · obtain ⟨k, hk8, r1, r2, r3⟩ := t_ref3 (L := L) (r := q_rp I x) (Or.inl hr)
    rw [q_brn (by rw [hr]; decide), r1, q_onI_i, g_C_set_18]
    refine ⟨_, _, _, _, rfl, rfl, q_u_ne (by decide), ?_⟩
    rw [e_M_set, s_noRow a3 (h2' k), hrp, q_onI_i, g_M_set_5, q_brn (by rw [r3]; exact fun z => z), r2, q_onI_i, g_M_set_18]
    exact ⟨rfl, _, _, _, rfl, q_J_refuse k h⟩
  · rcases hr with hr | hr | ⟨hr, q, len, b1, b2, b3, b4, b5, b6, b7, b8⟩
    · obtain ⟨k, hk8, r1, r2, r3⟩ := t_ref3 (L := L) (r := q_rp I (nI s)) (Or.inr (Or.inr hr))
      rw [q_brn (by rw [hr]; decide), r1, q_onI_i, g_C_set_18]
      refine ⟨_, _, _, _, rfl, rfl, q_u_ne (by decide), ?_⟩
      rw [e_M_set, s_noRow a3 (h2' k), hrp, q_onI_i, g_M_set_5, q_brn (by rw [r3]; exact fun z => z), r2, q_onI_i, g_M_set_18]
      exact ⟨rfl, _, _, _, rfl, q_J_refuse k h⟩
    · obtain ⟨k, hk8, r1, r2, r3⟩ := t_ref3 (L := L) (r := q_rp I (nI s)) (Or.inr (Or.inl hr))
      rw [q_brn (by rw [hr]; decide), r1, q_onI_i, g_C_set_18]
      refine ⟨_, _, _, _, rfl, rfl, q_u_ne (by decide), ?_⟩
      rw [e_M_set, s_noRow a3 (h2' k), hrp, q_onI_i, g_M_set_5, q_brn (by rw [r3]; exact fun z => z), r2, q_onI_i, g_M_set_18]
      exact ⟨rfl, _, _, _, rfl, q_J_refuse k h⟩
    · rw [hr, q_br rfl]
      simp only [q_onI_i, q_onJ_j, q_onS_s, q_onB_t, true_and, and_true, true_or, or_true, eq_self, true_implies, not_true_eq_false, not_false_eq_true, false_implies, q_bb0, q_bbok, q_bbok2, Bool.true_eq_false, Bool.false_eq_true, reduceCtorEq, q_clamp (show s < 2 ^ 31 by omega), q_bnd hs (by decide), r_shelf hs, i_shelf hs, s_hasElement (i_shelf hs), b4, nI_toInt (show len < 2 ^ 31 by omega), g_C_set_29]
      cases hy : q_in y len with
      | false =>
        simp only [q_onI_i, q_onJ_j, q_onS_s, q_onB_t, true_and, and_true, true_or, or_true, eq_self, true_implies, not_true_eq_false, not_false_eq_true, false_implies, q_bb0, q_bbok, q_bbok2, Bool.true_eq_false, Bool.false_eq_true, reduceCtorEq, s_refuse5, g_C_set_38]
        refine ⟨_, _, _, _, rfl, rfl, q_u_ne (by decide), ?_⟩
        rw [e_M_set, s_noRow a3 (h2' 5), hrp, hr, q_onI_i, g_M_set_5, q_br (by decide)]
        simp only [q_onI_i, q_onJ_j, q_onS_s, q_onB_t, true_and, and_true, true_or, or_true, eq_self, true_implies, not_true_eq_false, not_false_eq_true, false_implies, q_bb0, q_bbok, q_bbok2, Bool.true_eq_false, Bool.false_eq_true, reduceCtorEq, q_clamp (show s < 2 ^ 31 by omega), q_bnd hs (by decide)]
        rw [q_u_ne (show (134 : Nat) ≠ 113 by decide), b7, s_within0, q_pred (by omega), hy, q_onI_i, g_M_set_32]
        simp only [q_onI_i, q_onJ_j, q_onS_s, q_onB_t, true_and, and_true, true_or, or_true, eq_self, true_implies, not_true_eq_false, not_false_eq_true, false_implies, q_bb0, q_bbok, q_bbok2, Bool.true_eq_false, Bool.false_eq_true, reduceCtorEq, s_no5, g_M_set_41]
        exact ⟨_, _, _, rfl, q_J_refuse 5 h⟩
      | true =>
        obtain ⟨k, hk2, rfl⟩ := q_in_get hy
        simp only [q_onI_i, q_onJ_j, q_onS_s, q_onB_t, true_and, and_true, true_or, or_true, eq_self, true_implies, not_true_eq_false, not_false_eq_true, false_implies, q_bb0, q_bbok, q_bbok2, Bool.true_eq_false, Bool.false_eq_true, reduceCtorEq, s_put hs b1 b3 b4 b2 hk2, g_C_set_50]
        refine ⟨_, _, _, _, rfl, rfl, rfl, ?_⟩
        rw [e_M_set, s_noRow a3 h2, hr, q_onI_i, g_M_set_5, q_br (by decide)]
        simp only [q_onI_i, q_onJ_j, q_onS_s, q_onB_t, true_and, and_true, true_or, or_true, eq_self, true_implies, not_true_eq_false, not_false_eq_true, false_implies, q_bb0, q_bbok, q_bbok2, Bool.true_eq_false, Bool.false_eq_true, reduceCtorEq, q_clamp (show s < 2 ^ 31 by omega), q_bnd hs (by decide)]
        rw [b7, s_within0, q_pred (by omega), hy, q_onI_i, g_M_set_32, q_160]
        simp only [q_onI_i, q_onJ_j, q_onS_s, q_onB_t, true_and, and_true, true_or, or_true, eq_self, true_implies, not_true_eq_false, not_false_eq_true, false_implies, q_bb0, q_bbok, q_bbok2, Bool.true_eq_false, Bool.false_eq_true, reduceCtorEq, q_clamp (show s < 2 ^ 31 by omega), q_bnd hs (by decide), q_clamp (show 160 * s + k < 2 ^ 31 by omega), q_bnd (show 160 * s + k < 1280 by omega) (by decide), b6]
        match q, b1 with
        | 0, _ =>
          rw [q_br (show nI (100 + 0) - 100 = (0 : Int32) by decide)]
          exact ⟨_, _, _, rfl, q_J_set (n := n) hs (show k < 160 by omega) h⟩
        | 1, _ =>
          rw [q_brn (show ¬ nI (100 + 1) - 100 = (0 : Int32) by decide), q_br (show nI (100 + 1) - 100 = (1 : Int32) by decide)]
          exact ⟨_, _, _, rfl, q_J_set (n := n) hs (show k < 160 by omega) h⟩
        | 2, _ =>
          rw [q_brn (show ¬ nI (100 + 2) - 100 = (0 : Int32) by decide), q_brn (show ¬ nI (100 + 2) - 100 = (1 : Int32) by decide), q_br (show nI (100 + 2) - 100 = (2 : Int32) by decide)]
          exact ⟨_, _, _, rfl, q_J_set (n := n) hs (show k < 160 by omega) h⟩
        | 3, _ =>
          rw [q_brn (show ¬ nI (100 + 3) - 100 = (0 : Int32) by decide), q_brn (show ¬ nI (100 + 3) - 100 = (1 : Int32) by decide), q_brn (show ¬ nI (100 + 3) - 100 = (2 : Int32) by decide)]
          exact ⟨_, _, _, rfl, q_J_set (n := n) hs (show k < 160 by omega) h⟩
        | q + 4, hq => exact absurd hq (by omega)
end OPS4
