/-! show, row, mend -/
theorem v_shelf_pt {I I' : Nat → Nat → Int32} {J J' : Nat → Nat → Int64} {n s : Nat} (h1 : I' (114 + 2 * s) = I (114 + 2 * s)) (h2 : I' 133 s = I 133 s) (h3 : I' 134 s = I 134 s) (hJ : ∀ i, i < 160 → J' (115 + 2 * s) i = J (115 + 2 * s) i ∧ J' 135 (160 * s + i) = J 135 (160 * s + i)) (h : v_shelf I J n s) : v_shelf I' J' n s := by
  unfold v_shelf at h ⊢
  rw [h1, h2, h3]
  rcases h with h | ⟨q, len, b1, b2, b3, b4, b5, b6, b7, b8⟩ | h
  · exact Or.inl h
  · exact Or.inr (Or.inl ⟨q, len, b1, b2, b3, b4, b5, b6, b7, fun i hi => by rw [(hJ i hi).1, (hJ i hi).2]; exact b8 i hi⟩)
  · exact Or.inr (Or.inr h)
/-- one shelf changed, on both sides -/
theorem q_J_shelf {c s : Nat} {I I' : Nat → Nat → Int32} {J J' : Nat → Nat → Int64} {t : Nat} (hs : s < 8) (ho : ∀ o, o ≠ 114 + 2 * s → o ≠ 133 → o ≠ 134 → I' o = I o) (hk : ∀ k, k ≠ s → I' 133 k = I 133 k ∧ I' 134 k = I 134 k) (hJ : ∀ s', s' ≠ s → s' < 8 → ∀ i, i < 160 → J' (115 + 2 * s') i = J (115 + 2 * s') i ∧ J' 135 (160 * s' + i) = J 135 (160 * s' + i)) (hv : ∀ n, I 3 2 = nI n → n ≤ 12 → v_shelf I' J' n s) (h : q_J c I J t) : q_J (c + 1) I' J' t := by
  obtain ⟨n, hk', ⟨m1, m2, m3, m4, m5⟩, h2, ⟨cc, c1, c2, c3, c4⟩, ⟨k, k1, k2, k3, k4⟩, ⟨r, r1, r2, r3, r4, r5⟩, h6, ⟨g1, g2, g3⟩, ⟨w1, w2⟩⟩ := q_J_next h
  have hx : ∀ o, o < 114 → I' o = I o := fun o h => ho o (by omega) (by omega) (by omega)
  have hy : ∀ o, 135 ≤ o → I' o = I o := fun o h => ho o (by omega) (by omega) (by omega)
  have e130 : I' 130 = I 130 := ho 130 (by omega) (by decide) (by decide)
  have e131 : I' 131 = I 131 := ho 131 (by omega) (by decide) (by decide)
  have e132 : I' 132 = I 132 := ho 132 (by omega) (by decide) (by decide)
  have e1 : I' 1 = I 1 := hx 1 (by decide)
  have e3 : I' 3 = I 3 := hx 3 (by decide)
  have e42 : I' 42 = I 42 := hx 42 (by decide)
  have e146 : I' 146 = I 146 := hy 146 (by decide)
  refine ⟨n, hk', ⟨v_host_congr e3 (fun p hp => hx _ (by omega)) (fun p hp => hx _ (by omega)) e131 e132 m1, by rw [e130]; exact m2, by rw [e130]; exact m3, by rw [e130, e3]; exact m4, by rw [e130, e3]; exact m5⟩, fun s' hs' => ?_, ⟨cc, c1, by rw [e1]; exact c2, by rw [e130]; exact c3, fun i hi w hw => by rw [hx 112 (by decide), hy 136 (by decide)]; exact c4 i hi w hw⟩, ⟨k, k1, by rw [hx 110 (by decide)]; exact k2, by rw [e130]; exact k3, fun i hi => by rw [hx 111 (by decide), hy 139 (by decide)]; exact k4 i hi⟩, ⟨r, r1, by rw [hx 86 (by decide)]; exact r2, by rw [e130]; exact r3, by rw [e130, hx 86 (by decide)]; exact r4, fun i hi hi2 => by rw [hx 88 (by decide), hy 144 (by decide)]; exact r5 i hi hi2⟩, fun i hi => by rw [hx 113 (by decide), hy 145 (by decide)]; exact h6 i hi, ⟨by rw [e1, e130]; exact g1, by rw [e1]; exact g2, fun hz => ?_⟩, by rw [e1, e130]; exact w1, by rw [e130]; exact w2⟩
  · by_cases e : s' = s
    · subst e
      exact hv n m1.1 m1.2.2.1
    · exact v_shelf_pt (ho _ (by omega) (by omega) (by omega)) (hk s' e).1 (hk s' e).2 (hJ s' e hs') (h2 s' hs')
  · rw [e1] at hz
    obtain ⟨n', h', b1, b2, b3, b4, b5⟩ := g3 hz
    exact ⟨n', h', v_host_congr e42 (fun p hp => hx _ (by omega)) (fun p hp => hx _ (by omega)) e146 e146 b1, by rw [e146]; exact b2, by rw [e146]; exact b3, by rw [e42, e146]; exact b4, by rw [e42, e146]; exact b5⟩
def q_fill (J : Nat → Nat → Int64) (o a n : Nat) (v : Int64) : Nat → Nat → Int64 := fun x b => if x = o ∧ a ≤ b ∧ b < a + n then v else J x b
theorem q_fill_0 {J : Nat → Nat → Int64} {o a : Nat} {v : Int64} : q_fill J o a 0 v = J := by
  funext x b
  unfold q_fill
  rw [if_neg (by omega)]
theorem q_fill_s {J : Nat → Nat → Int64} {o a n : Nat} {v : Int64} : q_fill (q_u8 J o a v) o (a + 1) n v = q_fill J o a (n + 1) v := by
  funext x b
  unfold q_fill q_u8
  by_cases hx : x = o
  · by_cases h1 : b = a
    · subst h1
      rw [if_neg (by omega), if_pos ⟨hx, rfl⟩, if_pos ⟨hx, by omega, by omega⟩]
    · by_cases h2 : a ≤ b ∧ b < a + (n + 1)
      · rw [if_pos ⟨hx, by omega, by omega⟩, if_pos ⟨hx, h2⟩]
      · rw [if_neg (by omega), if_neg (fun z => h1 z.2), if_neg (fun z => h2 z.2)]
  · rw [if_neg (fun z => hx z.1), if_neg (fun z => hx z.1), if_neg (fun z => hx z.1)]
theorem q_fill_in {J : Nat → Nat → Int64} {o a n b : Nat} {v : Int64} (h : a ≤ b ∧ b < a + n) : q_fill J o a n v o b = v := by
  unfold q_fill
  rw [if_pos ⟨rfl, h⟩]
theorem q_fill_out {J : Nat → Nat → Int64} {o a n x b : Nat} {v : Int64} (h : ¬ (x = o ∧ a ≤ b ∧ b < a + n)) : q_fill J o a n v x b = J x b := by
  unfold q_fill
  rw [if_neg h]
theorem l_fillJ {L d : Nat} {rt : Value → q_Mem → Nat → Nat → Prop} {I : Nat → Nat → Int32} {t s : Nat} {y : Int64} (hs : s < 8) : ∀ k i (J : Nat → Nat → Int64), i + k = 160 → q_X (q_W d) rt 224 (6, [some (.ref (115 + 2 * s)), some (.long y), none, some (.int (nI i)), some (.int (nI 160))], [], (q_mm L I J t), 0, 0) = rt .null (q_mm L I (q_fill J (115 + 2 * s) i k y) t) 0 0
  | 0, i, J, h => by
    rw [g_Arrays_fill_6, q_leN (by decide) (by omega), q_br (by omega), q_fill_0]
  | k + 1, i, J, h => by
    rw [g_Arrays_fill_6, q_leN (by decide) (by omega), q_brn (by omega), a_row hs, q_onS_s]
    simp only [q_onI_i, q_onJ_j, q_onS_s, q_onB_t, true_and, and_true, true_or, or_true, eq_self, true_implies, not_true_eq_false, not_false_eq_true, false_implies, q_bb0, q_bbok, q_bbok2, Bool.true_eq_false, Bool.false_eq_true, reduceCtorEq, q_clamp (show i < 2 ^ 31 by omega), q_bnd (show i < 160 by omega) (by decide), q_n1, l_fillJ hs k (i + 1) _ (show i + 1 + k = 160 by omega), q_fill_s]
theorem s_fillJ {L d : Nat} {Q : Value → q_Mem → Prop} {I : Nat → Nat → Int32} {J : Nat → Nat → Int64} {t : Nat} {s : Nat} {y : Int64} (hs : s < 8) : q_W (d + 1) 224 [.ref (115 + 2 * s), .long y] (q_mm L I J t) Q = Q .null (q_mm L I (q_fill J (115 + 2 * s) 0 160 y) t) := by
  rw [e_Arrays_fill, a_rowl hs, q_onS_s]
  exact l_fillJ hs 160 0 J (by decide)
theorem s_holdRow {L d : Nat} {Q : Value → q_Mem → Prop} {I : Nat → Nat → Int32} {J : Nat → Nat → Int64} {t : Nat} {s : Nat} {x y : Int32} (hs : s < 8) : q_W (d + 2) 47 [.ref (114 + 2 * s), .int x, .int y] (q_mm L I J t) Q = Q .null (q_mm L (q_u (q_u (q_u I (114 + 2 * s) 1 x) (114 + 2 * s) 2 y) (114 + 2 * s) 3 (-1)) (q_fill J (115 + 2 * s) 0 160 0) t) := by
  rw [e_Shelf_holdRow]
  simp only [q_onI_i, q_onJ_j, q_onS_s, q_onB_t, true_and, and_true, true_or, or_true, eq_self, true_implies, not_true_eq_false, not_false_eq_true, false_implies, q_bb0, q_bbok, q_bbok2, Bool.true_eq_false, Bool.false_eq_true, reduceCtorEq, i_shelf hs, r_row hs, s_fillJ hs, g_Shelf_holdRow_23]
section OPS5
variable {L c : Nat} {I : Nat → Nat → Int32} {J : Nat → Nat → Int64} {t : Nat}
theorem l_Mrow {d : Nat} {rt : Value → q_Mem → Nat → Nat → Prop} {s : Nat} {x y : Int32} (hs : s < 8) : ∀ k i (J : Nat → Nat → Int64), i + k = 160 → q_X (q_W d) rt 145 (77, [some (.ref 130), some (.int (nI s)), some (.int x), some (.int y), some (.int (nI i))], [], (q_mm L I J t), 0, 0) = rt (.int 1) (q_mm L I (q_fill J 135 (160 * s + i) k 0) t) 0 0
  | 0, i, J, h => by
    rw [g_M_row_77, show (160 : Int32) = nI 160 by decide, q_leN (by decide) (by omega), q_br (by omega), q_fill_0]
  | k + 1, i, J, h => by
    rw [g_M_row_77, q_160, show (160 : Int32) = nI 160 by decide, q_leN (by decide) (by omega), q_brn (by omega)]
    simp only [q_onI_i, q_onJ_j, q_onS_s, q_onB_t, true_and, and_true, true_or, or_true, eq_self, true_implies, not_true_eq_false, not_false_eq_true, false_implies, q_bb0, q_bbok, q_bbok2, Bool.true_eq_false, Bool.false_eq_true, reduceCtorEq, q_clamp (show 160 * s + i < 2 ^ 31 by omega), q_bnd (show 160 * s + i < 1280 by omega) (by decide), q_n1, l_Mrow hs k (i + 1) _ (show i + 1 + k = 160 by omega)]
    rw [show 160 * s + (i + 1) = 160 * s + i + 1 by omega, q_fill_s]
theorem t_show {x y : Int32} (h : q_J c I J t) : q_SI 100 82 150 [.int x, .int y] (q_J (c + 1)) L I J t := by
  obtain ⟨n, hk, ⟨⟨a1, a2, a3, a4, a5, a6⟩, m2, m3, m4, m5⟩, h2, h3, h4, h5, h6, h7, h8⟩ := id h
  unfold q_SI
  rw [e_C_show, s_isShelf, q_onI_i, g_C_show_4]
  cases hb : q_in x 8 with
  | false =>
    simp only [q_onI_i, q_onJ_j, q_onS_s, q_onB_t, true_and, and_true, true_or, or_true, eq_self, true_implies, not_true_eq_false, not_false_eq_true, false_implies, q_bb0, q_bbok, q_bbok2, Bool.true_eq_false, Bool.false_eq_true, reduceCtorEq, s_refuse1, g_C_show_28]
    refine ⟨_, _, _, _, rfl, rfl, q_u_ne (by decide), ?_⟩
    rw [e_M_show, s_within0, show (7 : Int32).toInt + 1 = 8 by decide, hb, q_onI_i, g_M_show_7]
    simp only [q_onI_i, q_onJ_j, q_onS_s, q_onB_t, true_and, and_true, true_or, or_true, eq_self, true_implies, not_true_eq_false, not_false_eq_true, false_implies, q_bb0, q_bbok, q_bbok2, Bool.true_eq_false, Bool.false_eq_true, reduceCtorEq, s_no1, g_M_show_28]
    exact ⟨_, _, _, rfl, q_J_refuse 1 h⟩
  | true =>
    obtain ⟨s, hs, rfl⟩ := q_in_get (n := 8) hb
    by_cases hy : y = -1
    · subst hy
      simp only [q_onI_i, q_onJ_j, q_onS_s, q_onB_t, true_and, and_true, true_or, or_true, eq_self, true_implies, not_true_eq_false, not_false_eq_true, false_implies, q_bb0, q_bbok, q_bbok2, Bool.true_eq_false, Bool.false_eq_true, reduceCtorEq, q_clamp (show s < 2 ^ 31 by omega), q_bnd hs (by decide), r_shelf hs, i_shelf hs, s_holdNothing (i_shelf hs), g_C_show_43]
      refine ⟨_, _, _, _, rfl, rfl, by rw [q_u_ne (by omega), q_u_ne (by omega), q_u_ne (by omega)], ?_⟩
      rw [e_M_show, s_within0, show (7 : Int32).toInt + 1 = 8 by decide, hb, q_onI_i, g_M_show_7]
      simp only [q_onI_i, q_onJ_j, q_onS_s, q_onB_t, true_and, and_true, true_or, or_true, eq_self, true_implies, not_true_eq_false, not_false_eq_true, false_implies, q_bb0, q_bbok, q_bbok2, Bool.true_eq_false, Bool.false_eq_true, reduceCtorEq, q_clamp (show s < 2 ^ 31 by omega), q_bnd hs (by decide)]
      refine ⟨_, _, _, rfl, q_J_shelf hs (fun o o1 o2 o3 => by rw [q_u_ne o2, q_u_ne o1, q_u_ne o1, q_u_ne o1]) (fun k hk => ⟨by rw [q_u_nk hk, q_u_ne (by omega), q_u_ne (by omega), q_u_ne (by omega)], by rw [q_u_ne (by decide), q_u_ne (by omega), q_u_ne (by omega), q_u_ne (by omega)]⟩) (fun _ _ _ _ _ => ⟨rfl, rfl⟩) (fun n _ _ => Or.inl ⟨?_, ?_, q_u_eq⟩) h⟩
      · rw [q_u_ne (by omega), q_u_nk (by decide), q_u_nk (by decide), q_u_eq]
      · rw [q_u_ne (by omega), q_u_eq]
    · simp only [hy, q_onI_i, q_onJ_j, q_onS_s, q_onB_t, true_and, and_true, true_or, or_true, eq_self, true_implies, not_true_eq_false, not_false_eq_true, false_implies, q_bb0, q_bbok, q_bbok2, Bool.true_eq_false, Bool.false_eq_true, reduceCtorEq, s_hasPlug a1 a3, g_C_show_20]
      cases hp : q_in y n with
      | false =>
        simp only [q_onI_i, q_onJ_j, q_onS_s, q_onB_t, true_and, and_true, true_or, or_true, eq_self, true_implies, not_true_eq_false, not_false_eq_true, false_implies, q_bb0, q_bbok, q_bbok2, Bool.true_eq_false, Bool.false_eq_true, reduceCtorEq, s_refuse1, g_C_show_28]
        refine ⟨_, _, _, _, rfl, rfl, q_u_ne (by decide), ?_⟩
        rw [e_M_show, s_within0, show (7 : Int32).toInt + 1 = 8 by decide, hb, q_onI_i, g_M_show_7]
        simp only [hy, q_onI_i, q_onJ_j, q_onS_s, q_onB_t, true_and, and_true, true_or, or_true, eq_self, true_implies, not_true_eq_false, not_false_eq_true, false_implies, q_bb0, q_bbok, q_bbok2, Bool.true_eq_false, Bool.false_eq_true, reduceCtorEq, s_isPlug (show q_u I 113 1 (I 113 1 + 1) 130 0 = nI n by rw [q_u_ne (by decide)]; exact m2) a3, hp, g_M_show_20, s_no1, g_M_show_28]
        exact ⟨_, _, _, rfl, q_J_refuse 1 h⟩
      | true =>
        obtain ⟨p, hpn, rfl⟩ := q_in_get hp
        simp only [hy, q_onI_i, q_onJ_j, q_onS_s, q_onB_t, true_and, and_true, true_or, or_true, eq_self, true_implies, not_true_eq_false, not_false_eq_true, false_implies, q_bb0, q_bbok, q_bbok2, Bool.true_eq_false, Bool.false_eq_true, reduceCtorEq, q_clamp (show s < 2 ^ 31 by omega), q_bnd hs (by decide), r_shelf hs, i_shelf hs, s_holdPlug (i_shelf hs), g_C_show_55]
        refine ⟨_, _, _, _, rfl, rfl, by rw [q_u_ne (by omega), q_u_ne (by omega), q_u_ne (by omega), q_u_ne (by omega)], ?_⟩
        rw [e_M_show, s_within0, show (7 : Int32).toInt + 1 = 8 by decide, hb, q_onI_i, g_M_show_7]
        simp only [hy, q_onI_i, q_onJ_j, q_onS_s, q_onB_t, true_and, and_true, true_or, or_true, eq_self, true_implies, not_true_eq_false, not_false_eq_true, false_implies, q_bb0, q_bbok, q_bbok2, Bool.true_eq_false, Bool.false_eq_true, reduceCtorEq]
        rw [s_isPlug (by rw [q_u_ne (by omega), q_u_ne (by omega), q_u_ne (by omega), q_u_ne (by omega)]; exact m2) a3, hp, q_onI_i, g_M_show_20]
        simp only [hy, q_onI_i, q_onJ_j, q_onS_s, q_onB_t, true_and, and_true, true_or, or_true, eq_self, true_implies, not_true_eq_false, not_false_eq_true, false_implies, q_bb0, q_bbok, q_bbok2, Bool.true_eq_false, Bool.false_eq_true, reduceCtorEq, q_clamp (show s < 2 ^ 31 by omega), q_bnd hs (by decide)]
        refine ⟨_, _, _, rfl, q_J_shelf hs (fun o o1 o2 o3 => by rw [q_u_ne o2, q_u_ne o1, q_u_ne o1, q_u_ne o1, q_u_ne o1]) (fun k hk => ⟨by rw [q_u_nk hk, q_u_ne (by omega), q_u_ne (by omega), q_u_ne (by omega), q_u_ne (by omega)], by rw [q_u_ne (by decide), q_u_ne (by omega), q_u_ne (by omega), q_u_ne (by omega), q_u_ne (by omega)]⟩) (fun _ _ _ _ _ => ⟨rfl, rfl⟩) (fun n' hn' hn12 => Or.inr (Or.inr ⟨p, ?_, ?_, ?_, q_u_eq⟩)) h⟩
        · rw [a1, q_eqN (by omega) (by omega)] at hn'
          omega
        · rw [q_u_ne (by omega), q_u_nk (by decide), q_u_nk (by decide), q_u_nk (by decide), q_u_eq]
        · rw [q_u_ne (by omega), q_u_eq]
theorem t_row {x y z : Int32} (h : q_J c I J t) : q_SI 100 78 145 [.int x, .int y, .int z] (q_J (c + 1)) L I J t := by
  unfold q_SI
  rw [e_C_row, s_isShelf, q_onI_i, g_C_row_4]
  cases hb : q_in x 8 with
  | false =>
    simp only [q_onI_i, q_onJ_j, q_onS_s, q_onB_t, true_and, and_true, true_or, or_true, eq_self, true_implies, not_true_eq_false, not_false_eq_true, false_implies, q_bb0, q_bbok, q_bbok2, Bool.true_eq_false, Bool.false_eq_true, reduceCtorEq, s_refuse1, g_C_row_12]
    refine ⟨_, _, _, _, rfl, rfl, q_u_ne (by decide), ?_⟩
    rw [e_M_row, s_within0, show (7 : Int32).toInt + 1 = 8 by decide, hb, q_onI_i, g_M_row_7]
    simp only [q_onI_i, q_onJ_j, q_onS_s, q_onB_t, true_and, and_true, true_or, or_true, eq_self, true_implies, not_true_eq_false, not_false_eq_true, false_implies, q_bb0, q_bbok, q_bbok2, Bool.true_eq_false, Bool.false_eq_true, reduceCtorEq, s_no1, g_M_row_15]
    exact ⟨_, _, _, rfl, q_J_refuse 1 h⟩
  | true =>
    obtain ⟨s, hs, rfl⟩ := q_in_get (n := 8) hb
    by_cases hz : 0 ≤ z
    · simp only [hz, q_onI_i, q_onJ_j, q_onS_s, q_onB_t, true_and, and_true, true_or, or_true, eq_self, true_implies, not_true_eq_false, not_false_eq_true, false_implies, q_bb0, q_bbok, q_bbok2, Bool.true_eq_false, Bool.false_eq_true, reduceCtorEq, s_isBelow, show (4 : Int32).toInt = 4 by decide, g_C_row_29]
      cases hy : q_in y 4 with
      | false =>
        simp only [q_onI_i, q_onJ_j, q_onS_s, q_onB_t, true_and, and_true, true_or, or_true, eq_self, true_implies, not_true_eq_false, not_false_eq_true, false_implies, q_bb0, q_bbok, q_bbok2, Bool.true_eq_false, Bool.false_eq_true, reduceCtorEq, s_refuse6, g_C_row_38]
        refine ⟨_, _, _, _, rfl, rfl, q_u_ne (by decide), ?_⟩
        rw [e_M_row, s_within0, show (7 : Int32).toInt + 1 = 8 by decide, hb, q_onI_i, g_M_row_7]
        simp only [hz, q_onI_i, q_onJ_j, q_onS_s, q_onB_t, true_and, and_true, true_or, or_true, eq_self, true_implies, not_true_eq_false, not_false_eq_true, false_implies, q_bb0, q_bbok, q_bbok2, Bool.true_eq_false, Bool.false_eq_true, reduceCtorEq, s_within0, show (3 : Int32).toInt + 1 = 4 by decide, hy, g_M_row_33, s_no6, g_M_row_42]
        exact ⟨_, _, _, rfl, q_J_refuse 6 h⟩
      | true =>
        obtain ⟨q, hq, rfl⟩ := q_in_get (n := 4) hy
        by_cases h160 : z ≤ 160
        · have hzl : ∃ len, len ≤ 160 ∧ z = nI len := by
            rw [q_le] at hz h160
            rw [Int32.toInt_zero] at hz
            rw [show (160 : Int32).toInt = 160 by decide] at h160
            refine ⟨z.toInt.toNat, by omega, ?_⟩
            apply Int32.toInt_inj.mp
            rw [nI_toInt (by omega)]
            omega
          obtain ⟨len, hlen, rfl⟩ := hzl
          simp only [h160, q_onI_i, q_onJ_j, q_onS_s, q_onB_t, true_and, and_true, true_or, or_true, eq_self, true_implies, not_true_eq_false, not_false_eq_true, false_implies, q_bb0, q_bbok, q_bbok2, Bool.true_eq_false, Bool.false_eq_true, reduceCtorEq, q_clamp (show s < 2 ^ 31 by omega), q_bnd hs (by decide), r_shelf hs, i_shelf hs, s_holdRow hs, g_C_row_64]
          refine ⟨_, _, _, _, rfl, rfl, by rw [q_u_ne (by omega), q_u_ne (by omega), q_u_ne (by omega)], ?_⟩
          rw [e_M_row, s_within0, show (7 : Int32).toInt + 1 = 8 by decide, hb, q_onI_i, g_M_row_7]
          simp only [hz, h160, q_onI_i, q_onJ_j, q_onS_s, q_onB_t, true_and, and_true, true_or, or_true, eq_self, true_implies, not_true_eq_false, not_false_eq_true, false_implies, q_bb0, q_bbok, q_bbok2, Bool.true_eq_false, Bool.false_eq_true, reduceCtorEq, s_within0, show (3 : Int32).toInt + 1 = 4 by decide, hy, g_M_row_33, q_clamp (show s < 2 ^ 31 by omega), q_bnd hs (by decide)]
          rw [show (0 : Int32) = nI 0 by decide, l_Mrow hs 160 0 _ (by decide)]
          refine ⟨rfl, _, _, _, rfl, q_J_shelf hs (fun o o1 o2 o3 => by rw [q_u_ne o3, q_u_ne o2, q_u_ne o1, q_u_ne o1, q_u_ne o1]) (fun k hk => ⟨by rw [q_u_ne (by decide), q_u_nk hk, q_u_ne (by omega), q_u_ne (by omega), q_u_ne (by omega)], by rw [q_u_nk hk, q_u_ne (by decide), q_u_ne (by omega), q_u_ne (by omega), q_u_ne (by omega)]⟩) (fun s' e1 e2 i hi => ⟨by rw [q_fill_out (by omega), q_fill_out (by omega)], by rw [q_fill_out (by omega), q_fill_out (by omega)]⟩) (fun n' _ _ => Or.inr (Or.inl ⟨q, len, hq, hlen, ?_, ?_, ?_, ?_, q_u_eq, fun i hi => ?_⟩)) h⟩
          · rw [q_u_ne (by omega), q_u_ne (by omega), q_u_nk (by decide), q_u_nk (by decide), q_u_eq]
          · rw [q_u_ne (by omega), q_u_ne (by omega), q_u_nk (by decide), q_u_eq]
          · rw [q_u_ne (by omega), q_u_ne (by omega), q_u_eq]
          · rw [q_u_ne (by decide), q_u_eq, show (100 : Int32) = nI 100 by decide, q_add]
          · rw [q_fill_out (by omega), q_fill_in (by omega), q_fill_in (by omega)]
        · simp only [h160, q_onI_i, q_onJ_j, q_onS_s, q_onB_t, true_and, and_true, true_or, or_true, eq_self, true_implies, not_true_eq_false, not_false_eq_true, false_implies, q_bb0, q_bbok, q_bbok2, Bool.true_eq_false, Bool.false_eq_true, reduceCtorEq, s_refuse7, g_C_row_52]
          refine ⟨_, _, _, _, rfl, rfl, q_u_ne (by decide), ?_⟩
          rw [e_M_row, s_within0, show (7 : Int32).toInt + 1 = 8 by decide, hb, q_onI_i, g_M_row_7]
          simp only [hz, h160, q_onI_i, q_onJ_j, q_onS_s, q_onB_t, true_and, and_true, true_or, or_true, eq_self, true_implies, not_true_eq_false, not_false_eq_true, false_implies, q_bb0, q_bbok, q_bbok2, Bool.true_eq_false, Bool.false_eq_true, reduceCtorEq, s_within0, show (3 : Int32).toInt + 1 = 4 by decide, hy, g_M_row_33, s_no7, g_M_row_56]
          exact ⟨_, _, _, rfl, q_J_refuse 7 h⟩
    · simp only [hz, q_onI_i, q_onJ_j, q_onS_s, q_onB_t, true_and, and_true, true_or, or_true, eq_self, true_implies, not_true_eq_false, not_false_eq_true, false_implies, q_bb0, q_bbok, q_bbok2, Bool.true_eq_false, Bool.false_eq_true, reduceCtorEq, s_refuse4, g_C_row_23]
      refine ⟨_, _, _, _, rfl, rfl, q_u_ne (by decide), ?_⟩
      rw [e_M_row, s_within0, show (7 : Int32).toInt + 1 = 8 by decide, hb, q_onI_i, g_M_row_7]
      simp only [hz, q_onI_i, q_onJ_j, q_onS_s, q_onB_t, true_and, and_true, true_or, or_true, eq_self, true_implies, not_true_eq_false, not_false_eq_true, false_implies, q_bb0, q_bbok, q_bbok2, Bool.true_eq_false, Bool.false_eq_true, reduceCtorEq, s_no4, g_M_row_26]
      exact ⟨_, _, _, rfl, q_J_refuse 4 h⟩
end OPS5
