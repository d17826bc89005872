/-! says -/
def q_und (c : Nat) : Nat → Nat → Bool
  | 0, _ => false
  | f + 1, k => decide (k = c) || (!decide (k = 0) && q_und c f (k - 2))
theorem q_und_s {c f k : Nat} : q_und c (f + 1) k = (decide (k = c) || (!decide (k = 0) && q_und c f (k - 2))) := rfl
def q_isof (k c : Nat) : Bool := decide (c = 0) || (decide (c = k) || ((decide (c = 1) && decide (k = 3)) || (decide (c = 2) && decide (k = 4))))
theorem q_und_of : ∀ k, k < 5 → ∀ c, c < 5 → q_und c 3 k = q_isof k c := by decide
theorem l_isUnder {L d : Nat} {rt : Value → q_Mem → Nat → Nat → Prop} {I : Nat → Nat → Int32} {J : Nat → Nat → Int64} {t : Nat} {x0 : Int32} {c : Nat} (hc : c < 5) : ∀ (f k : Nat), k + 1 < 2 * f → k < 5 → q_X (q_W (d + 1)) rt 153 (2, [some (.int x0), some (.int (nI c)), some (.int (nI k))], [], (q_mm L I J t), 0, 0) = rt (.int (q_bb (q_und c f k))) (q_mm L I J t) 0 0
  | 0, k, h, hk => absurd h (by omega)
  | f + 1, k, h, hk => by
    rw [g_M_isUnder_2, q_eqN (by omega) (by omega), q_le0 (by omega), q_und_s]
    simp only [q_onI_i, q_onJ_j, q_onS_s, q_onB_t, true_and, and_true, true_or, or_true, eq_self, true_implies, not_true_eq_false, not_false_eq_true, false_implies, q_bb0, q_bbok, q_bbok2, Bool.true_eq_false, Bool.false_eq_true, reduceCtorEq]
    by_cases h1 : k = c
    · simp [h1, q_bb]
    · rw [q_brn h1, decide_eq_false h1, Bool.false_or]
      by_cases h0 : k = 0
      · rw [q_br h0, q_brn h1, decide_eq_true h0]
        rfl
      · rw [q_brn h0, decide_eq_false h0, Bool.not_false, Bool.true_and, e_M_above, show (2 : Int32) = nI 2 by decide, q_leN (by omega) (by decide)]
        by_cases h2 : k ≤ 2
        · rw [q_br h2]
          simp only [q_onI_i, g_M_isUnder_15]
          rw [show (0 : Int32) = nI (k - 2) by rw [show k - 2 = 0 by omega]; decide]
          exact l_isUnder hc f (k - 2) (by omega) (by omega)
        · rw [q_brn h2]
          simp only [q_onI_i, g_M_isUnder_15]
          rw [q_sub (by omega)]
          exact l_isUnder hc f (k - 2) (by omega) (by omega)
theorem s_isUnder {L d : Nat} {Q : Value → q_Mem → Prop} {I : Nat → Nat → Int32} {J : Nat → Nat → Int64} {t : Nat} {c k : Nat} (hc : c < 5) (hk : k < 5) : q_W (d + 2) 153 [.int (nI k), .int (nI c)] (q_mm L I J t) Q = Q (.int (q_bb (q_isof k c))) (q_mm L I J t) := by
  rw [e_M_isUnder, l_isUnder hc 3 k (by omega) hk, q_und_of k hk c hc]
theorem s_isOf {L d : Nat} {Q : Value → q_Mem → Prop} {I : Nat → Nat → Int32} {J : Nat → Nat → Int64} {t : Nat} {p c k : Nat} (hp : p < 12) (hc : c < 5) (hk : k < 5) (he : I (6 + p) 0 = nI k) : q_W (d + 1) 43 [.ref (6 + p), .int (nI c)] (q_mm L I J t) Q = Q (.int (q_bb (q_isof k c))) (q_mm L I J t) := by
  have e0 : (nI c = 0) = (c = 0) := q_eq0 (by omega)
  have e1 : (nI c = 1) = (c = 1) := by rw [show (1 : Int32) = nI 1 by decide, q_eqN (by omega) (by decide)]
  have e2 : (nI c = 2) = (c = 2) := by rw [show (2 : Int32) = nI 2 by decide, q_eqN (by omega) (by decide)]
  have e3 : (nI k = 3) = (k = 3) := by rw [show (3 : Int32) = nI 3 by decide, q_eqN (by omega) (by decide)]
  have e4 : (nI k = 4) = (k = 4) := by rw [show (4 : Int32) = nI 4 by decide, q_eqN (by omega) (by decide)]
  have ek : (nI c = nI k) = (c = k) := q_eqN (by omega) (by omega)
  rw [e_Plug_isOf, i_plug hp]
  simp only [q_onI_i, q_onJ_j, q_onS_s, q_onB_t, true_and, and_true, true_or, or_true, eq_self, true_implies, not_true_eq_false, not_false_eq_true, false_implies, q_bb0, q_bbok, q_bbok2, Bool.true_eq_false, Bool.false_eq_true, reduceCtorEq, he, e0, e1, e2, e3, e4, ek]
  unfold q_isof
  by_cases h0 : c = 0
  · simp [h0, q_bb]
  · by_cases hh : c = k
    · simp [hh, q_bb]
    · by_cases h1 : c = 1
      · by_cases h3 : k = 3
        · simp [h1, h3, q_bb]
        · have h4 : ¬ 1 = k := fun z => hh (h1.trans z)
          simp [h1, h3, h4, q_bb]
      · by_cases h2 : c = 2
        · by_cases h3 : k = 4
          · simp [h2, h3, q_bb]
          · have h4 : ¬ 2 = k := fun z => hh (h2.trans z)
            simp [h2, h3, h4, q_bb]
        · simp [h0, hh, h1, h2, q_bb]
def q_word (I : Nat → Nat → Int32) (p c : Nat) : Int32 := if c = 0 then I 131 (24 + p) else if c % 2 = 1 then q_bc (I 131 (48 + p)) else q_mstr I p
theorem s_wordAs {L d : Nat} {Q : Value → q_Mem → Prop} {I : Nat → Nat → Int32} {J : Nat → Nat → Int64} {t : Nat} {p c : Nat} (hp : p < 12) (hc : c < 5) (hv : v_plug q_bc I 6 131 p) : q_W (d + 2) 44 [.ref (6 + p), .int (nI c)] (q_mm L I J t) Q = Q (.int (q_word I p c)) (q_mm L I J t) := by
  obtain ⟨b, -, bS, -⟩ := hv
  rw [e_Plug_wordAs, nI_toInt (by omega)]
  have e6 : I (6 + p) 6 = q_mstr I p := by
    rw [bS, b.1, b.2.1, b.2.2.2.1]
    rfl
  simp only [i_plug hp, q_onI_i, q_onJ_j, q_onS_s, q_onB_t, true_and, and_true, true_or, or_true, eq_self, true_implies, not_true_eq_false, not_false_eq_true, false_implies, q_bb0, q_bbok, q_bbok2, Bool.true_eq_false, Bool.false_eq_true, reduceCtorEq, s_bitCount, g_Plug_wordAs_39, e6, b.2.2.2.1, b.2.1]
  unfold q_word
  have hcs : c = 0 ∨ c = 1 ∨ c = 2 ∨ c = 3 ∨ c = 4 := by omega
  rcases hcs with rfl | rfl | rfl | rfl | rfl <;> simp
section OPS14
variable {L c : Nat} {I : Nat → Nat → Int32} {J : Nat → Nat → Int64} {t : Nat}
theorem t_says {x y : Int32} (h : q_J c I J t) : q_SI 100 84 155 [.int x, .int y] (q_J (c + 1)) L I J t := by
  obtain ⟨n, hk, m, h2, h3, h4, h5, h6, h7, h8⟩ := id h
  obtain ⟨⟨a1, a2, a3, a4, a5, a6⟩, m2, m3, m4, m5⟩ := id m
  have k7 : (7 : Int32).toInt + 1 = 8 := by decide
  have k4 : (4 : Int32).toInt + 1 = 5 := by decide
  have k5 : (5 : Int32).toInt = 5 := by decide
  unfold q_SI
  rw [e_C_says, s_isShelf, q_onI_i, g_C_says_4]
  cases hx : q_in x 8 with
  | false =>
    simp only [q_onI_i, q_onJ_j, q_onS_s, q_onB_t, true_and, and_true, true_or, or_true, eq_self, true_implies, not_true_eq_false, not_false_eq_true, false_implies, q_bb0, q_bbok, q_bbok2, Bool.true_eq_false, Bool.false_eq_true, reduceCtorEq, s_refuse1, g_C_says_20]
    refine ⟨_, _, _, _, rfl, rfl, q_u_ne (by decide), ?_⟩
    rw [e_M_says, s_within0, k7, hx, q_onI_i, g_M_says_7]
    simp only [q_onI_i, q_onJ_j, q_onS_s, q_onB_t, true_and, and_true, true_or, or_true, eq_self, true_implies, not_true_eq_false, not_false_eq_true, false_implies, q_bb0, q_bbok, q_bbok2, Bool.true_eq_false, Bool.false_eq_true, reduceCtorEq, s_no1, g_M_says_24]
    exact ⟨_, _, _, rfl, q_J_refuse 1 h⟩
  | true =>
    obtain ⟨s, hs, rfl⟩ := q_in_get (n := 8) hx
    simp only [q_onI_i, q_onJ_j, q_onS_s, q_onB_t, true_and, and_true, true_or, or_true, eq_self, true_implies, not_true_eq_false, not_false_eq_true, false_implies, q_bb0, q_bbok, q_bbok2, Bool.true_eq_false, Bool.false_eq_true, reduceCtorEq]
    rw [s_isBelow, k5, q_onI_i, g_C_says_12]
    cases hy : q_in y 5 with
    | false =>
      simp only [q_onI_i, q_onJ_j, q_onS_s, q_onB_t, true_and, and_true, true_or, or_true, eq_self, true_implies, not_true_eq_false, not_false_eq_true, false_implies, q_bb0, q_bbok, q_bbok2, Bool.true_eq_false, Bool.false_eq_true, reduceCtorEq, s_refuse1, g_C_says_20]
      refine ⟨_, _, _, _, rfl, rfl, q_u_ne (by decide), ?_⟩
      rw [e_M_says, s_within0, k7, hx, q_onI_i, g_M_says_7]
      simp only [q_onI_i, q_onJ_j, q_onS_s, q_onB_t, true_and, and_true, true_or, or_true, eq_self, true_implies, not_true_eq_false, not_false_eq_true, false_implies, q_bb0, q_bbok, q_bbok2, Bool.true_eq_false, Bool.false_eq_true, reduceCtorEq]
      rw [s_within0, k4, hy, q_onI_i, g_M_says_16]
      simp only [q_onI_i, q_onJ_j, q_onS_s, q_onB_t, true_and, and_true, true_or, or_true, eq_self, true_implies, not_true_eq_false, not_false_eq_true, false_implies, q_bb0, q_bbok, q_bbok2, Bool.true_eq_false, Bool.false_eq_true, reduceCtorEq, s_no1, g_M_says_24]
      exact ⟨_, _, _, rfl, q_J_refuse 1 h⟩
    | true =>
      obtain ⟨w, hw, rfl⟩ := q_in_get (n := 5) hy
      have hM : ∀ {I1 : Nat → Nat → Int32} {Q : Value → q_Mem → Prop}, q_W 100 155 [.ref 130, .int (nI s), .int (nI w)] (q_mm L I1 J t) Q = q_X (q_W 99) (fun v μ x x_1 => Q v μ) 155 (16, [some (.ref 130), some (.int (nI s)), some (.int (nI w)), none], [.int 1], q_mm L I1 J t, 0, 0) := by
        intro I1 Q
        rw [e_M_says, s_within0, k7, hx, q_onI_i, g_M_says_7]
        simp only [q_onI_i, q_onJ_j, q_onS_s, q_onB_t, true_and, and_true, true_or, or_true, eq_self, true_implies, not_true_eq_false, not_false_eq_true, false_implies, q_bb0, q_bbok, q_bbok2, Bool.true_eq_false, Bool.false_eq_true, reduceCtorEq]
        rw [s_within0, k4, hy, q_onI_i]
        rfl
      simp only [q_onI_i, q_onJ_j, q_onS_s, q_onB_t, true_and, and_true, true_or, or_true, eq_self, true_implies, not_true_eq_false, not_false_eq_true, false_implies, q_bb0, q_bbok, q_bbok2, Bool.true_eq_false, Bool.false_eq_true, reduceCtorEq, q_clamp (show s < 2 ^ 31 by omega), q_bnd hs (by decide), r_shelf hs, i_shelf hs, s_hasRow (i_shelf hs), g_C_says_30]
      have h10 : ¬ ((1 : Int32) = 0) := by decide
      rcases h2 s hs with ⟨s1, s2, s3⟩ | ⟨q, len, s1, s2, s3, s4, s5, s6, s7, s8⟩ | ⟨p, s1, s2, s3, s4⟩
      · simp only [s1, q_onI_i, q_onJ_j, q_onS_s, q_onB_t, true_and, and_true, true_or, or_true, eq_self, true_implies, not_true_eq_false, not_false_eq_true, false_implies, q_bb0, q_bbok, q_bbok2, Bool.true_eq_false, Bool.false_eq_true, reduceCtorEq, decide_false, s2, s_hasPlug a1 a3, show q_in (-1) (n : Int) = false from decide_eq_false (fun z => absurd z.1 (by decide)), g_C_says_58, s_refuse3, g_C_says_67, Bool.not_true, decide_true]
        refine ⟨_, _, _, _, rfl, rfl, q_u_ne (by decide), ?_⟩
        rw [hM, g_M_says_16, q_brn h10]
        simp only [q_clamp (show s < 2 ^ 31 by omega), q_bnd hs (by decide), true_and, q_u_ne (show (133 : Nat) ≠ 113 by decide), s3]
        rw [q_br (by decide), q_brn (by decide), s_no3, q_onI_i, g_M_says_74]
        exact ⟨rfl, _, _, _, rfl, q_J_refuse 3 h⟩
      · have e1 : ¬ I (114 + 2 * s) 1 = -1 := by rw [s3, q_nI_m1 (show q < 2 ^ 31 by omega)]; exact fun z => z
        simp only [decide_eq_true e1, q_onI_i, q_onJ_j, q_onS_s, q_onB_t, true_and, and_true, true_or, or_true, eq_self, true_implies, not_true_eq_false, not_false_eq_true, false_implies, q_bb0, q_bbok, q_bbok2, Bool.true_eq_false, Bool.false_eq_true, reduceCtorEq, s_refuse2, g_C_says_39]
        refine ⟨_, _, _, _, rfl, rfl, q_u_ne (by decide), ?_⟩
        rw [hM, g_M_says_16, q_brn h10]
        simp only [q_clamp (show s < 2 ^ 31 by omega), q_bnd hs (by decide), true_and, q_u_ne (show (133 : Nat) ≠ 113 by decide), s6]
        rw [q_brn (nI_pos (by omega)), s_isRow hs, q_u_ne (show (133 : Nat) ≠ 113 by decide), s6, decide_eq_true (by rw [show (100 : Int32) = nI 100 by decide, q_ltN (by omega) (by decide)]; omega), q_onI_i, g_M_says_41, q_brn (by decide), s_no2, q_onI_i, g_M_says_63]
        exact ⟨rfl, _, _, _, rfl, q_J_refuse 2 h⟩
      · have hp12 : p < 12 := by omega
        obtain ⟨b, bA, bS, bN, r1, rr⟩ := a5 p s1
        obtain ⟨k, hk5, ek⟩ := q_in_get (n := 5) (x := I 131 (12 + p)) (decide_eq_true ⟨r1.1, by have := r1.2; omega⟩)
        have ek2 : I (6 + p) 0 = nI k := by rw [b.1, ek]
        have hr0 : decide (¬ nI p < 100) = false := by rw [show (100 : Int32) = nI 100 by decide]; exact decide_eq_false (fun z => z (by rw [q_ltN (by omega) (by decide)]; omega))
        simp only [s2, q_onI_i, q_onJ_j, q_onS_s, q_onB_t, true_and, and_true, true_or, or_true, eq_self, true_implies, not_true_eq_false, not_false_eq_true, false_implies, q_bb0, q_bbok, q_bbok2, Bool.true_eq_false, Bool.false_eq_true, reduceCtorEq, decide_false, decide_true, Bool.not_true, s3, s_hasPlug a1 a3, q_in_nI (show p < 2 ^ 31 by omega), decide_eq_true s1, g_C_says_58, q_clamp (show p < 2 ^ 31 by omega), q_bnd hp12 (by decide), r_plug hp12, i_plug hp12, s_isOf hp12 hw hk5 ek2, g_C_says_85]
        cases hof : q_isof k w with
        | false =>
          simp only [q_onI_i, q_onJ_j, q_onS_s, q_onB_t, true_and, and_true, true_or, or_true, eq_self, true_implies, not_true_eq_false, not_false_eq_true, false_implies, q_bb0, q_bbok, q_bbok2, Bool.true_eq_false, Bool.false_eq_true, reduceCtorEq, s_refuse2, g_C_says_94]
          refine ⟨_, _, _, _, rfl, rfl, q_u_ne (by decide), ?_⟩
          rw [hM, g_M_says_16, q_brn h10]
          simp only [q_clamp (show s < 2 ^ 31 by omega), q_bnd hs (by decide), true_and, q_u_ne (show (133 : Nat) ≠ 113 by decide), s4]
          rw [q_brn (nI_pos (by omega)), s_isRow hs, q_u_ne (show (133 : Nat) ≠ 113 by decide), s4, hr0, q_onI_i, g_M_says_41, q_br (show q_bb false = 0 from rfl), show (1 : Int32) = nI 1 by decide, s_of (by omega), q_onI_i, g_M_says_50, q_u_ne (show (131 : Nat) ≠ 113 by decide), show 12 * 1 + p = 12 + p by omega, ek, s_isUnder hw hk5, hof, q_onI_i, g_M_says_54, q_br (show q_bb false = 0 from rfl), s_no2, q_onI_i, g_M_says_63]
          exact ⟨rfl, _, _, _, rfl, q_J_refuse 2 h⟩
        | true =>
          simp only [q_onI_i, q_onJ_j, q_onS_s, q_onB_t, true_and, and_true, true_or, or_true, eq_self, true_implies, not_true_eq_false, not_false_eq_true, false_implies, q_bb0, q_bbok, q_bbok2, Bool.true_eq_false, Bool.false_eq_true, reduceCtorEq, s_wordAs hp12 hw (a5 p s1), g_C_says_101]
          refine ⟨_, _, _, _, rfl, rfl, rfl, ?_⟩
          have hp0 : (0 : Int32) ≤ nI p := nI_pos' (by omega)
          have e2 : nI w - nI w / 2 * 2 = nI (w % 2) := by
            rw [show (2 : Int32) = nI 2 by decide, q_divN (by omega) (by decide), q_mul, q_sub (by omega)]
            congr 1
            omega
          have e3 : (nI (w % 2) = 1) = (w % 2 = 1) := by rw [show (1 : Int32) = nI 1 by decide, q_eqN (by omega) (by decide)]
          rw [hM, g_M_says_16, q_brn h10]
          simp only [q_clamp (show s < 2 ^ 31 by omega), q_bnd hs (by decide), true_and, s4]
          rw [q_brn (nI_pos (by omega)), s_isRow hs, s4, hr0, q_onI_i, g_M_says_41, q_br (show q_bb false = 0 from rfl), show (1 : Int32) = nI 1 by decide, s_of (by omega), q_onI_i, g_M_says_50, show 12 * 1 + p = 12 + p by omega, ek, s_isUnder hw hk5, hof, q_onI_i, g_M_says_54, q_brn (show ¬ q_bb true = 0 by decide), q_br hp0, e2, e3, q_eq0 (show w < 2 ^ 31 by omega)]
          have hz2 : ¬ ((2 : Int32) = 0) := by decide
          simp only [hz2, not_false_eq_true, true_and]
          by_cases w0 : w = 0
          · rw [q_br w0, show (2 : Int32) = nI 2 by decide, s_of (by omega), q_onI_i, g_M_says_85, g_M_says_112]
            refine ⟨?_, _, _, _, rfl, q_J_next h⟩
            unfold q_word
            rw [if_pos w0]
          · rw [q_brn w0]
            by_cases w1 : w % 2 = 1
            · rw [q_br w1, show (4 : Int32) = nI 4 by decide, s_of (by omega), q_onI_i, g_M_says_101, s_bitCount, q_onI_i, g_M_says_104, g_M_says_112]
              refine ⟨?_, _, _, _, rfl, q_J_next h⟩
              unfold q_word
              rw [if_neg w0, if_pos w1]
            · rw [q_brn w1, s_mstr hp12, q_onI_i, g_M_says_112]
              refine ⟨?_, _, _, _, rfl, q_J_next h⟩
              unfold q_word
              rw [if_neg w0, if_neg w1]
end OPS14
