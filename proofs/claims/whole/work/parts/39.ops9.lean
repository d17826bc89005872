/-! plug -/
theorem q_mod27 {k : Nat} (h : k < 2 ^ 31) : nI k - nI k / 27 * 27 = nI (k % 27) := by
  rw [show (27 : Int32) = nI 27 by decide, q_divN h (by decide), q_mul, q_sub (by omega)]
  congr 1
  omega
def q_nm : Nat → Nat → Bool
  | 0, _ => true
  | f + 1, k => decide (k = 0) || (!decide (k % 27 = 0) && q_nm f (k / 27))
theorem q_nm_s {f k : Nat} : q_nm (f + 1) k = (decide (k = 0) || (!decide (k % 27 = 0) && q_nm f (k / 27))) := rfl
theorem q_n27 : ¬ ((27 : Int32) = 0) := by decide
theorem q_le0 {k : Nat} (h : k < 2 ^ 31) : (nI k ≤ 0) = (k = 0) := by
  rw [show (0 : Int32) = nI 0 by decide, q_leN h (by decide)]
  exact propext (by omega)
theorem q_eq0 {k : Nat} (h : k < 2 ^ 31) : (nI k = 0) = (k = 0) := by
  rw [show (0 : Int32) = nI 0 by decide, q_eqN h (by decide)]
theorem l_CisName {L d : Nat} {rt : Value → q_Mem → Nat → Nat → Prop} {I : Nat → Nat → Int32} {J : Nat → Nat → Int64} {t : Nat} {x0 : Int32} : ∀ (f j k : Nat), j + f = 4 → k < 2 ^ 31 → q_X (q_W d) rt 124 (18, [some (.int x0), some (.int (nI k)), some (.int (nI j))], [], (q_mm L I J t), 0, 0) = rt (.int (q_bb (q_nm f k))) (q_mm L I J t) 0 0
  | 0, j, k, h, hk => by
    rw [g_C_isName_18, show (4 : Int32) = nI 4 by decide, q_leN (by decide) (by omega), q_br (by omega)]
    simp only [q_onI_i, q_onJ_j, q_onS_s, q_onB_t, true_and, and_true, true_or, or_true, eq_self, true_implies, not_true_eq_false, not_false_eq_true, false_implies, q_bb0, q_bbok, q_bbok2, Bool.true_eq_false, Bool.false_eq_true, reduceCtorEq]
    rfl
  | f + 1, j, k, h, hk => by
    rw [g_C_isName_18, show (4 : Int32) = nI 4 by decide, q_leN (by decide) (by omega), q_brn (by omega), q_le0 hk, q_mod27 hk, q_eq0 (by omega), q_n1, show (27 : Int32) = nI 27 by decide, q_divN hk (by decide), l_CisName f (j + 1) (k / 27) (by omega) (by omega)]
    rw [q_nm_s]
    have hz : ¬ nI 27 = 0 := by decide
    simp only [q_onI_i, q_onJ_j, q_onS_s, q_onB_t, true_and, and_true, true_or, or_true, eq_self, true_implies, not_true_eq_false, not_false_eq_true, false_implies, q_bb0, q_bbok, q_bbok2, Bool.true_eq_false, Bool.false_eq_true, reduceCtorEq]
    by_cases h0 : k = 0
    · simp [h0, q_bb]
    · by_cases h1 : k % 27 = 0
      · simp [h0, h1, q_bb, hz]
      · rw [q_brn h0, q_brn h1, decide_eq_false h0, decide_eq_false h1]
        simp only [Bool.false_or, Bool.not_false, Bool.true_and]
        simp only [hz, not_false_eq_true, true_and]
theorem l_MisName {L d : Nat} {rt : Value → q_Mem → Nat → Nat → Prop} {I : Nat → Nat → Int32} {J : Nat → Nat → Int64} {t : Nat} {x0 : Int32} : ∀ (f k : Nat), k < 27 ^ f → k < 2 ^ 31 → q_X (q_W d) rt 157 (14, [some (.int x0), some (.int (nI k))], [], (q_mm L I J t), 0, 0) = rt (.int (q_bb (q_nm f k))) (q_mm L I J t) 0 0
  | 0, k, h, hk => by
    rw [g_M_isName_14, q_le0 hk, q_br (by omega)]
    simp only [q_onI_i, q_onJ_j, q_onS_s, q_onB_t, true_and, and_true, true_or, or_true, eq_self, true_implies, not_true_eq_false, not_false_eq_true, false_implies, q_bb0, q_bbok, q_bbok2, Bool.true_eq_false, Bool.false_eq_true, reduceCtorEq]
    rfl
  | f + 1, k, h, hk => by
    have hp : 27 ^ (f + 1) = 27 ^ f * 27 := Nat.pow_succ _ _
    rw [g_M_isName_14, q_le0 hk, q_mod27 hk, q_eq0 (by omega), show (27 : Int32) = nI 27 by decide, q_divN hk (by decide), l_MisName f (k / 27) (by omega) (by omega)]
    rw [q_nm_s]
    have hz : ¬ nI 27 = 0 := by decide
    simp only [q_onI_i, q_onJ_j, q_onS_s, q_onB_t, true_and, and_true, true_or, or_true, eq_self, true_implies, not_true_eq_false, not_false_eq_true, false_implies, q_bb0, q_bbok, q_bbok2, Bool.true_eq_false, Bool.false_eq_true, reduceCtorEq]
    by_cases h0 : k = 0
    · simp [h0, q_bb]
    · by_cases h1 : k % 27 = 0
      · simp [h0, h1, q_bb, hz]
      · rw [q_brn h0, q_brn h1, decide_eq_false h0, decide_eq_false h1]
        simp only [Bool.false_or, Bool.not_false, Bool.true_and]
        simp only [hz, not_false_eq_true, true_and]
def q_isnm (x : Int32) : Bool := decide (1 ≤ x.toInt ∧ x.toInt ≤ 531440) && q_nm 4 x.toNatClampNeg
theorem s_CisName {L d : Nat} {Q : Value → q_Mem → Prop} {I : Nat → Nat → Int32} {J : Nat → Nat → Int64} {t : Nat} {x : Int32} : q_W (d + 1) 124 [.int x] (q_mm L I J t) Q = Q (.int (q_bb (q_isnm x))) (q_mm L I J t) := by
  rw [e_C_isName, q_lt, q_le, show (1 : Int32).toInt = 1 by decide, show (531440 : Int32).toInt = 531440 by decide]
  unfold q_isnm
  by_cases h1 : x.toInt < 1
  · rw [q_br h1, decide_eq_false (by omega)]
    simp only [q_onI_i, q_onJ_j, q_onS_s, q_onB_t, true_and, and_true, true_or, or_true, eq_self, true_implies, not_true_eq_false, not_false_eq_true, false_implies, q_bb0, q_bbok, q_bbok2, Bool.true_eq_false, Bool.false_eq_true, reduceCtorEq, Bool.false_and]
    rfl
  · rw [q_brn h1]
    by_cases h2 : x.toInt ≤ 531440
    · obtain ⟨k, hk, rfl⟩ := q_in_get (n := 531441) (x := x) (decide_eq_true (by omega))
      rw [q_br h2, decide_eq_true (by omega), Bool.true_and, q_clamp (by omega), show (0 : Int32) = nI 0 by decide, l_CisName 4 0 k (by omega) (by omega)]
    · rw [q_brn h2, decide_eq_false (by omega)]
      simp only [q_onI_i, q_onJ_j, q_onS_s, q_onB_t, true_and, and_true, true_or, or_true, eq_self, true_implies, not_true_eq_false, not_false_eq_true, false_implies, q_bb0, q_bbok, q_bbok2, Bool.true_eq_false, Bool.false_eq_true, reduceCtorEq, Bool.false_and]
      rfl
theorem s_MisName {L d : Nat} {Q : Value → q_Mem → Prop} {I : Nat → Nat → Int32} {J : Nat → Nat → Int64} {t : Nat} {x : Int32} : q_W (d + 1) 157 [.int x] (q_mm L I J t) Q = Q (.int (q_bb (q_isnm x))) (q_mm L I J t) := by
  rw [e_M_isName, q_lt, q_le, show (0 : Int32).toInt = 0 by decide, show (531441 : Int32).toInt = 531441 by decide]
  unfold q_isnm
  by_cases h1 : x.toInt ≤ 0
  · rw [q_br h1, decide_eq_false (by omega)]
    simp only [q_onI_i, q_onJ_j, q_onS_s, q_onB_t, true_and, and_true, true_or, or_true, eq_self, true_implies, not_true_eq_false, not_false_eq_true, false_implies, q_bb0, q_bbok, q_bbok2, Bool.true_eq_false, Bool.false_eq_true, reduceCtorEq, Bool.false_and]
    rfl
  · rw [q_brn h1]
    by_cases h2 : x.toInt < 531441
    · obtain ⟨k, hk, rfl⟩ := q_in_get (n := 531441) (x := x) (decide_eq_true (by omega))
      rw [q_br h2, decide_eq_true (by omega), Bool.true_and, q_clamp (by omega), l_MisName 4 k (by omega) (by omega)]
    · rw [q_brn h2, decide_eq_false (by omega)]
      simp only [q_onI_i, q_onJ_j, q_onS_s, q_onB_t, true_and, and_true, true_or, or_true, eq_self, true_implies, not_true_eq_false, not_false_eq_true, false_implies, q_bb0, q_bbok, q_bbok2, Bool.true_eq_false, Bool.false_eq_true, reduceCtorEq, Bool.false_and]
      rfl
theorem q_isnm_ok {x : Int32} (h : q_isnm x = true) : q_nameok x := by
  unfold q_isnm at h
  rw [Bool.and_eq_true] at h
  exact of_decide_eq_true (p := 1 ≤ x.toInt ∧ x.toInt ≤ 531440) h.1
def q_there (I : Nat → Nat → Int32) (n : Nat) (x : Int32) : Bool := q_any (fun p => !decide (I 131 p = 3) && decide (I 131 (72 + p) = x)) 0 n
theorem l_isThere {L d : Nat} {rt : Value → q_Mem → Nat → Nat → Prop} {I : Nat → Nat → Int32} {J : Nat → Nat → Int64} {t : Nat} {n : Nat} {x : Int32} (hn : I 130 0 = nI n) (h12 : n ≤ 12) : ∀ k i, i + k = n → q_X (q_W (d + 1)) rt 158 (2, [some (.ref 130), some (.int x), some (.int (nI i))], [], (q_mm L I J t), 0, 0) = rt (.int (q_bb (q_any (fun p => !decide (I 131 p = 3) && decide (I 131 (72 + p) = x)) i k))) (q_mm L I J t) 0 0
  | 0, i, h => by
    rw [g_M_isThere_2, hn, q_leN (by omega) (by omega), q_br (by omega)]
    simp only [q_onI_i, q_onJ_j, q_onS_s, q_onB_t, true_and, and_true, true_or, or_true, eq_self, true_implies, not_true_eq_false, not_false_eq_true, false_implies, q_bb0, q_bbok, q_bbok2, Bool.true_eq_false, Bool.false_eq_true, reduceCtorEq]
    rfl
  | k + 1, i, h => by
    rw [g_M_isThere_2, hn, q_leN (by omega) (by omega), q_brn (by omega), s_state (by omega), q_onI_i, g_M_isThere_15, show (6 : Int32) = nI 6 by decide, s_of (by omega), q_onI_i, g_M_isThere_26]
    simp only [q_onI_i, q_onJ_j, q_onS_s, q_onB_t, true_and, and_true, true_or, or_true, eq_self, true_implies, not_true_eq_false, not_false_eq_true, false_implies, q_bb0, q_bbok, q_bbok2, Bool.true_eq_false, Bool.false_eq_true, reduceCtorEq, q_n1, l_isThere hn h12 k (i + 1) (show i + 1 + k = n by omega)]
    rw [q_any_s]
    by_cases h9 : I 131 i = 3 <;> by_cases h5 : I 131 (72 + i) = x <;> simp [h9, h5, q_bb]
theorem s_isThere {L d : Nat} {Q : Value → q_Mem → Prop} {I : Nat → Nat → Int32} {J : Nat → Nat → Int64} {t : Nat} {n : Nat} {x : Int32} (hn : I 130 0 = nI n) (h12 : n ≤ 12) : q_W (d + 2) 158 [.ref 130, .int x] (q_mm L I J t) Q = Q (.int (q_bb (q_there I n x))) (q_mm L I J t) := by
  rw [e_M_isThere]
  exact l_isThere hn h12 n 0 (by omega)
theorem q_there_eq {I : Nat → Nat → Int32} {n : Nat} {x : Int32} (h : ∀ p, p < n → v_plug q_bc I 6 131 p) : q_any (fun p => !decide (I (6 + p) 9 = 3) && decide (I (6 + p) 5 = x)) 0 n = q_there I n x := q_any_congr n 0 fun p _ hp => by
  obtain ⟨b, -⟩ := h p (by omega)
  rw [b.2.2.2.2.2.2.1, b.2.2.2.2.2.1]
theorem q_five {x : Int32} : (if x < 5 then (5 : Int32) else x) = (if 5 < x then x else 5) := by
  simp only [q_lt, show (5 : Int32).toInt = 5 by decide]
  by_cases h1 : x.toInt < 5
  · rw [if_pos h1, if_neg (by omega)]
  · rw [if_neg h1]
    by_cases h2 : 5 < x.toInt
    · rw [if_pos h2]
    · rw [if_neg h2]
      apply Int32.toInt_inj.mp
      rw [show (5 : Int32).toInt = 5 by decide]
      omega
theorem s_strengthByKind {L d : Nat} {Q : Value → q_Mem → Prop} {I : Nat → Nat → Int32} {J : Nat → Nat → Int64} {t : Nat} {p : Nat} (hp : p < 12) : q_W (d + 2) 42 [.ref (6 + p)] (q_mm L I J t) Q = Q (.int (q_str (I (6 + p) 0) (I (6 + p) 1) (q_bc (I (6 + p) 3)))) (q_mm L I J t) := by
  rw [e_Plug_strengthByKind]
  simp only [i_plug hp, q_onI_i, q_onJ_j, q_onS_s, q_onB_t, true_and, and_true, true_or, or_true, eq_self, true_implies, not_true_eq_false, not_false_eq_true, false_implies, q_bb0, q_bbok, q_bbok2, Bool.true_eq_false, Bool.false_eq_true, reduceCtorEq, s_bitCount, g_Plug_strengthByKind_11, q_five]
  unfold q_str
  by_cases h1 : (I (6 + p) 0).toInt = 1
  · simp [h1]
  · by_cases h2 : (I (6 + p) 0).toInt = 2
    · simp [h2]
    · by_cases h3 : (I (6 + p) 0).toInt = 3
      · simp [h3]
      · by_cases h4 : (I (6 + p) 0).toInt = 4
        · simp [h4]
        · simp [h1, h2, h3, h4]
theorem s_letters {L d : Nat} {Q : Value → q_Mem → Prop} {I : Nat → Nat → Int32} {J : Nat → Nat → Int64} {t : Nat} {p : Nat} (hp : p < 12) (hx : q_nameok (I (6 + p) 5)) : q_W (d + 1) 45 [.ref (6 + p)] (q_mm L I J t) Q = Q (.int (q_ord (I (6 + p) 5))) (q_mm L I J t) := by
  obtain ⟨k, hk, e⟩ := q_in_get (n := 531441) (x := I (6 + p) 5) (decide_eq_true (by have := hx.1; have := hx.2; omega))
  have hk1 : 1 ≤ k := by
    have := hx.1
    rw [e, nI_toInt (by omega)] at this
    omega
  rw [e_Plug_lettersFromLeft]
  simp only [i_plug hp, q_onI_i, q_onJ_j, q_onS_s, q_onB_t, true_and, and_true, true_or, or_true, eq_self, true_implies, not_true_eq_false, not_false_eq_true, false_implies, q_bb0, q_bbok, q_bbok2, Bool.true_eq_false, Bool.false_eq_true, reduceCtorEq, e]
  have hm : ∀ a : Nat, nI a * 27 = nI (a * 27) := fun a => by rw [show (27 : Int32) = nI 27 by decide, q_mul]
  have h4 : (4 : Int32) = nI 4 := by decide
  have h1 : (1 : Int32) = nI 1 := by decide
  have hL : ∀ (a j : Nat), a < 2 ^ 24 → j < 4 → q_X (q_W d) (fun v μ x x_1 => Q v μ) 45 (7, [some (.ref (6 + p)), some (.int (nI a)), some (.int (nI j))], [], (q_mm L I J t), 0, 0) = ((19683 ≤ a → Q (.int (nI a)) (q_mm L I J t)) ∧ (¬ 19683 ≤ a → q_X (q_W d) (fun v μ x x_1 => Q v μ) 45 (7, [some (.ref (6 + p)), some (.int (nI (a * 27))), some (.int (nI (j + 1)))], [], (q_mm L I J t), 0, 0))) := fun a j ha hj => by
    rw [g_Plug_lettersFromLeft_7, h4, q_leN (by decide) (by omega), q_brn (by omega), show (19683 : Int32) = nI 19683 by decide, q_leN (by decide) (by omega), hm, q_n1]
  have hE : ∀ (a : Nat), q_X (q_W d) (fun v μ x x_1 => Q v μ) 45 (7, [some (.ref (6 + p)), some (.int (nI a)), some (.int (nI 4))], [], (q_mm L I J t), 0, 0) = Q (.int (nI a)) (q_mm L I J t) := fun a => by
    rw [g_Plug_lettersFromLeft_7, h4, q_leN (by decide) (by decide), q_br (by omega)]
  have hq : q_ord (nI k) = nI (if k < 27 then k * 27 * 27 * 27 else if k < 729 then k * 27 * 27 else if k < 19683 then k * 27 else k) := by
    unfold q_ord
    rw [nI_toInt (by omega)]
    have c1 : ((k : Int) < 27) = (k < 27) := propext (by omega)
    have c2 : ((k : Int) < 729) = (k < 729) := propext (by omega)
    have c3 : ((k : Int) < 19683) = (k < 19683) := propext (by omega)
    simp only [c1, c2, c3]
    by_cases g1 : k < 27
    · rw [if_pos g1, if_pos g1, show (27 : Int32) = nI 27 by decide, q_mul, q_mul, q_mul]
      congr 1
      omega
    · rw [if_neg g1, if_neg g1]
      by_cases g2 : k < 729
      · rw [if_pos g2, if_pos g2, show (27 : Int32) = nI 27 by decide, q_mul, q_mul]
        congr 1
        omega
      · rw [if_neg g2, if_neg g2]
        by_cases g3 : k < 19683
        · rw [if_pos g3, if_pos g3, show (27 : Int32) = nI 27 by decide, q_mul]
          congr 1
          omega
        · rw [if_neg g3, if_neg g3]
  rw [h1, hL k 1 (by omega) (by decide), hq]
  by_cases g3 : k < 19683
  · rw [q_brn (by omega), hL (k * 27) 2 (by omega) (by decide)]
    by_cases g2 : k < 729
    · rw [q_brn (by omega), hL (k * 27 * 27) 3 (by omega) (by decide)]
      by_cases g1 : k < 27
      · rw [q_brn (by omega), hE, if_pos g1]
      · rw [q_br (by omega), if_neg g1, if_pos g2]
    · rw [q_br (by omega), if_neg (by omega), if_neg g2, if_pos g3]
  · rw [q_br (by omega), if_neg (by omega), if_neg (by omega), if_neg g3]

def q_newC (I : Nat → Nat → Int32) (p : Nat) (x1 x2 x3 x4 x5 x6 : Int32) : Nat → Nat → Int32 := (q_u (q_u (q_u (q_u (q_u (q_u (q_u (q_u (q_u (q_u (q_u I (6 + p) 0 x1) (6 + p) 1 x2) (6 + p) 2 x3) (6 + p) 3 x4) (6 + p) 4 x5) (6 + p) 5 x6) (6 + p) 6 (q_str x1 x2 (q_bc x4))) (6 + p) 7 (q_ord x6)) (6 + p) 8 0) (6 + p) 9 0) (6 + p) 10 (-1))
def q_newM (I : Nat → Nat → Int32) (p : Nat) (x1 x2 x3 x4 x5 x6 : Int32) : Nat → Nat → Int32 := (q_u (q_u (q_u (q_u (q_u (q_u (q_u (q_u (q_u (q_u I 131 p 0) 131 (12 + p) x1) 131 (24 + p) x2) 131 (36 + p) x3) 131 (48 + p) x4) 131 (60 + p) x5) 131 (72 + p) x6) 131 (84 + p) 0) 131 (96 + p) 0) 130 0 (nI (p + 1)))
theorem s_begin {L d : Nat} {Q : Value → q_Mem → Prop} {I : Nat → Nat → Int32} {J : Nat → Nat → Int64} {t : Nat} {p : Nat} {x1 x2 x3 x4 x5 x6 : Int32} (hp : p < 12) (hx : q_nameok x6) : q_W (d + 3) 38 [.ref (6 + p), .int x1, .int x2, .int x3, .int x4, .int x5, .int x6] (q_mm L I J t) Q = Q .null (q_mm L (q_newC I p x1 x2 x3 x4 x5 x6) J t) := by
  rw [e_Plug_begin]
  simp only [i_plug hp, q_onI_i, q_onJ_j, q_onS_s, q_onB_t, true_and, and_true, true_or, or_true, eq_self, true_implies, not_true_eq_false, not_false_eq_true, false_implies, q_bb0, q_bbok, q_bbok2, Bool.true_eq_false, Bool.false_eq_true, reduceCtorEq, s_strengthByKind hp, g_Plug_begin_38]
  rw [s_letters hp (by simp (decide := true) only [q_u_eq, q_u_nk, ne_eq]; exact hx), q_onI_i, g_Plug_begin_46]
  simp only [i_plug hp, q_onI_i, q_onJ_j, q_onS_s, q_onB_t, true_and, and_true, true_or, or_true, eq_self, true_implies, not_true_eq_false, not_false_eq_true, false_implies, q_bb0, q_bbok, q_bbok2, Bool.true_eq_false, Bool.false_eq_true, reduceCtorEq]
  simp (decide := true) only [q_u_eq, q_u_nk, ne_eq]
  rfl
theorem s_newPlug {L d : Nat} {Q : Value → q_Mem → Prop} {I : Nat → Nat → Int32} {J : Nat → Nat → Int64} {t : Nat} {p : Nat} {x1 x2 x3 x4 x5 x6 : Int32} (hn : I 130 0 = nI p) (hp : p < 12) : q_W (d + 1) 156 [.ref 130, .int x1, .int x2, .int x3, .int x4, .int x5, .int x6] (q_mm L I J t) Q = Q (.int (nI p)) (q_mm L (q_newM I p x1 x2 x3 x4 x5 x6) J t) := by
  have hz : ∀ (I : Nat → Nat → Int32) (k : Nat) (v : Int32), q_u I 131 k v 130 = I 130 := fun I k v => q_u_ne (by decide)
  have a1 : (12 : Int32) + nI p = nI (12 + p) := by rw [show (12 : Int32) = nI 12 by decide, q_add]
  have a2 : (24 : Int32) + nI p = nI (24 + p) := by rw [show (24 : Int32) = nI 24 by decide, q_add]
  have a3 : (36 : Int32) + nI p = nI (36 + p) := by rw [show (36 : Int32) = nI 36 by decide, q_add]
  have a4 : (48 : Int32) + nI p = nI (48 + p) := by rw [show (48 : Int32) = nI 48 by decide, q_add]
  have a5 : (60 : Int32) + nI p = nI (60 + p) := by rw [show (60 : Int32) = nI 60 by decide, q_add]
  have a6 : (72 : Int32) + nI p = nI (72 + p) := by rw [show (72 : Int32) = nI 72 by decide, q_add]
  have a7 : (84 : Int32) + nI p = nI (84 + p) := by rw [show (84 : Int32) = nI 84 by decide, q_add]
  have a8 : (96 : Int32) + nI p = nI (96 + p) := by rw [show (96 : Int32) = nI 96 by decide, q_add]
  rw [e_M_newPlug]
  simp only [hz, hn, a1, a2, q_clamp (show p < 2 ^ 31 by omega), q_bnd (show p < 108 by omega) (by decide), q_clamp (show 12 + p < 2 ^ 31 by omega), q_bnd (show 12 + p < 108 by omega) (by decide), q_clamp (show 24 + p < 2 ^ 31 by omega), q_bnd (show 24 + p < 108 by omega) (by decide), true_and]
  rw [g_M_newPlug_36]
  simp only [hz, hn, a3, a4, a5, q_clamp (show 36 + p < 2 ^ 31 by omega), q_bnd (show 36 + p < 108 by omega) (by decide), q_clamp (show 48 + p < 2 ^ 31 by omega), q_bnd (show 48 + p < 108 by omega) (by decide), q_clamp (show 60 + p < 2 ^ 31 by omega), q_bnd (show 60 + p < 108 by omega) (by decide), true_and]
  rw [g_M_newPlug_77]
  simp only [hz, hn, a6, a7, a8, q_clamp (show 72 + p < 2 ^ 31 by omega), q_bnd (show 72 + p < 108 by omega) (by decide), q_clamp (show 84 + p < 2 ^ 31 by omega), q_bnd (show 84 + p < 108 by omega) (by decide), q_clamp (show 96 + p < 2 ^ 31 by omega), q_bnd (show 96 + p < 108 by omega) (by decide), true_and]
  rw [g_M_newPlug_117]
  simp only [hz, hn, q_n1]
  rfl
theorem v_hook_le {I : Nat → Nat → Int32} {b a f i n n' : Nat} (hn : n ≤ n') (h : v_hook I b a f i n) : v_hook I b a f i n' := by
  obtain ⟨h1, ⟨p, hp, e⟩, h2⟩ := h
  exact ⟨h1, ⟨p, by omega, e⟩, h2⟩
theorem q_J_new {c n hk : Nat} {I : Nat → Nat → Int32} {J : Nat → Nat → Int64} {t : Nat} {x1 x2 x3 x4 x5 x6 : Int32} (m : v_main q_bc I n hk) (hn : n < 12) (r1 : q_rng x1 0 4) (r2 : q_rng x2 0 9) (r3 : q_rng x3 0 255) (r4 : q_rng x4 0 255) (r5 : q_rng x5 0 9) (r6 : q_nameok x6) (h : q_J c I J t) : q_J (c + 1) (q_newM (q_u (q_newC I n x1 x2 x3 x4 x5 x6) 3 2 (nI (n + 1))) n x1 x2 x3 x4 x5 x6) J t := by
  have hrest := q_J_rest m h
  obtain ⟨⟨a1, a2, a3, a4, a5, a6⟩, m2, m3, m4, m5⟩ := id m
  obtain ⟨F, hF⟩ : ∃ F, F = q_newM (q_u (q_newC I n x1 x2 x3 x4 x5 x6) 3 2 (nI (n + 1))) n x1 x2 x3 x4 x5 x6 := ⟨_, rfl⟩
  rw [← hF]
  unfold q_newM q_newC at hF
  have ho : ∀ o, o ≠ 6 + n → o ≠ 3 → o ≠ 131 → o ≠ 130 → F o = I o := fun o h1 h2 h3 h4 => by
    rw [hF]
    repeat rw [q_u_ne (by assumption)]
  have c0 : F (6 + n) 0 = x1 := by
    rw [hF]
    repeat (first | rw [q_u_eq] | rw [q_u_nk (by omega)] | rw [q_u_ne (by omega)])
  have c1 : F (6 + n) 1 = x2 := by
    rw [hF]
    repeat (first | rw [q_u_eq] | rw [q_u_nk (by omega)] | rw [q_u_ne (by omega)])
  have c2 : F (6 + n) 2 = x3 := by
    rw [hF]
    repeat (first | rw [q_u_eq] | rw [q_u_nk (by omega)] | rw [q_u_ne (by omega)])
  have c3 : F (6 + n) 3 = x4 := by
    rw [hF]
    repeat (first | rw [q_u_eq] | rw [q_u_nk (by omega)] | rw [q_u_ne (by omega)])
  have c4 : F (6 + n) 4 = x5 := by
    rw [hF]
    repeat (first | rw [q_u_eq] | rw [q_u_nk (by omega)] | rw [q_u_ne (by omega)])
  have c5 : F (6 + n) 5 = x6 := by
    rw [hF]
    repeat (first | rw [q_u_eq] | rw [q_u_nk (by omega)] | rw [q_u_ne (by omega)])
  have c6 : F (6 + n) 6 = q_str x1 x2 (q_bc x4) := by
    rw [hF]
    repeat (first | rw [q_u_eq] | rw [q_u_nk (by omega)] | rw [q_u_ne (by omega)])
  have c7 : F (6 + n) 7 = q_ord x6 := by
    rw [hF]
    repeat (first | rw [q_u_eq] | rw [q_u_nk (by omega)] | rw [q_u_ne (by omega)])
  have c8 : F (6 + n) 8 = 0 := by
    rw [hF]
    repeat (first | rw [q_u_eq] | rw [q_u_nk (by omega)] | rw [q_u_ne (by omega)])
  have c9 : F (6 + n) 9 = 0 := by
    rw [hF]
    repeat (first | rw [q_u_eq] | rw [q_u_nk (by omega)] | rw [q_u_ne (by omega)])
  have d0 : F 131 n = 0 := by
    rw [hF]
    repeat (first | rw [q_u_eq] | rw [q_u_nk (by omega)] | rw [q_u_ne (by omega)])
  have d1 : F 131 (12 + n) = x1 := by
    rw [hF]
    repeat (first | rw [q_u_eq] | rw [q_u_nk (by omega)] | rw [q_u_ne (by omega)])
  have d2 : F 131 (24 + n) = x2 := by
    rw [hF]
    repeat (first | rw [q_u_eq] | rw [q_u_nk (by omega)] | rw [q_u_ne (by omega)])
  have d3 : F 131 (36 + n) = x3 := by
    rw [hF]
    repeat (first | rw [q_u_eq] | rw [q_u_nk (by omega)] | rw [q_u_ne (by omega)])
  have d4 : F 131 (48 + n) = x4 := by
    rw [hF]
    repeat (first | rw [q_u_eq] | rw [q_u_nk (by omega)] | rw [q_u_ne (by omega)])
  have d5 : F 131 (60 + n) = x5 := by
    rw [hF]
    repeat (first | rw [q_u_eq] | rw [q_u_nk (by omega)] | rw [q_u_ne (by omega)])
  have d6 : F 131 (72 + n) = x6 := by
    rw [hF]
    repeat (first | rw [q_u_eq] | rw [q_u_nk (by omega)] | rw [q_u_ne (by omega)])
  have d8 : F 131 (96 + n) = 0 := by
    rw [hF]
    repeat (first | rw [q_u_eq] | rw [q_u_nk (by omega)] | rw [q_u_ne (by omega)])
  have hq : ∀ q, q < n → ∀ k, k < 9 → F 131 (12 * k + q) = I 131 (12 * k + q) := fun q hq k hk => by
    rw [hF]
    repeat (first | rw [q_u_eq] | rw [q_u_nk (by omega)] | rw [q_u_ne (by omega)])
  have h3 : ∀ k, k ≠ 2 → F 3 k = I 3 k := fun k hk => by
    rw [hF]
    repeat (first | rw [q_u_eq] | rw [q_u_nk (by omega)] | rw [q_u_ne (by omega)])
  have h32 : F 3 2 = nI (n + 1) := by
    rw [hF]
    repeat (first | rw [q_u_eq] | rw [q_u_nk (by omega)] | rw [q_u_ne (by omega)])
  have h130 : ∀ k, k ≠ 0 → F 130 k = I 130 k := fun k hk => by
    rw [hF]
    repeat (first | rw [q_u_eq] | rw [q_u_nk (by omega)] | rw [q_u_ne (by omega)])
  have h1300 : F 130 0 = nI (n + 1) := by
    rw [hF]
    repeat (first | rw [q_u_eq] | rw [q_u_nk (by omega)] | rw [q_u_ne (by omega)])
  refine ⟨n + 1, hk, ⟨⟨h32, by rw [h3 3 (by decide)]; exact a2, by omega, a4, fun q hqn => ?_, fun i hi => v_hook_le (Nat.le_succ n) (v_hook_congr (ho _ (by omega) (by omega) (by omega) (by omega)) (ho _ (by omega) (by decide) (by decide) (by decide)) (a6 i hi))⟩, h1300, by rw [h130 4 (by decide)]; exact m3, by rw [h130 2 (by decide), h3 4 (by decide)]; exact m4, by rw [h130 3 (by decide), h3 5 (by decide)]; exact m5⟩, v_rest_congr (Nat.le_succ n) (fun o hr => ?_) (by rw [h130 _ (by decide), h130 _ (by decide), h130 _ (by decide), h130 _ (by decide), h130 _ (by decide), h130 _ (by decide), h130 _ (by decide)]; exact ⟨rfl, rfl, rfl, rfl, rfl, rfl, rfl⟩) hrest⟩
  · by_cases e : q = n
    · subst e
      unfold v_plug
      rw [c0, c1, c2, c3, c4, c5, c6, c7, c8, c9, d0, d1, d2, d3, d4, d5, d6, d8]
      exact ⟨⟨rfl, rfl, rfl, rfl, rfl, rfl, rfl, rfl⟩, fun z => absurd z (by decide), rfl, rfl, r1, r2, r3, r4, r5, r6, by decide, by decide⟩
    · exact v_plug_else (ho _ (by omega) (by omega) (by omega) (by omega)) (fun k hk => hq q (by omega) k hk) (a5 q (by omega))
  · have hall : ∀ p, p < 12 → q_rel (6 + p) = false := by decide
    refine ho o (fun e => ?_) (fun e => ?_) (fun e => ?_) (fun e => ?_)
    · rw [e, hall n hn] at hr
      exact absurd hr (by decide)
    all_goals (rw [e] at hr; exact absurd hr (by decide))
section OPS9
variable {L c : Nat} {I : Nat → Nat → Int32} {J : Nat → Nat → Int64} {t : Nat}
theorem t_plug {x1 x2 x3 x4 x5 x6 : Int32} (h : q_J c I J t) : q_SI 100 85 159 [.int x1, .int x2, .int x3, .int x4, .int x5, .int x6] (q_J (c + 1)) L I J t := by
  obtain ⟨n, hk, m, h2, h3, h4, h5, h6, h7, h8⟩ := id h
  obtain ⟨⟨a1, a2, a3, a4, a5, a6⟩, m2, m3, m4, m5⟩ := id m
  have k4 : (4 : Int32).toInt + 1 = 5 := by decide
  have k5 : (5 : Int32).toInt = 5 := by decide
  have k9 : (9 : Int32).toInt + 1 = 10 := by decide
  have k255 : (255 : Int32).toInt + 1 = 256 := by decide
  have hz6 : q_u (q_u I 113 6 (I 113 6 + 1)) 145 6 (q_u I 113 6 (I 113 6 + 1) 145 6 + 1) 130 0 = I 130 0 := rfl
  have m2' : q_u I 113 6 (I 113 6 + 1) 130 0 = nI n := by rw [q_u_ne (by decide)]; exact m2
  have ht : ∀ x, q_there (q_u I 113 6 (I 113 6 + 1)) n x = q_there I n x := fun x => by
    unfold q_there
    rw [q_u_ne (by decide)]
  unfold q_SI
  rw [e_C_plug, s_isBelow, k5, q_onI_i, g_C_plug_5]
  cases b1 : q_in x1 5 with
  | false =>
    simp only [q_onI_i, q_onJ_j, q_onS_s, q_onB_t, true_and, and_true, true_or, or_true, eq_self, true_implies, not_true_eq_false, not_false_eq_true, false_implies, q_bb0, q_bbok, q_bbok2, Bool.true_eq_false, Bool.false_eq_true, reduceCtorEq, s_refuse1, g_C_plug_13]
    refine ⟨_, _, _, _, rfl, rfl, q_u_ne (by decide), ?_⟩
    rw [e_M_plug, s_within0, k4, b1, q_onI_i, g_M_plug_6]
    simp only [q_onI_i, q_onJ_j, q_onS_s, q_onB_t, true_and, and_true, true_or, or_true, eq_self, true_implies, not_true_eq_false, not_false_eq_true, false_implies, q_bb0, q_bbok, q_bbok2, Bool.true_eq_false, Bool.false_eq_true, reduceCtorEq, s_no1, g_M_plug_14]
    exact ⟨_, _, _, rfl, q_J_refuse 1 h⟩
  | true =>
    simp only [q_onI_i, q_onJ_j, q_onS_s, q_onB_t, true_and, and_true, true_or, or_true, eq_self, true_implies, not_true_eq_false, not_false_eq_true, false_implies, q_bb0, q_bbok, q_bbok2, Bool.true_eq_false, Bool.false_eq_true, reduceCtorEq]
    rw [s_isUpTo, k9, q_onI_i, g_C_plug_20]
    cases b2 : q_in x2 10 with
    | false =>
      simp only [q_onI_i, q_onJ_j, q_onS_s, q_onB_t, true_and, and_true, true_or, or_true, eq_self, true_implies, not_true_eq_false, not_false_eq_true, false_implies, q_bb0, q_bbok, q_bbok2, Bool.true_eq_false, Bool.false_eq_true, reduceCtorEq, s_refuse6, g_C_plug_92]
      refine ⟨_, _, _, _, rfl, rfl, q_u_ne (by decide), ?_⟩
      rw [e_M_plug, s_within0, k4, b1, q_onI_i, g_M_plug_6]
      simp only [q_onI_i, q_onJ_j, q_onS_s, q_onB_t, true_and, and_true, true_or, or_true, eq_self, true_implies, not_true_eq_false, not_false_eq_true, false_implies, q_bb0, q_bbok, q_bbok2, Bool.true_eq_false, Bool.false_eq_true, reduceCtorEq, s_within0, k9, k255, b2, g_M_plug_22, s_no6, g_M_plug_82]
      exact ⟨_, _, _, rfl, q_J_refuse 6 h⟩
    | true =>
      simp only [q_onI_i, q_onJ_j, q_onS_s, q_onB_t, true_and, and_true, true_or, or_true, eq_self, true_implies, not_true_eq_false, not_false_eq_true, false_implies, q_bb0, q_bbok, q_bbok2, Bool.true_eq_false, Bool.false_eq_true, reduceCtorEq]
      rw [s_isUpTo, k255, q_onI_i, g_C_plug_30]
      cases b3 : q_in x3 256 with
      | false =>
        simp only [q_onI_i, q_onJ_j, q_onS_s, q_onB_t, true_and, and_true, true_or, or_true, eq_self, true_implies, not_true_eq_false, not_false_eq_true, false_implies, q_bb0, q_bbok, q_bbok2, Bool.true_eq_false, Bool.false_eq_true, reduceCtorEq, s_refuse6, g_C_plug_92]
        refine ⟨_, _, _, _, rfl, rfl, q_u_ne (by decide), ?_⟩
        rw [e_M_plug, s_within0, k4, b1, q_onI_i, g_M_plug_6]
        simp only [q_onI_i, q_onJ_j, q_onS_s, q_onB_t, true_and, and_true, true_or, or_true, eq_self, true_implies, not_true_eq_false, not_false_eq_true, false_implies, q_bb0, q_bbok, q_bbok2, Bool.true_eq_false, Bool.false_eq_true, reduceCtorEq, s_within0, k9, k255, b2, g_M_plug_22, b3, g_M_plug_33, s_no6, g_M_plug_82]
        exact ⟨_, _, _, rfl, q_J_refuse 6 h⟩
      | true =>
        simp only [q_onI_i, q_onJ_j, q_onS_s, q_onB_t, true_and, and_true, true_or, or_true, eq_self, true_implies, not_true_eq_false, not_false_eq_true, false_implies, q_bb0, q_bbok, q_bbok2, Bool.true_eq_false, Bool.false_eq_true, reduceCtorEq]
        rw [s_isUpTo, k255, q_onI_i, g_C_plug_41]
        cases b4 : q_in x4 256 with
        | false =>
          simp only [q_onI_i, q_onJ_j, q_onS_s, q_onB_t, true_and, and_true, true_or, or_true, eq_self, true_implies, not_true_eq_false, not_false_eq_true, false_implies, q_bb0, q_bbok, q_bbok2, Bool.true_eq_false, Bool.false_eq_true, reduceCtorEq, s_refuse6, g_C_plug_92]
          refine ⟨_, _, _, _, rfl, rfl, q_u_ne (by decide), ?_⟩
          rw [e_M_plug, s_within0, k4, b1, q_onI_i, g_M_plug_6]
          simp only [q_onI_i, q_onJ_j, q_onS_s, q_onB_t, true_and, and_true, true_or, or_true, eq_self, true_implies, not_true_eq_false, not_false_eq_true, false_implies, q_bb0, q_bbok, q_bbok2, Bool.true_eq_false, Bool.false_eq_true, reduceCtorEq, s_within0, k9, k255, b2, g_M_plug_22, b3, g_M_plug_33, b4, g_M_plug_45, s_no6, g_M_plug_82]
          exact ⟨_, _, _, rfl, q_J_refuse 6 h⟩
        | true =>
          simp only [q_onI_i, q_onJ_j, q_onS_s, q_onB_t, true_and, and_true, true_or, or_true, eq_self, true_implies, not_true_eq_false, not_false_eq_true, false_implies, q_bb0, q_bbok, q_bbok2, Bool.true_eq_false, Bool.false_eq_true, reduceCtorEq]
          rw [s_isUpTo, k9, q_onI_i, g_C_plug_51]
          cases b5 : q_in x5 10 with
          | false =>
            simp only [q_onI_i, q_onJ_j, q_onS_s, q_onB_t, true_and, and_true, true_or, or_true, eq_self, true_implies, not_true_eq_false, not_false_eq_true, false_implies, q_bb0, q_bbok, q_bbok2, Bool.true_eq_false, Bool.false_eq_true, reduceCtorEq, s_refuse6, g_C_plug_92]
            refine ⟨_, _, _, _, rfl, rfl, q_u_ne (by decide), ?_⟩
            rw [e_M_plug, s_within0, k4, b1, q_onI_i, g_M_plug_6]
            simp only [q_onI_i, q_onJ_j, q_onS_s, q_onB_t, true_and, and_true, true_or, or_true, eq_self, true_implies, not_true_eq_false, not_false_eq_true, false_implies, q_bb0, q_bbok, q_bbok2, Bool.true_eq_false, Bool.false_eq_true, reduceCtorEq, s_within0, k9, k255, b2, g_M_plug_22, b3, g_M_plug_33, b4, g_M_plug_45, b5, g_M_plug_56, s_no6, g_M_plug_82]
            exact ⟨_, _, _, rfl, q_J_refuse 6 h⟩
          | true =>
            simp only [q_onI_i, q_onJ_j, q_onS_s, q_onB_t, true_and, and_true, true_or, or_true, eq_self, true_implies, not_true_eq_false, not_false_eq_true, false_implies, q_bb0, q_bbok, q_bbok2, Bool.true_eq_false, Bool.false_eq_true, reduceCtorEq, s_CisName, show ¬ (1 : Int32) = 0 by decide, false_implies, not_false_eq_true, true_implies, true_and, g_C_plug_71]
            cases b6 : q_isnm x6 with
            | false =>
              simp only [q_onI_i, q_onJ_j, q_onS_s, q_onB_t, true_and, and_true, true_or, or_true, eq_self, true_implies, not_true_eq_false, not_false_eq_true, false_implies, q_bb0, q_bbok, q_bbok2, Bool.true_eq_false, Bool.false_eq_true, reduceCtorEq, s_refuse6, g_C_plug_92]
              refine ⟨_, _, _, _, rfl, rfl, q_u_ne (by decide), ?_⟩
              rw [e_M_plug, s_within0, k4, b1, q_onI_i, g_M_plug_6]
              simp only [q_onI_i, q_onJ_j, q_onS_s, q_onB_t, true_and, and_true, true_or, or_true, eq_self, true_implies, not_true_eq_false, not_false_eq_true, false_implies, q_bb0, q_bbok, q_bbok2, Bool.true_eq_false, Bool.false_eq_true, reduceCtorEq, s_within0, k9, k255, b2, g_M_plug_22, b3, g_M_plug_33, b4, g_M_plug_45, b5, g_M_plug_56, s_MisName, b6, g_M_plug_64, s_no6, g_M_plug_82]
              exact ⟨_, _, _, rfl, q_J_refuse 6 h⟩
            | true =>
              simp only [q_onI_i, q_onJ_j, q_onS_s, q_onB_t, true_and, and_true, true_or, or_true, eq_self, true_implies, not_true_eq_false, not_false_eq_true, false_implies, q_bb0, q_bbok, q_bbok2, Bool.true_eq_false, Bool.false_eq_true, reduceCtorEq, s_hasName a1 a3, q_there_eq a5, g_C_plug_83]
              cases b7 : q_there I n x6 with
              | true =>
                simp only [q_onI_i, q_onJ_j, q_onS_s, q_onB_t, true_and, and_true, true_or, or_true, eq_self, true_implies, not_true_eq_false, not_false_eq_true, false_implies, q_bb0, q_bbok, q_bbok2, Bool.true_eq_false, Bool.false_eq_true, reduceCtorEq, s_refuse6, g_C_plug_92]
                refine ⟨_, _, _, _, rfl, rfl, q_u_ne (by decide), ?_⟩
                rw [e_M_plug, s_within0, k4, b1, q_onI_i, g_M_plug_6]
                simp only [q_onI_i, q_onJ_j, q_onS_s, q_onB_t, true_and, and_true, true_or, or_true, eq_self, true_implies, not_true_eq_false, not_false_eq_true, false_implies, q_bb0, q_bbok, q_bbok2, Bool.true_eq_false, Bool.false_eq_true, reduceCtorEq, s_within0, k9, k255, b2, g_M_plug_22, b3, g_M_plug_33, b4, g_M_plug_45, b5, g_M_plug_56, s_MisName, b6, g_M_plug_64, s_isThere m2' a3, ht, b7, g_M_plug_73, s_no6, g_M_plug_82]
                exact ⟨_, _, _, rfl, q_J_refuse 6 h⟩
              | false =>
                simp only [q_onI_i, q_onJ_j, q_onS_s, q_onB_t, true_and, and_true, true_or, or_true, eq_self, true_implies, not_true_eq_false, not_false_eq_true, false_implies, q_bb0, q_bbok, q_bbok2, Bool.true_eq_false, Bool.false_eq_true, reduceCtorEq, a1]
                rw [show (12 : Int32) = nI 12 by decide, q_ltN (by omega) (by decide)]
                by_cases hn : n < 12
                · rw [q_br hn]
                  simp only [q_clamp (show n < 2 ^ 31 by omega), q_bnd hn (by decide), r_plug hn, i_plug hn, q_onI_i, q_onJ_j, q_onS_s, q_onB_t, true_and, and_true, true_or, or_true, eq_self, true_implies, not_true_eq_false, not_false_eq_true, false_implies, q_bb0, q_bbok, q_bbok2, Bool.true_eq_false, Bool.false_eq_true, reduceCtorEq, s_begin hn (q_isnm_ok b6), g_C_plug_143]
                  rw [show q_newC I n x1 x2 x3 x4 x5 x6 3 = I 3 by unfold q_newC; repeat rw [q_u_ne (by omega)], a1, q_n1]
                  refine ⟨_, _, _, _, rfl, rfl, by unfold q_newC; repeat rw [q_u_ne (by omega)], ?_⟩
                  obtain ⟨I1, e1⟩ : ∃ I1, I1 = q_u (q_newC I n x1 x2 x3 x4 x5 x6) 3 2 (nI (n + 1)) := ⟨_, rfl⟩
                  have z0 : I1 130 = I 130 := by rw [e1]; unfold q_newC; repeat rw [q_u_ne (by omega)]
                  have z1 : I1 131 = I 131 := by rw [e1]; unfold q_newC; repeat rw [q_u_ne (by omega)]
                  have z2 : q_there I1 n x6 = false := by rw [← b7]; unfold q_there; rw [z1]
                  have z3 : I1 130 0 = nI n := by rw [z0]; exact m2
                  rw [← e1, e_M_plug, s_within0, k4, b1, q_onI_i, g_M_plug_6]
                  simp only [q_onI_i, q_onJ_j, q_onS_s, q_onB_t, true_and, and_true, true_or, or_true, eq_self, true_implies, not_true_eq_false, not_false_eq_true, false_implies, q_bb0, q_bbok, q_bbok2, Bool.true_eq_false, Bool.false_eq_true, reduceCtorEq, s_within0, k9, k255, b2, g_M_plug_22, b3, g_M_plug_33, b4, g_M_plug_45, b5, g_M_plug_56, s_MisName, b6, g_M_plug_64, s_isThere z3 a3, z2, g_M_plug_73, z3]
                  rw [show (12 : Int32) = nI 12 by decide, q_eqN (by omega) (by decide), q_brn (by omega), s_newPlug z3 hn, q_onI_i, g_M_plug_114]
                  refine ⟨rfl, _, _, _, rfl, ?_⟩
                  rw [e1]
                  exact q_J_new m hn ⟨(of_decide_eq_true b1).1, by have := (of_decide_eq_true b1).2; omega⟩ ⟨(of_decide_eq_true b2).1, by have := (of_decide_eq_true b2).2; omega⟩ ⟨(of_decide_eq_true b3).1, by have := (of_decide_eq_true b3).2; omega⟩ ⟨(of_decide_eq_true b4).1, by have := (of_decide_eq_true b4).2; omega⟩ ⟨(of_decide_eq_true b5).1, by have := (of_decide_eq_true b5).2; omega⟩ (q_isnm_ok b6) h
                · rw [q_brn hn, s_refuse7, q_onI_i, g_C_plug_111]
                  refine ⟨_, _, _, _, rfl, rfl, q_u_ne (by decide), ?_⟩
                  have m7 : q_u I 113 7 (I 113 7 + 1) 130 0 = nI n := by rw [q_u_ne (by decide)]; exact m2
                  have z2 : q_there (q_u I 113 7 (I 113 7 + 1)) n x6 = false := by rw [← b7]; unfold q_there; rw [q_u_ne (by decide)]
                  rw [e_M_plug, s_within0, k4, b1, q_onI_i, g_M_plug_6]
                  simp only [q_onI_i, q_onJ_j, q_onS_s, q_onB_t, true_and, and_true, true_or, or_true, eq_self, true_implies, not_true_eq_false, not_false_eq_true, false_implies, q_bb0, q_bbok, q_bbok2, Bool.true_eq_false, Bool.false_eq_true, reduceCtorEq, s_within0, k9, k255, b2, g_M_plug_22, b3, g_M_plug_33, b4, g_M_plug_45, b5, g_M_plug_56, s_MisName, b6, g_M_plug_64, s_isThere m7 a3, z2, g_M_plug_73, m7]
                  rw [show (12 : Int32) = nI 12 by decide, q_eqN (by omega) (by decide), q_br (by omega), s_no7, q_onI_i, g_M_plug_98, g_M_plug_114]
                  exact ⟨rfl, _, _, _, rfl, q_J_refuse 7 h⟩
end OPS9
