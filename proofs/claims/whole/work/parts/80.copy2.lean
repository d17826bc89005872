/-! copy, whole -/
theorem q_64a {x y : Int32} : (x.toInt64 + y.toInt64).toInt = x.toInt + y.toInt := by
  have h1 := Int32.le_toInt x
  have h2 := Int32.toInt_lt x
  have h3 := Int32.le_toInt y
  have h4 := Int32.toInt_lt y
  rw [Int64.toInt_add, q_64, q_64]
  exact Int.bmod_eq_of_le (by omega) (by omega)
section COPY3
variable {L c : Nat} {I : Nat → Nat → Int32} {J : Nat → Nat → Int64} {t : Nat}
def q_rok (x z : Int32) (l : Nat) : Prop := 0 ≤ x.toInt ∧ x.toInt + z.toInt ≤ (l : Int)
theorem m_cp73 {p q lp lq : Nat} {x y z : Int32} {rt : Value → q_Mem → Nat → Nat → Prop} (hp : p < 8) (hq : q < 8) (kp : q_kd I p False True False) (kq : q_kd I q False True False) (h1 : I 134 p = nI lp) (h2 : I 134 q = nI lq) (hl1 : lp ≤ 160) (hl2 : lq ≤ 160) (he : I 133 p = I 133 q) (hz : 0 ≤ z.toInt) : q_X (q_W 99) rt 148 (73, [some (.ref 130), some (.int (nI p)), some (.int (nI q)), some (.int x), some (.int y), some (.int z), none], [.int 1], (q_mm L I J t), 0, 0) = ((q_rok x z lp ∧ q_rok y z lq → ((nI p = nI q → ((y ≤ x → q_X (q_W 99) rt 148 (251, [some (.ref 130), some (.int (nI p)), some (.int (nI q)), some (.int x), some (.int y), some (.int z), some (.int 0)], [], (q_mm L I J t), 0, 0)) ∧ (¬ y ≤ x → q_X (q_W 99) rt 148 (203, [some (.ref 130), some (.int (nI p)), some (.int (nI q)), some (.int x), some (.int y), some (.int z), some (.int (z - 1))], [], (q_mm L I J t), 0, 0)))) ∧ (¬ nI p = nI q → q_X (q_W 99) rt 148 (251, [some (.ref 130), some (.int (nI p)), some (.int (nI q)), some (.int x), some (.int y), some (.int z), some (.int 0)], [], (q_mm L I J t), 0, 0)))) ∧ (¬ (q_rok x z lp ∧ q_rok y z lq) → q_W 99 133 [.ref 130, .int (-5)] (q_mm L I J t) fun v μ => q_onI False v fun x' => q_X (q_W 99) rt 148 (185, [some (.ref 130), some (.int (nI p)), some (.int (nI q)), some (.int x), some (.int y), some (.int z), none], [.int x'], μ, 0, 0))) := by
  have hz' : 0 ≤ z := by rw [Int32.le_iff_toInt_le, Int32.toInt_zero]; exact hz
  rw [g_M_copy_73, q_brn (by decide)]
  simp only [q_clamp (show p < 2 ^ 31 by omega), q_clamp (show q < 2 ^ 31 by omega), q_bnd hp (by decide), q_bnd hq (by decide), true_and]
  rw [q_br he]
  simp only [kp.1, kq.2.1, hz', false_implies, true_implies, not_false_eq_true, not_true_eq_false, and_true, true_and, h1, h2, q_lc_gt, q_lc_le, q_64a, q_64]
  rw [nI_toInt (by omega), nI_toInt (by omega), q_lt0, q_lt0]
  unfold q_rok
  by_cases e1 : x.toInt < 0
  · rw [q_br e1, q_brn (by omega)]
  · rw [q_brn e1]
    by_cases e2 : y.toInt < 0
    · rw [q_br e2, q_brn (by omega)]
    · rw [q_brn e2]
      by_cases e3 : (lp : Int) < x.toInt + z.toInt
      · rw [q_br e3, q_brn (by omega)]
      · rw [q_brn e3]
        by_cases e4 : y.toInt + z.toInt ≤ (lq : Int)
        · rw [q_br e4, q_br (show (0 ≤ x.toInt ∧ x.toInt + z.toInt ≤ (lp : Int)) ∧ 0 ≤ y.toInt ∧ y.toInt + z.toInt ≤ (lq : Int) by omega)]
        · rw [q_brn e4, q_brn (by omega)]
theorem v_shelves_cp {J F : Nat → Nat → Int64} {I : Nat → Nat → Int32} {n p q i j m lp lq kp kq : Nat} (hp : p < 8) (hq : q < 8) (hi : i + m ≤ 160) (hj : j + m ≤ 160) (h1 : I 133 p = nI (100 + kp)) (hkp : kp < 4) (hJp : ∀ b, b < 160 → J (115 + 2 * p) b = J 135 (160 * p + b)) (hJq : ∀ b, b < 160 → J (115 + 2 * q) b = J 135 (160 * q + b)) (f1 : ∀ o, o ≠ 135 → F o = q_cpL J (115 + 2 * p) (115 + 2 * q) i j m o) (f2 : ∀ b, (∀ z, z < m → b ≠ 160 * q + j + z) → F 135 b = J 135 b) (f3 : ∀ z, z < m → F 135 (160 * q + j + z) = J 135 (160 * p + i + z)) (h : v_shelves I J n) : v_shelves I F n := fun s hs => by
  rcases h s hs with a | ⟨k, len, b1, b2, b3, b4, b5, b6, b7, b8⟩ | a
  · exact Or.inl a
  · refine Or.inr (Or.inl ⟨k, len, b1, b2, b3, b4, b5, b6, b7, fun b hb => ?_⟩)
    rw [f1 _ (by omega)]
    unfold q_cpL
    by_cases e : s = q
    · subst e
      rw [if_pos rfl]
      unfold va_cpy
      by_cases e2 : j ≤ b ∧ b < j + m
      · rw [if_pos e2]
        have := f3 (b - j) (by omega)
        rw [show 160 * s + j + (b - j) = 160 * s + b by omega] at this
        rw [this, hJp _ (by omega)]
        congr 1
        omega
      · rw [if_neg e2, f2 _ (fun z hz => by omega)]
        exact hJq b hb
    · rw [if_neg (by omega), f2 _ (fun z hz => by omega)]
      exact b8 b hb
  · exact Or.inr (Or.inr a)
theorem t_copy {x1 x2 x y z : Int32} (h : q_J c I J t) : q_SI 100 80 148 [.int x1, .int x2, .int x, .int y, .int z] (q_J (c + 1)) L I J t := by
  obtain ⟨n, hk, m, hv, hr0⟩ := id h
  have a3 : n ≤ 12 := m.1.2.2.1
  unfold q_SI
  rw [e_C_copy, e_C_copyProblem, s_rowProblem, q_onI_i, g_C_copyProblem_5, s_rowProblem, q_onI_i, g_C_copyProblem_11]
  cases hb1 : q_in x1 8 with
  | false =>
    have hr : q_rp I x1 = -1 := by unfold q_rp; rw [hb1]
    rw [hr, q_br rfl, q_onI_i, g_C_copy_6, q_brn (by decide), s_refuse1, q_onI_i, g_C_copy_19]
    refine ⟨_, _, _, _, rfl, rfl, q_u_ne (by decide), ?_⟩
    rw [e_M_copy, s_within0, show (7 : Int32).toInt + 1 = 8 by decide, hb1, q_onI_i, g_M_copy_7, q_br (by decide), s_no1, q_onI_i, g_M_copy_25]
    exact ⟨rfl, _, _, _, rfl, q_J_refuse 1 h⟩
  | true =>
    obtain ⟨p, hp, rfl⟩ := q_in_get (n := 8) hb1
    cases hb2 : q_in x2 8 with
    | false =>
      have hr : q_rp I x2 = -1 := by unfold q_rp; rw [hb2]
      have hr1 : ¬ q_rp I (nI p) = -1 := by
        rcases q_sh3 a3 hp hv with ⟨e, -⟩ | ⟨e, -⟩ | ⟨e, -⟩ <;> (rw [e]; decide)
      rw [hr, q_brn hr1, q_br rfl, q_onI_i, g_C_copy_6, q_brn (by decide), s_refuse1, q_onI_i, g_C_copy_19]
      refine ⟨_, _, _, _, rfl, rfl, q_u_ne (by decide), ?_⟩
      rw [e_M_copy, s_within0, show (7 : Int32).toInt + 1 = 8 by decide, hb1, q_onI_i, g_M_copy_7, q_brn (by decide), s_within0, show (7 : Int32).toInt + 1 = 8 by decide, hb2, q_onI_i, g_M_copy_17, q_br (by decide), s_no1, q_onI_i, g_M_copy_25]
      exact ⟨rfl, _, _, _, rfl, q_J_refuse 1 h⟩
    | true =>
      obtain ⟨q, hq, rfl⟩ := q_in_get (n := 8) hb2
      rcases q_sh3 a3 hp hv with ⟨e1, k1⟩ | ⟨e1, k1⟩ | ⟨e1, k1, sp, lp, p1, p2, p3, p4, p5, p6, p7⟩ <;> rcases q_sh3 a3 hq hv with ⟨e2, k2⟩ | ⟨e2, k2⟩ | ⟨e2, k2, sq, lq, u1, u2, u3, u4, u5, u6, u7⟩ <;> rw [e1, e2]
      · simp +decide only [q_onI_i, q_onJ_j, q_onS_s, q_onB_t, true_and, and_true, true_or, or_true, eq_self, true_implies, not_true_eq_false, not_false_eq_true, false_implies, q_bb0, q_bbok, q_bbok2, Bool.true_eq_false, Bool.false_eq_true, reduceCtorEq, g_C_copy_6, s_refuse3, g_C_copy_19]
        refine ⟨_, _, _, _, rfl, rfl, q_u_ne (by decide), ?_⟩
        rw [m_cpNN hp hq (q_kd_u (by decide) k1) (q_kd_u (by decide) k2)]
        exact ⟨rfl, _, _, _, rfl, q_J_refuse 3 h⟩
      · simp +decide only [q_onI_i, q_onJ_j, q_onS_s, q_onB_t, true_and, and_true, true_or, or_true, eq_self, true_implies, not_true_eq_false, not_false_eq_true, false_implies, q_bb0, q_bbok, q_bbok2, Bool.true_eq_false, Bool.false_eq_true, reduceCtorEq, g_C_copy_6, s_refuse2, g_C_copy_19]
        refine ⟨_, _, _, _, rfl, rfl, q_u_ne (by decide), ?_⟩
        rw [m_cpNP hp hq (q_kd_u (by decide) k1) (q_kd_u (by decide) k2)]
        exact ⟨rfl, _, _, _, rfl, q_J_refuse 2 h⟩
      · simp +decide only [q_onI_i, q_onJ_j, q_onS_s, q_onB_t, true_and, and_true, true_or, or_true, eq_self, true_implies, not_true_eq_false, not_false_eq_true, false_implies, q_bb0, q_bbok, q_bbok2, Bool.true_eq_false, Bool.false_eq_true, reduceCtorEq, g_C_copy_6, s_refuse3, g_C_copy_19]
        refine ⟨_, _, _, _, rfl, rfl, q_u_ne (by decide), ?_⟩
        rw [m_cpNR hp hq (q_kd_u (by decide) k1) (q_kd_u (by decide) k2)]
        exact ⟨rfl, _, _, _, rfl, q_J_refuse 3 h⟩
      · simp +decide only [q_onI_i, q_onJ_j, q_onS_s, q_onB_t, true_and, and_true, true_or, or_true, eq_self, true_implies, not_true_eq_false, not_false_eq_true, false_implies, q_bb0, q_bbok, q_bbok2, Bool.true_eq_false, Bool.false_eq_true, reduceCtorEq, g_C_copy_6, s_refuse2, g_C_copy_19]
        refine ⟨_, _, _, _, rfl, rfl, q_u_ne (by decide), ?_⟩
        rw [m_cpPN hp hq (q_kd_u (by decide) k1) (q_kd_u (by decide) k2)]
        exact ⟨rfl, _, _, _, rfl, q_J_refuse 2 h⟩
      · simp +decide only [q_onI_i, q_onJ_j, q_onS_s, q_onB_t, true_and, and_true, true_or, or_true, eq_self, true_implies, not_true_eq_false, not_false_eq_true, false_implies, q_bb0, q_bbok, q_bbok2, Bool.true_eq_false, Bool.false_eq_true, reduceCtorEq, g_C_copy_6, s_refuse2, g_C_copy_19]
        refine ⟨_, _, _, _, rfl, rfl, q_u_ne (by decide), ?_⟩
        rw [m_cpPP hp hq (q_kd_u (by decide) k1) (q_kd_u (by decide) k2)]
        exact ⟨rfl, _, _, _, rfl, q_J_refuse 2 h⟩
      · simp +decide only [q_onI_i, q_onJ_j, q_onS_s, q_onB_t, true_and, and_true, true_or, or_true, eq_self, true_implies, not_true_eq_false, not_false_eq_true, false_implies, q_bb0, q_bbok, q_bbok2, Bool.true_eq_false, Bool.false_eq_true, reduceCtorEq, g_C_copy_6, s_refuse2, g_C_copy_19]
        refine ⟨_, _, _, _, rfl, rfl, q_u_ne (by decide), ?_⟩
        rw [m_cpPR hp hq (q_kd_u (by decide) k1) (q_kd_u (by decide) k2)]
        exact ⟨rfl, _, _, _, rfl, q_J_refuse 2 h⟩
      · simp +decide only [q_onI_i, q_onJ_j, q_onS_s, q_onB_t, true_and, and_true, true_or, or_true, eq_self, true_implies, not_true_eq_false, not_false_eq_true, false_implies, q_bb0, q_bbok, q_bbok2, Bool.true_eq_false, Bool.false_eq_true, reduceCtorEq, g_C_copy_6, s_refuse3, g_C_copy_19]
        refine ⟨_, _, _, _, rfl, rfl, q_u_ne (by decide), ?_⟩
        rw [m_cpRN hp hq (q_kd_u (by decide) k1) (q_kd_u (by decide) k2)]
        exact ⟨rfl, _, _, _, rfl, q_J_refuse 3 h⟩
      · simp +decide only [q_onI_i, q_onJ_j, q_onS_s, q_onB_t, true_and, and_true, true_or, or_true, eq_self, true_implies, not_true_eq_false, not_false_eq_true, false_implies, q_bb0, q_bbok, q_bbok2, Bool.true_eq_false, Bool.false_eq_true, reduceCtorEq, g_C_copy_6, s_refuse2, g_C_copy_19]
        refine ⟨_, _, _, _, rfl, rfl, q_u_ne (by decide), ?_⟩
        rw [m_cpRP hp hq (q_kd_u (by decide) k1) (q_kd_u (by decide) k2)]
        exact ⟨rfl, _, _, _, rfl, q_J_refuse 2 h⟩
      · have hd : ∀ A B : Prop, (((0 : Int32) = -1 → A) ∧ (¬ (0 : Int32) = -1 → B)) = B := fun A B => q_brn (by decide)
        have hd2 : ∀ A B : Prop, (((0 : Int32) = -2 → A) ∧ (¬ (0 : Int32) = -2 → B)) = B := fun A B => q_brn (by decide)
        have hd3 : ∀ A B : Prop, (((0 : Int32) = -3 → A) ∧ (¬ (0 : Int32) = -3 → B)) = B := fun A B => q_brn (by decide)
        rw [hd, hd, hd2, hd2, hd3, hd3]
        simp only [q_clamp (show p < 2 ^ 31 by omega), q_clamp (show q < 2 ^ 31 by omega), q_bnd hp (by decide), q_bnd hq (by decide), r_shelf hp, r_shelf hq, i_shelf hp, i_shelf hq, q_onI_i, q_onJ_j, q_onS_s, q_onB_t, true_and, and_true, true_or, or_true, eq_self, true_implies, not_true_eq_false, not_false_eq_true, false_implies, q_bb0, q_bbok, q_bbok2, Bool.true_eq_false, Bool.false_eq_true, reduceCtorEq, p3, u3]
        have hsort : (nI sp = nI sq) = (sp = sq) := q_eqN (by omega) (by omega)
        rw [hsort]
        by_cases hsq : sp = sq
        · have he : I 133 p = I 133 q := by rw [p5, u5, hsq]
          rw [q_br hsq, g_C_copy_6, q_br rfl]
          by_cases hz : 0 ≤ z
          · have hz' : 0 ≤ z.toInt := by rw [Int32.le_iff_toInt_le, Int32.toInt_zero] at hz; exact hz
            rw [q_br hz]
            simp only [q_clamp (show p < 2 ^ 31 by omega), q_clamp (show q < 2 ^ 31 by omega), q_bnd hp (by decide), q_bnd hq (by decide), r_shelf hp, r_shelf hq, i_shelf hp, q_onI_i, q_onJ_j, q_onS_s, q_onB_t, true_and, and_true, true_or, or_true, eq_self, true_implies, not_true_eq_false, not_false_eq_true, false_implies, q_bb0, q_bbok, q_bbok2, Bool.true_eq_false, Bool.false_eq_true, reduceCtorEq, s_hasRange hp p4 p2 hz', g_C_copy_56, i_shelf hq, s_hasRange hq u4 u2 hz', g_C_copy_68]
            by_cases hr : q_rok x z lp ∧ q_rok y z lq
            · have hz2 := Int32.toInt_lt z
              obtain ⟨i, hi, rfl⟩ := q_in_get (n := 161) (x := x) (decide_eq_true (by have := hr.1; unfold q_rok at this; omega))
              obtain ⟨j, hj, rfl⟩ := q_in_get (n := 161) (x := y) (decide_eq_true (by have := hr.2; unfold q_rok at this; omega))
              obtain ⟨k, hk2, rfl⟩ := q_in_get (n := 161) (x := z) (decide_eq_true (by have := hr.1; unfold q_rok at this; omega))
              obtain ⟨hr1, hr2⟩ := id hr
              unfold q_rok at hr1 hr2
              rw [nI_toInt (by omega), nI_toInt (by omega)] at hr1 hr2
              have d1 : decide (0 ≤ (nI i).toInt ∧ (nI i).toInt + (nI k).toInt ≤ (lp : Int)) = true := decide_eq_true (by rw [nI_toInt (by omega), nI_toInt (by omega)]; exact hr1)
              have d2 : decide (0 ≤ (nI j).toInt ∧ (nI j).toInt + (nI k).toInt ≤ (lq : Int)) = true := decide_eq_true (by rw [nI_toInt (by omega), nI_toInt (by omega)]; exact hr2)
              have hg : (¬ nI i < 0 ∧ ¬ nI j < 0 ∧ ¬ nI k < 0 ∧ (nI i).toNatClampNeg + (nI k).toNatClampNeg ≤ 160 ∧ (nI j).toNatClampNeg + (nI k).toNatClampNeg ≤ 160) = True := eq_true ⟨nI_pos (by omega), nI_pos (by omega), nI_pos (by omega), by rw [q_clamp (by omega), q_clamp (by omega)]; omega, by rw [q_clamp (by omega), q_clamp (by omega)]; omega⟩
              simp only [d1, d2, q_onI_i, q_onJ_j, q_onS_s, q_onB_t, true_and, and_true, true_or, or_true, eq_self, true_implies, not_true_eq_false, not_false_eq_true, false_implies, q_bb0, q_bbok, q_bbok2, Bool.true_eq_false, Bool.false_eq_true, reduceCtorEq, r_row hp, r_row hq, a_rown hp, a_row hp, a_row hq, hg]
              rw [q_clamp (show i < 2 ^ 31 by omega), q_clamp (show j < 2 ^ 31 by omega), q_clamp (show k < 2 ^ 31 by omega), g_C_copy_96]
              refine ⟨_, _, _, _, rfl, rfl, rfl, ?_⟩
              rw [m_cpRR hp hq k1 k2, m_cp73 hp hq k1 k2 p6 u6 p2 u2 he hz', q_br hr, q_eqN (show p < 2 ^ 31 by omega) (show q < 2 ^ 31 by omega), q_leN (show j < 2 ^ 31 by omega) (show i < 2 ^ 31 by omega)]
              have hfin : ∀ F : Nat → Nat → Int64, (∀ o, o ≠ 135 → F o = q_cpL J (115 + 2 * p) (115 + 2 * q) i j k o) → (∀ b, (∀ z, z < k → b ≠ 160 * q + j + z) → F 135 b = q_cpL J (115 + 2 * p) (115 + 2 * q) i j k 135 b) → (∀ z, z < k → F 135 (160 * q + j + z) = q_cpL J (115 + 2 * p) (115 + 2 * q) i j k 135 (160 * p + i + z)) → q_J (c + 1) I F t := by
                intro F f1 f2 f3
                have e135 : q_cpL J (115 + 2 * p) (115 + 2 * q) i j k 135 = J 135 := by
                  funext b
                  unfold q_cpL
                  rw [if_neg (by omega)]
                rw [e135] at f2 f3
                obtain ⟨n', hk', m', hv', hr'⟩ := q_J_next h
                exact ⟨n', hk', m', v_shelves_cp (lp := lp) (lq := lq) (kq := sq) hp hq (by omega) (by omega) p5 p1 p7 u7 f1 f2 f3 hv', hr'⟩
              by_cases hpq : p = q
              · rw [q_br hpq]
                by_cases hij : j ≤ i
                · rw [q_br hij]
                  obtain ⟨F, f1, f2, f3, f4⟩ := l_fwd (L := L) (d := 99) (t := t) (p := p) (q := q) (i := i) (j := j) (n := k) hp hq (by omega) (by omega) (by omega) (I := I) k 0 (q_cpL J (115 + 2 * p) (115 + 2 * q) i j k) (by omega)
                  rw [show nI 0 = (0 : Int32) by decide] at f4
                  rw [f4]
                  exact ⟨rfl, _, _, _, rfl, hfin F f1 (fun b hb => f2 b fun z _ hz => hb z hz) (fun z hz => f3 z (Nat.zero_le _) hz)⟩
                · rw [q_brn hij]
                  obtain ⟨F, f1, f2, f3, f4⟩ := l_bwd (L := L) (d := 99) (t := t) (p := p) (q := q) (i := i) (j := j) (n := k) hp hq (by omega) (by omega) (by omega) (I := I) k (q_cpL J (115 + 2 * p) (115 + 2 * q) i j k) (Nat.le_refl _)
                  rw [f4]
                  exact ⟨rfl, _, _, _, rfl, hfin F f1 f2 f3⟩
              · rw [q_brn hpq]
                obtain ⟨F, f1, f2, f3, f4⟩ := l_fwd (L := L) (d := 99) (t := t) (p := p) (q := q) (i := i) (j := j) (n := k) hp hq (by omega) (by omega) (by omega) (I := I) k 0 (q_cpL J (115 + 2 * p) (115 + 2 * q) i j k) (by omega)
                rw [show nI 0 = (0 : Int32) by decide] at f4
                rw [f4]
                exact ⟨rfl, _, _, _, rfl, hfin F f1 (fun b hb => f2 b fun z _ hz => hb z hz) (fun z hz => f3 z (Nat.zero_le _) hz)⟩
            · have hcls : (q_bb (decide (0 ≤ x.toInt ∧ x.toInt + z.toInt ≤ (lp : Int))) = 0 ∨ q_bb (decide (0 ≤ y.toInt ∧ y.toInt + z.toInt ≤ (lq : Int))) = 0) := by
                rw [q_bb0, q_bb0]
                by_cases h1 : q_rok x z lp
                · exact Or.inr (decide_eq_false fun z' => hr ⟨h1, z'⟩)
                · exact Or.inl (decide_eq_false h1)
              have hC : ∀ A B : Prop, (((decide (0 ≤ x.toInt ∧ x.toInt + z.toInt ≤ (lp : Int)) = false) → A) ∧ (¬ (decide (0 ≤ x.toInt ∧ x.toInt + z.toInt ≤ (lp : Int)) = false) → (((decide (0 ≤ y.toInt ∧ y.toInt + z.toInt ≤ (lq : Int)) = false) → A) ∧ (¬ (decide (0 ≤ y.toInt ∧ y.toInt + z.toInt ≤ (lq : Int)) = false) → B)))) = A := fun A B => by
                rw [q_bb0, q_bb0] at hcls
                by_cases h1 : decide (0 ≤ x.toInt ∧ x.toInt + z.toInt ≤ (lp : Int)) = false
                · rw [q_br h1]
                · rw [q_brn h1]
                  rcases hcls with h2 | h2
                  · exact absurd h2 h1
                  · rw [q_br h2]
              rw [hC, s_refuse5, q_onI_i, g_C_copy_77]
              refine ⟨_, _, _, _, rfl, rfl, q_u_ne (by decide), ?_⟩
              rw [m_cpRR hp hq (q_kd_u (by decide) k1) (q_kd_u (by decide) k2), m_cp73 hp hq (q_kd_u (by decide) k1) (q_kd_u (by decide) k2) (by rw [q_u_ne (by decide)]; exact p6) (by rw [q_u_ne (by decide)]; exact u6) p2 u2 (by rw [q_u_ne (by decide)]; exact he) hz', q_brn hr, s_no5, q_onI_i, g_M_copy_185]
              exact ⟨rfl, _, _, _, rfl, q_J_refuse 5 h⟩
          · rw [q_brn hz, s_refuse4, q_onI_i, g_C_copy_31]
            refine ⟨_, _, _, _, rfl, rfl, q_u_ne (by decide), ?_⟩
            rw [m_cpRR hp hq (q_kd_u (by decide) k1) (q_kd_u (by decide) k2), g_M_copy_73, q_brn (by decide)]
            have k1' := q_kd_u (o := 113) (k := 4) (v := I 113 4 + 1) (by decide) k1
            have k2' := q_kd_u (o := 113) (k := 4) (v := I 113 4 + 1) (by decide) k2
            have he' : q_u I 113 4 (I 113 4 + 1) 133 p = q_u I 113 4 (I 113 4 + 1) 133 q := by rw [q_u_ne (by decide)]; exact he
            simp only [q_clamp (show p < 2 ^ 31 by omega), q_clamp (show q < 2 ^ 31 by omega), q_bnd hp (by decide), q_bnd hq (by decide), true_and]
            rw [q_br he']
            simp only [k1'.1, k2'.2.1, hz, false_implies, true_implies, not_false_eq_true, not_true_eq_false, and_true, true_and, s_no4, q_onI_i, g_M_copy_134]
            exact ⟨_, _, _, rfl, q_J_refuse 4 h⟩
        · have hne : ¬ I 133 p = I 133 q := by
            rw [p5, u5, q_eqN (by omega) (by omega)]
            omega
          rw [q_brn hsq, g_C_copy_6, q_brn (by decide), s_refuse2, q_onI_i, g_C_copy_19]
          refine ⟨_, _, _, _, rfl, rfl, q_u_ne (by decide), ?_⟩
          have hne' : ¬ q_u I 113 2 (I 113 2 + 1) 133 p = q_u I 113 2 (I 113 2 + 1) 133 q := by rw [q_u_ne (by decide)]; exact hne
          rw [m_cpRR hp hq (q_kd_u (by decide) k1) (q_kd_u (by decide) k2), g_M_copy_73, q_brn (by decide)]
          simp only [q_clamp (show p < 2 ^ 31 by omega), q_clamp (show q < 2 ^ 31 by omega), q_bnd hp (by decide), q_bnd hq (by decide), true_and]
          rw [q_brn hne', s_no2, q_onI_i, g_M_copy_97]
          exact ⟨rfl, _, _, _, rfl, q_J_refuse 2 h⟩
end COPY3
