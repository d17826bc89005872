/-! copy -/
def q_kd (I : Nat → Nat → Int32) (s : Nat) (a b c : Prop) : Prop := (I 133 s < 0) = a ∧ (0 ≤ I 133 s) = b ∧ (I 133 s < 100) = c
theorem q_in8 {s : Nat} (hs : s < 8) : q_in (nI s) 8 = true := decide_eq_true (by rw [nI_toInt (by omega)]; omega)
theorem q_sh3 {I : Nat → Nat → Int32} {J : Nat → Nat → Int64} {n s : Nat} (h12 : n ≤ 12) (hs : s < 8) (hv : v_shelves I J n) : (q_rp I (nI s) = -3 ∧ q_kd I s True False True) ∨ (q_rp I (nI s) = -2 ∧ q_kd I s False True True) ∨ (q_rp I (nI s) = 0 ∧ q_kd I s False True False ∧ ∃ q len, q < 4 ∧ len ≤ 160 ∧ I (114 + 2 * s) 1 = nI q ∧ I (114 + 2 * s) 2 = nI len ∧ I 133 s = nI (100 + q) ∧ I 134 s = nI len ∧ ∀ i, i < 160 → J (115 + 2 * s) i = J 135 (160 * s + i)) := by
  unfold q_rp q_kd
  rw [q_in8 hs]
  dsimp only
  rw [q_clamp (show s < 2 ^ 31 by omega)]
  rcases hv s hs with ⟨a1, a2, a3⟩ | ⟨q, len, b1, b2, b3, b4, b5, b6, b7, b8⟩ | ⟨p, c1, c2, c3, c4⟩
  · refine Or.inl ?_
    rw [a1, a2, a3]
    refine ⟨by simp, ?_, ?_, ?_⟩ <;> simp
  · refine Or.inr (Or.inr ?_)
    rw [b3, b5, b6]
    exact ⟨by simp [q_nI_m1 (show q < 2 ^ 31 by omega)], ⟨q_nI_lt0 (by omega), q_nI_ge0 (by omega), by rw [q_nI_lt (by omega)]; exact eq_false (by omega)⟩, q, len, b1, b2, rfl, b4, rfl, b7, b8⟩
  · refine Or.inr (Or.inl ?_)
    rw [c2, c3, c4]
    exact ⟨by simp [q_nI_m1 (show p < 2 ^ 31 by omega)], q_nI_lt0 (by omega), q_nI_ge0 (by omega), by rw [q_nI_lt (by omega)]; exact eq_true (by omega)⟩
theorem q_kd_u {I : Nat → Nat → Int32} {s o k : Nat} {v : Int32} {a b c : Prop} (ho : o ≠ 133) (h : q_kd I s a b c) : q_kd (q_u I o k v) s a b c := by
  unfold q_kd at h ⊢
  rw [q_u_ne (Ne.symm ho)]
  exact h
section COPY
variable {L d : Nat} {t : Nat}
theorem s_hasRange {Q : Value → q_Mem → Prop} {I : Nat → Nat → Int32} {J : Nat → Nat → Int64} {s len : Nat} {x y : Int32} (hs : s < 8) (hl : I (114 + 2 * s) 2 = nI len) (hlen : len ≤ 160) (hy : 0 ≤ y.toInt) : q_W (d + 1) 53 [.ref (114 + 2 * s), .int x, .int y] (q_mm L I J t) Q = Q (.int (q_bb (decide (0 ≤ x.toInt ∧ x.toInt + y.toInt ≤ len)))) (q_mm L I J t) := by
  have hy2 := Int32.toInt_lt y
  have hd : (nI len - y).toInt = (len : Int) - y.toInt := by
    rw [Int32.toInt_sub, nI_toInt (by omega)]
    exact Int.bmod_eq_of_le (by omega) (by omega)
  rw [e_Shelf_hasRange, i_shelf hs, q_onB_t, hl, q_lt, q_lt, q_lt, hd, Int32.toInt_zero, q_brn (show ¬ y.toInt < 0 by omega)]
  by_cases h1 : x.toInt < 0
  · rw [q_br h1, decide_eq_false (by omega)]
    simp only [q_onI_i, q_onJ_j, q_onS_s, q_onB_t, true_and, and_true, true_or, or_true, eq_self, true_implies, not_true_eq_false, not_false_eq_true, false_implies, q_bb0, q_bbok, q_bbok2, Bool.true_eq_false, Bool.false_eq_true, reduceCtorEq]
    rfl
  · rw [q_brn h1]
    by_cases h2 : (len : Int) - y.toInt < x.toInt
    · rw [q_br h2, decide_eq_false (by omega)]
      simp only [q_onI_i, q_onJ_j, q_onS_s, q_onB_t, true_and, and_true, true_or, or_true, eq_self, true_implies, not_true_eq_false, not_false_eq_true, false_implies, q_bb0, q_bbok, q_bbok2, Bool.true_eq_false, Bool.false_eq_true, reduceCtorEq]
      rfl
    · rw [q_brn h2, decide_eq_true (by omega)]
      simp only [q_onI_i, q_onJ_j, q_onS_s, q_onB_t, true_and, and_true, true_or, or_true, eq_self, true_implies, not_true_eq_false, not_false_eq_true, false_implies, q_bb0, q_bbok, q_bbok2, Bool.true_eq_false, Bool.false_eq_true, reduceCtorEq]
      rfl
/-- the model's two loops -/
theorem l_fwd {p q i j n : Nat} (hp : p < 8) (hq : q < 8) (hi : i + n ≤ 160) (hj : j + n ≤ 160) (hne : ∀ m k, m < k → k < n → 160 * p + i + k ≠ 160 * q + j + m) {I : Nat → Nat → Int32} : ∀ (k m : Nat) (J : Nat → Nat → Int64), m + k = n → ∃ F, (∀ o, o ≠ 135 → F o = J o) ∧ (∀ b, (∀ z, m ≤ z → z < n → b ≠ 160 * q + j + z) → F 135 b = J 135 b) ∧ (∀ z, m ≤ z → z < n → F 135 (160 * q + j + z) = J 135 (160 * p + i + z)) ∧ ∀ (rt : Value → q_Mem → Nat → Nat → Prop), q_X (q_W d) rt 148 (251, [some (.ref 130), some (.int (nI p)), some (.int (nI q)), some (.int (nI i)), some (.int (nI j)), some (.int (nI n)), some (.int (nI m))], [], q_mm L I J t, 0, 0) = rt (.int 1) (q_mm L I F t) 0 0
  | 0, m, J, h => by
    refine ⟨J, fun _ _ => rfl, fun _ _ => rfl, fun z a b => absurd a (by omega), fun rt => ?_⟩
    rw [g_M_copy_251, q_leN (by omega) (by omega), q_br (by omega)]
  | k + 1, m, J, h => by
    obtain ⟨F, f1, f2, f3, f4⟩ := l_fwd hp hq hi hj hne (I := I) k (m + 1) (q_u8 J 135 (160 * q + j + m) (J 135 (160 * p + i + m))) (by omega)
    refine ⟨F, fun o ho => by rw [f1 o ho, q_u8_ne ho], fun b hb => ?_, fun z a b => ?_, fun rt => ?_⟩
    · rw [f2 b (fun z x1 x2 => hb z (by omega) x2), q_u8_nk (hb m (Nat.le_refl _) (by omega))]
    · by_cases e : z = m
      · subst e
        rw [f2 _ (fun z' x1 x2 => by omega), q_u8_eq]
      · rw [f3 z (by omega) b, q_u8_nk (hne m z (by omega) b)]
    · rw [g_M_copy_251, q_leN (by omega) (by omega), q_brn (by omega), q_160, q_add, q_160, q_add]
      simp only [q_clamp (show 160 * p + i + m < 2 ^ 31 by omega), q_bnd (show 160 * p + i + m < 1280 by omega) (by decide), q_clamp (show 160 * q + j + m < 2 ^ 31 by omega), q_bnd (show 160 * q + j + m < 1280 by omega) (by decide), true_and, q_n1, f4]
theorem l_bwd {p q i j n : Nat} (hp : p < 8) (hq : q < 8) (hi : i + n ≤ 160) (hj : j + n ≤ 160) (hne : ∀ m k, k < m → m < n → 160 * p + i + k ≠ 160 * q + j + m) {I : Nat → Nat → Int32} : ∀ (m : Nat) (J : Nat → Nat → Int64), m ≤ n → ∃ F, (∀ o, o ≠ 135 → F o = J o) ∧ (∀ b, (∀ z, z < m → b ≠ 160 * q + j + z) → F 135 b = J 135 b) ∧ (∀ z, z < m → F 135 (160 * q + j + z) = J 135 (160 * p + i + z)) ∧ ∀ (rt : Value → q_Mem → Nat → Nat → Prop), q_X (q_W d) rt 148 (203, [some (.ref 130), some (.int (nI p)), some (.int (nI q)), some (.int (nI i)), some (.int (nI j)), some (.int (nI n)), some (.int (nI m - 1))], [], q_mm L I J t, 0, 0) = rt (.int 1) (q_mm L I F t) 0 0
  | 0, J, h => by
    refine ⟨J, fun _ _ => rfl, fun _ _ => rfl, fun z a => absurd a (by omega), fun rt => ?_⟩
    rw [g_M_copy_203, q_br (by decide)]
  | m + 1, J, h => by
    obtain ⟨F, f1, f2, f3, f4⟩ := l_bwd hp hq hi hj hne (I := I) m (q_u8 J 135 (160 * q + j + m) (J 135 (160 * p + i + m))) (by omega)
    refine ⟨F, fun o ho => by rw [f1 o ho, q_u8_ne ho], fun b hb => ?_, fun z a => ?_, fun rt => ?_⟩
    · rw [f2 b (fun z x1 => hb z (by omega)), q_u8_nk (hb m (by omega))]
    · by_cases e : z = m
      · subst e
        rw [f2 _ (fun z' x1 => by omega), q_u8_eq]
      · rw [f3 z (by omega), q_u8_nk (hne m z (by omega) (by omega))]
    · rw [g_M_copy_203, nI_pred, q_brn (nI_pos (by omega)), q_160, q_add, q_160, q_add]
      simp only [q_clamp (show 160 * p + i + m < 2 ^ 31 by omega), q_bnd (show 160 * p + i + m < 1280 by omega) (by decide), q_clamp (show 160 * q + j + m < 2 ^ 31 by omega), q_bnd (show 160 * q + j + m < 1280 by omega) (by decide), true_and, q_m1, f4]
end COPY
section COPY2
variable {L c : Nat} {I : Nat → Nat → Int32} {J : Nat → Nat → Int64} {t : Nat}
/-- the model's way to its refusals, and to the two rows -/
theorem m_cpNN {p q : Nat} {x y z : Int32} {Q : Value → q_Mem → Prop} (hp : p < 8) (hq : q < 8) (kp : q_kd I p True False True) (kq : q_kd I q True False True) : q_W 100 148 [.ref 130, .int (nI p), .int (nI q), .int x, .int y, .int z] (q_mm L I J t) Q = Q (.int (-3)) (q_mm L (q_u I 145 3 (I 145 3 + 1)) J t) := by
  rw [e_M_copy, s_within0, show (7 : Int32).toInt + 1 = 8 by decide, q_in8 hp, q_onI_i, g_M_copy_7, q_brn (by decide), s_within0, show (7 : Int32).toInt + 1 = 8 by decide, q_in8 hq, q_onI_i, g_M_copy_17, q_brn (by decide)]
  simp +decide only [q_clamp (show p < 2 ^ 31 by omega), q_clamp (show q < 2 ^ 31 by omega), q_bnd hp (by decide), q_bnd hq (by decide), q_onI_i, q_onJ_j, q_onS_s, q_onB_t, true_and, and_true, true_or, or_true, eq_self, true_implies, not_true_eq_false, not_false_eq_true, false_implies, q_bb0, q_bbok, q_bbok2, Bool.true_eq_false, Bool.false_eq_true, reduceCtorEq, kp.1, kp.2.1, kp.2.2, kq.1, kq.2.1, kq.2.2, s_isRow hp, s_isRow hq, g_M_copy_40, g_M_copy_57, g_M_copy_65, g_M_copy_73, s_no3, g_M_copy_122]
theorem m_cpNP {p q : Nat} {x y z : Int32} {Q : Value → q_Mem → Prop} (hp : p < 8) (hq : q < 8) (kp : q_kd I p True False True) (kq : q_kd I q False True True) : q_W 100 148 [.ref 130, .int (nI p), .int (nI q), .int x, .int y, .int z] (q_mm L I J t) Q = Q (.int (-2)) (q_mm L (q_u I 145 2 (I 145 2 + 1)) J t) := by
  rw [e_M_copy, s_within0, show (7 : Int32).toInt + 1 = 8 by decide, q_in8 hp, q_onI_i, g_M_copy_7, q_brn (by decide), s_within0, show (7 : Int32).toInt + 1 = 8 by decide, q_in8 hq, q_onI_i, g_M_copy_17, q_brn (by decide)]
  simp +decide only [q_clamp (show p < 2 ^ 31 by omega), q_clamp (show q < 2 ^ 31 by omega), q_bnd hp (by decide), q_bnd hq (by decide), q_onI_i, q_onJ_j, q_onS_s, q_onB_t, true_and, and_true, true_or, or_true, eq_self, true_implies, not_true_eq_false, not_false_eq_true, false_implies, q_bb0, q_bbok, q_bbok2, Bool.true_eq_false, Bool.false_eq_true, reduceCtorEq, kp.1, kp.2.1, kp.2.2, kq.1, kq.2.1, kq.2.2, s_isRow hp, s_isRow hq, g_M_copy_40, g_M_copy_57, g_M_copy_65, g_M_copy_73, s_no2, g_M_copy_97]
theorem m_cpNR {p q : Nat} {x y z : Int32} {Q : Value → q_Mem → Prop} (hp : p < 8) (hq : q < 8) (kp : q_kd I p True False True) (kq : q_kd I q False True False) : q_W 100 148 [.ref 130, .int (nI p), .int (nI q), .int x, .int y, .int z] (q_mm L I J t) Q = Q (.int (-3)) (q_mm L (q_u I 145 3 (I 145 3 + 1)) J t) := by
  rw [e_M_copy, s_within0, show (7 : Int32).toInt + 1 = 8 by decide, q_in8 hp, q_onI_i, g_M_copy_7, q_brn (by decide), s_within0, show (7 : Int32).toInt + 1 = 8 by decide, q_in8 hq, q_onI_i, g_M_copy_17, q_brn (by decide)]
  simp +decide only [q_clamp (show p < 2 ^ 31 by omega), q_clamp (show q < 2 ^ 31 by omega), q_bnd hp (by decide), q_bnd hq (by decide), q_onI_i, q_onJ_j, q_onS_s, q_onB_t, true_and, and_true, true_or, or_true, eq_self, true_implies, not_true_eq_false, not_false_eq_true, false_implies, q_bb0, q_bbok, q_bbok2, Bool.true_eq_false, Bool.false_eq_true, reduceCtorEq, kp.1, kp.2.1, kp.2.2, kq.1, kq.2.1, kq.2.2, s_isRow hp, s_isRow hq, g_M_copy_40, g_M_copy_57, g_M_copy_65, g_M_copy_73, s_no3, g_M_copy_122]
theorem m_cpPN {p q : Nat} {x y z : Int32} {Q : Value → q_Mem → Prop} (hp : p < 8) (hq : q < 8) (kp : q_kd I p False True True) (kq : q_kd I q True False True) : q_W 100 148 [.ref 130, .int (nI p), .int (nI q), .int x, .int y, .int z] (q_mm L I J t) Q = Q (.int (-2)) (q_mm L (q_u I 145 2 (I 145 2 + 1)) J t) := by
  rw [e_M_copy, s_within0, show (7 : Int32).toInt + 1 = 8 by decide, q_in8 hp, q_onI_i, g_M_copy_7, q_brn (by decide), s_within0, show (7 : Int32).toInt + 1 = 8 by decide, q_in8 hq, q_onI_i, g_M_copy_17, q_brn (by decide)]
  simp +decide only [q_clamp (show p < 2 ^ 31 by omega), q_clamp (show q < 2 ^ 31 by omega), q_bnd hp (by decide), q_bnd hq (by decide), q_onI_i, q_onJ_j, q_onS_s, q_onB_t, true_and, and_true, true_or, or_true, eq_self, true_implies, not_true_eq_false, not_false_eq_true, false_implies, q_bb0, q_bbok, q_bbok2, Bool.true_eq_false, Bool.false_eq_true, reduceCtorEq, kp.1, kp.2.1, kp.2.2, kq.1, kq.2.1, kq.2.2, s_isRow hp, s_isRow hq, g_M_copy_40, g_M_copy_57, g_M_copy_65, g_M_copy_73, s_no2, g_M_copy_97]
theorem m_cpPP {p q : Nat} {x y z : Int32} {Q : Value → q_Mem → Prop} (hp : p < 8) (hq : q < 8) (kp : q_kd I p False True True) (kq : q_kd I q False True True) : q_W 100 148 [.ref 130, .int (nI p), .int (nI q), .int x, .int y, .int z] (q_mm L I J t) Q = Q (.int (-2)) (q_mm L (q_u I 145 2 (I 145 2 + 1)) J t) := by
  rw [e_M_copy, s_within0, show (7 : Int32).toInt + 1 = 8 by decide, q_in8 hp, q_onI_i, g_M_copy_7, q_brn (by decide), s_within0, show (7 : Int32).toInt + 1 = 8 by decide, q_in8 hq, q_onI_i, g_M_copy_17, q_brn (by decide)]
  simp +decide only [q_clamp (show p < 2 ^ 31 by omega), q_clamp (show q < 2 ^ 31 by omega), q_bnd hp (by decide), q_bnd hq (by decide), q_onI_i, q_onJ_j, q_onS_s, q_onB_t, true_and, and_true, true_or, or_true, eq_self, true_implies, not_true_eq_false, not_false_eq_true, false_implies, q_bb0, q_bbok, q_bbok2, Bool.true_eq_false, Bool.false_eq_true, reduceCtorEq, kp.1, kp.2.1, kp.2.2, kq.1, kq.2.1, kq.2.2, s_isRow hp, s_isRow hq, g_M_copy_40, g_M_copy_57, g_M_copy_65, g_M_copy_73, s_no2, g_M_copy_97]
theorem m_cpPR {p q : Nat} {x y z : Int32} {Q : Value → q_Mem → Prop} (hp : p < 8) (hq : q < 8) (kp : q_kd I p False True True) (kq : q_kd I q False True False) : q_W 100 148 [.ref 130, .int (nI p), .int (nI q), .int x, .int y, .int z] (q_mm L I J t) Q = Q (.int (-2)) (q_mm L (q_u I 145 2 (I 145 2 + 1)) J t) := by
  rw [e_M_copy, s_within0, show (7 : Int32).toInt + 1 = 8 by decide, q_in8 hp, q_onI_i, g_M_copy_7, q_brn (by decide), s_within0, show (7 : Int32).toInt + 1 = 8 by decide, q_in8 hq, q_onI_i, g_M_copy_17, q_brn (by decide)]
  simp +decide only [q_clamp (show p < 2 ^ 31 by omega), q_clamp (show q < 2 ^ 31 by omega), q_bnd hp (by decide), q_bnd hq (by decide), q_onI_i, q_onJ_j, q_onS_s, q_onB_t, true_and, and_true, true_or, or_true, eq_self, true_implies, not_true_eq_false, not_false_eq_true, false_implies, q_bb0, q_bbok, q_bbok2, Bool.true_eq_false, Bool.false_eq_true, reduceCtorEq, kp.1, kp.2.1, kp.2.2, kq.1, kq.2.1, kq.2.2, s_isRow hp, s_isRow hq, g_M_copy_40, g_M_copy_57, g_M_copy_65, g_M_copy_73, s_no2, g_M_copy_97]
theorem m_cpRN {p q : Nat} {x y z : Int32} {Q : Value → q_Mem → Prop} (hp : p < 8) (hq : q < 8) (kp : q_kd I p False True False) (kq : q_kd I q True False True) : q_W 100 148 [.ref 130, .int (nI p), .int (nI q), .int x, .int y, .int z] (q_mm L I J t) Q = Q (.int (-3)) (q_mm L (q_u I 145 3 (I 145 3 + 1)) J t) := by
  rw [e_M_copy, s_within0, show (7 : Int32).toInt + 1 = 8 by decide, q_in8 hp, q_onI_i, g_M_copy_7, q_brn (by decide), s_within0, show (7 : Int32).toInt + 1 = 8 by decide, q_in8 hq, q_onI_i, g_M_copy_17, q_brn (by decide)]
  simp +decide only [q_clamp (show p < 2 ^ 31 by omega), q_clamp (show q < 2 ^ 31 by omega), q_bnd hp (by decide), q_bnd hq (by decide), q_onI_i, q_onJ_j, q_onS_s, q_onB_t, true_and, and_true, true_or, or_true, eq_self, true_implies, not_true_eq_false, not_false_eq_true, false_implies, q_bb0, q_bbok, q_bbok2, Bool.true_eq_false, Bool.false_eq_true, reduceCtorEq, kp.1, kp.2.1, kp.2.2, kq.1, kq.2.1, kq.2.2, s_isRow hp, s_isRow hq, g_M_copy_40, g_M_copy_57, g_M_copy_65, g_M_copy_73, s_no3, g_M_copy_122]
theorem m_cpRP {p q : Nat} {x y z : Int32} {Q : Value → q_Mem → Prop} (hp : p < 8) (hq : q < 8) (kp : q_kd I p False True False) (kq : q_kd I q False True True) : q_W 100 148 [.ref 130, .int (nI p), .int (nI q), .int x, .int y, .int z] (q_mm L I J t) Q = Q (.int (-2)) (q_mm L (q_u I 145 2 (I 145 2 + 1)) J t) := by
  rw [e_M_copy, s_within0, show (7 : Int32).toInt + 1 = 8 by decide, q_in8 hp, q_onI_i, g_M_copy_7, q_brn (by decide), s_within0, show (7 : Int32).toInt + 1 = 8 by decide, q_in8 hq, q_onI_i, g_M_copy_17, q_brn (by decide)]
  simp +decide only [q_clamp (show p < 2 ^ 31 by omega), q_clamp (show q < 2 ^ 31 by omega), q_bnd hp (by decide), q_bnd hq (by decide), q_onI_i, q_onJ_j, q_onS_s, q_onB_t, true_and, and_true, true_or, or_true, eq_self, true_implies, not_true_eq_false, not_false_eq_true, false_implies, q_bb0, q_bbok, q_bbok2, Bool.true_eq_false, Bool.false_eq_true, reduceCtorEq, kp.1, kp.2.1, kp.2.2, kq.1, kq.2.1, kq.2.2, s_isRow hp, s_isRow hq, g_M_copy_40, g_M_copy_57, g_M_copy_65, g_M_copy_73, s_no2, g_M_copy_97]
theorem m_cpRR {p q : Nat} {x y z : Int32} {Q : Value → q_Mem → Prop} (hp : p < 8) (hq : q < 8) (kp : q_kd I p False True False) (kq : q_kd I q False True False) : q_W 100 148 [.ref 130, .int (nI p), .int (nI q), .int x, .int y, .int z] (q_mm L I J t) Q = q_X (q_W 99) (fun v μ _ _ => Q v μ) 148 (73, [some (.ref 130), some (.int (nI p)), some (.int (nI q)), some (.int x), some (.int y), some (.int z), none], [.int 1], (q_mm L I J t), 0, 0) := by
  rw [e_M_copy, s_within0, show (7 : Int32).toInt + 1 = 8 by decide, q_in8 hp, q_onI_i, g_M_copy_7, q_brn (by decide), s_within0, show (7 : Int32).toInt + 1 = 8 by decide, q_in8 hq, q_onI_i, g_M_copy_17, q_brn (by decide)]
  have h1 : ∀ {Q : Value → q_Mem → Prop}, q_W 99 139 [.ref 130, .int (nI p)] (q_mm L I J t) Q = Q (.int 1) (q_mm L I J t) := by
    intro Q
    rw [s_isRow hp]
    simp only [kp.2.2, not_false_eq_true, decide_true]
    rfl
  have h2 : ∀ {Q : Value → q_Mem → Prop}, q_W 99 139 [.ref 130, .int (nI q)] (q_mm L I J t) Q = Q (.int 1) (q_mm L I J t) := by
    intro Q
    rw [s_isRow hq]
    simp only [kq.2.2, not_false_eq_true, decide_true]
    rfl
  simp only [q_clamp (show p < 2 ^ 31 by omega), q_clamp (show q < 2 ^ 31 by omega), q_bnd hp (by decide), q_bnd hq (by decide), true_and, kp.1, false_implies, not_false_eq_true, true_implies, h1, q_onI_i]
  rw [g_M_copy_40, q_brn (by decide)]
  simp only [q_clamp (show q < 2 ^ 31 by omega), q_bnd hq (by decide), true_and, kq.1, false_implies, not_false_eq_true, true_implies, h2, q_onI_i]
  rw [g_M_copy_57, q_brn (by decide), h1, q_onI_i, g_M_copy_65, q_brn (by decide), h2, q_onI_i]
end COPY2
