/-! texts: pure; leaves of both readers -/
def q_sg (J : Nat → Nat → Int64) (s len i : Nat) : Int32 := if i < len then q_ja J s i else -1
def q_dgt (x : Int32) (m : Nat) : Option Nat := if 48 ≤ x.toInt ∧ x.toInt ≤ 48 + (m : Int) then some (x.toInt - 48).toNat else none
def q_ltr (x : Int32) : Option Nat := if 97 ≤ x.toInt ∧ x.toInt ≤ 122 then some (x.toInt - 96).toNat else none
def q_nml (sg : Nat → Int32) : Nat → Nat → Nat → Nat × Nat
  | 0, pos, nm => (pos, nm)
  | k + 1, pos, nm => match q_ltr (sg pos) with
    | none => (pos, nm)
    | some l => q_nml sg k (pos + 1) (27 * nm + l)
theorem q_ltr_so {x : Int32} {l : Nat} (h : q_ltr x = some l) : x = nI (96 + l) ∧ 1 ≤ l ∧ l ≤ 26 := by
  unfold q_ltr at h
  by_cases e : 97 ≤ x.toInt ∧ x.toInt ≤ 122
  · rw [if_pos e] at h
    injection h with h
    refine ⟨?_, by omega, by omega⟩
    apply Int32.toInt_inj.mp
    rw [nI_toInt (by omega)]
    omega
  · rw [if_neg e] at h
    exact absurd h (by simp)
theorem q_dgt_so {x : Int32} {m v : Nat} (hm : m ≤ 9) (h : q_dgt x m = some v) : x = nI (48 + v) ∧ v ≤ m := by
  unfold q_dgt at h
  by_cases e : 48 ≤ x.toInt ∧ x.toInt ≤ 48 + (m : Int)
  · rw [if_pos e] at h
    injection h with h
    refine ⟨?_, by omega⟩
    apply Int32.toInt_inj.mp
    rw [nI_toInt (by omega)]
    omega
  · rw [if_neg e] at h
    exact absurd h (by simp)
theorem q_nml_ok {sg : Nat → Int32} : ∀ (k pos nm : Nat), k ≤ 4 → nm < 27 ^ (4 - k) → (q_nml sg k pos nm).2 < 531441 ∧ pos ≤ (q_nml sg k pos nm).1 ∧ (q_nml sg k pos nm).1 ≤ pos + k ∧ ((q_nml sg k pos nm).1 = pos → (q_nml sg k pos nm).2 = nm) ∧ (¬ (q_nml sg k pos nm).1 = pos → 1 ≤ (q_nml sg k pos nm).2)
  | 0, pos, nm, hk, h => ⟨h, Nat.le_refl _, Nat.le_refl _, fun _ => rfl, fun z => absurd rfl z⟩
  | k + 1, pos, nm, hk, h => by
    unfold q_nml
    have hp : 27 ^ (4 - k) = 27 ^ (4 - (k + 1)) * 27 := by rw [show 4 - k = 4 - (k + 1) + 1 by omega, Nat.pow_succ]
    cases hl : q_ltr (sg pos) with
    | none =>
      refine ⟨?_, Nat.le_refl _, Nat.le_add_right _ _, fun _ => rfl, fun z => absurd rfl z⟩
      show nm < 531441
      have h1 : 27 ^ (4 - (k + 1)) ≤ 27 ^ 4 := Nat.pow_le_pow_right (by decide) (by omega)
      omega
    | some l =>
      obtain ⟨-, l1, l2⟩ := q_ltr_so hl
      obtain ⟨a, b, c, d, e⟩ := q_nml_ok (sg := sg) k (pos + 1) (27 * nm + l) (by omega) (by rw [hp]; omega)
      dsimp only
      refine ⟨a, by omega, by omega, fun z => by omega, fun z => ?_⟩
      by_cases e1 : (q_nml sg k (pos + 1) (27 * nm + l)).1 = pos + 1
      · rw [d e1]; omega
      · exact e e1
section TXT1
variable {L d : Nat} {I : Nat → Nat → Int32} {J : Nat → Nat → Int64}
/-- where the class reads -/
def q_at (I : Nat → Nat → Int32) (s len pos : Nat) : Prop := I 94 4 = nI pos ∧ I (114 + 2 * s) 2 = nI len ∧ s < 8 ∧ len ≤ 160 ∧ pos ≤ len
theorem s_look {Q : Value → q_Mem → Prop} {s len pos : Nat} (h : q_at I s len pos) : q_W (d + 2) 66 [.ref 94] (q_mm L I J (114 + 2 * s)) Q = Q (.int (q_sg J s len pos)) (q_mm L I J (114 + 2 * s)) := by
  obtain ⟨h1, h2, hs, hl, hp⟩ := h
  rw [e_TextReader_look, i_shelf hs, q_onB_t, s_hasElement (i_shelf hs), h1, h2, nI_toInt (by omega), q_in_nI (by omega), q_onI_i, g_TextReader_look_11]
  unfold q_sg
  by_cases e : pos < len
  · rw [decide_eq_true e, q_brn (by decide), if_pos e]
    simp only [i_shelf hs, r_row hs, a_row hs, q_onI_i, q_onJ_j, q_onS_s, q_onB_t, true_and, and_true, true_or, or_true, eq_self, true_implies, not_true_eq_false, not_false_eq_true, false_implies, q_bb0, q_bbok, q_bbok2, Bool.true_eq_false, Bool.false_eq_true, reduceCtorEq, h1, q_clamp (show pos < 2 ^ 31 by omega), q_bnd (show pos < 160 by omega) (by decide)]
    rfl
  · rw [decide_eq_false e, q_br (by decide), if_neg e]
theorem q_sg_lt {s len pos : Nat} {c : Int32} (hc : ¬ c = -1) (h : q_sg J s len pos = c) : pos < len := by
  unfold q_sg at h
  by_cases e : pos < len
  · exact e
  · rw [if_neg e] at h
    exact absurd h.symm hc
theorem s_failAt {Q : Value → q_Mem → Prop} {t : Nat} {x : Int32} : q_W (d + 1) 70 [.ref 94, .int x] (q_mm L I J t) Q = Q (.int 0) (q_mm L (q_u I 94 5 x) J t) := by
  rw [e_TextReader_failAt]
  simp only [eq_self, true_or, true_and]
theorem s_take {Q : Value → q_Mem → Prop} {s len pos : Nat} {c : Int32} (h : q_at I s len pos) : q_W (d + 3) 68 [.ref 94, .int c] (q_mm L I J (114 + 2 * s)) Q = (match decide (q_sg J s len pos = c) with
    | true => Q (.int 1) (q_mm L (q_u I 94 4 (nI (pos + 1))) J (114 + 2 * s))
    | false => Q (.int 0) (q_mm L (q_u I 94 5 (nI pos)) J (114 + 2 * s))) := by
  rw [e_TextReader_take, s_look h, q_onI_i, g_TextReader_take_4, h.1]
  by_cases e : q_sg J s len pos = c
  · rw [q_br e, decide_eq_true e, q_n1]
    simp only [q_onI_i, q_onJ_j, q_onS_s, q_onB_t, true_and, and_true, true_or, or_true, eq_self, true_implies, not_true_eq_false, not_false_eq_true, false_implies, q_bb0, q_bbok, q_bbok2, Bool.true_eq_false, Bool.false_eq_true, reduceCtorEq]
  · rw [q_brn e, decide_eq_false e, s_failAt, q_onI_i, g_TextReader_take_16]
    simp only [eq_self, true_or, true_and]
theorem s_takeDigit {Q : Value → q_Mem → Prop} {s len pos m : Nat} (hm : m ≤ 9) (h : q_at I s len pos) : q_W (d + 3) 69 [.ref 94, .int (nI m)] (q_mm L I J (114 + 2 * s)) Q = (match q_dgt (q_sg J s len pos) m with
    | some v => Q (.int (nI v)) (q_mm L (q_u I 94 4 (nI (pos + 1))) J (114 + 2 * s))
    | none => Q (.int (-1)) (q_mm L (q_u I 94 5 (nI pos)) J (114 + 2 * s))) := by
  rw [e_TextReader_takeDigit, s_look h, q_onI_i, g_TextReader_takeDigit_4, h.1]
  cases hd : q_dgt (q_sg J s len pos) m with
  | some v =>
    obtain ⟨ex, hv⟩ := q_dgt_so hm hd
    rw [ex, show (48 : Int32) = nI 48 by decide, q_sub (by omega), show 48 + v - 48 = v by omega, q_brn (nI_pos (by omega)), q_leN (by omega) (by omega), q_br hv, q_n1]
  | none =>
    have hno : q_sg J s len pos - 48 < 0 ∨ ¬ q_sg J s len pos - 48 ≤ nI m := by
      by_cases e : q_sg J s len pos - 48 < 0
      · exact Or.inl e
      · right
        intro e2
        rw [q_lt0] at e
        rw [q_le, nI_toInt (by omega)] at e2
        obtain ⟨v, hv, ev⟩ := q_in_get (n := m + 1) (x := q_sg J s len pos - 48) (decide_eq_true (by omega))
        have ex : q_sg J s len pos = nI (48 + v) := by
          have : q_sg J s len pos = nI v + 48 := by rw [← ev, Int32.sub_add_cancel]
          rw [this, show (48 : Int32) = nI 48 by decide, q_add, Nat.add_comm]
        unfold q_dgt at hd
        rw [ex, nI_toInt (by omega), if_pos (by omega)] at hd
        exact absurd hd (by simp)
    have hC : ∀ A B : Prop, ((q_sg J s len pos - 48 < 0 → A) ∧ (¬ q_sg J s len pos - 48 < 0 → ((q_sg J s len pos - 48 ≤ nI m → B) ∧ (¬ q_sg J s len pos - 48 ≤ nI m → A)))) = A := fun A B => by
      rcases hno with e | e
      · rw [q_br e]
      · by_cases e2 : q_sg J s len pos - 48 < 0
        · rw [q_br e2]
        · rw [q_brn e2, q_brn e]
    rw [hC, s_failAt, q_onI_i, g_TextReader_takeDigit_25]
theorem s_isLetter {Q : Value → q_Mem → Prop} {t : Nat} {x : Int32} : q_W (d + 1) 67 [.int x] (q_mm L I J t) Q = Q (.int (q_bb (q_ltr x).isSome)) (q_mm L I J t) := by
  rw [e_TextReader_isLetter, q_lt, q_le, show (97 : Int32).toInt = 97 by decide, show (123 : Int32).toInt = 123 by decide]
  unfold q_ltr
  by_cases e1 : x.toInt < 97
  · rw [q_br e1, if_neg (by omega)]
    simp only [q_onI_i, q_onJ_j, q_onS_s, q_onB_t, true_and, and_true, true_or, or_true, eq_self, true_implies, not_true_eq_false, not_false_eq_true, false_implies, q_bb0, q_bbok, q_bbok2, Bool.true_eq_false, Bool.false_eq_true, reduceCtorEq]
    rfl
  · rw [q_brn e1]
    by_cases e2 : 123 ≤ x.toInt
    · rw [q_br e2, if_neg (by omega)]
      simp only [q_onI_i, q_onJ_j, q_onS_s, q_onB_t, true_and, and_true, true_or, or_true, eq_self, true_implies, not_true_eq_false, not_false_eq_true, false_implies, q_bb0, q_bbok, q_bbok2, Bool.true_eq_false, Bool.false_eq_true, reduceCtorEq]
      rfl
    · rw [q_brn e2, if_pos (by omega)]
      simp only [q_onI_i, q_onJ_j, q_onS_s, q_onB_t, true_and, and_true, true_or, or_true, eq_self, true_implies, not_true_eq_false, not_false_eq_true, false_implies, q_bb0, q_bbok, q_bbok2, Bool.true_eq_false, Bool.false_eq_true, reduceCtorEq]
      rfl
/-- where the model reads -/
def q_am (I : Nat → Nat → Int32) (J : Nat → Nat → Int64) (s len pos : Nat) : Prop := I 130 10 = nI s ∧ I 130 11 = nI pos ∧ I 134 s = nI len ∧ s < 8 ∧ len ≤ 160 ∧ pos ≤ len ∧ ∀ i, i < 160 → J (115 + 2 * s) i = J 135 (160 * s + i)
theorem s_sign {Q : Value → q_Mem → Prop} {t s len pos : Nat} (h : q_am I J s len pos) : q_W (d + 1) 160 [.ref 130] (q_mm L I J t) Q = Q (.int (q_sg J s len pos)) (q_mm L I J t) := by
  obtain ⟨h1, h2, h3, hs, hl, hp, hJ⟩ := h
  rw [e_M_sign, h1, h2, q_160]
  simp only [q_clamp (show s < 2 ^ 31 by omega), q_bnd hs (by decide), true_and, h3]
  rw [q_leN (by omega) (by omega)]
  unfold q_sg
  by_cases e : pos < len
  · rw [q_brn (by omega), if_pos e]
    simp only [q_clamp (show 160 * s + pos < 2 ^ 31 by omega), q_bnd (show 160 * s + pos < 1280 by omega) (by decide), true_and]
    unfold q_ja
    rw [hJ pos (by omega)]
  · rw [q_br (by omega), if_neg e]
theorem s_is {Q : Value → q_Mem → Prop} {t s len pos : Nat} {c : Int32} (h : q_am I J s len pos) : q_W (d + 2) 161 [.ref 130, .int c] (q_mm L I J t) Q = (match decide (q_sg J s len pos = c) with
    | true => Q (.int 1) (q_mm L (q_u I 130 11 (nI (pos + 1))) J t)
    | false => Q (.int 0) (q_mm L I J t)) := by
  rw [e_M_is, s_sign h, q_onI_i, g_M_is_4, h.2.1]
  by_cases e : q_sg J s len pos = c
  · rw [q_br e, decide_eq_true e, q_n1]
    simp only [q_onI_i, q_onJ_j, q_onS_s, q_onB_t, true_and, and_true, true_or, or_true, eq_self, true_implies, not_true_eq_false, not_false_eq_true, false_implies, q_bb0, q_bbok, q_bbok2, Bool.true_eq_false, Bool.false_eq_true, reduceCtorEq]
  · rw [q_brn e, decide_eq_false e]
    simp only [q_onI_i, q_onJ_j, q_onS_s, q_onB_t, true_and, and_true, true_or, or_true, eq_self, true_implies, not_true_eq_false, not_false_eq_true, false_implies, q_bb0, q_bbok, q_bbok2, Bool.true_eq_false, Bool.false_eq_true, reduceCtorEq]
theorem s_digit {Q : Value → q_Mem → Prop} {t s len pos m : Nat} (hm : m ≤ 9) (h : q_am I J s len pos) : q_W (d + 2) 162 [.ref 130, .int (nI m)] (q_mm L I J t) Q = (match q_dgt (q_sg J s len pos) m with
    | some v => Q (.int (nI v)) (q_mm L (q_u I 130 11 (nI (pos + 1))) J t)
    | none => Q (.int (-1)) (q_mm L I J t)) := by
  rw [e_M_digit, s_sign h, q_onI_i, g_M_digit_4, s_within, show (48 : Int32).toInt = 48 by decide, show (57 : Int32).toInt = 57 by decide, q_onI_i, g_M_digit_11, s_sign h, q_onI_i, g_M_digit_18, h.2.1]
  cases hd : q_dgt (q_sg J s len pos) m with
  | some v =>
    obtain ⟨ex, hv⟩ := q_dgt_so hm hd
    have hw : decide (48 ≤ (q_sg J s len pos).toInt ∧ (q_sg J s len pos).toInt ≤ 57) = true := decide_eq_true (by rw [ex, nI_toInt (by omega)]; omega)
    rw [hw, q_brn (by decide), ex, show (48 : Int32) = nI 48 by decide, q_sub (by omega), show 48 + v - 48 = v by omega, q_brn (q_nIm1 (by omega)), q_leN (by omega) (by omega), q_br hv, q_n1]
  | none =>
    cases hw : decide (48 ≤ (q_sg J s len pos).toInt ∧ (q_sg J s len pos).toInt ≤ 57) with
    | false => rw [q_br (show q_bb false = 0 from rfl), q_br rfl]
    | true =>
      have hw' := of_decide_eq_true (p := 48 ≤ (q_sg J s len pos).toInt ∧ (q_sg J s len pos).toInt ≤ 57) hw
      obtain ⟨v, hv, ev⟩ := q_in_get (n := 58) (x := q_sg J s len pos) (decide_eq_true (by omega))
      rw [ev, nI_toInt (by omega)] at hw'
      unfold q_dgt at hd
      rw [ev, nI_toInt (by omega)] at hd
      have hvm : ¬ v - 48 ≤ m := fun z => by
        rw [if_pos (by omega)] at hd
        exact absurd hd (by simp)
      rw [q_brn (show ¬ q_bb true = 0 by decide), ev, show (48 : Int32) = nI 48 by decide, q_sub (by omega), q_brn (q_nIm1 (by omega)), q_leN (by omega) (by omega), q_brn hvm]
end TXT1
