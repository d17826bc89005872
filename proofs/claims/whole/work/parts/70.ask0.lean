/-! what a value fired comes to: pure -/
abbrev q_FS : Type := Nat × (Nat → Int32) × (Nat → Int32)
abbrev q_FR : Type := (Nat × Int32) × q_FS
def q_ten (x : Int32) : Int32 := if 0 ≤ x - x / 10 * 10 then x - x / 10 * 10 else (x - x / 10 * 10) + 10
def q_thn (r : q_FR) (g : Int32 → q_FS → q_FR) : q_FR := match r.1.1 with
  | 0 => g r.1.2 r.2
  | _ => r
def q_cat (r : q_FR) (k : Int32) : q_FR := match r.1.1 with
  | 1 => ((0, r.1.2 + k), r.2)
  | _ => r
def q_ak1 (rc : Int32 → q_FS → q_FR) (k : Int32) (pl : Nat) (x : Int32) (s : q_FS) : Nat → q_FR
  | 0 => rc (x + k) s
  | 1 => q_thn (rc x s) fun v s' => ((0, v * k), s')
  | 2 => q_thn (rc x s) fun v s' => rc v s'
  | 3 => if q_ten x = q_ten k then ((0, x), s) else rc x s
  | 4 => q_thn (rc (x ^^^ k) s) fun v s' => ((0, v ^^^ k), s')
  | 5 => q_thn (rc x s) fun v s' => ((0, v + nI s'.1), s')
  | 6 => rc x (s.1, s.2.1, q_up s.2.2 pl (s.2.2 pl + x))
  | 7 => if x < k then ((1, x), s) else rc x s
  | _ => q_cat (rc x s) k
def q_aft (rc : Int32 → q_FS → q_FR) (k : Int32) (r : q_FR) : Nat → q_FR
  | 1 => q_thn r fun v s' => ((0, v * k), s')
  | 2 => q_thn r fun v s' => rc v s'
  | 4 => q_thn r fun v s' => ((0, v ^^^ k), s')
  | 5 => q_thn r fun v s' => ((0, v + nI s'.1), s')
  | 8 => q_cat r k
  | _ => r
def q_hnd (k x : Int32) : Nat → Int32
  | 0 => x + k
  | 4 => x ^^^ k
  | _ => x
theorem q_ak1_aft {rc : Int32 → q_FS → q_FR} {k x : Int32} {pl : Nat} {s : q_FS} : ∀ f, f < 9 → ¬ f = 3 → ¬ f = 6 → ¬ f = 7 → q_ak1 rc k pl x s f = q_aft rc k (rc (q_hnd k x f) s) f
  | 0, _, _, _, _ => rfl
  | 1, _, _, _, _ => rfl
  | 2, _, _, _, _ => rfl
  | 3, _, h, _, _ => absurd rfl h
  | 4, _, _, _, _ => rfl
  | 5, _, _, _, _ => rfl
  | 6, _, _, h, _ => absurd rfl h
  | 7, _, _, _, h => absurd rfl h
  | 8, _, _, _, _ => rfl
  | f + 9, h, _, _, _ => absurd h (by omega)
def q_s1 (s : q_FS) (c : Int32) : q_FS := (s.1 + 1, (if s.1 < 30 then q_up s.2.1 s.1 c else s.2.1), s.2.2)
def q_ak (H C : Nat → Int32) (len : Nat) : Nat → Int32 → q_FS → q_FR
  | 0, x, s => ((0, x), s)
  | m + 1, x, s => if 200 ≤ s.1 then ((2, 0), s) else q_ak1 (q_ak H C len m) (H (96 + (C (len - (m + 1))).toNatClampNeg)) (q_hp H (C (len - (m + 1))).toNatClampNeg) x (q_s1 s (C (len - (m + 1)))) (H (72 + (C (len - (m + 1))).toNatClampNeg)).toNatClampNeg
theorem q_ten_fm {x : Int32} {A B : Prop} {P : Int32 → Prop} (hA : A = P (x - x / 10 * 10)) (hB : B = P ((x - x / 10 * 10) + 10)) : ((0 ≤ x ^^^ 10 → A) ∧ (¬ 0 ≤ x ^^^ 10 → ((x - x / 10 * 10 = 0 → A) ∧ (¬ x - x / 10 * 10 = 0 → B)))) = P (q_ten x) := by
  have hs : (0 ≤ x ^^^ 10) = (0 ≤ x.toInt) := by
    rw [Int32.le_iff_toInt_le, Int32.toInt_zero]
    have e1 : decide ((x ^^^ 10).toInt < 0) = decide (x.toInt < 0) := by
      have a1 := BitVec.msb_eq_toInt (x := (x ^^^ 10).toBitVec)
      have a2 := BitVec.msb_eq_toInt (x := x.toBitVec)
      show decide ((x ^^^ 10).toBitVec.toInt < 0) = decide (x.toBitVec.toInt < 0)
      rw [← a1, ← a2, Int32.toBitVec_xor, BitVec.msb_xor, show (10 : Int32).toBitVec.msb = false by decide, Bool.xor_false]
    have e2 := decide_eq_decide.mp e1
    apply propext
    omega
  have hr : (x - x / 10 * 10).toInt = x.toInt - x.toInt.tdiv 10 * 10 := by
    have hlo := Int32.le_toInt x
    have hhi := Int32.toInt_lt x
    have hq : (x / 10).toInt = x.toInt.tdiv 10 := by
      rw [Int32.toInt_div, show (10 : Int32).toInt = 10 by decide]
      rcases Int.le_total 0 x.toInt with h | h
      · obtain ⟨w, hw⟩ := Int.eq_ofNat_of_zero_le h
        rw [hw, show (10 : Int) = ((10 : Nat) : Int) by rfl, ← Int.ofNat_tdiv]
        exact Int.bmod_eq_of_le (by omega) (by omega)
      · obtain ⟨w, hw⟩ := Int.eq_ofNat_of_zero_le (a := -x.toInt) (by omega)
        have hx : x.toInt = -(w : Int) := by omega
        rw [hx, Int.neg_tdiv, show (10 : Int) = ((10 : Nat) : Int) by rfl, ← Int.ofNat_tdiv]
        exact Int.bmod_eq_of_le (by omega) (by omega)
    have hb : -214748364 ≤ x.toInt.tdiv 10 ∧ x.toInt.tdiv 10 ≤ 214748364 ∧ -10 < x.toInt - x.toInt.tdiv 10 * 10 ∧ x.toInt - x.toInt.tdiv 10 * 10 < 10 := by
      rcases Int.le_total 0 x.toInt with h | h
      · obtain ⟨w, hw⟩ := Int.eq_ofNat_of_zero_le h
        rw [hw, show (10 : Int) = ((10 : Nat) : Int) by rfl, ← Int.ofNat_tdiv]
        omega
      · obtain ⟨w, hw⟩ := Int.eq_ofNat_of_zero_le (a := -x.toInt) (by omega)
        have hx : x.toInt = -(w : Int) := by omega
        rw [hx, Int.neg_tdiv, show (10 : Int) = ((10 : Nat) : Int) by rfl, ← Int.ofNat_tdiv]
        omega
    have hm : (x / 10 * 10).toInt = x.toInt.tdiv 10 * 10 := by
      rw [Int32.toInt_mul, hq, show (10 : Int32).toInt = 10 by decide]
      exact Int.bmod_eq_of_le (by omega) (by omega)
    rw [Int32.toInt_sub, hm]
    exact Int.bmod_eq_of_le (by omega) (by omega)
  have hz : (x - x / 10 * 10 = 0) = (x.toInt - x.toInt.tdiv 10 * 10 = 0) := by rw [q_eqz, hr, Int32.toInt_zero]
  have h0 : (0 ≤ x - x / 10 * 10) = (0 ≤ x.toInt - x.toInt.tdiv 10 * 10) := by rw [Int32.le_iff_toInt_le, hr, Int32.toInt_zero]
  have hsg : (0 ≤ x.toInt → 0 ≤ x.toInt - x.toInt.tdiv 10 * 10) ∧ (x.toInt ≤ 0 → x.toInt - x.toInt.tdiv 10 * 10 ≤ 0) := by
    refine ⟨fun h => ?_, fun h => ?_⟩
    · obtain ⟨w, hw⟩ := Int.eq_ofNat_of_zero_le h
      rw [hw, show (10 : Int) = ((10 : Nat) : Int) by rfl, ← Int.ofNat_tdiv]
      omega
    · obtain ⟨w, hw⟩ := Int.eq_ofNat_of_zero_le (a := -x.toInt) (by omega)
      have hx : x.toInt = -(w : Int) := by omega
      rw [hx, Int.neg_tdiv, show (10 : Int) = ((10 : Nat) : Int) by rfl, ← Int.ofNat_tdiv]
      omega
  unfold q_ten
  rw [hs, hz]
  by_cases c1 : 0 ≤ x.toInt
  · rw [q_br c1, if_pos (by rw [h0]; exact hsg.1 c1), hA]
  · rw [q_brn c1]
    have c2 := hsg.2 (by omega)
    by_cases c3 : x.toInt - x.toInt.tdiv 10 * 10 = 0
    · rw [q_br c3, if_pos (by rw [h0]; omega), hA]
    · rw [q_brn c3, if_neg (by rw [h0]; omega), hB]
theorem s_fm10 {L d : Nat} {Q : Value → q_Mem → Prop} {I : Nat → Nat → Int32} {J : Nat → Nat → Int64} {t : Nat} {x : Int32} : q_W (d + 1) 223 [.int x, .int 10] (q_mm L I J t) Q = Q (.int (q_ten x)) (q_mm L I J t) := by
  rw [e_Math_floorMod]
  simp only [show ¬ (10 : Int32) = 0 by decide, not_false_eq_true, true_and]
  exact q_ten_fm (P := fun v => Q (.int v) (q_mm L I J t)) rfl rfl
theorem s_Mten {L d : Nat} {Q : Value → q_Mem → Prop} {I : Nat → Nat → Int32} {J : Nat → Nat → Int64} {t : Nat} {x : Int32} : q_W (d + 1) 200 [.int x] (q_mm L I J t) Q = Q (.int (q_ten x)) (q_mm L I J t) := by
  rw [e_M_ten]
  simp only [show ¬ (10 : Int32) = 0 by decide, not_false_eq_true, true_and]
  unfold q_ten
  by_cases h : 0 ≤ x - x / 10 * 10
  · rw [q_br h, if_pos h]
  · rw [q_brn h, if_neg h]
theorem s_looksFirst {L d : Nat} {Q : Value → q_Mem → Prop} {I : Nat → Nat → Int32} {J : Nat → Nat → Int64} {t : Nat} {f : Nat} (hf : f < 9) : q_W (d + 1) 11 [.int (nI f)] (q_mm L I J t) Q = Q (.int (q_bb (decide (f = 3) || (decide (f = 6) || decide (f = 7))))) (q_mm L I J t) := by
  rw [e_Firing_looksFirst, show (3 : Int32) = nI 3 by decide, show (6 : Int32) = nI 6 by decide, show (7 : Int32) = nI 7 by decide, q_eqN (by omega) (by decide), q_eqN (by omega) (by decide), q_eqN (by omega) (by decide)]
  by_cases h1 : f = 3
  · simp [h1, q_bb]
  · by_cases h2 : f = 6
    · simp [h2, q_bb]
    · by_cases h3 : f = 7
      · simp [h3, q_bb]
      · simp [h1, h2, h3, q_bb]
