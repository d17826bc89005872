/-! waves: the model's parts -/
def q_runM (I : Nat → Nat → Int32) (p : Nat) : Bool := decide (I 131 p = 1)
def q_oldM (I : Nat → Nat → Int32) (q p : Nat) : Bool := decide (I 131 (84 + q) < I 131 (84 + p))
def q_prM (I : Nat → Nat → Int32) (m : Nat → Bool) (p k q : Nat) : Bool := m q && (q_bt (I 131 (48 + q)) k && q_oldM I q p)
def q_lackM (I : Nat → Nat → Int32) (n : Nat) (m : Nat → Bool) (p : Nat) : Bool := q_any (fun k => q_bt (I 131 (36 + p)) k && !q_any (q_prM I m p k) 0 n) 0 8
def q_leftM (I : Nat → Nat → Int32) (W : Nat → Int32) (p : Nat) : Bool := q_runM I p && decide (W p = -1)
section WAVESM
variable {L d : Nat} {I : Nat → Nat → Int32} {J : Nat → Nat → Int64} {t : Nat}
theorem l_heldin {rt : Value → q_Mem → Nat → Nat → Prop} {A : Prop} {n p s : Nat} (hn : I 130 0 = nI n) (h12 : n ≤ 12) (hp : p < n) (hs : s < 8) (hA : ∀ w3 w4, q_X (q_W (d + 2)) rt 184 (2, [some (.ref 130), some (.int (nI p)), some (.int (nI (s + 1))), w3, w4], [], (q_mm L I J t), 0, 0) = A) : ∀ k i, i + k = n → q_X (q_W (d + 2)) rt 184 (26, [some (.ref 130), some (.int (nI p)), some (.int (nI s)), some (.int 0), some (.int (nI i))], [], (q_mm L I J t), 0, 0) = (match q_any (q_prM I (q_leftM I (I 140)) p s) i k with
    | true => A
    | false => rt (.int 0) (q_mm L I J t) 0 0)
  | 0, i, h => by
    rw [g_M_isHeld_26, hn, q_leN (by omega) (by omega), q_br (by omega), q_br rfl]
    simp only [q_onI_i, q_onJ_j, q_onS_s, q_onB_t, true_and, and_true, true_or, or_true, eq_self, true_implies, not_true_eq_false, not_false_eq_true, false_implies, q_bb0, q_bbok, q_bbok2, Bool.true_eq_false, Bool.false_eq_true, reduceCtorEq]
    rfl
  | k + 1, i, h => by
    have hi : i < 12 := by omega
    have hone : ∀ j, j ≤ n → q_X (q_W (d + 2)) rt 184 (26, [some (.ref 130), some (.int (nI p)), some (.int (nI s)), some (.int 1), some (.int (nI j))], [], (q_mm L I J t), 0, 0) = A := fun j hj => by
      have h10 : ¬ ((1 : Int32) = 0) := by decide
      rw [g_M_isHeld_26, hn, q_leN (by omega) (by omega)]
      simp only [h10, false_implies, true_implies, not_false_eq_true, true_and, q_n1, hA]
      by_cases e : n ≤ j <;> simp [e]
    have hrec := l_heldin hn h12 hp hs hA k (i + 1) (by omega)
    rw [g_M_isHeld_26, hn, q_leN (by omega) (by omega), q_brn (by omega), q_br rfl, s_state (by omega), q_onI_i, g_M_isHeld_45]
    simp only [q_clamp (show i < 2 ^ 31 by omega), q_bnd hi (by decide), true_and, s_isOffered hi (show s < 31 by omega), q_onI_i, g_M_isHeld_67, s_isOlder hi (show p < 12 by omega), g_M_isHeld_77, q_n1, q_bb0, hone (i + 1) (by omega)]
    rw [hrec, q_any_s]
    by_cases e1 : I 131 i = 1
    · by_cases e2 : I 140 i = -1
      · cases e3 : q_bt (I 131 (48 + i)) s
        · have : q_prM I (q_leftM I (I 140)) p s i = false := by simp [q_prM, e3]
          simp [e1, e2, this]
        · by_cases e4 : I 131 (84 + i) < I 131 (84 + p)
          · have : q_prM I (q_leftM I (I 140)) p s i = true := by simp [q_prM, q_leftM, q_runM, q_oldM, e1, e2, e3, e4]
            simp [e1, e2, e4, this]
          · have : q_prM I (q_leftM I (I 140)) p s i = false := by simp [q_prM, q_oldM, e4]
            simp [e1, e2, e4, this]
      · have : q_prM I (q_leftM I (I 140)) p s i = false := by simp [q_prM, q_leftM, e2]
        simp [e1, e2, this]
    · have : q_prM I (q_leftM I (I 140)) p s i = false := by simp [q_prM, q_leftM, q_runM, e1]
      simp [e1, this]
theorem l_held {rt : Value → q_Mem → Nat → Nat → Prop} {n p : Nat} (hn : I 130 0 = nI n) (h12 : n ≤ 12) (hp : p < n) : ∀ k s, s + k = 8 → ∀ w3 w4, q_X (q_W (d + 2)) rt 184 (2, [some (.ref 130), some (.int (nI p)), some (.int (nI s)), w3, w4], [], (q_mm L I J t), 0, 0) = rt (.int (q_bb (!q_any (fun k => q_bt (I 131 (36 + p)) k && !q_any (q_prM I (q_leftM I (I 140)) p k) 0 n) s k))) (q_mm L I J t) 0 0
  | 0, s, h, w3, w4 => by
    rw [g_M_isHeld_2, show (8 : Int32) = nI 8 by decide, q_leN (by decide) (by omega), q_br (by omega)]
    simp only [q_onI_i, q_onJ_j, q_onS_s, q_onB_t, true_and, and_true, true_or, or_true, eq_self, true_implies, not_true_eq_false, not_false_eq_true, false_implies, q_bb0, q_bbok, q_bbok2, Bool.true_eq_false, Bool.false_eq_true, reduceCtorEq]
    rfl
  | k + 1, s, h, w3, w4 => by
    have hA := l_held (rt := rt) hn h12 hp k (s + 1) (by omega)
    have h10 : ¬ ((1 : Int32) = 0) := by decide
    have hone : ∀ j : Nat, j = 0 → q_X (q_W (d + 2)) rt 184 (26, [some (.ref 130), some (.int (nI p)), some (.int (nI s)), some (.int 1), some (.int (nI j))], [], (q_mm L I J t), 0, 0) = rt (.int (q_bb (!q_any (fun k => q_bt (I 131 (36 + p)) k && !q_any (q_prM I (q_leftM I (I 140)) p k) 0 n) (s + 1) k))) (q_mm L I J t) 0 0 := fun j hj => by
      rw [g_M_isHeld_26, hn, q_leN (by omega) (by omega)]
      simp only [h10, false_implies, true_implies, not_false_eq_true, true_and, q_n1, hA]
      by_cases e : n ≤ j <;> simp [e]
    rw [g_M_isHeld_2, show (8 : Int32) = nI 8 by decide, q_leN (by decide) (by omega), q_brn (by omega), s_isNeeded (show p < 12 by omega) (show s < 31 by omega), q_onI_i, g_M_isHeld_14, q_bb0, q_any_s]
    cases e1 : q_bt (I 131 (36 + p)) s with
    | false =>
      rw [q_br rfl, show (0 : Int32) = nI 0 by decide, hone 0 rfl, Bool.false_and, Bool.false_or]
    | true =>
      have hin := l_heldin (d := d) hn h12 hp (show s < 8 by omega) hA n 0 (by omega)
      rw [show nI 0 = (0 : Int32) by decide] at hin
      rw [q_brn (by decide), hin, Bool.true_and]
      cases e2 : q_any (q_prM I (q_leftM I (I 140)) p s) 0 n
      · simp [q_bb]
      · simp
theorem s_isHeld {Q : Value → q_Mem → Prop} {n p : Nat} (hn : I 130 0 = nI n) (h12 : n ≤ 12) (hp : p < n) : q_W (d + 3) 184 [.ref 130, .int (nI p)] (q_mm L I J t) Q = Q (.int (q_bb (!q_lackM I n (q_leftM I (I 140)) p))) (q_mm L I J t) := by
  rw [e_M_isHeld, show (0 : Int32) = nI 0 by decide, l_held hn h12 hp 8 0 (by decide)]
  rfl
def q_tkM (I : Nat → Nat → Int32) (n : Nat) (W : Nat → Int32) (p : Nat) : Bool := q_leftM I W p && q_lackM I n (q_leftM I W) p
theorem l_wbits {rt : Value → q_Mem → Nat → Nat → Prop} {n : Nat} {x w x2 : Int32} (hn : I 130 0 = nI n) (h12 : n ≤ 12) : ∀ k i (b : Int32), i + k = n → q_X (q_W (d + 3)) rt 185 (42, [some (.ref 130), some (.int x), some (.int x2), some (.int w), some (.int b), some (.int (nI i))], [], (q_mm L I J t), 0, 0) = q_X (q_W (d + 3)) rt 185 (99, [some (.ref 130), some (.int x), some (.int x2), some (.int w), some (.int (q_it (q_orb (q_tkM I n (I 140))) i k b)), some (.int 0)], [], (q_mm L I J t), 0, 0)
  | 0, i, b, h => by
    rw [g_M_waves_42, hn, q_leN (by omega) (by omega), q_br (by omega)]
    rfl
  | k + 1, i, b, h => by
    have hi : i < 12 := by omega
    rw [g_M_waves_42, hn, q_leN (by omega) (by omega), q_brn (by omega), s_state (by omega), q_onI_i, g_M_waves_57]
    simp only [q_clamp (show i < 2 ^ 31 by omega), q_bnd hi (by decide), true_and, s_isHeld hn h12 (show i < n by omega), q_onI_i, g_M_waves_78, q_n1, q_bb0, l_wbits hn h12 k (i + 1) _ (show i + 1 + k = n by omega)]
    rw [q_it_s]
    unfold q_orb
    by_cases e1 : I 131 i = 1
    · by_cases e2 : I 140 i = -1
      · cases e3 : q_lackM I n (q_leftM I (I 140)) i
        · have : q_tkM I n (I 140) i = false := by simp [q_tkM, e3]
          simp [e1, e2, this]
        · have : q_tkM I n (I 140) i = true := by simp [q_tkM, q_leftM, q_runM, e1, e2]; exact e3
          simp [e1, e2, this]
      · have : q_tkM I n (I 140) i = false := by simp [q_tkM, q_leftM, e2]
        simp [e1, e2, this]
    · have : q_tkM I n (I 140) i = false := by simp [q_tkM, q_leftM, q_runM, e1]
      simp [e1, this]
theorem l_wset {rt : Value → q_Mem → Nat → Nat → Prop} {n : Nat} {x w x2 b : Int32} (hn : I 130 0 = nI n) (h12 : n ≤ 12) : ∀ k i (W : Nat → Int32), i + k = n → q_X (q_W d) rt 185 (99, [some (.ref 130), some (.int x), some (.int x2), some (.int w), some (.int b), some (.int (nI i))], [], (q_mm L (q_ar 140 I W) J t), 0, 0) = q_X (q_W d) rt 185 (32, [some (.ref 130), some (.int x), some (.int (if b = 0 then 0 else 1)), some (.int (w + 1)), some (.int b), some (.int (nI n))], [], (q_mm L (q_ar 140 I (q_it (q_wset (q_bt b) w) i k W)) J t), 0, 0)
  | 0, i, W, h => by
    have : i = n := by omega
    subst this
    rw [g_M_waves_99, q_ar_ne (by decide), hn, q_leN (by omega) (by omega), q_br (by omega)]
    by_cases e : b = 0
    · simp [e]
      rfl
    · simp [e]
      rfl
  | k + 1, i, W, h => by
    have hi : i < 12 := by omega
    rw [g_M_waves_99, q_ar_ne (by decide), hn, q_leN (by omega) (by omega), q_brn (by omega), q_shr1 (by omega)]
    simp only [q_clamp (show i < 2 ^ 31 by omega), q_bnd hi (by decide), true_and, q_ar_u, q_n1, l_wset hn h12 k (i + 1) _ (show i + 1 + k = n by omega)]
    rw [q_it_s]
    cases e1 : q_bt b i <;> simp [q_wset, e1]
end WAVESM
