/-! waves: the class's parts, the model's parts -/
/-- memory with an array's content put in place -/
def q_ar (o : Nat) (I : Nat → Nat → Int32) (W : Nat → Int32) : Nat → Nat → Int32 := fun a b => if a = o then W b else I a b
theorem q_ar_ne {o a : Nat} {I : Nat → Nat → Int32} {W : Nat → Int32} (h : a ≠ o) : q_ar o I W a = I a := by
  funext b
  unfold q_ar
  rw [if_neg h]
theorem q_ar_eq {o b : Nat} {I : Nat → Nat → Int32} {W : Nat → Int32} : q_ar o I W o b = W b := by
  unfold q_ar
  rw [if_pos rfl]
def q_up (W : Nat → Int32) (p : Nat) (v : Int32) : Nat → Int32 := fun b => if b = p then v else W b
theorem q_ar_u {o p : Nat} {I : Nat → Nat → Int32} {W : Nat → Int32} {v : Int32} : q_u (q_ar o I W) o p v = q_ar o I (q_up W p v) := by
  funext a b
  unfold q_u q_ar q_up
  by_cases h : a = o
  · by_cases e : b = p
    · rw [if_pos ⟨h, e⟩, if_pos h, if_pos e]
    · rw [if_neg (fun z => e z.2), if_pos h, if_pos h, if_neg e]
  · rw [if_neg (fun z => h z.1), if_neg h, if_neg h]
theorem q_ar_self {o : Nat} {I : Nat → Nat → Int32} : q_ar o I (I o) = I := by
  funext a b
  unfold q_ar
  by_cases h : a = o
  · rw [if_pos h, h]
  · rw [if_neg h]
theorem q_any_false {f : Nat → Bool} : ∀ (k i : Nat), (q_any f i k = false) = (∀ p, i ≤ p → p < i + k → f p = false)
  | 0, i => propext ⟨fun _ p h1 h2 => absurd h1 (by omega), fun _ => rfl⟩
  | k + 1, i => by
    rw [q_any_s, Bool.or_eq_false_iff, q_any_false k (i + 1)]
    apply propext
    refine ⟨fun h p h1 h2 => ?_, fun h => ⟨h i (Nat.le_refl _) (by omega), fun p h1 h2 => h p (by omega) (by omega)⟩⟩
    by_cases e : p = i
    · rw [e]; exact h.1
    · exact h.2 p (by omega) (by omega)
theorem q_mk_any {f : Nat → Bool} {n : Nat} (hn : n ≤ 32) : (q_mk f n = 0) = (q_any f 0 n = false) := by
  rw [q_mk0 hn, q_any_false]
  apply propext
  exact ⟨fun h p _ h2 => h p (by omega), fun h p hp => h p (Nat.zero_le _) (by omega)⟩
/-- in the class's words -/
def q_runC (I : Nat → Nat → Int32) (p : Nat) : Bool := decide (I (6 + p) 9 = 1)
def q_oldC (I : Nat → Nat → Int32) (q p : Nat) : Bool := decide (I (6 + q) 9 = 1) && decide (I (6 + q) 10 < I (6 + p) 10)
def q_lackC (I : Nat → Nat → Int32) (n : Nat) (m : Nat → Bool) (p : Nat) : Bool := q_any (fun k => q_bt (I (6 + p) 2) k && !q_any (fun q => m q && q_oldC I q p && q_bt (I (6 + q) 3) k) 0 n) 0 8
section WAVES
variable {L d : Nat} {I : Nat → Nat → Int32} {J : Nat → Nat → Int64} {t : Nat}
theorem l_leftBits {rt : Value → q_Mem → Nat → Nat → Prop} {n : Nat} (hn : I 3 2 = nI n) (h12 : n ≤ 12) : ∀ k i (b : Int32), i + k = n → q_X (q_W (d + 2)) rt 74 (4, [some (.ref 84), some (.int b), some (.int (nI i))], [], (q_mm L I J t), 0, 0) = rt (.int (q_it (q_orb fun p => q_runC I p && decide (I 85 p = -1)) i k b)) (q_mm L I J t) 0 0
  | 0, i, b, h => by
    rw [g_Waves_leftBits_4, hn, q_leN (by omega) (by omega), q_br (by omega)]
    rfl
  | k + 1, i, b, h => by
    rw [g_Waves_leftBits_4, hn, q_leN (by omega) (by omega), q_brn (by omega)]
    simp only [q_clamp (show i < 2 ^ 31 by omega), q_bnd (show i < 12 by omega) (by decide), true_and, s_runs hn h12, q_onI_i, g_Waves_leftBits_33, q_in_nI (show i < 2 ^ 31 by omega), decide_eq_true (show i < n by omega), Bool.true_and, q_n1, l_leftBits hn h12 k (i + 1) _ (show i + 1 + k = n by omega), q_bb0]
    rw [q_it_s]
    unfold q_orb q_runC
    by_cases h1 : I 85 i = -1
    · by_cases h2 : I (6 + i) 9 = 1 <;> simp [h1, h2]
    · simp [h1]
theorem s_leftBits {Q : Value → q_Mem → Prop} {n : Nat} (hn : I 3 2 = nI n) (h12 : n ≤ 12) : q_W (d + 3) 74 [.ref 84] (q_mm L I J t) Q = Q (.int (q_mk (fun p => q_runC I p && decide (I 85 p = -1)) n)) (q_mm L I J t) := by
  rw [e_Waves_leftBits, show (0 : Int32) = nI 0 by decide, l_leftBits hn h12 n 0 _ (by omega)]
  rfl
theorem l_lacks {rt : Value → q_Mem → Nat → Nat → Prop} {n p : Nat} {m : Nat → Bool} {x2 x3 : Int32} (hn : I 3 2 = nI n) (h12 : n ≤ 12) (hp : p < n) (hx : ∀ q, q < n → q_bt x3 q = (m q && q_oldC I q p)) : ∀ k i, i + k = 8 → q_X (q_W (d + 2)) rt 75 (14, [some (.ref 84), some (.int (nI p)), some (.int x2), some (.int x3), some (.int (nI i))], [], (q_mm L I J t), 0, 0) = rt (.int (q_bb (q_any (fun k => q_bt (I (6 + p) 2) k && !q_any (fun q => m q && q_oldC I q p && q_bt (I (6 + q) 3) k) 0 n) i k))) (q_mm L I J t) 0 0
  | 0, i, h => by
    rw [g_Waves_lacksOffer_14, show (8 : Int32) = nI 8 by decide, q_leN (by decide) (by omega), q_br (by omega)]
    simp only [q_onI_i, q_onJ_j, q_onS_s, q_onB_t, true_and, and_true, true_or, or_true, eq_self, true_implies, not_true_eq_false, not_false_eq_true, false_implies, q_bb0, q_bbok, q_bbok2, Bool.true_eq_false, Bool.false_eq_true, reduceCtorEq]
    rfl
  | k + 1, i, h => by
    have hp12 : p < 12 := by omega
    have e : ∀ k, q_mk (fun q => q_bt x3 q && q_bt (I (6 + q) 3) k) n = q_mk (fun q => m q && q_oldC I q p && q_bt (I (6 + q) 3) k) n := fun k => q_mk_congr fun q hq => by rw [hx q hq]
    rw [g_Waves_lacksOffer_14, show (8 : Int32) = nI 8 by decide, q_leN (by decide) (by omega), q_brn (by omega)]
    simp only [q_clamp (show p < 2 ^ 31 by omega), q_bnd hp12 (by decide), r_plug hp12, i_plug hp12, q_onI_i, q_onJ_j, q_onS_s, q_onB_t, true_and, and_true, true_or, or_true, eq_self, true_implies, not_true_eq_false, not_false_eq_true, false_implies, q_bb0, q_bbok, q_bbok2, Bool.true_eq_false, Bool.false_eq_true, reduceCtorEq, s_needs (i_plug hp12) (show i < 31 by omega), g_Waves_lacksOffer_35, s_offering hn h12 (show i < 31 by omega), g_Waves_lacksOffer_48, e, q_mk_any (show n ≤ 32 by omega), q_n1, l_lacks hn h12 hp hx k (i + 1) (show i + 1 + k = 8 by omega)]
    rw [q_any_s]
    cases h1 : q_bt (I (6 + p) 2) i
    · simp
    · cases h2 : q_any (fun q => m q && q_oldC I q p && q_bt (I (6 + q) 3) i) 0 n
      · simp [q_bb]
      · simp
theorem s_lacks {Q : Value → q_Mem → Prop} {n p : Nat} {m : Nat → Bool} {x2 : Int32} (hn : I 3 2 = nI n) (h12 : n ≤ 12) (hp : p < n) (hx : ∀ q, q < n → q_bt x2 q = m q) : q_W (d + 3) 75 [.ref 84, .int (nI p), .int x2] (q_mm L I J t) Q = Q (.int (q_bb (q_lackC I n m p))) (q_mm L I J t) := by
  rw [e_Waves_lacksOffer, s_olderThan hn h12 hp, q_onI_i, g_Waves_lacksOffer_9, show (0 : Int32) = nI 0 by decide, l_lacks hn h12 hp (m := m) (fun q hq => ?_) 8 0 (by decide)]
  · rfl
  · rw [q_bt_and, hx q hq, q_bt_mk (by omega) (by omega), decide_eq_true hq, Bool.true_and]
    rfl
/-- one wave of the class: who is taken, given who is left -/
def q_wtk (I : Nat → Nat → Int32) (n : Nat) (m : Nat → Bool) (p : Nat) : Bool := m p && q_lackC I n m p
def q_wset (f : Nat → Bool) (w : Int32) : Nat → (Nat → Int32) → Nat → Int32 := fun p W => match f p with
  | true => q_up W p w
  | false => W
def q_cnt (f : Nat → Bool) : Nat → Nat → Nat := fun p c => match f p with
  | true => c + 1
  | false => c
theorem q_lackC_ar {n : Nat} {m : Nat → Bool} {W : Nat → Int32} {p : Nat} (hp : p < 12) (h12 : n ≤ 12) : q_lackC (q_ar 85 I W) n m p = q_lackC I n m p := by
  unfold q_lackC
  rw [q_ar_ne (show 6 + p ≠ 85 by omega)]
  refine q_any_congr 8 0 fun k _ _ => ?_
  congr 2
  refine q_any_congr n 0 fun q _ hq => ?_
  unfold q_oldC
  rw [q_ar_ne (show 6 + q ≠ 85 by omega), q_ar_ne (show 6 + p ≠ 85 by omega)]
theorem l_addWave {rt : Value → q_Mem → Nat → Nat → Prop} {n : Nat} {m : Nat → Bool} {w x2 : Int32} (hn : I 3 2 = nI n) (h12 : n ≤ 12) (hx : ∀ q, q < n → q_bt x2 q = m q) : ∀ k i (c : Nat) (W : Nat → Int32), i + k = n → q_X (q_W (d + 3)) rt 73 (10, [some (.ref 84), some (.int w), some (.int x2), some (.int (nI c)), some (.int (nI i))], [], (q_mm L (q_ar 85 I W) J t), 0, 0) = rt (.int (nI (q_it (q_cnt (q_wtk I n m)) i k c))) (q_mm L (q_ar 85 I (q_it (q_wset (q_wtk I n m) w) i k W)) J t) 0 0
  | 0, i, c, W, h => by
    rw [g_Waves_addWave_10, q_ar_ne (by decide), hn, q_leN (by omega) (by omega), q_br (by omega)]
    rfl
  | k + 1, i, c, W, h => by
    have hi : i < n := by omega
    have hn' : q_ar 85 I W 3 2 = nI n := by rw [q_ar_ne (by decide)]; exact hn
    rw [g_Waves_addWave_10, hn', q_leN (by omega) (by omega), q_brn (by omega), q_shr0 (by omega), hx i hi, q_it_s, q_it_s]
    cases hm : m i with
    | false =>
      simp only [q_onI_i, q_onJ_j, q_onS_s, q_onB_t, true_and, and_true, true_or, or_true, eq_self, true_implies, not_true_eq_false, not_false_eq_true, false_implies, q_bb0, q_bbok, q_bbok2, Bool.true_eq_false, Bool.false_eq_true, reduceCtorEq, q_n1, l_addWave hn h12 hx k (i + 1) _ _ (show i + 1 + k = n by omega)]
      simp [q_cnt, q_wset, q_wtk, hm]
    | true =>
      simp only [q_onI_i, q_onJ_j, q_onS_s, q_onB_t, true_and, and_true, true_or, or_true, eq_self, true_implies, not_true_eq_false, not_false_eq_true, false_implies, q_bb0, q_bbok, q_bbok2, Bool.true_eq_false, Bool.false_eq_true, reduceCtorEq]
      rw [s_lacks hn' h12 hi hx, q_onI_i, g_Waves_addWave_38, q_lackC_ar (by omega) h12]
      simp only [q_clamp (show i < 2 ^ 31 by omega), q_bnd (show i < 12 by omega) (by decide), true_and, q_ar_u, q_n1, l_addWave hn h12 hx k (i + 1) _ _ (show i + 1 + k = n by omega), q_bb0]
      cases hl : q_lackC I n m i <;> simp [q_cnt, q_wset, q_wtk, hm, hl]
theorem s_addWave {Q : Value → q_Mem → Prop} {n : Nat} {w : Int32} {W : Nat → Int32} (hn : I 3 2 = nI n) (h12 : n ≤ 12) : q_W (d + 4) 73 [.ref 84, .int w] (q_mm L (q_ar 85 I W) J t) Q = Q (.int (nI (q_it (q_cnt (q_wtk I n (fun p => q_runC I p && decide (W p = -1)))) 0 n 0))) (q_mm L (q_ar 85 I (q_it (q_wset (q_wtk I n (fun p => q_runC I p && decide (W p = -1))) w) 0 n W)) J t) := by
  have hn' : q_ar 85 I W 3 2 = nI n := by rw [q_ar_ne (by decide)]; exact hn
  have hm : q_mk (fun p => q_runC (q_ar 85 I W) p && decide (q_ar 85 I W 85 p = -1)) n = q_mk (fun p => q_runC I p && decide (W p = -1)) n := q_mk_congr fun p hp => by
    unfold q_runC
    rw [q_ar_ne (show 6 + p ≠ 85 by omega), q_ar_eq]
  rw [e_Waves_addWave, s_leftBits hn' h12, q_onI_i, g_Waves_addWave_4, hm, show (0 : Int32) = nI 0 by decide, l_addWave hn h12 (m := fun p => q_runC I p && decide (W p = -1)) (fun q hq => ?_) n 0 0 W (by omega)]
  rw [q_bt_mk (by omega) (by omega), decide_eq_true hq, Bool.true_and]
end WAVES
