/-! waves: both run alike -/
def q_ct (f : Nat → Bool) (n : Nat) : Nat := q_it (q_cnt f) 0 n 0
theorem q_cnt_add {f : Nat → Bool} : ∀ (k i c : Nat), q_it (q_cnt f) i k c = c + q_it (q_cnt f) i k 0
  | 0, _, _ => rfl
  | k + 1, i, c => by
    rw [q_it_s, q_it_s, q_cnt_add k (i + 1) (q_cnt f i c), q_cnt_add k (i + 1) (q_cnt f i 0)]
    unfold q_cnt
    cases f i <;> simp <;> omega
theorem q_cnt_le {f : Nat → Bool} : ∀ (k i : Nat), q_it (q_cnt f) i k 0 ≤ k
  | 0, _ => Nat.le_refl _
  | k + 1, i => by
    rw [q_it_s, q_cnt_add]
    have := q_cnt_le (f := f) k (i + 1)
    have h : q_cnt f i 0 ≤ 1 := by
      unfold q_cnt
      cases f i <;> decide
    omega
/-- disjoint parts -/
theorem q_cnt_split {f g h : Nat → Bool} : ∀ (k i : Nat), (∀ p, i ≤ p → p < i + k → f p = (g p || h p) ∧ (g p && h p) = false) → q_it (q_cnt f) i k 0 = q_it (q_cnt g) i k 0 + q_it (q_cnt h) i k 0
  | 0, _, _ => rfl
  | k + 1, i, hh => by
    have h1 := hh i (Nat.le_refl _) (by omega)
    have h2 := q_cnt_split k (i + 1) (fun p a b => hh p (by omega) (by omega))
    rw [q_it_s, q_it_s, q_it_s, q_cnt_add k, q_cnt_add (f := g) k, q_cnt_add (f := h) k, h2]
    have h3 : q_cnt f i 0 = q_cnt g i 0 + q_cnt h i 0 := by
      unfold q_cnt
      rw [h1.1]
      revert h1
      cases g i <;> cases h i <;> simp
    omega
theorem q_cnt_0 {f : Nat → Bool} : ∀ (k i : Nat), (q_it (q_cnt f) i k 0 = 0) = (q_any f i k = false)
  | 0, _ => by simp [q_it, q_any]
  | k + 1, i => by
    rw [q_it_s, q_cnt_add, q_any_s, Bool.or_eq_false_iff, ← q_cnt_0 k (i + 1)]
    unfold q_cnt
    cases f i <;> simp
theorem q_cnt_congr {f g : Nat → Bool} (k i c : Nat) (h : ∀ p, i ≤ p → p < i + k → f p = g p) : q_it (q_cnt f) i k c = q_it (q_cnt g) i k c := q_it_congr k i c fun p a h1 h2 => by
  unfold q_cnt
  rw [h p h1 h2]
theorem q_wset_get {f : Nat → Bool} {w : Int32} : ∀ (k i : Nat) (W : Nat → Int32) (p : Nat), q_it (q_wset f w) i k W p = if i ≤ p ∧ p < i + k ∧ f p = true then w else W p
  | 0, i, W, p => by
    rw [if_neg (by omega)]
    rfl
  | k + 1, i, W, p => by
    rw [q_it_s, q_wset_get k (i + 1)]
    unfold q_wset
    by_cases h1 : i + 1 ≤ p ∧ p < i + 1 + k ∧ f p = true
    · rw [if_pos h1, if_pos ⟨by omega, by omega, h1.2.2⟩]
    · rw [if_neg h1]
      cases hf : f i with
      | false =>
        by_cases h2 : i ≤ p ∧ p < i + (k + 1) ∧ f p = true
        · by_cases e : p = i
          · rw [e, hf] at h2
            exact absurd h2.2.2 (by decide)
          · exact absurd ⟨by omega, by omega, h2.2.2⟩ h1
        · rw [if_neg h2]
      | true =>
        dsimp only
        unfold q_up
        by_cases e : p = i
        · rw [if_pos e, if_pos ⟨by omega, by omega, by rw [e]; exact hf⟩]
        · rw [if_neg e, if_neg (fun z => h1 ⟨by omega, by omega, z.2.2⟩)]
theorem q_wset_none {f : Nat → Bool} {w : Int32} {n : Nat} {W : Nat → Int32} (h : q_any f 0 n = false) : q_it (q_wset f w) 0 n W = W := by
  rw [q_any_false] at h
  funext p
  rw [q_wset_get, if_neg]
  intro z
  rw [h p z.1 z.2.1] at z
  exact absurd z.2.2 (by decide)
theorem q_wset_congr {f g : Nat → Bool} {w : Int32} {n : Nat} {W : Nat → Int32} (h : ∀ p, p < n → f p = g p) : q_it (q_wset f w) 0 n W = q_it (q_wset g w) 0 n W := q_it_congr n 0 W fun p a _ hp => by
  unfold q_wset
  rw [h p (by omega)]
/-- all the waves -/
def q_wrun (I : Nat → Nat → Int32) (n : Nat) : Nat → Nat → (Nat → Int32) → Nat → Int32
  | 0, _, W => W
  | f + 1, w, W => match q_any (q_tkM I n W) 0 n with
    | true => q_wrun I n f (w + 1) (q_it (q_wset (q_tkM I n W) (nI w)) 0 n W)
    | false => W
theorem q_wrun_y {I : Nat → Nat → Int32} {n f w : Nat} {W : Nat → Int32} (h : q_any (q_tkM I n W) 0 n = true) : q_wrun I n (f + 1) w W = q_wrun I n f (w + 1) (q_it (q_wset (q_tkM I n W) (nI w)) 0 n W) := by
  unfold q_wrun
  rw [h]
  cases f <;> rfl
theorem q_wrun_n {I : Nat → Nat → Int32} {n f w : Nat} {W : Nat → Int32} (h : q_any (q_tkM I n W) 0 n = false) : q_wrun I n (f + 1) w W = W := by
  unfold q_wrun
  rw [h]
theorem q_nIm1 {w : Nat} (hw : w < 2 ^ 31) : ¬ nI w = -1 := by
  rw [q_nI_m1 hw]
  exact fun z => z
theorem q_left_step {I : Nat → Nat → Int32} {n w : Nat} {W : Nat → Int32} (hw : w < 2 ^ 31) : q_ct (q_leftM I W) n = q_ct (q_leftM I (q_it (q_wset (q_tkM I n W) (nI w)) 0 n W)) n + q_ct (q_tkM I n W) n := by
  refine q_cnt_split n 0 fun p _ hp => ?_
  unfold q_leftM
  rw [q_wset_get]
  cases ht : q_tkM I n W p with
  | false =>
    rw [if_neg (fun z => absurd z.2.2 (by decide))]
    simp
  | true =>
    have h1 : q_leftM I W p = true := by
      unfold q_tkM at ht
      rw [Bool.and_eq_true] at ht
      exact ht.1
    unfold q_leftM at h1
    rw [if_pos ⟨Nat.zero_le _, hp, rfl⟩, h1, decide_eq_false (q_nIm1 hw)]
    simp
theorem q_tkM_ar {I : Nat → Nat → Int32} {W W' : Nat → Int32} {n o : Nat} (ho : 131 ≠ o) : q_tkM (q_ar o I W') n W = q_tkM I n W := by
  funext p
  have h : q_ar o I W' 131 = I 131 := q_ar_ne ho
  unfold q_tkM q_lackM q_leftM q_runM q_prM q_oldM
  rw [h]
section WAVES3
variable {L d : Nat} {I : Nat → Nat → Int32} {J : Nat → Nat → Int64} {t : Nat}
theorem l_waves {rt : Value → q_Mem → Nat → Nat → Prop} {n : Nat} {x : Int32} (hn : I 130 0 = nI n) (h12 : n ≤ 12) : ∀ (f w : Nat) (W : Nat → Int32) (w4 w5 : Option Value), q_ct (q_leftM I W) n < f → w + f < 100 → q_X (q_W (d + 3)) rt 185 (32, [some (.ref 130), some (.int x), some (.int 1), some (.int (nI w)), w4, w5], [], (q_mm L (q_ar 140 I W) J t), 0, 0) = rt .null (q_mm L (q_ar 140 I (q_wrun I n f w W)) J t) 0 0
  | 0, w, W, w4, w5, h, _ => absurd h (by omega)
  | f + 1, w, W, w4, w5, h, hw => by
    have hn' : q_ar 140 I W 130 0 = nI n := by rw [q_ar_ne (by decide)]; exact hn
    have h140 : q_ar 140 I W 140 = W := funext fun b => q_ar_eq
    have hb := l_wbits (L := L) (d := d) (J := J) (t := t) (rt := rt) (x := x) (w := nI w) (x2 := 1) hn' h12 n 0 0 (by omega)
    rw [h140, q_tkM_ar (by decide), show nI 0 = (0 : Int32) by decide] at hb
    have hs := l_wset (L := L) (d := d + 3) (J := J) (t := t) (rt := rt) (x := x) (w := nI w) (x2 := 1) (b := q_mk (q_tkM I n W) n) hn h12 n 0 W (by omega)
    rw [show nI 0 = (0 : Int32) by decide, q_wset_congr (g := q_tkM I n W) (fun p hp => by rw [q_bt_mk (by omega) (by omega), decide_eq_true hp, Bool.true_and])] at hs
    rw [g_M_waves_32, q_brn (by decide), hb]
    refine Eq.trans hs ?_
    cases ha : q_any (q_tkM I n W) 0 n with
    | false =>
      rw [if_pos (by rw [q_mk_any (by omega)]; exact ha), q_wrun_n ha, q_wset_none ha, g_M_waves_32, q_br rfl]
    | true =>
      have hst := q_left_step (I := I) (n := n) (w := w) (W := W) (by omega)
      have hpos : ¬ q_ct (q_tkM I n W) n = 0 := fun z => by
        have : q_any (q_tkM I n W) 0 n = false := by
          rw [← q_cnt_0]
          exact z
        rw [ha] at this
        exact absurd this (by decide)
      rw [if_neg (by rw [q_mk_any (by omega), ha]; decide), q_wrun_y ha, q_n1]
      exact l_waves hn h12 f (w + 1) _ _ _ (by omega) (by omega)
/-- the class's, where it takes the same -/
theorem l_spread {rt : Value → q_Mem → Nat → Nat → Prop} {n : Nat} {x : Int32} (hn : I 3 2 = nI n) (h12 : n ≤ 12) (heq : ∀ (W : Nat → Int32) p, p < n → q_wtk I n (fun p => q_runC I p && decide (W p = -1)) p = q_tkM I n W p) : ∀ (f w l : Nat) (W : Nat → Int32), q_ct (q_leftM I W) n < f → f + w = 13 → l < 100 → q_X (q_W (d + 4)) rt 72 (35, [some (.ref 84), some (.int x), some (.int (nI (q_ct (fun p => !decide (W p = -1)) n))), some (.int (nI (l + 1))), some (.int (nI w))], [], (q_mm L (q_ar 85 I W) J t), 0, 0) = rt (.int (nI (q_ct (fun p => !decide (q_wrun I n f w W p = -1)) n))) (q_mm L (q_ar 85 I (q_wrun I n f w W)) J t) 0 0
  | 0, w, l, W, h, _, _ => absurd h (by omega)
  | f + 1, w, l, W, h, hw, hl => by
    have hcl : ∀ g : Nat → Bool, q_ct g n ≤ 12 := fun g => Nat.le_trans (q_cnt_le n 0) h12
    rw [g_Waves_spread_35, show (12 : Int32) = nI 12 by decide, q_ltN (by decide) (by omega), q_brn (by omega), q_le0 (by omega), q_brn (by omega), s_addWave hn h12, q_onI_i, g_Waves_spread_52, q_cnt_congr n 0 0 (fun p _ hp => heq W p (by omega)), q_wset_congr (fun p hp => heq W p hp), q_n1, q_add]
    have hst := q_left_step (I := I) (n := n) (w := w) (W := W) (by omega)
    have hsum : q_ct (fun p => !decide (W p = -1)) n + q_it (q_cnt (q_tkM I n W)) 0 n 0 = q_ct (fun p => !decide (q_it (q_wset (q_tkM I n W) (nI w)) 0 n W p = -1)) n := by
      refine (q_cnt_split n 0 fun p _ hp => ?_).symm
      rw [q_wset_get]
      cases ht : q_tkM I n W p with
      | false =>
        rw [if_neg (fun z => absurd z.2.2 (by decide))]
        simp
      | true =>
        have h1 : W p = -1 := by
          unfold q_tkM q_leftM at ht
          simp only [Bool.and_eq_true, decide_eq_true_eq] at ht
          exact ht.1.2
        rw [if_pos ⟨Nat.zero_le _, by omega, rfl⟩, decide_eq_false (q_nIm1 (by omega)), decide_eq_true h1]
        decide
    rw [hsum]
    cases ha : q_any (q_tkM I n W) 0 n with
    | false =>
      have h0 : q_it (q_cnt (q_tkM I n W)) 0 n 0 = 0 := by
        rw [q_cnt_0]
        exact ha
      rw [q_wrun_n ha, q_wset_none ha, h0, g_Waves_spread_35, show (12 : Int32) = nI 12 by decide, q_ltN (by decide) (by omega), q_le0 (by decide), q_br rfl]
      by_cases e : 12 < w + 1 <;> simp [e]
    | true =>
      have hpos : ¬ q_it (q_cnt (q_tkM I n W)) 0 n 0 = 0 := fun z => by
        rw [q_cnt_0, ha] at z
        exact absurd z (by decide)
      obtain ⟨l', hl'⟩ : ∃ l', q_it (q_cnt (q_tkM I n W)) 0 n 0 = l' + 1 := ⟨_, (Nat.succ_pred_eq_of_pos (Nat.pos_of_ne_zero hpos)).symm⟩
      have h12' := hcl (q_tkM I n W)
      unfold q_ct at h12'
      rw [hl', q_wrun_y ha]
      refine l_spread hn h12 heq f (w + 1) l' _ ?_ (by omega) (by omega)
      unfold q_ct at hst h ⊢
      omega
end WAVES3
