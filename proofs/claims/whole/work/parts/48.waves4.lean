/-! waves: spread and waves whole; wave -/
theorem q_ct_one {x : Nat} : ∀ (k i : Nat), q_it (q_cnt (fun p => decide (p = x))) i k 0 = if i ≤ x ∧ x < i + k then 1 else 0
  | 0, i => by
    rw [if_neg (by omega)]
    rfl
  | k + 1, i => by
    rw [q_it_s, q_cnt_add, q_ct_one k (i + 1)]
    unfold q_cnt
    dsimp only
    by_cases e : i = x
    · rw [decide_eq_true e, if_neg (by omega), if_pos (by omega)]
    · rw [decide_eq_false e]
      by_cases e2 : i + 1 ≤ x ∧ x < i + 1 + k
      · rw [if_pos e2, if_pos (by omega)]
      · rw [if_neg e2, if_neg (by omega)]
def q_w0 (V : Nat → Int32) (x : Nat) : Nat → Int32 := q_up (fun b => if b < 12 then -1 else V b) x 0
theorem q_w0_m1 {V : Nat → Int32} {x p : Nat} (hp : p < 12) : (q_w0 V x p = -1) = ¬ (p = x) := by
  unfold q_w0 q_up
  apply propext
  by_cases e : p = x
  · rw [if_pos e]
    exact ⟨fun z => absurd z (by decide), fun z => absurd e z⟩
  · rw [if_neg e]
    dsimp only
    rw [if_pos hp]
    exact ⟨fun _ => e, fun _ => rfl⟩
theorem q_w0_ct {V : Nat → Int32} {x n : Nat} (hx : x < n) (h12 : n ≤ 12) : q_ct (fun p => !decide (q_w0 V x p = -1)) n = 1 := by
  have h := q_ct_one (x := x) n 0
  rw [if_pos ⟨Nat.zero_le _, by omega⟩] at h
  unfold q_ct
  rw [← h]
  refine q_cnt_congr n 0 0 fun p _ hp => ?_
  have h2 := q_w0_m1 (V := V) (x := x) (show p < 12 by omega)
  by_cases e : p = x
  · rw [decide_eq_true e, decide_eq_false (by rw [h2]; exact fun z => z e)]
    rfl
  · rw [decide_eq_false e, decide_eq_true (by rw [h2]; exact e)]
    rfl
theorem q_w0_left {I : Nat → Nat → Int32} {V : Nat → Int32} {x n : Nat} (hx : x < n) (h12 : n ≤ 12) : q_ct (q_leftM I (q_w0 V x)) n < 12 := by
  have h := q_ct_one (x := x) n 0
  rw [if_pos ⟨Nat.zero_le _, by omega⟩] at h
  have hs := q_cnt_split (f := fun p => q_leftM I (q_w0 V x) p || decide (p = x)) (g := q_leftM I (q_w0 V x)) (h := fun p => decide (p = x)) n 0 (fun p _ hp => by
    refine ⟨rfl, ?_⟩
    have h2 := q_w0_m1 (V := V) (x := x) (show p < 12 by omega)
    unfold q_leftM
    by_cases e : p = x
    · rw [decide_eq_false (show ¬ q_w0 V x p = -1 by rw [h2]; exact fun z => z e), Bool.and_false, Bool.false_and]
    · rw [decide_eq_false e, Bool.and_false])
  have hle := q_cnt_le (f := fun p => q_leftM I (q_w0 V x) p || decide (p = x)) n 0
  unfold q_ct
  omega
theorem q_tkM_congr {I : Nat → Nat → Int32} {n p : Nat} {W W' : Nat → Int32} (h12 : n ≤ 12) (hp : p < 12) (h : ∀ q, q < 12 → W q = W' q) : q_tkM I n W p = q_tkM I n W' p := by
  have hl : ∀ q, q < 12 → q_leftM I W q = q_leftM I W' q := fun q hq => by
    unfold q_leftM
    rw [h q hq]
  unfold q_tkM
  rw [hl p hp]
  congr 1
  unfold q_lackM
  refine q_any_congr 8 0 fun k _ _ => ?_
  congr 2
  refine q_any_congr n 0 fun q _ hq => ?_
  unfold q_prM
  rw [hl q (by omega)]
theorem q_wrun_congr {I : Nat → Nat → Int32} {n : Nat} (h12 : n ≤ 12) : ∀ (f w : Nat) (W W' : Nat → Int32), (∀ q, q < 12 → W q = W' q) → ∀ q, q < 12 → q_wrun I n f w W q = q_wrun I n f w W' q
  | 0, _, _, _, h, q, hq => h q hq
  | f + 1, w, W, W', h, q, hq => by
    have ht : ∀ p, p < n → q_tkM I n W p = q_tkM I n W' p := fun p hp => q_tkM_congr h12 (by omega) h
    have ha : q_any (q_tkM I n W) 0 n = q_any (q_tkM I n W') 0 n := q_any_congr n 0 fun p _ hp => ht p (by omega)
    cases hb : q_any (q_tkM I n W) 0 n with
    | false =>
      rw [q_wrun_n hb, q_wrun_n (ha ▸ hb)]
      exact h q hq
    | true =>
      rw [q_wrun_y hb, q_wrun_y (ha ▸ hb)]
      refine q_wrun_congr h12 f (w + 1) _ _ (fun r hr => ?_) q hq
      rw [q_wset_get, q_wset_get, h r hr]
      by_cases e : r < n
      · rw [ht r e]
      · rw [if_neg (by omega), if_neg (by omega)]
/-- both take the same -/
theorem q_tk_eq {I : Nat → Nat → Int32} {n : Nat} (hv : ∀ p, p < n → v_plug q_bc I 6 131 p) (W : Nat → Int32) (p : Nat) (hp : p < n) : q_wtk I n (fun p => q_runC I p && decide (W p = -1)) p = q_tkM I n W p := by
  have hm : ∀ q, q < n → (q_runC I q && decide (W q = -1)) = q_leftM I W q := fun q hq => by
    unfold q_runC q_leftM q_runM
    rw [(hv q hq).1.2.2.2.2.2.2.1]
  unfold q_wtk q_tkM
  dsimp only
  rw [hm p hp]
  cases hl : q_leftM I W p with
  | false => rfl
  | true =>
    rw [Bool.true_and, Bool.true_and]
    have hrp : I 131 p = 1 := by
      unfold q_leftM q_runM at hl
      simp only [Bool.and_eq_true, decide_eq_true_eq] at hl
      exact hl.1
    unfold q_lackC q_lackM
    obtain ⟨bp, bpA, -⟩ := hv p hp
    rw [bp.2.2.1]
    refine q_any_congr 8 0 fun k _ _ => ?_
    congr 2
    refine q_any_congr n 0 fun q _ hq => ?_
    obtain ⟨bq, bqA, -⟩ := hv q (by omega)
    unfold q_prM
    dsimp only
    rw [hm q (by omega), bq.2.2.2.1]
    cases hlq : q_leftM I W q with
    | false => rfl
    | true =>
      have hrq : I 131 q = 1 := by
        unfold q_leftM q_runM at hlq
        simp only [Bool.and_eq_true, decide_eq_true_eq] at hlq
        exact hlq.1
      unfold q_oldC q_oldM
      rw [bq.2.2.2.2.2.2.1, bqA hrq, bpA hrp, decide_eq_true hrq]
      simp [Bool.and_comm]
section WAVES4
variable {L d : Nat} {I : Nat → Nat → Int32} {J : Nat → Nat → Int64} {t : Nat}
theorem l_fill85 {rt : Value → q_Mem → Nat → Nat → Prop} : ∀ k i (W : Nat → Int32), i + k = 12 → q_X (q_W d) rt 225 (5, [some (.ref 85), some (.int (-1)), some (.int (nI i)), some (.int (nI 12))], [], (q_mm L (q_ar 85 I W) J t), 0, 0) = rt .null (q_mm L (q_ar 85 I (fun b => if i ≤ b ∧ b < 12 then -1 else W b)) J t) 0 0
  | 0, i, W, h => by
    have e : (fun b => if i ≤ b ∧ b < 12 then -1 else W b) = W := funext fun b => if_neg (by omega)
    rw [g_Arrays_fill_2_5, q_leN (by decide) (by omega), q_br (by omega), e]
  | k + 1, i, W, h => by
    have ha : q_arr (q_SH L) 85 100 = some 12 := rfl
    have e : (fun b => if i + 1 ≤ b ∧ b < 12 then -1 else q_up W i (-1) b) = (fun b => if i ≤ b ∧ b < 12 then -1 else W b) := funext fun b => by
      unfold q_up
      by_cases h1 : b = i
      · rw [if_neg (by omega), if_pos h1, if_pos (by omega)]
      · by_cases h2 : i + 1 ≤ b ∧ b < 12
        · rw [if_pos h2, if_pos (by omega)]
        · rw [if_neg h2, if_neg h1, if_neg (by omega)]
    rw [g_Arrays_fill_2_5, q_leN (by decide) (by omega), q_brn (by omega), ha]
    simp only [q_onI_i, q_onJ_j, q_onS_s, q_onB_t, true_and, and_true, true_or, or_true, eq_self, true_implies, not_true_eq_false, not_false_eq_true, false_implies, q_bb0, q_bbok, q_bbok2, Bool.true_eq_false, Bool.false_eq_true, reduceCtorEq, q_clamp (show i < 2 ^ 31 by omega), q_bnd (show i < 12 by omega) (by decide), q_ar_u, q_n1, l_fill85 k (i + 1) _ (show i + 1 + k = 12 by omega), e]
theorem s_spread {Q : Value → q_Mem → Prop} {n x : Nat} (hn : I 3 2 = nI n) (h12 : n ≤ 12) (hv : ∀ p, p < n → v_plug q_bc I 6 131 p) (hx : x < n) (hr : I 131 x = 1) : q_W (d + 5) 72 [.ref 84, .int (nI x)] (q_mm L I J t) Q = Q (.int (nI (q_ct (fun p => !decide (q_wrun I n 12 1 (q_w0 (I 85) x) p = -1)) n))) (q_mm L (q_ar 85 I (q_wrun I n 12 1 (q_w0 (I 85) x))) J t) := by
  have hf := l_fill85 (L := L) (d := d + 3) (J := J) (t := t) (I := I) (rt := fun _ μ' _ _ => q_X (q_W (d + 4)) (fun v μ _ _ => Q v μ) 72 (8, [some (.ref 84), some (.int (nI x)), none, none, none], [], μ', 0, 0)) 12 0 (I 85) (by decide)
  rw [q_ar_self] at hf
  have e0 : (fun b => if 0 ≤ b ∧ b < 12 then (-1 : Int32) else I 85 b) = (fun b => if b < 12 then (-1 : Int32) else I 85 b) := funext fun b => by
    by_cases h : b < 12
    · rw [if_pos ⟨Nat.zero_le _, h⟩, if_pos h]
    · rw [if_neg (fun z => h z.2), if_neg h]
  rw [e_Waves_spread, e_Arrays_fill_2, show q_arl 225 (q_SH L) 85 = some 12 from rfl, q_onS_s, show (0 : Int32) = nI 0 by decide, show Int32.ofNat 12 = nI 12 from rfl, hf, e0, g_Waves_spread_8, s_runs (by rw [q_ar_ne (by decide)]; exact hn) h12, q_onI_i, g_Waves_spread_16, q_in_nI (by omega), decide_eq_true hx, q_clamp (by omega), q_ar_ne (show 6 + x ≠ 85 by omega), (hv x hx).1.2.2.2.2.2.2.1, hr]
  simp only [decide_true, Bool.and_true, q_onI_i, q_onJ_j, q_onS_s, q_onB_t, true_and, and_true, true_or, or_true, eq_self, true_implies, not_true_eq_false, not_false_eq_true, false_implies, q_bb0, q_bbok, q_bbok2, Bool.true_eq_false, Bool.false_eq_true, reduceCtorEq, q_clamp (show x < 2 ^ 31 by omega), q_bnd (show x < 12 by omega) (by decide), q_ar_u]
  have h := l_spread (L := L) (d := d) (I := I) (J := J) (t := t) (rt := fun v μ _ _ => Q v μ) (x := nI x) hn h12 (q_tk_eq hv) 12 1 0 (q_w0 (I 85) x) (q_w0_left hx h12) (by decide) (by decide)
  rw [q_w0_ct hx h12] at h
  exact h
theorem l_fill140 {rt : Value → q_Mem → Nat → Nat → Prop} {x : Nat} (hx : x < 12) : ∀ k i (W : Nat → Int32), i + k = 12 → q_X (q_W d) rt 185 (2, [some (.ref 130), some (.int (nI x)), some (.int (nI i)), none, none, none], [], (q_mm L (q_ar 140 I W) J t), 0, 0) = q_X (q_W d) rt 185 (32, [some (.ref 130), some (.int (nI x)), some (.int 1), some (.int 1), none, none], [], (q_mm L (q_ar 140 I (q_up (fun b => if i ≤ b ∧ b < 12 then -1 else W b) x 0)) J t), 0, 0)
  | 0, i, W, h => by
    have e : (fun b => if i ≤ b ∧ b < 12 then -1 else W b) = W := funext fun b => if_neg (by omega)
    rw [g_M_waves_2, show (12 : Int32) = nI 12 by decide, q_leN (by decide) (by omega), q_br (by omega), e]
    simp only [q_clamp (show x < 2 ^ 31 by omega), q_bnd hx (by decide), true_and, q_ar_u]
  | k + 1, i, W, h => by
    have e : (fun b => if i + 1 ≤ b ∧ b < 12 then -1 else q_up W i (-1) b) = (fun b => if i ≤ b ∧ b < 12 then -1 else W b) := funext fun b => by
      unfold q_up
      by_cases h1 : b = i
      · rw [if_neg (by omega), if_pos h1, if_pos (by omega)]
      · by_cases h2 : i + 1 ≤ b ∧ b < 12
        · rw [if_pos h2, if_pos (by omega)]
        · rw [if_neg h2, if_neg h1, if_neg (by omega)]
    rw [g_M_waves_2, show (12 : Int32) = nI 12 by decide, q_leN (by decide) (by omega), q_brn (by omega)]
    simp only [q_clamp (show i < 2 ^ 31 by omega), q_bnd (show i < 12 by omega) (by decide), true_and, q_ar_u, q_n1, l_fill140 hx k (i + 1) _ (show i + 1 + k = 12 by omega), e]
theorem s_waves {Q : Value → q_Mem → Prop} {n x : Nat} (hn : I 130 0 = nI n) (h12 : n ≤ 12) (hx : x < n) : q_W (d + 4) 185 [.ref 130, .int (nI x)] (q_mm L I J t) Q = Q .null (q_mm L (q_ar 140 I (q_wrun I n 12 1 (q_w0 (I 140) x))) J t) := by
  have hf := l_fill140 (L := L) (d := d + 3) (J := J) (t := t) (I := I) (rt := fun v μ _ _ => Q v μ) (show x < 12 by omega) 12 0 (I 140) (by decide)
  have e0 : (fun b => if 0 ≤ b ∧ b < 12 then (-1 : Int32) else I 140 b) = (fun b => if b < 12 then (-1 : Int32) else I 140 b) := funext fun b => by
    by_cases h : b < 12
    · rw [if_pos ⟨Nat.zero_le _, h⟩, if_pos h]
    · rw [if_neg (fun z => h z.2), if_neg h]
  rw [q_ar_self, e0] at hf
  rw [e_M_waves, show (0 : Int32) = nI 0 by decide, hf]
  exact l_waves hn h12 12 1 (q_w0 (I 140) x) none none (q_w0_left hx h12) (by decide)
end WAVES4
