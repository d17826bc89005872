/-! the moving part, as the model's array T tells it: both sides hold it; what a stop makes of it -/
theorem q_yng_congr {g g' : Nat → Int32} {n : Nat} {W W' S S' : Nat → Int32} (hS : ∀ p, p < n → S p = S' p) (hW : ∀ p, p < n → W p = W' p) (hg : ∀ p, p < n → S p = 1 → g p = g' p) : q_yng g n W S = q_yng g' n W' S' := by
  unfold q_yng
  have h1 : ∀ q, q_can W S q = true → S q = 1 := fun q h => by
    unfold q_can at h
    simp only [Bool.and_eq_true, decide_eq_true_eq] at h
    exact h.1
  refine q_pick_congr (n := n) (fun q hq => ?_) (fun q b hq hb h2 h3 => ?_) n 0 none (by omega) (fun b e => by injection e) (fun b e => by injection e)
  · unfold q_can
    rw [hS q hq, hW q hq]
  · rw [hg q hq (h1 q h2), hg b hb (h1 b h3)]
theorem q_sl_n {g : Nat → Int32} {n f k : Nat} {W S R : Nat → Int32} (h : q_yng g n W S = none) : q_sl g n W (f + 1) (S, k, R) = (S, k, R) := by
  conv => lhs; unfold q_sl
  rw [show (S, k, R).1 = S from rfl, h]
theorem q_sl_congr {g g' : Nat → Int32} {n : Nat} {W W' : Nat → Int32} (hW : ∀ p, p < n → W p = W' p) : ∀ (f k : Nat) (S S' R R' : Nat → Int32), (∀ p, p < n → S p = S' p) → (∀ p, p < n → S p = 1 → g p = g' p) → (∀ i, i < 40 → R i = R' i) → (∀ p, p < n → (q_sl g n W f (S, k, R)).1 p = (q_sl g' n W' f (S', k, R')).1 p) ∧ (q_sl g n W f (S, k, R)).2.1 = (q_sl g' n W' f (S', k, R')).2.1 ∧ ∀ i, i < 40 → (q_sl g n W f (S, k, R)).2.2 i = (q_sl g' n W' f (S', k, R')).2.2 i
  | 0, k, S, S', R, R', hS, hg, hR => ⟨hS, rfl, hR⟩
  | f + 1, k, S, S', R, R', hS, hg, hR => by
    have he := q_yng_congr hS hW hg
    cases hy : q_yng g n W S with
    | none =>
      rw [q_sl_n hy, q_sl_n (he ▸ hy)]
      exact ⟨hS, rfl, hR⟩
    | some y =>
      rw [q_sl_y hy, q_sl_y (he ▸ hy)]
      refine q_sl_congr hW f (k + 1) _ _ _ _ (fun p hp => ?_) (fun p hp h1 => ?_) (fun i hi => ?_)
      · unfold q_up
        rw [hS p hp]
      · unfold q_up at h1
        by_cases e : p = y
        · rw [if_pos e] at h1
          exact absurd h1 (by decide)
        · rw [if_neg e] at h1
          exact hg p hp h1
      · unfold q_up
        rw [hR i hi]
theorem q_sl_st {g : Nat → Int32} {n : Nat} {W : Nat → Int32} : ∀ (f k : Nat) (S R : Nat → Int32) (b : Nat), (q_sl g n W f (S, k, R)).1 b = S b ∨ (b < n ∧ (q_sl g n W f (S, k, R)).1 b = 0)
  | 0, _, _, _, _ => Or.inl rfl
  | f + 1, k, S, R, b => by
    cases hy : q_yng g n W S with
    | none => rw [q_sl_n hy]; exact Or.inl rfl
    | some y =>
      have hyn : y < n := by
        unfold q_yng at hy
        exact q_pick_it_lt n 0 none (by omega) (fun b e => by injection e) y hy
      rw [q_sl_y hy]
      rcases q_sl_st f (k + 1) (q_up S y 0) (q_up R (k % 40) (nI (200 + y))) b with h | h
      · rw [h]
        unfold q_up
        by_cases e : b = y
        · rw [if_pos e]
          exact Or.inr ⟨by omega, rfl⟩
        · rw [if_neg e]
          exact Or.inl rfl
      · exact Or.inr h
theorem q_sl_k {g : Nat → Int32} {n : Nat} {W : Nat → Int32} : ∀ (f k : Nat) (S R : Nat → Int32), (q_sl g n W f (S, k, R)).2.1 ≤ k + f
  | 0, _, _, _ => Nat.le_refl _
  | f + 1, k, S, R => by
    cases hy : q_yng g n W S with
    | none => rw [q_sl_n hy]; exact Nat.le_add_right _ _
    | some y =>
      rw [q_sl_y hy]
      have := q_sl_k (g := g) (n := n) (W := W) f (k + 1) (q_up S y 0) (q_up R (k % 40) (nI (200 + y)))
      omega
def q_tm (T : Nat → Int32) : Nat → Nat → Int32 := fun _ => T
theorem q_tkM_131 {I M : Nat → Nat → Int32} {n : Nat} {W : Nat → Int32} (h : I 131 = M 131) : q_tkM I n W = q_tkM M n W := by
  funext p
  unfold q_tkM q_lackM q_leftM q_runM q_prM q_oldM
  rw [h]
theorem q_wrun_131 {I M : Nat → Nat → Int32} {n : Nat} (h : I 131 = M 131) : ∀ (f w : Nat) (W : Nat → Int32), q_wrun I n f w W = q_wrun M n f w W
  | 0, _, _ => rfl
  | f + 1, w, W => by
    have ht := q_tkM_131 (n := n) (W := W) h
    cases hb : q_any (q_tkM I n W) 0 n with
    | false => rw [q_wrun_n hb, q_wrun_n (ht ▸ hb)]
    | true => rw [q_wrun_y hb, q_wrun_y (ht ▸ hb), ht, q_wrun_131 h f (w + 1)]
theorem q_tk_eqT {I : Nat → Nat → Int32} {T : Nat → Int32} {n : Nat} (h12 : n ≤ 12) (hv : ∀ p, p < n → v_plug q_bc (q_ar 131 I T) 6 131 p) (W : Nat → Int32) (p : Nat) (hp : p < n) : q_wtk I n (fun p => q_runC I p && decide (W p = -1)) p = q_tkM (q_tm T) n W p := by
  have hq : ∀ q, q < 12 → q_ar 131 I T (6 + q) = I (6 + q) := fun q hq => q_ar_ne (by omega)
  have e1 : q_tkM (q_ar 131 I T) n W = q_tkM (q_tm T) n W := q_tkM_131 (funext fun b => q_ar_eq)
  rw [← e1, ← q_tk_eq hv W p hp]
  have hm : ∀ q, q < 12 → (q_runC I q && decide (W q = -1)) = (q_runC (q_ar 131 I T) q && decide (W q = -1)) := fun q h => by
    unfold q_runC
    rw [hq q h]
  unfold q_wtk
  dsimp only
  rw [hm p (by omega)]
  congr 1
  unfold q_lackC
  rw [hq p (by omega)]
  refine q_any_congr 8 0 fun k _ _ => ?_
  congr 2
  refine q_any_congr n 0 fun q _ hqn => ?_
  unfold q_oldC
  dsimp only
  rw [hm q (by omega), hq q (by omega), hq p (by omega)]
/-- what the class holds, what the model holds -/
def q_rc (I : Nat → Nat → Int32) (n : Nat) (T R : Nat → Int32) (ck sd : Int32) (k : Nat) : Prop := I 3 2 = nI n ∧ (∀ p, p < n → v_plug q_bc (q_ar 131 I T) 6 131 p) ∧ I 3 4 = ck ∧ I 3 5 = sd ∧ I 110 1 = nI k ∧ ∀ i, i < 40 → I 111 i = R i
def q_rmm (I : Nat → Nat → Int32) (n : Nat) (T R : Nat → Int32) (ck sd : Int32) (k : Nat) : Prop := I 130 0 = nI n ∧ I 131 = T ∧ I 130 2 = ck ∧ I 130 3 = sd ∧ I 130 20 = nI k ∧ (∀ i, i < 40 → I 139 i = R i) ∧ I 130 19 = 0
def q_fc (I I' : Nat → Nat → Int32) : Prop := (∀ o, (o < 6 ∨ 18 ≤ o) → o ≠ 3 → o ≠ 110 → o ≠ 111 → o ≠ 81 → o ≠ 82 → o ≠ 83 → o ≠ 85 → I' o = I o) ∧ I' 3 3 = I 3 3
def q_fm (I I' : Nat → Nat → Int32) : Prop := (∀ o, o ≠ 130 → o ≠ 131 → o ≠ 137 → o ≠ 138 → o ≠ 139 → o ≠ 140 → o ≠ 147 → I' o = I o) ∧ I' 130 4 = I 130 4 ∧ I' 130 9 = I 130 9 ∧ I' 130 12 = I 130 12 ∧ I' 130 30 = I 130 30 ∧ I' 130 32 = I 130 32 ∧ I' 130 34 = I 130 34
theorem q_fc_refl {I : Nat → Nat → Int32} : q_fc I I := ⟨fun _ _ _ _ _ _ _ _ _ => rfl, rfl⟩
theorem q_fc_trans {I I1 I2 : Nat → Nat → Int32} (h1 : q_fc I I1) (h2 : q_fc I1 I2) : q_fc I I2 := ⟨fun o a b c d e f g h => (h2.1 o a b c d e f g h).trans (h1.1 o a b c d e f g h), h2.2.trans h1.2⟩
theorem q_fm_refl {I : Nat → Nat → Int32} : q_fm I I := ⟨fun _ _ _ _ _ _ _ _ => rfl, rfl, rfl, rfl, rfl, rfl, rfl⟩
theorem q_fm_trans {I I1 I2 : Nat → Nat → Int32} (h1 : q_fm I I1) (h2 : q_fm I1 I2) : q_fm I I2 := by
  obtain ⟨a, b, c, d, e, f, g⟩ := h1
  obtain ⟨a2, b2, c2, d2, e2, f2, g2⟩ := h2
  exact ⟨fun o x1 x2 x3 x4 x5 x6 x7 => (a2 o x1 x2 x3 x4 x5 x6 x7).trans (a o x1 x2 x3 x4 x5 x6 x7), b2.trans b, c2.trans c, d2.trans d, e2.trans e, f2.trans f, g2.trans g⟩
theorem q_rc_congr {I I' : Nat → Nat → Int32} {n k : Nat} {T R : Nat → Int32} {ck sd : Int32} (h12 : n ≤ 12) (ho : ∀ o, o < 130 → o ≠ 81 → o ≠ 82 → o ≠ 83 → o ≠ 85 → o ≠ 1 → o ≠ 112 → o ≠ 113 → I' o = I o) (h : q_rc I n T R ck sd k) : q_rc I' n T R ck sd k := by
  obtain ⟨a, b, c, d, e, f⟩ := h
  have e3 : I' 3 = I 3 := ho 3 (by decide) (by decide) (by decide) (by decide) (by decide) (by decide) (by decide) (by decide)
  have e110 : I' 110 = I 110 := ho 110 (by decide) (by decide) (by decide) (by decide) (by decide) (by decide) (by decide) (by decide)
  have e111 : I' 111 = I 111 := ho 111 (by decide) (by decide) (by decide) (by decide) (by decide) (by decide) (by decide) (by decide)
  refine ⟨by rw [e3]; exact a, fun p hp => v_plug_congr ?_ ?_ (b p hp), by rw [e3]; exact c, by rw [e3]; exact d, by rw [e110]; exact e, fun i hi => by rw [e111]; exact f i hi⟩
  · rw [q_ar_ne (by omega), q_ar_ne (by omega)]
    exact ho _ (by omega) (by omega) (by omega) (by omega) (by omega) (by omega) (by omega) (by omega)
  · funext z
    rw [q_ar_eq, q_ar_eq]
theorem v_plug_st {I I' : Nat → Nat → Int32} {T T' : Nat → Int32} {p : Nat} (hp : p < 12) (h9 : I' (6 + p) 9 = T' p) (hk : ∀ k, k ≠ 9 → I' (6 + p) k = I (6 + p) k) (hT : ∀ j, 0 < j → j < 9 → T' (12 * j + p) = T (12 * j + p)) (hs : T' p = T p ∨ (T' p ≠ 1 ∧ q_rng (T' p) 0 3)) (h : v_plug q_bc (q_ar 131 I T) 6 131 p) : v_plug q_bc (q_ar 131 I' T') 6 131 p := by
  have z1 : q_ar 131 I' T' (6 + p) = I' (6 + p) := q_ar_ne (by omega)
  have z2 : q_ar 131 I T (6 + p) = I (6 + p) := q_ar_ne (by omega)
  unfold v_plug at h ⊢
  rw [z1]
  rw [z2] at h
  simp only [q_ar_eq] at h ⊢
  rw [h9, hk 0 (by decide), hk 1 (by decide), hk 2 (by decide), hk 3 (by decide), hk 4 (by decide), hk 5 (by decide), hk 6 (by decide), hk 7 (by decide), hk 8 (by decide), hk 10 (by decide), show T' (12 + p) = T (12 + p) from hT 1 (by decide) (by decide), show T' (24 + p) = T (24 + p) from hT 2 (by decide) (by decide), show T' (36 + p) = T (36 + p) from hT 3 (by decide) (by decide), show T' (48 + p) = T (48 + p) from hT 4 (by decide) (by decide), show T' (60 + p) = T (60 + p) from hT 5 (by decide) (by decide), show T' (72 + p) = T (72 + p) from hT 6 (by decide) (by decide), show T' (84 + p) = T (84 + p) from hT 7 (by decide) (by decide), show T' (96 + p) = T (96 + p) from hT 8 (by decide) (by decide)]
  obtain ⟨⟨a1, a2, a3, a4, a5, a6, a7, a8⟩, b, c, d, e1, e2, e3, e4, e5, e6, e7⟩ := h
  refine ⟨⟨a1, a2, a3, a4, a5, a6, rfl, a8⟩, fun z => ?_, c, d, e1, e2, e3, e4, e5, e6, ?_⟩
  · rcases hs with hs | hs
    · exact b (hs ▸ z)
    · exact absurd z hs.1
  · rcases hs with hs | hs
    · rw [hs]; exact e7
    · exact hs.2
/-- the whole of a stop -/
def q_wv (n : Nat) (T : Nat → Int32) (x : Nat) : Nat → Int32 := q_wrun (q_tm T) n 12 1 (q_w0 (fun _ => -1) x)
def q_stn (n : Nat) (T : Nat → Int32) (x : Nat) : Nat := q_ct (q_can (q_wv n T x) T) n
def q_stp (n : Nat) (T R : Nat → Int32) (k x : Nat) : (Nat → Int32) × Nat × (Nat → Int32) := q_sl (fun q => T (84 + q)) n (q_wv n T x) (q_stn n T x) (T, k, R)
theorem q_wv_eq {V T : Nat → Int32} {n x : Nat} (h12 : n ≤ 12) (p : Nat) (hp : p < 12) : q_wrun (q_tm T) n 12 1 (q_w0 V x) p = q_wv n T x p := q_wrun_congr h12 12 1 _ _ (fun r hr => by
  unfold q_w0 q_up
  by_cases e : r = x
  · rw [if_pos e, if_pos e]
  · rw [if_neg e, if_neg e]
    dsimp only
    rw [if_pos hr, if_pos hr]) p hp
theorem q_stn_le {T : Nat → Int32} {n x : Nat} : q_stn n T x ≤ n := q_cnt_le n 0
theorem q_stp_k {T R : Nat → Int32} {n k x : Nat} : (q_stp n T R k x).2.1 ≤ k + n := Nat.le_trans (q_sl_k _ _ _ _) (Nat.add_le_add_left q_stn_le k)
theorem q_cm_R {I : Nat → Nat → Int32} {S : Nat → Int32} {k : Nat} {R : Nat → Int32} {i : Nat} : q_cm I S k R 111 i = R i := by
  unfold q_cm
  rw [if_neg (by omega), if_pos rfl]
section DYN1
variable {L d : Nat} {I : Nat → Nat → Int32} {J : Nat → Nat → Int64} {t : Nat}
theorem l_spreadT {rt : Value → q_Mem → Nat → Nat → Prop} {n : Nat} {x : Int32} {M : Nat → Nat → Int32} (hn : I 3 2 = nI n) (h12 : n ≤ 12) (heq : ∀ (W : Nat → Int32) p, p < n → q_wtk I n (fun p => q_runC I p && decide (W p = -1)) p = q_tkM M n W p) : ∀ (f w l : Nat) (W : Nat → Int32), q_ct (q_leftM M W) n < f → f + w = 13 → l < 100 → q_X (q_W (d + 4)) rt 72 (35, [some (.ref 84), some (.int x), some (.int (nI (q_ct (fun p => !decide (W p = -1)) n))), some (.int (nI (l + 1))), some (.int (nI w))], [], (q_mm L (q_ar 85 I W) J t), 0, 0) = rt (.int (nI (q_ct (fun p => !decide (q_wrun M n f w W p = -1)) n))) (q_mm L (q_ar 85 I (q_wrun M n f w W)) J t) 0 0
  | 0, w, l, W, h, _, _ => absurd h (by omega)
  | f + 1, w, l, W, h, hw, hl => by
    have hcl : ∀ g : Nat → Bool, q_ct g n ≤ 12 := fun g => Nat.le_trans (q_cnt_le n 0) h12
    rw [g_Waves_spread_35, show (12 : Int32) = nI 12 by decide, q_ltN (by decide) (by omega), q_brn (by omega), q_le0 (by omega), q_brn (by omega), s_addWave hn h12, q_onI_i, g_Waves_spread_52, q_cnt_congr n 0 0 (fun p _ hp => heq W p (by omega)), q_wset_congr (fun p hp => heq W p hp), q_n1, q_add]
    have hst := q_left_step (I := M) (n := n) (w := w) (W := W) (by omega)
    have hsum : q_ct (fun p => !decide (W p = -1)) n + q_it (q_cnt (q_tkM M n W)) 0 n 0 = q_ct (fun p => !decide (q_it (q_wset (q_tkM M n W) (nI w)) 0 n W p = -1)) n := by
      refine (q_cnt_split n 0 fun p _ hp => ?_).symm
      rw [q_wset_get]
      cases ht : q_tkM M n W p with
      | false =>
        rw [if_neg (fun z => absurd z.2.2 (by decide))]
        simp
      | true =>
        have h1 : W p = -1 := by
          unfold q_tkM q_leftM at ht
          simp only [Bool.and_eq_true, decide_eq_true_eq] at ht
          exact ht.1.2
        rw [if_pos ⟨Nat.zero_le _, by omega, rfl⟩, decide_eq_false (q_nIm1 (by omega)), decide_eq_true h1]
        decide
    rw [hsum]
    cases ha : q_any (q_tkM M n W) 0 n with
    | false =>
      have h0 : q_it (q_cnt (q_tkM M n W)) 0 n 0 = 0 := by
        rw [q_cnt_0]
        exact ha
      rw [q_wrun_n ha, q_wset_none ha, h0, g_Waves_spread_35, show (12 : Int32) = nI 12 by decide, q_ltN (by decide) (by omega), q_le0 (by decide), q_br rfl]
      by_cases e : 12 < w + 1 <;> simp [e]
    | true =>
      have hpos : ¬ q_it (q_cnt (q_tkM M n W)) 0 n 0 = 0 := fun z => by
        rw [q_cnt_0, ha] at z
        exact absurd z (by decide)
      obtain ⟨l', hl'⟩ : ∃ l', q_it (q_cnt (q_tkM M n W)) 0 n 0 = l' + 1 := ⟨_, (Nat.succ_pred_eq_of_pos (Nat.pos_of_ne_zero hpos)).symm⟩
      have h12' := hcl (q_tkM M n W)
      unfold q_ct at h12'
      rw [hl', q_wrun_y ha]
      refine l_spreadT hn h12 heq f (w + 1) l' _ ?_ (by omega) (by omega)
      unfold q_ct at hst h ⊢
      omega
theorem s_spreadT {Q : Value → q_Mem → Prop} {n x : Nat} {T : Nat → Int32} (hn : I 3 2 = nI n) (h12 : n ≤ 12) (hv : ∀ p, p < n → v_plug q_bc (q_ar 131 I T) 6 131 p) (hx : x < n) (hr : T x = 1) : q_W (d + 5) 72 [.ref 84, .int (nI x)] (q_mm L I J t) Q = Q (.int (nI (q_ct (fun p => !decide (q_wrun (q_tm T) n 12 1 (q_w0 (I 85) x) p = -1)) n))) (q_mm L (q_ar 85 I (q_wrun (q_tm T) n 12 1 (q_w0 (I 85) x))) J t) := by
  have hf := l_fill85 (L := L) (d := d + 3) (J := J) (t := t) (I := I) (rt := fun _ μ' _ _ => q_X (q_W (d + 4)) (fun v μ _ _ => Q v μ) 72 (8, [some (.ref 84), some (.int (nI x)), none, none, none], [], μ', 0, 0)) 12 0 (I 85) (by decide)
  rw [q_ar_self] at hf
  have e0 : (fun b => if 0 ≤ b ∧ b < 12 then (-1 : Int32) else I 85 b) = (fun b => if b < 12 then (-1 : Int32) else I 85 b) := funext fun b => by
    by_cases h : b < 12
    · rw [if_pos ⟨Nat.zero_le _, h⟩, if_pos h]
    · rw [if_neg (fun z => h z.2), if_neg h]
  have h9 : I (6 + x) 9 = 1 := by
    have := (hv x hx).1.2.2.2.2.2.2.1
    rw [q_ar_ne (show 6 + x ≠ 131 by omega), q_ar_eq, hr] at this
    exact this
  rw [e_Waves_spread, e_Arrays_fill_2, show q_arl 225 (q_SH L) 85 = some 12 from rfl, q_onS_s, show (0 : Int32) = nI 0 by decide, show Int32.ofNat 12 = nI 12 from rfl, hf, e0, g_Waves_spread_8, s_runs (by rw [q_ar_ne (by decide)]; exact hn) h12, q_onI_i, g_Waves_spread_16, q_in_nI (by omega), decide_eq_true hx, q_clamp (by omega), q_ar_ne (show 6 + x ≠ 85 by omega), h9]
  simp only [decide_true, Bool.and_true, q_onI_i, q_onJ_j, q_onS_s, q_onB_t, true_and, and_true, true_or, or_true, eq_self, true_implies, not_true_eq_false, not_false_eq_true, false_implies, q_bb0, q_bbok, q_bbok2, Bool.true_eq_false, Bool.false_eq_true, reduceCtorEq, q_clamp (show x < 2 ^ 31 by omega), q_bnd (show x < 12 by omega) (by decide), q_ar_u]
  have h := l_spreadT (L := L) (d := d) (I := I) (J := J) (t := t) (rt := fun v μ _ _ => Q v μ) (x := nI x) (M := q_tm T) hn h12 (q_tk_eqT h12 hv) 12 1 0 (q_w0 (I 85) x) (q_w0_left hx h12) (by decide) (by decide)
  rw [q_w0_ct hx h12] at h
  exact h
theorem c_stop {n x k : Nat} {T R : Nat → Int32} {ck sd : Int32} (h12 : n ≤ 12) (h : q_rc I n T R ck sd k) (hx : x < n) (hr : T x = 1) (hk2 : k < 2 ^ 29) : ∃ I', q_rc I' n (q_stp n T R k x).1 (q_stp n T R k x).2.2 ck sd (q_stp n T R k x).2.1 ∧ q_fc I I' ∧ ∀ {Q : Value → q_Mem → Prop}, q_W (d + 6) 130 [.ref 1, .int (nI x)] (q_mm L I J t) Q = Q (.int (nI (q_stn n T x))) (q_mm L I' J t) := by
  obtain ⟨hn, hv, h34, h35, hk, hR⟩ := h
  obtain ⟨W, hW⟩ : ∃ W, W = q_wrun (q_tm T) n 12 1 (q_w0 (I 85) x) := ⟨_, rfl⟩
  have hWv : ∀ p, p < 12 → W p = q_wv n T x p := fun p hp => by rw [hW]; exact q_wv_eq h12 p hp
  have hrun : ∀ p, p < n → W p = -1 ∨ q_runM (q_tm T) p = true := fun p hp => by
    rw [hW]
    refine q_wrun_run (I := q_tm T) (n := n) 12 1 (q_w0 (I 85) x) (fun p hp => ?_) p hp
    by_cases e : p = x
    · right
      rw [e]
      unfold q_runM q_tm
      rw [hr]
      rfl
    · left
      rw [q_w0_m1 (by omega)]
      exact e
  have hcan : q_ct (q_can W T) n = q_stn n T x := q_cnt_congr n 0 0 fun p _ hp => by
    unfold q_can
    rw [hWv p (by omega)]
  have hT : q_ct (fun p => !decide (W p = -1)) n = q_stn n T x := by
    rw [← hcan]
    refine q_cnt_congr n 0 0 fun p _ hp => ?_
    have h1 := hrun p (by omega)
    unfold q_can
    rcases h1 with h1 | h1
    · simp [h1]
    · unfold q_runM q_tm at h1
      rw [h1]
      simp
  have hT12 : q_stn n T x ≤ 12 := Nat.le_trans q_stn_le h12
  have h9 : ∀ p, p < n → I (6 + p) 9 = T p := fun p hp => by
    have := (hv p hp).1.2.2.2.2.2.2.1
    rw [q_ar_ne (show 6 + p ≠ 131 by omega), q_ar_eq] at this
    exact this
  have hage : ∀ p, p < n → I (6 + p) 9 = 1 → I (6 + p) 10 = T (84 + p) := fun p hp h1 => by
    have := (hv p hp).2.1
    rw [q_ar_ne (show 6 + p ≠ 131 by omega), q_ar_eq, q_ar_eq] at this
    exact this (by rw [← h9 p hp]; exact h1)
  have e1 : q_ar 85 I W 110 1 = nI k := by rw [q_ar_ne (by decide)]; exact hk
  have hself := q_cm_self e1
  obtain ⟨s, hs⟩ : ∃ s, s = q_sl (fun q => q_ar 85 I W (6 + q) 10) n W (q_stn n T x) (fun p => q_ar 85 I W (6 + p) 9, k, I 111) := ⟨_, rfl⟩
  obtain ⟨d1, d2, d3⟩ := q_sl_congr (g := fun q => q_ar 85 I W (6 + q) 10) (g' := fun q => T (84 + q)) (n := n) (W := W) (W' := q_wv n T x) (fun p hp => hWv p (by omega)) (q_stn n T x) k (fun p => q_ar 85 I W (6 + p) 9) T (I 111) R (fun p hp => by rw [q_ar_ne (show 6 + p ≠ 85 by omega)]; exact h9 p hp) (fun p hp => by rw [q_ar_ne (show 6 + p ≠ 85 by omega)]; exact hage p hp) hR
  rw [← hs] at d1 d2 d3
  change (∀ p, p < n → s.1 p = (q_stp n T R k x).1 p) at d1
  change s.2.1 = (q_stp n T R k x).2.1 at d2
  change ∀ i, i < 40 → s.2.2 i = (q_stp n T R k x).2.2 i at d3
  have hst := fun b => q_sl_st (g := fun q => T (84 + q)) (n := n) (W := q_wv n T x) (q_stn n T x) k T R b
  change ∀ b, (q_stp n T R k x).1 b = T b ∨ (b < n ∧ (q_stp n T R k x).1 b = 0) at hst
  refine ⟨q_cm (q_ar 85 I W) s.1 s.2.1 s.2.2, ⟨?_, fun p hp => v_plug_st (I := I) (T := T) (by omega) ?_ (fun b hb => ?_) (fun j h0 h9 => ?_) ?_ (hv p hp), ?_, ?_, ?_, fun i hi => ?_⟩, ⟨fun o ho a1 a2 a3 a4 a5 a6 a7 => ?_, ?_⟩, fun {Q} => ?_⟩
  · rw [q_cm_o (by omega) (by decide) (by decide), q_ar_ne (by decide)]; exact hn
  · rw [q_cm_9 (by omega), d1 p hp]
  · rw [q_cm_f (by omega) hb, q_ar_ne (by omega)]
  · rcases hst (12 * j + p) with z | z
    · exact z
    · exact absurd z.1 (by omega)
  · rcases hst p with z | z
    · exact Or.inl z
    · rw [z.2]; exact Or.inr ⟨by decide, by decide, by decide⟩
  · rw [q_cm_o (by omega) (by decide) (by decide), q_ar_ne (by decide)]; exact h34
  · rw [q_cm_o (by omega) (by decide) (by decide), q_ar_ne (by decide)]; exact h35
  · rw [q_cm_k, d2]
  · rw [q_cm_R, d3 i hi]
  · rw [q_cm_o (by omega) a2 a3, q_ar_ne a7]
  · rw [q_cm_o (by omega) (by decide) (by decide), q_ar_ne (by decide)]
  · have hS : q_ct (q_can W (fun p => q_ar 85 I W (6 + p) 9)) n = q_stn n T x := by
      rw [← hcan]
      refine q_cnt_congr n 0 0 fun p _ hp => ?_
      unfold q_can
      simp only [q_ar_ne (show 6 + p ≠ 85 by omega), h9 p (by omega)]
    have hl := l_stopW (L := L) (d := d + 2) (I := q_ar 85 I W) (J := J) (t := t) (rt := fun v μ _ _ => Q v μ) (n := n) (T := q_stn n T x) (x := nI x) (W := W) (by rw [q_ar_ne (by decide)]; exact hn) h12 (funext fun b => q_ar_eq) (by omega) (q_stn n T x) 0 k (fun p => q_ar 85 I W (6 + p) 9) (q_ar 85 I W 111) (by omega) hS (by omega)
    rw [hself] at hl
    rw [q_ar_ne (show (111 : Nat) ≠ 85 by decide), ← hs] at hl
    rw [e_C_stopWaves, s_spreadT hn h12 hv hx hr, ← hW, hT, q_onI_i, g_C_stopWaves_8, show (0 : Int32) = nI 0 by decide]
    exact hl
theorem m_stop {n x k : Nat} {T R : Nat → Int32} {ck sd : Int32} (h12 : n ≤ 12) (h : q_rmm I n T R ck sd k) (hx : x < n) (hr : T x = 1) (hk2 : k < 2 ^ 29) : ∃ I', q_rmm I' n (q_stp n T R k x).1 (q_stp n T R k x).2.2 ck sd (q_stp n T R k x).2.1 ∧ q_fm I I' ∧ ∀ {Q : Value → q_Mem → Prop}, q_W (d + 5) 186 [.ref 130, .int (nI x)] (q_mm L I J t) Q = Q (.int (nI (q_stn n T x))) (q_mm L I' J t) := by
  obtain ⟨hn, h131, h2, h3, h20, hR, h19⟩ := h
  obtain ⟨W, hW⟩ : ∃ W, W = q_wrun I n 12 1 (q_w0 (I 140) x) := ⟨_, rfl⟩
  have hWv : ∀ p, p < 12 → W p = q_wv n T x p := fun p hp => by
    rw [hW, q_wrun_131 (M := q_tm T) h131]
    exact q_wv_eq h12 p hp
  have hcan : q_ct (q_can W T) n = q_stn n T x := q_cnt_congr n 0 0 fun p _ hp => by
    unfold q_can
    rw [hWv p (by omega)]
  have hT12 : q_stn n T x ≤ 12 := Nat.le_trans q_stn_le h12
  have hself := q_mf_self (I := q_ar 140 I W) (k := k) (by rw [q_ar_ne (by decide)]; exact h20)
  obtain ⟨s, hs⟩ : ∃ s, s = q_sl (fun q => T (84 + q)) n W (q_stn n T x) (T, k, I 139) := ⟨_, rfl⟩
  obtain ⟨d1, d2, d3⟩ := q_sl_congr (g := fun q => T (84 + q)) (g' := fun q => T (84 + q)) (n := n) (W := W) (W' := q_wv n T x) (fun p hp => hWv p (by omega)) (q_stn n T x) k T T (I 139) R (fun p hp => rfl) (fun p hp _ => rfl) hR
  rw [← hs] at d1 d2 d3
  change (∀ p, p < n → s.1 p = (q_stp n T R k x).1 p) at d1
  change s.2.1 = (q_stp n T R k x).2.1 at d2
  change ∀ i, i < 40 → s.2.2 i = (q_stp n T R k x).2.2 i at d3
  have hst := fun b => q_sl_st (g := fun q => T (84 + q)) (n := n) (W := q_wv n T x) (q_stn n T x) k T R b
  change ∀ b, (q_stp n T R k x).1 b = T b ∨ (b < n ∧ (q_stp n T R k x).1 b = 0) at hst
  have hst2 := fun b => q_sl_st (g := fun q => T (84 + q)) (n := n) (W := W) (q_stn n T x) k T (I 139) b
  rw [← hs] at hst2
  refine ⟨q_mf (q_ar 140 I W) s.1 s.2.1 s.2.2, ⟨?_, funext fun b => ?_, ?_, ?_, ?_, fun i hi => ?_, ?_⟩, ⟨fun o a1 a2 a3 a4 a5 a6 _ => ?_, ?_, ?_, ?_, ?_, ?_, ?_⟩, fun {Q} => ?_⟩
  · rw [q_mf_m (by decide), q_ar_ne (by decide)]; exact hn
  · by_cases hb : b < n
    · rw [q_mf_s (by omega), d1 b hb]
    · have z1 : (q_stp n T R k x).1 b = T b := by
        rcases hst b with z | z
        · exact z
        · exact absurd z.1 hb
      have z2 : s.1 b = T b := by
        rcases hst2 b with z | z
        · exact z
        · exact absurd z.1 hb
      rw [z1]
      by_cases hb2 : b < 12
      · rw [q_mf_s hb2, z2]
      · rw [q_mf_a (by omega), q_ar_ne (by decide), h131]
  · rw [q_mf_m (by decide), q_ar_ne (by decide)]; exact h2
  · rw [q_mf_m (by decide), q_ar_ne (by decide)]; exact h3
  · rw [q_mf_k, d2]
  · rw [show q_mf (q_ar 140 I W) s.1 s.2.1 s.2.2 139 i = s.2.2 i by unfold q_mf; rw [if_neg (by omega), if_pos rfl], d3 i hi]
  · rw [q_mf_m (by decide), q_ar_ne (by decide)]; exact h19
  · rw [q_mf_o a2 a1 a5, q_ar_ne a6]
  · rw [q_mf_m (by decide), q_ar_ne (by decide)]
  · rw [q_mf_m (by decide), q_ar_ne (by decide)]
  · rw [q_mf_m (by decide), q_ar_ne (by decide)]
  · rw [q_mf_m (by decide), q_ar_ne (by decide)]
  · rw [q_mf_m (by decide), q_ar_ne (by decide)]
  · rw [q_mf_m (by decide), q_ar_ne (by decide)]
  · have hl := l_stops (L := L) (d := d + 2) (I := q_ar 140 I W) (J := J) (t := t) (rt := fun v μ _ _ => Q v μ) (n := n) (x1 := nI x) (W := W) (by rw [q_ar_ne (by decide)]; exact hn) h12 (funext fun b => q_ar_eq) (by rw [q_ar_ne (by decide)]; exact h19) (q_stn n T x) 0 k T (I 139) (nI x) none hcan (by omega) (q_nIm1 (by omega))
    have e131 : q_ar 140 I W 131 = T := by rw [q_ar_ne (by decide)]; exact h131
    rw [e131, q_ar_ne (show (139 : Nat) ≠ 140 by decide)] at hself
    rw [hself, e131, ← hs, Nat.zero_add] at hl
    rw [e_M_stops, s_waves hn h12 hx, g_M_stops_5, ← hW, show (0 : Int32) = nI 0 by decide]
    exact hl
end DYN1
