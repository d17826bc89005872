/-! stopping: both loops -/
theorem q_up_eq {W : Nat → Int32} {p : Nat} {v : Int32} : q_up W p v p = v := by
  unfold q_up
  rw [if_pos rfl]
theorem q_up_ne {W : Nat → Int32} {p q : Nat} {v : Int32} (h : q ≠ p) : q_up W p v q = W q := by
  unfold q_up
  rw [if_neg h]
theorem q_can_off {W S : Nat → Int32} {n y : Nat} (hy : y < n) (hc : q_can W S y = true) : q_ct (q_can W S) n = q_ct (q_can W (q_up S y 0)) n + 1 := by
  have h := q_ct_one (x := y) n 0
  rw [if_pos ⟨Nat.zero_le _, by omega⟩] at h
  unfold q_ct
  rw [← h]
  refine q_cnt_split n 0 fun p _ hp => ?_
  by_cases e : p = y
  · subst e
    have h0 : q_can W (q_up S p 0) p = false := by simp [q_can, q_up_eq]
    rw [hc, h0, decide_eq_true rfl]
    decide
  · have h1 : q_can W (q_up S y 0) p = q_can W S p := by simp [q_can, q_up_ne e]
    rw [h1, decide_eq_false e]
    simp
theorem q_yng_some {g : Nat → Int32} {n : Nat} {W S : Nat → Int32} (h : ¬ q_ct (q_can W S) n = 0) : ∃ y, y < n ∧ q_can W S y = true ∧ q_yng g n W S = some y := by
  cases hy : q_yng g n W S with
  | none =>
    unfold q_yng at hy
    rw [q_pick_it_none] at hy
    refine absurd ?_ h
    unfold q_ct
    rw [q_cnt_0]
    exact hy.2
  | some y =>
    unfold q_yng at hy
    exact ⟨y, q_pick_it_lt n 0 none (by omega) (fun b e => by injection e) y hy, q_pick_it_so n 0 none (fun b e => by injection e) y hy, rfl⟩
theorem q_yng_none {g : Nat → Int32} {n : Nat} {W S : Nat → Int32} (h : q_ct (q_can W S) n = 0) : q_yng g n W S = none := by
  unfold q_yng
  rw [q_pick_it_none]
  unfold q_ct at h
  rw [q_cnt_0] at h
  exact ⟨rfl, h⟩
theorem q_cm_self {I : Nat → Nat → Int32} {k : Nat} (h : I 110 1 = nI k) : q_cm I (fun p => I (6 + p) 9) k (I 111) = I := by
  funext a b
  unfold q_cm
  by_cases h1 : (6 ≤ a ∧ a < 18) ∧ b = 9
  · rw [if_pos h1]
    dsimp only
    rw [show 6 + (a - 6) = a by omega, h1.2]
  · rw [if_neg h1]
    by_cases h2 : a = 111
    · rw [if_pos h2, h2]
    · rw [if_neg h2]
      by_cases h3 : a = 110 ∧ b = 1
      · rw [if_pos h3, h3.1, h3.2, h]
      · rw [if_neg h3]
theorem q_wrun_run {I : Nat → Nat → Int32} {n : Nat} : ∀ (f w : Nat) (W : Nat → Int32), (∀ p, p < n → W p = -1 ∨ q_runM I p = true) → ∀ p, p < n → q_wrun I n f w W p = -1 ∨ q_runM I p = true
  | 0, _, _, h => h
  | f + 1, w, W, h => by
    cases hb : q_any (q_tkM I n W) 0 n with
    | false => rw [q_wrun_n hb]; exact h
    | true =>
      rw [q_wrun_y hb]
      refine q_wrun_run f (w + 1) _ fun p hp => ?_
      rw [q_wset_get]
      by_cases e : 0 ≤ p ∧ p < 0 + n ∧ q_tkM I n W p = true
      · have h1 := e.2.2
        unfold q_tkM q_leftM at h1
        simp only [Bool.and_eq_true] at h1
        exact Or.inr h1.1.1
      · rw [if_neg e]
        exact h p hp
section STOPB
variable {L d : Nat} {I : Nat → Nat → Int32} {J : Nat → Nat → Int64} {t : Nat}
theorem l_stopW {rt : Value → q_Mem → Nat → Nat → Prop} {n T : Nat} {x : Int32} {W : Nat → Int32} (hn : I 3 2 = nI n) (h12 : n ≤ 12) (hW : I 85 = W) (hT : T < 2 ^ 30) : ∀ (f i k : Nat) (S R : Nat → Int32), i + f = T → q_ct (q_can W S) n = f → k + f < 2 ^ 30 → q_X (q_W (d + 3)) rt 130 (11, [some (.ref 1), some (.int x), some (.int (nI T)), some (.int (nI i))], [], (q_mm L (q_cm I S k R) J t), 0, 0) = rt (.int (nI T)) (q_mm L (q_cm I (q_sl (fun q => I (6 + q) 10) n W f (S, k, R)).1 (q_sl (fun q => I (6 + q) 10) n W f (S, k, R)).2.1 (q_sl (fun q => I (6 + q) 10) n W f (S, k, R)).2.2) J t) 0 0
  | 0, i, k, S, R, h, hc, hk => by
    rw [g_C_stopWaves_11, q_leN (by omega) (by omega), q_br (by omega)]
    rfl
  | f + 1, i, k, S, R, h, hc, hk => by
    obtain ⟨y, hy, hcy, ey⟩ := q_yng_some (g := fun q => I (6 + q) 10) (n := n) (W := W) (S := S) (by omega)
    have hoff := q_can_off hy hcy
    rw [g_C_stopWaves_11, q_leN (by omega) (by omega), q_brn (by omega), s_young hn h12 hW, q_onI_i, g_C_stopWaves_24, ey, show q_fst (some y) = nI y from rfl, s_idle hn h12 hy (by omega), g_C_stopWaves_27, q_n1, l_stopW hn h12 hW hT f (i + 1) (k + 1) _ _ (by omega) (by omega) (by omega), q_sl_y ey]
theorem s_stopWaves {n x k : Nat} (hn : I 3 2 = nI n) (h12 : n ≤ 12) (hv : ∀ p, p < n → v_plug q_bc I 6 131 p) (hx : x < n) (hr : I 131 x = 1) (hk : I 110 1 = nI k) (hk2 : k < 2 ^ 29) : ∃ (T : Nat) (W : Nat → Int32) (s : (Nat → Int32) × Nat × (Nat → Int32)), W = q_wrun I n 12 1 (q_w0 (I 85) x) ∧ T = q_ct (q_can W (I 131)) n ∧ s = q_sl (fun q => q_ar 85 I W (6 + q) 10) n W T (fun p => q_ar 85 I W (6 + p) 9, k, I 111) ∧ ∀ {Q : Value → q_Mem → Prop}, q_W (d + 6) 130 [.ref 1, .int (nI x)] (q_mm L I J t) Q = Q (.int (nI T)) (q_mm L (q_cm (q_ar 85 I W) s.1 s.2.1 s.2.2) J t) := by
  obtain ⟨W, hW⟩ : ∃ W, W = q_wrun I n 12 1 (q_w0 (I 85) x) := ⟨_, rfl⟩
  have hrun : ∀ p, p < n → W p = -1 ∨ q_runM I p = true := fun p hp => by
    rw [hW]
    refine q_wrun_run (I := I) (n := n) 12 1 (q_w0 (I 85) x) (fun p hp => ?_) p hp
    by_cases e : p = x
    · right
      rw [e]
      unfold q_runM
      rw [hr]
      rfl
    · left
      rw [q_w0_m1 (by omega)]
      exact e
  have hT : q_ct (fun p => !decide (W p = -1)) n = q_ct (q_can W (I 131)) n := by
    refine q_cnt_congr n 0 0 fun p _ hp => ?_
    have h1 := hrun p (by omega)
    unfold q_can
    rcases h1 with h1 | h1
    · simp [h1]
    · unfold q_runM at h1
      rw [h1]
      simp
  refine ⟨_, W, _, hW, rfl, rfl, ?_⟩
  intro Q
  obtain ⟨T, eT⟩ : ∃ T, T = q_ct (q_can W (I 131)) n := ⟨_, rfl⟩
  have hT12 : T ≤ 12 := by
    rw [eT]
    exact Nat.le_trans (q_cnt_le n 0) h12
  have e1 : q_ar 85 I W 110 1 = nI k := by rw [q_ar_ne (by decide)]; exact hk
  have hself := q_cm_self e1
  have hS : q_ct (q_can W (fun p => q_ar 85 I W (6 + p) 9)) n = T := by
    rw [eT]
    refine q_cnt_congr n 0 0 fun p _ hp => ?_
    unfold q_can
    simp only [q_ar_ne (show 6 + p ≠ 85 by omega), (hv p (by omega)).1.2.2.2.2.2.2.1]
  have hl := l_stopW (L := L) (d := d + 2) (I := q_ar 85 I W) (J := J) (t := t) (rt := fun v μ _ _ => Q v μ) (n := n) (T := T) (x := nI x) (W := W) (by rw [q_ar_ne (by decide)]; exact hn) h12 (funext fun b => q_ar_eq) (by omega) T 0 k (fun p => q_ar 85 I W (6 + p) 9) (q_ar 85 I W 111) (by omega) hS (by omega)
  rw [hself] at hl
  rw [q_ar_ne (show (111 : Nat) ≠ 85 by decide)] at hl
  rw [← eT, e_C_stopWaves, s_spread hn h12 hv hx hr, ← hW, hT, ← eT, q_onI_i, g_C_stopWaves_8, show (0 : Int32) = nI 0 by decide]
  exact hl
end STOPB
