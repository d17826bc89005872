/-! firing: a run, whole -/
theorem q_gth_len {H T : Nat → Int32} {pt w : Int32} {hk : Nat} : (q_gth H T pt w hk).2 ≤ hk ∧ ∀ i, i < (q_gth H T pt w hk).2 → ∃ h, h < hk ∧ (q_gth H T pt w hk).1 i = nI h := by
  have h := q_gth_ok (H := H) (T := T) (pt := pt) (w := w) hk 0 (fun _ => 0, 0) ⟨Nat.le_refl _, fun i hi => absurd hi (Nat.not_lt_zero i)⟩
  rw [Nat.zero_add] at h
  exact ⟨h.1, fun i hi => by
    obtain ⟨z, a, b, -⟩ := h.2 i hi
    exact ⟨z, a, b⟩⟩
section RUN_86
variable {L d : Nat} {J : Nat → Nat → Int64} {t : Nat}
def q_fw86 (I F : Nat → Nat → Int32) : Prop := (∀ o, o ≠ 86 → o ≠ 88 → o ≠ 89 → F o = I o) ∧ ∀ b, b ≠ 3 → b ≠ 4 → b ≠ 5 → F 86 b = I 86 b
theorem q_fw86_trans {I I1 I2 : Nat → Nat → Int32} (h1 : q_fw86 I I1) (h2 : q_fw86 I1 I2) : q_fw86 I I2 := ⟨fun o a b c => (h2.1 o a b c).trans (h1.1 o a b c), fun x a b c => (h2.2 x a b c).trans (h1.2 x a b c)⟩
theorem q_fx86_fw {I F : Nat → Nat → Int32} {H T C : Nat → Int32} {n hk len : Nat} (f : q_fw86 I F) (h : q_fx86 I H T C n hk len) : q_fx86 F H T C n hk len := by
  obtain ⟨a, b, c, d⟩ := h
  exact ⟨q_ch_congr (fun o ho => f.1 o (by omega) (by omega) (by omega)) a, by rw [f.2 2 (by decide) (by decide) (by decide)]; exact b, c, fun i hi => by rw [f.1 87 (by decide) (by decide) (by decide)]; exact d i hi⟩
theorem l_fill89 {rt : Value → q_Mem → Nat → Nat → Prop} : ∀ (k i : Nat) (I : Nat → Nat → Int32), i + k = 12 → ∃ F : Nat → Nat → Int32, (∀ o, o ≠ 89 → F o = I o) ∧ (∀ p, i ≤ p → p < 12 → F 89 p = 0) ∧ (∀ p, p < i → F 89 p = I 89 p) ∧ ∀ (rt : Value → q_Mem → Nat → Nat → Prop), q_X (q_W d) rt 225 (5, [some (.ref 89), some (.int 0), some (.int (nI i)), some (.int (nI 12))], [], (q_mm L I J t), 0, 0) = rt .null (q_mm L F J t) 0 0
  | 0, i, I, h => by
    refine ⟨I, fun _ _ => rfl, fun p a b => absurd a (by omega), fun _ _ => rfl, fun rt => ?_⟩
    rw [g_Arrays_fill_2_5, q_leN (by decide) (by omega), q_br (by omega)]
  | k + 1, i, I, h => by
    have ha : q_arr (q_SH L) 89 100 = some 12 := rfl
    obtain ⟨F, f1, f2, f3, f4⟩ := l_fill89 (rt := rt) k (i + 1) (q_u I 89 i 0) (by omega)
    refine ⟨F, fun o ho => by rw [f1 o ho, q_u_ne ho], fun p a b => ?_, fun p a => by rw [f3 p (by omega), q_u_nk (by omega)], fun rt => ?_⟩
    · by_cases e : p = i
      · subst e
        rw [f3 p (by omega), q_u_eq]
      · exact f2 p (by omega) b
    · rw [g_Arrays_fill_2_5, q_leN (by decide) (by omega), q_brn (by omega), ha]
      simp only [q_onI_i, q_onJ_j, q_onS_s, q_onB_t, true_and, and_true, true_or, or_true, eq_self, true_implies, not_true_eq_false, not_false_eq_true, false_implies, q_bb0, q_bbok, q_bbok2, Bool.true_eq_false, Bool.false_eq_true, reduceCtorEq, q_clamp (show i < 2 ^ 31 by omega), q_bnd (show i < 12 by omega) (by decide), q_n1, f4]
theorem c_frun86 {I : Nat → Nat → Int32} {H T C : Nat → Int32} {n hk len : Nat} {x : Int32} (hx : q_fx86 I H T C n hk len) : ∃ F, q_fw86 I F ∧ q_fs86 F (q_ak H C len len x (0, fun _ => 0, fun _ => 0)).2 ∧ F 86 3 = nI (q_ak H C len len x (0, fun _ => 0, fun _ => 0)).1.1 ∧ (q_ak H C len len x (0, fun _ => 0, fun _ => 0)).1.1 < 3 ∧ F 86 4 = (q_ak H C len len x (0, fun _ => 0, fun _ => 0)).1.2 ∧ ∀ {Q : Value → q_Mem → Prop}, q_W (d + 54) 7 [.ref 86, .int x] (q_mm L I J t) Q = Q .null (q_mm L F J t) := by
  have hlen := hx.2.2.1
  obtain ⟨I1, f1, f2, -, f4⟩ := l_fill89 (L := L) (d := d + 52) (J := J) (t := t) (rt := fun _ _ _ _ => True) 12 0 (q_u (q_u I 86 3 0) 86 5 0) (by decide)
  have hw1 : q_ff86 I I1 := ⟨fun o a b c => by rw [f1 o c, q_u_ne a, q_u_ne a], fun b a c => by rw [f1 86 (by decide), q_u_nk c, q_u_nk a]⟩
  have hs1 : q_fs86 I1 (0, fun _ => 0, fun _ => 0) := ⟨by rw [f1 86 (by decide), q_u_eq]; rfl, Nat.zero_le _, fun i _ b => absurd b (Nat.not_lt_zero i), fun p hp => f2 p (Nat.zero_le _) hp⟩
  obtain ⟨F, u1, u2, u3, u4, u5⟩ := c_ask86 len L (d + 53) J t I1 0 x (0, fun _ => 0, fun _ => 0) (by omega) (by omega) (q_fx86_ff hw1 hx) hs1 (by rw [f1 86 (by decide), q_u_nk (by decide), q_u_eq])
  have hf := q_ff86_trans hw1 u1
  refine ⟨q_u F 86 4 (q_ak H C len len x (0, fun _ => 0, fun _ => 0)).1.2, ⟨fun o a b c => by rw [q_u_ne a]; exact hf.1 o a b c, fun b a c e => by rw [q_u_nk c]; exact hf.2 b a e⟩, ⟨by rw [q_u_nk (by decide)]; exact u2.1, u2.2.1, fun i a b => by rw [q_u_ne (by decide)]; exact u2.2.2.1 i a b, fun p hp => by rw [q_u_ne (by decide)]; exact u2.2.2.2 p hp⟩, by rw [q_u_nk (by decide)]; exact u3, u4, q_u_eq, fun {Q} => ?_⟩
  have z0 : (0 : Int32) = nI 0 := by decide
  rw [e_Firing_run_86, e_Arrays_fill_2, show q_arl 225 (q_SH L) 89 = some 12 from rfl, q_onS_s, show Int32.ofNat 12 = nI 12 from rfl]
  have f4' := f4 (fun v μ _ _ => q_X (q_W (d + 53)) (fun v μ _ _ => Q v μ) 7 (18, [some (.ref 86), some (.int x)], [], μ, 0, 0))
  rw [show nI 0 = (0 : Int32) by decide] at f4' u5
  rw [f4', g_Firing_run_86_18, u5, q_onI_i, g_Firing_run_86_25]
theorem c_gives86 {I : Nat → Nat → Int32} {H T C : Nat → Int32} {n hk len : Nat} {x y : Int32} (hx : q_fx86 I H T C n hk len) : ∃ F, q_fw86 I F ∧ ∀ {Q : Value → q_Mem → Prop}, q_W (d + 55) 8 [.ref 86, .int x, .int y] (q_mm L I J t) Q = Q (.int (q_bb (decide ((q_ak H C len len x (0, fun _ => 0, fun _ => 0)).1.1 = 0) && decide ((q_ak H C len len x (0, fun _ => 0, fun _ => 0)).1.2 = y)))) (q_mm L F J t) := by
  obtain ⟨F, f1, f2, f3, f4, f5, f6⟩ := c_frun86 (L := L) (d := d) (J := J) (t := t) (x := x) hx
  refine ⟨F, f1, fun {Q} => ?_⟩
  rw [e_Firing_gives_86, f6, g_Firing_gives_86_5, f3, f5, q_eq0 (by omega)]
  by_cases e1 : (q_ak H C len len x (0, fun _ => 0, fun _ => 0)).1.1 = 0
  · by_cases e2 : (q_ak H C len len x (0, fun _ => 0, fun _ => 0)).1.2 = y
    · rw [q_br e1, q_br e2, decide_eq_true e1, decide_eq_true e2]
      simp only [q_onI_i, q_onJ_j, q_onS_s, q_onB_t, true_and, and_true, true_or, or_true, eq_self, true_implies, not_true_eq_false, not_false_eq_true, false_implies, q_bb0, q_bbok, q_bbok2, Bool.true_eq_false, Bool.false_eq_true, reduceCtorEq]
      rfl
    · rw [q_br e1, q_brn e2, decide_eq_true e1, decide_eq_false e2]
      simp only [q_onI_i, q_onJ_j, q_onS_s, q_onB_t, true_and, and_true, true_or, or_true, eq_self, true_implies, not_true_eq_false, not_false_eq_true, false_implies, q_bb0, q_bbok, q_bbok2, Bool.true_eq_false, Bool.false_eq_true, reduceCtorEq]
      rfl
  · rw [q_brn e1, decide_eq_false e1]
    simp only [q_onI_i, q_onJ_j, q_onS_s, q_onB_t, true_and, and_true, true_or, or_true, eq_self, true_implies, not_true_eq_false, not_false_eq_true, false_implies, q_bb0, q_bbok, q_bbok2, Bool.true_eq_false, Bool.false_eq_true, reduceCtorEq]
    rfl
theorem c_gath86 {I : Nat → Nat → Int32} {H T : Nat → Int32} {n hk : Nat} {pt w : Int32} (hc : q_ch I H T n hk) : ∃ F, (∀ o, o ≠ 86 → o ≠ 87 → F o = I o) ∧ (∀ b, b ≠ 2 → F 86 b = I 86 b) ∧ q_fx86 F H T (q_gth H T pt w hk).1 n hk (q_gth H T pt w hk).2 ∧ ∀ {Q : Value → q_Mem → Prop}, q_W (d + 6) 4 [.ref 86, .int pt, .int w] (q_mm L I J t) Q = Q .null (q_mm L F J t) := by
  obtain ⟨F, f1, f2, f3, f4, f5⟩ := c_gather86 (L := L) (d := d) (J := J) (t := t) (pt := pt) (w := w) hc
  obtain ⟨o1, o2⟩ := q_gth_len (H := H) (T := T) (pt := pt) (w := w) (hk := hk)
  have h24 := hc.2.2.2.1
  exact ⟨F, f1, f2, ⟨q_ch_congr (fun o ho => f1 o (by omega) (by omega)) hc, f3, by omega, fun i hi => ⟨f4 i hi, o2 i hi⟩⟩, f5⟩
end RUN_86
section RUN_90
variable {L d : Nat} {J : Nat → Nat → Int64} {t : Nat}
def q_fw90 (I F : Nat → Nat → Int32) : Prop := (∀ o, o ≠ 90 → o ≠ 92 → o ≠ 93 → F o = I o) ∧ ∀ b, b ≠ 3 → b ≠ 4 → b ≠ 5 → F 90 b = I 90 b
theorem q_fw90_trans {I I1 I2 : Nat → Nat → Int32} (h1 : q_fw90 I I1) (h2 : q_fw90 I1 I2) : q_fw90 I I2 := ⟨fun o a b c => (h2.1 o a b c).trans (h1.1 o a b c), fun x a b c => (h2.2 x a b c).trans (h1.2 x a b c)⟩
theorem q_fx90_fw {I F : Nat → Nat → Int32} {H T C : Nat → Int32} {n hk len : Nat} (f : q_fw90 I F) (h : q_fx90 I H T C n hk len) : q_fx90 F H T C n hk len := by
  obtain ⟨a, b, c, d⟩ := h
  exact ⟨q_ch_congr (fun o ho => f.1 o (by omega) (by omega) (by omega)) a, by rw [f.2 2 (by decide) (by decide) (by decide)]; exact b, c, fun i hi => by rw [f.1 91 (by decide) (by decide) (by decide)]; exact d i hi⟩
theorem l_fill93 {rt : Value → q_Mem → Nat → Nat → Prop} : ∀ (k i : Nat) (I : Nat → Nat → Int32), i + k = 12 → ∃ F : Nat → Nat → Int32, (∀ o, o ≠ 93 → F o = I o) ∧ (∀ p, i ≤ p → p < 12 → F 93 p = 0) ∧ (∀ p, p < i → F 93 p = I 93 p) ∧ ∀ (rt : Value → q_Mem → Nat → Nat → Prop), q_X (q_W d) rt 225 (5, [some (.ref 93), some (.int 0), some (.int (nI i)), some (.int (nI 12))], [], (q_mm L I J t), 0, 0) = rt .null (q_mm L F J t) 0 0
  | 0, i, I, h => by
    refine ⟨I, fun _ _ => rfl, fun p a b => absurd a (by omega), fun _ _ => rfl, fun rt => ?_⟩
    rw [g_Arrays_fill_2_5, q_leN (by decide) (by omega), q_br (by omega)]
  | k + 1, i, I, h => by
    have ha : q_arr (q_SH L) 93 100 = some 12 := rfl
    obtain ⟨F, f1, f2, f3, f4⟩ := l_fill93 (rt := rt) k (i + 1) (q_u I 93 i 0) (by omega)
    refine ⟨F, fun o ho => by rw [f1 o ho, q_u_ne ho], fun p a b => ?_, fun p a => by rw [f3 p (by omega), q_u_nk (by omega)], fun rt => ?_⟩
    · by_cases e : p = i
      · subst e
        rw [f3 p (by omega), q_u_eq]
      · exact f2 p (by omega) b
    · rw [g_Arrays_fill_2_5, q_leN (by decide) (by omega), q_brn (by omega), ha]
      simp only [q_onI_i, q_onJ_j, q_onS_s, q_onB_t, true_and, and_true, true_or, or_true, eq_self, true_implies, not_true_eq_false, not_false_eq_true, false_implies, q_bb0, q_bbok, q_bbok2, Bool.true_eq_false, Bool.false_eq_true, reduceCtorEq, q_clamp (show i < 2 ^ 31 by omega), q_bnd (show i < 12 by omega) (by decide), q_n1, f4]
theorem c_frun90 {I : Nat → Nat → Int32} {H T C : Nat → Int32} {n hk len : Nat} {x : Int32} (hx : q_fx90 I H T C n hk len) : ∃ F, q_fw90 I F ∧ q_fs90 F (q_ak H C len len x (0, fun _ => 0, fun _ => 0)).2 ∧ F 90 3 = nI (q_ak H C len len x (0, fun _ => 0, fun _ => 0)).1.1 ∧ (q_ak H C len len x (0, fun _ => 0, fun _ => 0)).1.1 < 3 ∧ F 90 4 = (q_ak H C len len x (0, fun _ => 0, fun _ => 0)).1.2 ∧ ∀ {Q : Value → q_Mem → Prop}, q_W (d + 54) 7 [.ref 90, .int x] (q_mm L I J t) Q = Q .null (q_mm L F J t) := by
  have hlen := hx.2.2.1
  obtain ⟨I1, f1, f2, -, f4⟩ := l_fill93 (L := L) (d := d + 52) (J := J) (t := t) (rt := fun _ _ _ _ => True) 12 0 (q_u (q_u I 90 3 0) 90 5 0) (by decide)
  have hw1 : q_ff90 I I1 := ⟨fun o a b c => by rw [f1 o c, q_u_ne a, q_u_ne a], fun b a c => by rw [f1 90 (by decide), q_u_nk c, q_u_nk a]⟩
  have hs1 : q_fs90 I1 (0, fun _ => 0, fun _ => 0) := ⟨by rw [f1 90 (by decide), q_u_eq]; rfl, Nat.zero_le _, fun i _ b => absurd b (Nat.not_lt_zero i), fun p hp => f2 p (Nat.zero_le _) hp⟩
  obtain ⟨F, u1, u2, u3, u4, u5⟩ := c_ask90 len L (d + 53) J t I1 0 x (0, fun _ => 0, fun _ => 0) (by omega) (by omega) (q_fx90_ff hw1 hx) hs1 (by rw [f1 90 (by decide), q_u_nk (by decide), q_u_eq])
  have hf := q_ff90_trans hw1 u1
  refine ⟨q_u F 90 4 (q_ak H C len len x (0, fun _ => 0, fun _ => 0)).1.2, ⟨fun o a b c => by rw [q_u_ne a]; exact hf.1 o a b c, fun b a c e => by rw [q_u_nk c]; exact hf.2 b a e⟩, ⟨by rw [q_u_nk (by decide)]; exact u2.1, u2.2.1, fun i a b => by rw [q_u_ne (by decide)]; exact u2.2.2.1 i a b, fun p hp => by rw [q_u_ne (by decide)]; exact u2.2.2.2 p hp⟩, by rw [q_u_nk (by decide)]; exact u3, u4, q_u_eq, fun {Q} => ?_⟩
  have z0 : (0 : Int32) = nI 0 := by decide
  rw [e_Firing_run_90, e_Arrays_fill_2, show q_arl 225 (q_SH L) 93 = some 12 from rfl, q_onS_s, show Int32.ofNat 12 = nI 12 from rfl]
  have f4' := f4 (fun v μ _ _ => q_X (q_W (d + 53)) (fun v μ _ _ => Q v μ) 7 (18, [some (.ref 90), some (.int x)], [], μ, 0, 0))
  rw [show nI 0 = (0 : Int32) by decide] at f4' u5
  rw [f4', g_Firing_run_90_18, u5, q_onI_i, g_Firing_run_90_25]
theorem c_gives90 {I : Nat → Nat → Int32} {H T C : Nat → Int32} {n hk len : Nat} {x y : Int32} (hx : q_fx90 I H T C n hk len) : ∃ F, q_fw90 I F ∧ ∀ {Q : Value → q_Mem → Prop}, q_W (d + 55) 8 [.ref 90, .int x, .int y] (q_mm L I J t) Q = Q (.int (q_bb (decide ((q_ak H C len len x (0, fun _ => 0, fun _ => 0)).1.1 = 0) && decide ((q_ak H C len len x (0, fun _ => 0, fun _ => 0)).1.2 = y)))) (q_mm L F J t) := by
  obtain ⟨F, f1, f2, f3, f4, f5, f6⟩ := c_frun90 (L := L) (d := d) (J := J) (t := t) (x := x) hx
  refine ⟨F, f1, fun {Q} => ?_⟩
  rw [e_Firing_gives_90, f6, g_Firing_gives_90_5, f3, f5, q_eq0 (by omega)]
  by_cases e1 : (q_ak H C len len x (0, fun _ => 0, fun _ => 0)).1.1 = 0
  · by_cases e2 : (q_ak H C len len x (0, fun _ => 0, fun _ => 0)).1.2 = y
    · rw [q_br e1, q_br e2, decide_eq_true e1, decide_eq_true e2]
      simp only [q_onI_i, q_onJ_j, q_onS_s, q_onB_t, true_and, and_true, true_or, or_true, eq_self, true_implies, not_true_eq_false, not_false_eq_true, false_implies, q_bb0, q_bbok, q_bbok2, Bool.true_eq_false, Bool.false_eq_true, reduceCtorEq]
      rfl
    · rw [q_br e1, q_brn e2, decide_eq_true e1, decide_eq_false e2]
      simp only [q_onI_i, q_onJ_j, q_onS_s, q_onB_t, true_and, and_true, true_or, or_true, eq_self, true_implies, not_true_eq_false, not_false_eq_true, false_implies, q_bb0, q_bbok, q_bbok2, Bool.true_eq_false, Bool.false_eq_true, reduceCtorEq]
      rfl
  · rw [q_brn e1, decide_eq_false e1]
    simp only [q_onI_i, q_onJ_j, q_onS_s, q_onB_t, true_and, and_true, true_or, or_true, eq_self, true_implies, not_true_eq_false, not_false_eq_true, false_implies, q_bb0, q_bbok, q_bbok2, Bool.true_eq_false, Bool.false_eq_true, reduceCtorEq]
    rfl
theorem c_gath90 {I : Nat → Nat → Int32} {H T : Nat → Int32} {n hk : Nat} {pt w : Int32} (hc : q_ch I H T n hk) : ∃ F, (∀ o, o ≠ 90 → o ≠ 91 → F o = I o) ∧ (∀ b, b ≠ 2 → F 90 b = I 90 b) ∧ q_fx90 F H T (q_gth H T pt w hk).1 n hk (q_gth H T pt w hk).2 ∧ ∀ {Q : Value → q_Mem → Prop}, q_W (d + 6) 4 [.ref 90, .int pt, .int w] (q_mm L I J t) Q = Q .null (q_mm L F J t) := by
  obtain ⟨F, f1, f2, f3, f4, f5⟩ := c_gather90 (L := L) (d := d) (J := J) (t := t) (pt := pt) (w := w) hc
  obtain ⟨o1, o2⟩ := q_gth_len (H := H) (T := T) (pt := pt) (w := w) (hk := hk)
  have h24 := hc.2.2.2.1
  exact ⟨F, f1, f2, ⟨q_ch_congr (fun o ho => f1 o (by omega) (by omega)) hc, f3, by omega, fun i hi => ⟨f4 i hi, o2 i hi⟩⟩, f5⟩
end RUN_90
