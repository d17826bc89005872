/-! a value fired: the class's, for its two firings -/
def q_fs86 (I : Nat → Nat → Int32) (s : q_FS) : Prop := I 86 5 = nI s.1 ∧ s.1 ≤ 200 ∧ (∀ i, i < 30 → i < s.1 → I 88 i = s.2.1 i) ∧ ∀ p, p < 12 → I 89 p = s.2.2 p
def q_ff86 (I F : Nat → Nat → Int32) : Prop := (∀ o, o ≠ 86 → o ≠ 88 → o ≠ 89 → F o = I o) ∧ ∀ b, b ≠ 3 → b ≠ 5 → F 86 b = I 86 b
theorem q_ff86_refl {I : Nat → Nat → Int32} : q_ff86 I I := ⟨fun _ _ _ _ => rfl, fun _ _ _ => rfl⟩
theorem q_ff86_trans {I I1 I2 : Nat → Nat → Int32} (h1 : q_ff86 I I1) (h2 : q_ff86 I1 I2) : q_ff86 I I2 := ⟨fun o a b c => (h2.1 o a b c).trans (h1.1 o a b c), fun x a b => (h2.2 x a b).trans (h1.2 x a b)⟩
/-- what stays as it is while a value is fired -/
def q_fx86 (I : Nat → Nat → Int32) (H T C : Nat → Int32) (n hk len : Nat) : Prop := q_ch I H T n hk ∧ I 86 2 = nI len ∧ len ≤ 24 ∧ ∀ i, i < len → I 87 i = C i ∧ ∃ h, h < hk ∧ C i = nI h
theorem q_fx86_ff {I F : Nat → Nat → Int32} {H T C : Nat → Int32} {n hk len : Nat} (f : q_ff86 I F) (h : q_fx86 I H T C n hk len) : q_fx86 F H T C n hk len := by
  obtain ⟨a, b, c, d⟩ := h
  exact ⟨q_ch_congr (fun o ho => f.1 o (by omega) (by omega) (by omega)) a, by rw [f.2 2 (by decide) (by decide)]; exact b, c, fun i hi => by rw [f.1 87 (by decide) (by decide) (by decide)]; exact d i hi⟩
def q_aB86 (H T C : Nat → Int32) (n hk len m : Nat) : Prop := ∀ (L D : Nat) (J : Nat → Nat → Int64) (t : Nat) (I : Nat → Nat → Int32) (at' : Nat) (x : Int32) (s : q_FS), at' + m = len → 2 * m + 5 ≤ D → q_fx86 I H T C n hk len → q_fs86 I s → I 86 3 = 0 → ∃ F, q_ff86 I F ∧ q_fs86 F (q_ak H C len m x s).2 ∧ F 86 3 = nI (q_ak H C len m x s).1.1 ∧ (q_ak H C len m x s).1.1 < 3 ∧ ∀ {Q : Value → q_Mem → Prop}, q_W D 10 [.ref 86, .int (nI at'), .int x] (q_mm L I J t) Q = Q (.int (q_ak H C len m x s).1.2) (q_mm L F J t)
/-- behind the rest of a hook that asks it first -/
theorem l_thn86 {L D n hk len m at' h f : Nat} {J : Nat → Nat → Int64} {t : Nat} {F : Nat → Nat → Int32} {H T C : Nat → Int32} {k x : Int32} {r : q_FR} (IH : q_aB86 H T C n hk len m) (hD : 2 * m + 5 ≤ D) (hat : at' + 1 + m = len) (hh : h < 24) (hf : f < 9) (hf3 : ¬ f = 3 ∧ ¬ f = 6 ∧ ¬ f = 7) (hx : q_fx86 F H T C n hk len) (hs : q_fs86 F r.2) (ho : F 86 3 = nI r.1.1) (ho3 : r.1.1 < 3) (h3 : F (18 + h) 3 = nI f) (h4 : F (18 + h) 4 = k) : ∃ F', q_ff86 F F' ∧ q_fs86 F' (q_aft (q_ak H C len m) k r f).2 ∧ F' 86 3 = nI (q_aft (q_ak H C len m) k r f).1.1 ∧ (q_aft (q_ak H C len m) k r f).1.1 < 3 ∧ ∀ (rt : Value → q_Mem → Nat → Nat → Prop), q_X (q_W D) rt 14 (12, [some (.ref 86), some (.int (nI at')), some (.ref (18 + h)), some (.int x), none], [.int r.1.2], q_mm L F J t, 0, 0) = rt (.int (q_aft (q_ak H C len m) k r f).1.2) (q_mm L F' J t) 0 0 := by
  obtain ⟨⟨o, v⟩, s'⟩ := r
  dsimp only at hs ho ho3
  have h5 : F 86 5 = nI s'.1 := hs.1
  have hne : 18 + h ≠ 86 := by omega
  have hcat : q_u F 86 3 0 (18 + h) 4 = k := by rw [q_u_ne hne]; exact h4
  have hq3 : q_ff86 F (q_u F 86 3 0) := ⟨fun o a _ _ => q_u_ne a, fun b a _ => q_u_nk a⟩
  have hq3s : q_fs86 (q_u F 86 3 0) s' := ⟨by rw [q_u_nk (by decide)]; exact hs.1, hs.2.1, fun i a b => by rw [q_u_ne (by decide)]; exact hs.2.2.1 i a b, fun p hp => by rw [q_u_ne (by decide)]; exact hs.2.2.2 p hp⟩
  match f, hf, hf3 with
  | 0, _, _ =>
    refine ⟨F, q_ff86_refl, hs, ho, ho3, fun rt => ?_⟩
    rw [g_Firing_restFirst_86_12, ho]
    match o, ho3 with
    | 0, _ => simp +decide only [q_onI_i, q_onJ_j, q_onS_s, q_onB_t, true_and, and_true, true_or, or_true, eq_self, true_implies, not_true_eq_false, not_false_eq_true, false_implies, q_bb0, q_bbok, q_bbok2, Bool.true_eq_false, Bool.false_eq_true, reduceCtorEq, i_hook hh, h3]; rfl
    | 1, _ => simp +decide only [q_onI_i, q_onJ_j, q_onS_s, q_onB_t, true_and, and_true, true_or, or_true, eq_self, true_implies, not_true_eq_false, not_false_eq_true, false_implies, q_bb0, q_bbok, q_bbok2, Bool.true_eq_false, Bool.false_eq_true, reduceCtorEq, i_hook hh, h3]; rfl
    | 2, _ => simp +decide only [q_onI_i, q_onJ_j, q_onS_s, q_onB_t, true_and, and_true, true_or, or_true, eq_self, true_implies, not_true_eq_false, not_false_eq_true, false_implies, q_bb0, q_bbok, q_bbok2, Bool.true_eq_false, Bool.false_eq_true, reduceCtorEq, i_hook hh, h3]; rfl
  | 1, _, _ =>
    match o, ho3 with
    | 0, _ =>
      refine ⟨F, q_ff86_refl, hs, ho, (by decide : 0 < 3), fun rt => ?_⟩
      rw [g_Firing_restFirst_86_12, ho]
      simp +decide only [q_onI_i, q_onJ_j, q_onS_s, q_onB_t, true_and, and_true, true_or, or_true, eq_self, true_implies, not_true_eq_false, not_false_eq_true, false_implies, q_bb0, q_bbok, q_bbok2, Bool.true_eq_false, Bool.false_eq_true, reduceCtorEq, i_hook hh, h3, h4]; rfl
    | 1, _ =>
      refine ⟨F, q_ff86_refl, hs, ho, (by decide : 1 < 3), fun rt => ?_⟩
      rw [g_Firing_restFirst_86_12, ho]
      simp +decide only [q_onI_i, q_onJ_j, q_onS_s, q_onB_t, true_and, and_true, true_or, or_true, eq_self, true_implies, not_true_eq_false, not_false_eq_true, false_implies, q_bb0, q_bbok, q_bbok2, Bool.true_eq_false, Bool.false_eq_true, reduceCtorEq, i_hook hh, h3, h4]; rfl
    | 2, _ =>
      refine ⟨F, q_ff86_refl, hs, ho, (by decide : 2 < 3), fun rt => ?_⟩
      rw [g_Firing_restFirst_86_12, ho]
      simp +decide only [q_onI_i, q_onJ_j, q_onS_s, q_onB_t, true_and, and_true, true_or, or_true, eq_self, true_implies, not_true_eq_false, not_false_eq_true, false_implies, q_bb0, q_bbok, q_bbok2, Bool.true_eq_false, Bool.false_eq_true, reduceCtorEq, i_hook hh, h3, h4]; rfl
  | 2, _, _ =>
    match o, ho3 with
    | 0, _ =>
      obtain ⟨F', f1, f2, f3, f4, f5⟩ := IH L D J t F (at' + 1) v s' hat hD hx hs (by rw [ho]; rfl)
      refine ⟨F', f1, f2, f3, f4, fun rt => ?_⟩
      rw [g_Firing_restFirst_86_12, ho]
      simp +decide only [q_onI_i, q_onJ_j, q_onS_s, q_onB_t, true_and, and_true, true_or, or_true, eq_self, true_implies, not_true_eq_false, not_false_eq_true, false_implies, q_bb0, q_bbok, q_bbok2, Bool.true_eq_false, Bool.false_eq_true, reduceCtorEq, i_hook hh, h3, h4, q_n1, f5, g_Firing_restFirst_86_109]; rfl
    | 1, _ =>
      refine ⟨F, q_ff86_refl, hs, ho, (by decide : 1 < 3), fun rt => ?_⟩
      rw [g_Firing_restFirst_86_12, ho]
      simp +decide only [q_onI_i, q_onJ_j, q_onS_s, q_onB_t, true_and, and_true, true_or, or_true, eq_self, true_implies, not_true_eq_false, not_false_eq_true, false_implies, q_bb0, q_bbok, q_bbok2, Bool.true_eq_false, Bool.false_eq_true, reduceCtorEq, i_hook hh, h3, h4]; rfl
    | 2, _ =>
      refine ⟨F, q_ff86_refl, hs, ho, (by decide : 2 < 3), fun rt => ?_⟩
      rw [g_Firing_restFirst_86_12, ho]
      simp +decide only [q_onI_i, q_onJ_j, q_onS_s, q_onB_t, true_and, and_true, true_or, or_true, eq_self, true_implies, not_true_eq_false, not_false_eq_true, false_implies, q_bb0, q_bbok, q_bbok2, Bool.true_eq_false, Bool.false_eq_true, reduceCtorEq, i_hook hh, h3, h4]; rfl
  | 4, _, _ =>
    match o, ho3 with
    | 0, _ =>
      refine ⟨F, q_ff86_refl, hs, ho, (by decide : 0 < 3), fun rt => ?_⟩
      rw [g_Firing_restFirst_86_12, ho]
      simp +decide only [q_onI_i, q_onJ_j, q_onS_s, q_onB_t, true_and, and_true, true_or, or_true, eq_self, true_implies, not_true_eq_false, not_false_eq_true, false_implies, q_bb0, q_bbok, q_bbok2, Bool.true_eq_false, Bool.false_eq_true, reduceCtorEq, i_hook hh, h3, h4]; rfl
    | 1, _ =>
      refine ⟨F, q_ff86_refl, hs, ho, (by decide : 1 < 3), fun rt => ?_⟩
      rw [g_Firing_restFirst_86_12, ho]
      simp +decide only [q_onI_i, q_onJ_j, q_onS_s, q_onB_t, true_and, and_true, true_or, or_true, eq_self, true_implies, not_true_eq_false, not_false_eq_true, false_implies, q_bb0, q_bbok, q_bbok2, Bool.true_eq_false, Bool.false_eq_true, reduceCtorEq, i_hook hh, h3, h4]; rfl
    | 2, _ =>
      refine ⟨F, q_ff86_refl, hs, ho, (by decide : 2 < 3), fun rt => ?_⟩
      rw [g_Firing_restFirst_86_12, ho]
      simp +decide only [q_onI_i, q_onJ_j, q_onS_s, q_onB_t, true_and, and_true, true_or, or_true, eq_self, true_implies, not_true_eq_false, not_false_eq_true, false_implies, q_bb0, q_bbok, q_bbok2, Bool.true_eq_false, Bool.false_eq_true, reduceCtorEq, i_hook hh, h3, h4]; rfl
  | 5, _, _ =>
    match o, ho3 with
    | 0, _ =>
      refine ⟨F, q_ff86_refl, hs, ho, (by decide : 0 < 3), fun rt => ?_⟩
      rw [g_Firing_restFirst_86_12, ho]
      simp +decide only [q_onI_i, q_onJ_j, q_onS_s, q_onB_t, true_and, and_true, true_or, or_true, eq_self, true_implies, not_true_eq_false, not_false_eq_true, false_implies, q_bb0, q_bbok, q_bbok2, Bool.true_eq_false, Bool.false_eq_true, reduceCtorEq, i_hook hh, h3, h4, h5]; rfl
    | 1, _ =>
      refine ⟨F, q_ff86_refl, hs, ho, (by decide : 1 < 3), fun rt => ?_⟩
      rw [g_Firing_restFirst_86_12, ho]
      simp +decide only [q_onI_i, q_onJ_j, q_onS_s, q_onB_t, true_and, and_true, true_or, or_true, eq_self, true_implies, not_true_eq_false, not_false_eq_true, false_implies, q_bb0, q_bbok, q_bbok2, Bool.true_eq_false, Bool.false_eq_true, reduceCtorEq, i_hook hh, h3, h4]; rfl
    | 2, _ =>
      refine ⟨F, q_ff86_refl, hs, ho, (by decide : 2 < 3), fun rt => ?_⟩
      rw [g_Firing_restFirst_86_12, ho]
      simp +decide only [q_onI_i, q_onJ_j, q_onS_s, q_onB_t, true_and, and_true, true_or, or_true, eq_self, true_implies, not_true_eq_false, not_false_eq_true, false_implies, q_bb0, q_bbok, q_bbok2, Bool.true_eq_false, Bool.false_eq_true, reduceCtorEq, i_hook hh, h3, h4]; rfl
  | 8, _, _ =>
    match o, ho3 with
    | 0, _ =>
      refine ⟨F, q_ff86_refl, hs, ho, (by decide : 0 < 3), fun rt => ?_⟩
      rw [g_Firing_restFirst_86_12, ho]
      simp +decide only [q_onI_i, q_onJ_j, q_onS_s, q_onB_t, true_and, and_true, true_or, or_true, eq_self, true_implies, not_true_eq_false, not_false_eq_true, false_implies, q_bb0, q_bbok, q_bbok2, Bool.true_eq_false, Bool.false_eq_true, reduceCtorEq, i_hook hh, h3, h4]; rfl
    | 1, _ =>
      refine ⟨q_u F 86 3 0, hq3, hq3s, q_u_eq, (by decide : 0 < 3), fun rt => ?_⟩
      rw [g_Firing_restFirst_86_12, ho]
      simp +decide only [q_onI_i, q_onJ_j, q_onS_s, q_onB_t, true_and, and_true, true_or, or_true, eq_self, true_implies, not_true_eq_false, not_false_eq_true, false_implies, q_bb0, q_bbok, q_bbok2, Bool.true_eq_false, Bool.false_eq_true, reduceCtorEq, i_hook hh, h3, h4, hcat]; rfl
    | 2, _ =>
      refine ⟨F, q_ff86_refl, hs, ho, (by decide : 2 < 3), fun rt => ?_⟩
      rw [g_Firing_restFirst_86_12, ho]
      simp +decide only [q_onI_i, q_onJ_j, q_onS_s, q_onB_t, true_and, and_true, true_or, or_true, eq_self, true_implies, not_true_eq_false, not_false_eq_true, false_implies, q_bb0, q_bbok, q_bbok2, Bool.true_eq_false, Bool.false_eq_true, reduceCtorEq, i_hook hh, h3, h4]; rfl
/-- a hook gives by its function -/
theorem l_ak186 {L D n hk len m at' h : Nat} {J : Nat → Nat → Int64} {t : Nat} {I : Nat → Nat → Int32} {H T C : Nat → Int32} {x : Int32} {s : q_FS} (IH : q_aB86 H T C n hk len m) (hD : 2 * m + 5 ≤ D) (hat : at' + 1 + m = len) (hh : h < hk) (hx : q_fx86 I H T C n hk len) (hs : q_fs86 I s) (ho : I 86 3 = 0) : ∃ F, q_ff86 I F ∧ q_fs86 F (q_ak1 (q_ak H C len m) (H (96 + h)) (q_hp H h) x s (H (72 + h)).toNatClampNeg).2 ∧ F 86 3 = nI (q_ak1 (q_ak H C len m) (H (96 + h)) (q_hp H h) x s (H (72 + h)).toNatClampNeg).1.1 ∧ (q_ak1 (q_ak H C len m) (H (96 + h)) (q_hp H h) x s (H (72 + h)).toNatClampNeg).1.1 < 3 ∧ ∀ (rt : Value → q_Mem → Nat → Nat → Prop), q_X (q_W (D + 1)) rt 10 (86, [some (.ref 86), some (.int (nI at')), some (.int x), some (.int (nI h)), some (.ref (18 + h))], [.int (q_bb (decide ((H (72 + h)).toNatClampNeg = 3) || (decide ((H (72 + h)).toNatClampNeg = 6) || decide ((H (72 + h)).toNatClampNeg = 7))))], (q_mm L I J t), 0, 0) = rt (.int (q_ak1 (q_ak H C len m) (H (96 + h)) (q_hp H h) x s (H (72 + h)).toNatClampNeg).1.2) (q_mm L F J t) 0 0 := by
  obtain ⟨hc, hl2, hlen, hC⟩ := id hx
  have h24 := hc.2.2.2.1
  have h12 := hc.2.2.1
  obtain ⟨g0, g0', gn, g1, g2, g3, g4, f, hf, ef⟩ := q_ch_hook hc hh
  have hh24 : h < 24 := by omega
  obtain ⟨D', rfl⟩ : ∃ D', D = D' + 5 := ⟨D - 5, by omega⟩
  rw [ef] at g3 ⊢
  rw [q_clamp (show f < 2 ^ 31 by omega)]
  have hrest : ¬ f = 3 ∧ ¬ f = 6 ∧ ¬ f = 7 → ∃ F, q_ff86 I F ∧ q_fs86 F (q_ak1 (q_ak H C len m) (H (96 + h)) (q_hp H h) x s f).2 ∧ F 86 3 = nI (q_ak1 (q_ak H C len m) (H (96 + h)) (q_hp H h) x s f).1.1 ∧ (q_ak1 (q_ak H C len m) (H (96 + h)) (q_hp H h) x s f).1.1 < 3 ∧ ∀ (rt : Value → q_Mem → Nat → Nat → Prop), q_X (q_W (D' + 5 + 1)) rt 10 (86, [some (.ref 86), some (.int (nI at')), some (.int x), some (.int (nI h)), some (.ref (18 + h))], [.int (q_bb (decide (f = 3) || (decide (f = 6) || decide (f = 7))))], (q_mm L I J t), 0, 0) = rt (.int (q_ak1 (q_ak H C len m) (H (96 + h)) (q_hp H h) x s f).1.2) (q_mm L F J t) 0 0 := by
    intro hf3
    rw [q_ak1_aft f hf hf3.1 hf3.2.1 hf3.2.2]
    obtain ⟨F, f1, f2, f3, f4, f5⟩ := IH L (D' + 5) J t I (at' + 1) (q_hnd (H (96 + h)) x f) s hat hD hx hs ho
    have k3 : F (18 + h) 3 = nI f := by rw [f1.1 _ (by omega) (by omega) (by omega)]; exact g3
    have k4 : F (18 + h) 4 = H (96 + h) := by rw [f1.1 _ (by omega) (by omega) (by omega)]; exact g4
    obtain ⟨F', u1, u2, u3, u4, u5⟩ := l_thn86 (L := L) (J := J) (t := t) (x := x) IH hD hat hh24 hf hf3 (q_fx86_ff f1 hx) f2 f3 f4 k3 k4
    refine ⟨F', q_ff86_trans f1 u1, u2, u3, u4, fun rt => ?_⟩
    have hhand : ∀ {Q : Value → q_Mem → Prop}, q_W (D' + 5) 13 [.ref (18 + h), .int x] (q_mm L I J t) Q = Q (.int (q_hnd (H (96 + h)) x f)) (q_mm L I J t) := by
      intro Q
      rw [e_Firing_handedOn]
      match f, hf, hf3 with
      | 0, _, _ => simp +decide only [q_onI_i, q_onJ_j, q_onS_s, q_onB_t, true_and, and_true, true_or, or_true, eq_self, true_implies, not_true_eq_false, not_false_eq_true, false_implies, q_bb0, q_bbok, q_bbok2, Bool.true_eq_false, Bool.false_eq_true, reduceCtorEq, i_hook hh24, g3, g4]; rfl
      | 1, _, _ => simp +decide only [q_onI_i, q_onJ_j, q_onS_s, q_onB_t, true_and, and_true, true_or, or_true, eq_self, true_implies, not_true_eq_false, not_false_eq_true, false_implies, q_bb0, q_bbok, q_bbok2, Bool.true_eq_false, Bool.false_eq_true, reduceCtorEq, i_hook hh24, g3, g4]; rfl
      | 2, _, _ => simp +decide only [q_onI_i, q_onJ_j, q_onS_s, q_onB_t, true_and, and_true, true_or, or_true, eq_self, true_implies, not_true_eq_false, not_false_eq_true, false_implies, q_bb0, q_bbok, q_bbok2, Bool.true_eq_false, Bool.false_eq_true, reduceCtorEq, i_hook hh24, g3, g4]; rfl
      | 4, _, _ => simp +decide only [q_onI_i, q_onJ_j, q_onS_s, q_onB_t, true_and, and_true, true_or, or_true, eq_self, true_implies, not_true_eq_false, not_false_eq_true, false_implies, q_bb0, q_bbok, q_bbok2, Bool.true_eq_false, Bool.false_eq_true, reduceCtorEq, i_hook hh24, g3, g4]; rfl
      | 5, _, _ => simp +decide only [q_onI_i, q_onJ_j, q_onS_s, q_onB_t, true_and, and_true, true_or, or_true, eq_self, true_implies, not_true_eq_false, not_false_eq_true, false_implies, q_bb0, q_bbok, q_bbok2, Bool.true_eq_false, Bool.false_eq_true, reduceCtorEq, i_hook hh24, g3, g4]; rfl
      | 8, _, _ => simp +decide only [q_onI_i, q_onJ_j, q_onS_s, q_onB_t, true_and, and_true, true_or, or_true, eq_self, true_implies, not_true_eq_false, not_false_eq_true, false_implies, q_bb0, q_bbok, q_bbok2, Bool.true_eq_false, Bool.false_eq_true, reduceCtorEq, i_hook hh24, g3, g4]; rfl
    rw [decide_eq_false hf3.1, decide_eq_false hf3.2.1, decide_eq_false hf3.2.2, g_Firing_ask_86_86, q_br (by decide), e_Firing_restFirst_86, hhand, q_onI_i, g_Firing_restFirst_86_9, q_n1, f5, q_onI_i, u5, q_onI_i, g_Firing_ask_86_108]
  match f, hf, g3, hrest with
  | 0, _, _, hr => exact hr (by decide)
  | 1, _, _, hr => exact hr (by decide)
  | 2, _, _, hr => exact hr (by decide)
  | 4, _, _, hr => exact hr (by decide)
  | 5, _, _, hr => exact hr (by decide)
  | 8, _, _, hr => exact hr (by decide)
  | 3, _, g3, _ =>
    unfold q_ak1
    have e1 : q_bb (decide (3 = 3) || (decide (3 = 6) || decide (3 = 7))) = 1 := rfl
    by_cases e : q_ten x = q_ten (H (96 + h))
    · rw [if_pos e]
      refine ⟨I, q_ff86_refl, hs, by rw [ho]; rfl, (by decide : 0 < 3), fun rt => ?_⟩
      rw [e1, g_Firing_ask_86_86, q_brn (by decide), e_Firing_lookFirst_86]
      simp +decide only [q_onI_i, q_onJ_j, q_onS_s, q_onB_t, true_and, and_true, true_or, or_true, eq_self, true_implies, not_true_eq_false, not_false_eq_true, false_implies, q_bb0, q_bbok, q_bbok2, Bool.true_eq_false, Bool.false_eq_true, reduceCtorEq, i_hook hh24, g3, g4, s_fm10, g_Firing_lookFirst_86_14, g_Firing_lookFirst_86_23, g_Firing_ask_86_97, g_Firing_ask_86_108, e]
    · rw [if_neg e]
      obtain ⟨F, f1, f2, f3, f4, f5⟩ := IH L (D' + 5) J t I (at' + 1) x s hat hD hx hs ho
      refine ⟨F, f1, f2, f3, f4, fun rt => ?_⟩
      rw [e1, g_Firing_ask_86_86, q_brn (by decide), e_Firing_lookFirst_86]
      simp +decide only [q_onI_i, q_onJ_j, q_onS_s, q_onB_t, true_and, and_true, true_or, or_true, eq_self, true_implies, not_true_eq_false, not_false_eq_true, false_implies, q_bb0, q_bbok, q_bbok2, Bool.true_eq_false, Bool.false_eq_true, reduceCtorEq, i_hook hh24, g3, g4, s_fm10, g_Firing_lookFirst_86_14, g_Firing_lookFirst_86_23, g_Firing_ask_86_97, g_Firing_ask_86_108, e, q_n1, f5, g_Firing_lookFirst_86_96]
  | 6, _, g3, _ =>
    unfold q_ak1
    have hI1 : q_ff86 I (q_u I 89 (q_hp H h) (I 89 (q_hp H h) + x)) := ⟨fun o _ _ a => q_u_ne a, fun b _ _ => by rw [q_u_ne (by decide)]⟩
    have hs1 : q_fs86 (q_u I 89 (q_hp H h) (I 89 (q_hp H h) + x)) (s.1, s.2.1, q_up s.2.2 (q_hp H h) (s.2.2 (q_hp H h) + x)) := by
      refine ⟨by rw [q_u_ne (by decide)]; exact hs.1, hs.2.1, fun i a b => by rw [q_u_ne (by decide)]; exact hs.2.2.1 i a b, fun p hp => ?_⟩
      show _ = q_up s.2.2 (q_hp H h) (s.2.2 (q_hp H h) + x) p
      by_cases e : p = q_hp H h
      · subst e
        rw [q_u_eq, q_up_eq, hs.2.2.2 _ hp]
      · rw [q_u_nk e, q_up_ne e]
        exact hs.2.2.2 p hp
    obtain ⟨F, f1, f2, f3, f4, f5⟩ := IH L (D' + 5) J t _ (at' + 1) x _ hat hD (q_fx86_ff hI1 hx) hs1 (by rw [q_u_ne (by decide)]; exact ho)
    refine ⟨F, q_ff86_trans hI1 f1, f2, f3, f4, fun rt => ?_⟩
    have hpl : ∀ {Q : Value → q_Mem → Prop}, q_W (D' + 5) 20 [.ref 3, .int (nI (q_hp H h))] (q_mm L I J t) Q = Q (.int 1) (q_mm L I J t) := by
      intro Q
      rw [s_hasPlug hc.1 h12, q_in_nI (by omega), decide_eq_true gn]
      rfl
    have g0h := g0
    rw [show q_bb (decide (6 = 3) || (decide (6 = 6) || decide (6 = 7))) = 1 from rfl, g_Firing_ask_86_86, q_brn (by decide), e_Firing_lookFirst_86]
    simp +decide only [q_onI_i, q_onJ_j, q_onS_s, q_onB_t, true_and, and_true, true_or, or_true, eq_self, true_implies, not_true_eq_false, not_false_eq_true, false_implies, q_bb0, q_bbok, q_bbok2, Bool.true_eq_false, Bool.false_eq_true, reduceCtorEq, i_hook hh24, g3, g4, g0, hpl, g_Firing_lookFirst_86_72, q_clamp (show q_hp H h < 2 ^ 31 by omega), q_bnd (show q_hp H h < 12 by omega) (by decide), g_Firing_ask_86_97, g_Firing_ask_86_108, q_n1, g_Firing_lookFirst_86_96, f5]
  | 7, _, g3, _ =>
    unfold q_ak1
    have e1 : q_bb (decide (7 = 3) || (decide (7 = 6) || decide (7 = 7))) = 1 := rfl
    by_cases e : x < H (96 + h)
    · have e2 : ¬ H (96 + h) ≤ x := Int32.not_le.mpr e
      rw [if_pos e]
      refine ⟨q_u I 86 3 1, ⟨fun o a _ _ => q_u_ne a, fun b a _ => q_u_nk a⟩, ⟨by rw [q_u_nk (by decide)]; exact hs.1, hs.2.1, fun i a b => by rw [q_u_ne (by decide)]; exact hs.2.2.1 i a b, fun p hp => by rw [q_u_ne (by decide)]; exact hs.2.2.2 p hp⟩, q_u_eq, (by decide : 1 < 3), fun rt => ?_⟩
      rw [e1, g_Firing_ask_86_86, q_brn (by decide), e_Firing_lookFirst_86]
      simp +decide only [q_onI_i, q_onJ_j, q_onS_s, q_onB_t, true_and, and_true, true_or, or_true, eq_self, true_implies, not_true_eq_false, not_false_eq_true, false_implies, q_bb0, q_bbok, q_bbok2, Bool.true_eq_false, Bool.false_eq_true, reduceCtorEq, i_hook hh24, g3, g4, e2, g_Firing_ask_86_97, g_Firing_ask_86_108]
    · have e2 : H (96 + h) ≤ x := Int32.not_lt.mp e
      rw [if_neg e]
      obtain ⟨F, f1, f2, f3, f4, f5⟩ := IH L (D' + 5) J t I (at' + 1) x s hat hD hx hs ho
      refine ⟨F, f1, f2, f3, f4, fun rt => ?_⟩
      rw [e1, g_Firing_ask_86_86, q_brn (by decide), e_Firing_lookFirst_86]
      simp +decide only [q_onI_i, q_onJ_j, q_onS_s, q_onB_t, true_and, and_true, true_or, or_true, eq_self, true_implies, not_true_eq_false, not_false_eq_true, false_implies, q_bb0, q_bbok, q_bbok2, Bool.true_eq_false, Bool.false_eq_true, reduceCtorEq, i_hook hh24, g3, g4, e2, g_Firing_ask_86_97, g_Firing_ask_86_108, q_n1, f5, g_Firing_lookFirst_86_96]
theorem c_ask86 {n hk len : Nat} {H T C : Nat → Int32} : ∀ m, q_aB86 H T C n hk len m
  | 0 => fun L D J t I at' x s hat hD hx hs ho => by
    obtain ⟨D', rfl⟩ : ∃ D', D = D' + 1 := ⟨D - 1, by omega⟩
    refine ⟨I, q_ff86_refl, hs, by rw [ho]; rfl, (by decide : 0 < 3), fun {Q} => ?_⟩
    have hlen := hx.2.2.1
    rw [e_Firing_ask_86, q_brn (nI_pos (by omega)), hx.2.1, q_ltN (by omega) (by omega), q_brn (by omega)]
    rfl
  | m + 1 => fun L D J t I at' x s hat hD hx hs ho => by
    obtain ⟨D', rfl⟩ : ∃ D', D = D' + 2 := ⟨D - 2, by omega⟩
    obtain ⟨hc, hl2, hlen, hC⟩ := id hx
    have h24 := hc.2.2.2.1
    obtain ⟨h5, hran, htr, hno⟩ := id hs
    have eat : len - (m + 1) = at' := by omega
    obtain ⟨hCa, h, hh, eh⟩ := hC at' (by omega)
    have hcl : (C at').toNatClampNeg = h := by rw [eh, q_clamp (by omega)]
    unfold q_ak
    rw [eat, hcl]
    by_cases hr : 200 ≤ s.1
    · rw [if_pos hr]
      refine ⟨q_u I 86 3 2, ⟨fun o a _ _ => q_u_ne a, fun b a _ => q_u_nk a⟩, ⟨by rw [q_u_nk (by decide)]; exact hs.1, hs.2.1, fun i a b => by rw [q_u_ne (by decide)]; exact hs.2.2.1 i a b, fun p hp => by rw [q_u_ne (by decide)]; exact hs.2.2.2 p hp⟩, q_u_eq, (by decide : 2 < 3), fun {Q} => ?_⟩
      rw [e_Firing_ask_86, q_brn (nI_pos (by omega)), hx.2.1, q_ltN (by omega) (by omega), q_br (by omega), h5, show (200 : Int32) = nI 200 by decide, q_ltN (by omega) (by decide), q_brn (by omega)]
    · rw [if_neg hr]
      have hgo : ∃ I1, q_ff86 I I1 ∧ q_fs86 I1 (q_s1 s (C at')) ∧ I1 86 3 = 0 ∧ ∀ {Q : Value → q_Mem → Prop}, q_W (D' + 2) 10 [.ref 86, .int (nI at'), .int x] (q_mm L I J t) Q = q_X (q_W (D' + 1)) (fun v μ _ _ => Q v μ) 10 (86, [some (.ref 86), some (.int (nI at')), some (.int x), some (.int (nI h)), some (.ref (18 + h))], [.int (q_bb (decide ((H (72 + h)).toNatClampNeg = 3) || (decide ((H (72 + h)).toNatClampNeg = 6) || decide ((H (72 + h)).toNatClampNeg = 7))))], q_mm L I1 J t, 0, 0) := by
        obtain ⟨g0, g0', gn, g1, g2, g3, g4, f, hf, ef⟩ := q_ch_hook hc hh
        have hh24 : h < 24 := by omega
        rw [ef] at g3 ⊢
        rw [q_clamp (show f < 2 ^ 31 by omega)]
        by_cases hr30 : 30 ≤ s.1
        · refine ⟨q_u I 86 5 (nI (s.1 + 1)), ⟨fun o a _ _ => q_u_ne a, fun b _ a => q_u_nk a⟩, ⟨q_u_eq, by show s.1 + 1 ≤ 200; omega, fun i a b => ?_, fun p hp => by rw [q_u_ne (by decide)]; exact hno p hp⟩, by rw [q_u_nk (by decide)]; exact ho, fun {Q} => ?_⟩
          · show _ = (if s.1 < 30 then q_up s.2.1 s.1 (C at') else s.2.1) i
            rw [if_neg (by omega), q_u_ne (by decide)]
            exact htr i a (by omega)
          · have z3 : q_u I 86 5 (nI (s.1 + 1)) (18 + h) 3 = nI f := by rw [q_u_ne (by omega)]; exact g3
            rw [e_Firing_ask_86, q_brn (nI_pos (by omega)), hx.2.1, q_ltN (by omega) (by omega), q_br (by omega), h5, show (200 : Int32) = nI 200 by decide, q_ltN (by omega) (by decide), q_br (by omega), show (30 : Int32) = nI 30 by decide, q_leN (by decide) (by omega), q_br (by omega), q_n1]
            simp only [q_clamp (show at' < 2 ^ 31 by omega), q_bnd (show at' < 24 by omega) (by decide), hCa, eh, q_clamp (show h < 2 ^ 31 by omega), q_bnd hh24 (by decide), r_hook hh24, i_hook hh24, q_onI_i, q_onJ_j, q_onS_s, q_onB_t, true_and, and_true, true_or, or_true, eq_self, true_implies, not_true_eq_false, not_false_eq_true, false_implies, q_bb0, q_bbok, q_bbok2, Bool.true_eq_false, Bool.false_eq_true, reduceCtorEq, z3, s_looksFirst hf]
        · refine ⟨q_u (q_u I 88 s.1 (nI h)) 86 5 (nI (s.1 + 1)), ⟨fun o a b _ => by rw [q_u_ne a, q_u_ne b], fun b _ a => by rw [q_u_nk a, q_u_ne (by decide)]⟩, ⟨q_u_eq, by show s.1 + 1 ≤ 200; omega, fun i a b => ?_, fun p hp => by rw [q_u_ne (by decide), q_u_ne (by decide)]; exact hno p hp⟩, by rw [q_u_nk (by decide), q_u_ne (by decide)]; exact ho, fun {Q} => ?_⟩
          · show _ = (if s.1 < 30 then q_up s.2.1 s.1 (C at') else s.2.1) i
            rw [if_pos (by omega), q_u_ne (by decide)]
            by_cases e : i = s.1
            · subst e
              rw [q_u_eq, q_up_eq, eh]
            · rw [q_u_nk e, q_up_ne e]
              exact htr i a (by have : i < s.1 + 1 := b; omega)
          · have z5 : q_u I 88 s.1 (nI h) 86 5 = nI s.1 := by rw [q_u_ne (by decide)]; exact h5
            have z3 : q_u (q_u I 88 s.1 (nI h)) 86 5 (nI (s.1 + 1)) (18 + h) 3 = nI f := by rw [q_u_ne (by omega), q_u_ne (by omega)]; exact g3
            rw [e_Firing_ask_86, q_brn (nI_pos (by omega)), hx.2.1, q_ltN (by omega) (by omega), q_br (by omega), h5, show (200 : Int32) = nI 200 by decide, q_ltN (by omega) (by decide), q_br (by omega), show (30 : Int32) = nI 30 by decide, q_leN (by decide) (by omega), q_brn (by omega)]
            simp only [q_clamp (show at' < 2 ^ 31 by omega), q_bnd (show at' < 24 by omega) (by decide), hCa, eh, q_clamp (show s.1 < 2 ^ 31 by omega), q_bnd (show s.1 < 30 by omega) (by decide), z5, q_n1, q_clamp (show h < 2 ^ 31 by omega), q_bnd hh24 (by decide), r_hook hh24, i_hook hh24, q_onI_i, q_onJ_j, q_onS_s, q_onB_t, true_and, and_true, true_or, or_true, eq_self, true_implies, not_true_eq_false, not_false_eq_true, false_implies, q_bb0, q_bbok, q_bbok2, Bool.true_eq_false, Bool.false_eq_true, reduceCtorEq, z3, s_looksFirst hf]
      obtain ⟨I1, i1, i2, i3, i4⟩ := hgo
      obtain ⟨F, f1, f2, f3, f4, f5⟩ := l_ak186 (L := L) (D := D') (J := J) (t := t) (at' := at') (x := x) (c_ask86 m) (by omega) (by omega) hh (q_fx86_ff i1 hx) i2 i3
      exact ⟨F, q_ff86_trans i1 f1, f2, f3, f4, fun {Q} => i4.trans (f5 _)⟩
def q_fs90 (I : Nat → Nat → Int32) (s : q_FS) : Prop := I 90 5 = nI s.1 ∧ s.1 ≤ 200 ∧ (∀ i, i < 30 → i < s.1 → I 92 i = s.2.1 i) ∧ ∀ p, p < 12 → I 93 p = s.2.2 p
def q_ff90 (I F : Nat → Nat → Int32) : Prop := (∀ o, o ≠ 90 → o ≠ 92 → o ≠ 93 → F o = I o) ∧ ∀ b, b ≠ 3 → b ≠ 5 → F 90 b = I 90 b
theorem q_ff90_refl {I : Nat → Nat → Int32} : q_ff90 I I := ⟨fun _ _ _ _ => rfl, fun _ _ _ => rfl⟩
theorem q_ff90_trans {I I1 I2 : Nat → Nat → Int32} (h1 : q_ff90 I I1) (h2 : q_ff90 I1 I2) : q_ff90 I I2 := ⟨fun o a b c => (h2.1 o a b c).trans (h1.1 o a b c), fun x a b => (h2.2 x a b).trans (h1.2 x a b)⟩
/-- what stays as it is while a value is fired -/
def q_fx90 (I : Nat → Nat → Int32) (H T C : Nat → Int32) (n hk len : Nat) : Prop := q_ch I H T n hk ∧ I 90 2 = nI len ∧ len ≤ 24 ∧ ∀ i, i < len → I 91 i = C i ∧ ∃ h, h < hk ∧ C i = nI h
theorem q_fx90_ff {I F : Nat → Nat → Int32} {H T C : Nat → Int32} {n hk len : Nat} (f : q_ff90 I F) (h : q_fx90 I H T C n hk len) : q_fx90 F H T C n hk len := by
  obtain ⟨a, b, c, d⟩ := h
  exact ⟨q_ch_congr (fun o ho => f.1 o (by omega) (by omega) (by omega)) a, by rw [f.2 2 (by decide) (by decide)]; exact b, c, fun i hi => by rw [f.1 91 (by decide) (by decide) (by decide)]; exact d i hi⟩
def q_aB90 (H T C : Nat → Int32) (n hk len m : Nat) : Prop := ∀ (L D : Nat) (J : Nat → Nat → Int64) (t : Nat) (I : Nat → Nat → Int32) (at' : Nat) (x : Int32) (s : q_FS), at' + m = len → 2 * m + 5 ≤ D → q_fx90 I H T C n hk len → q_fs90 I s → I 90 3 = 0 → ∃ F, q_ff90 I F ∧ q_fs90 F (q_ak H C len m x s).2 ∧ F 90 3 = nI (q_ak H C len m x s).1.1 ∧ (q_ak H C len m x s).1.1 < 3 ∧ ∀ {Q : Value → q_Mem → Prop}, q_W D 10 [.ref 90, .int (nI at'), .int x] (q_mm L I J t) Q = Q (.int (q_ak H C len m x s).1.2) (q_mm L F J t)
/-- behind the rest of a hook that asks it first -/
theorem l_thn90 {L D n hk len m at' h f : Nat} {J : Nat → Nat → Int64} {t : Nat} {F : Nat → Nat → Int32} {H T C : Nat → Int32} {k x : Int32} {r : q_FR} (IH : q_aB90 H T C n hk len m) (hD : 2 * m + 5 ≤ D) (hat : at' + 1 + m = len) (hh : h < 24) (hf : f < 9) (hf3 : ¬ f = 3 ∧ ¬ f = 6 ∧ ¬ f = 7) (hx : q_fx90 F H T C n hk len) (hs : q_fs90 F r.2) (ho : F 90 3 = nI r.1.1) (ho3 : r.1.1 < 3) (h3 : F (18 + h) 3 = nI f) (h4 : F (18 + h) 4 = k) : ∃ F', q_ff90 F F' ∧ q_fs90 F' (q_aft (q_ak H C len m) k r f).2 ∧ F' 90 3 = nI (q_aft (q_ak H C len m) k r f).1.1 ∧ (q_aft (q_ak H C len m) k r f).1.1 < 3 ∧ ∀ (rt : Value → q_Mem → Nat → Nat → Prop), q_X (q_W D) rt 14 (12, [some (.ref 90), some (.int (nI at')), some (.ref (18 + h)), some (.int x), none], [.int r.1.2], q_mm L F J t, 0, 0) = rt (.int (q_aft (q_ak H C len m) k r f).1.2) (q_mm L F' J t) 0 0 := by
  obtain ⟨⟨o, v⟩, s'⟩ := r
  dsimp only at hs ho ho3
  have h5 : F 90 5 = nI s'.1 := hs.1
  have hne : 18 + h ≠ 90 := by omega
  have hcat : q_u F 90 3 0 (18 + h) 4 = k := by rw [q_u_ne hne]; exact h4
  have hq3 : q_ff90 F (q_u F 90 3 0) := ⟨fun o a _ _ => q_u_ne a, fun b a _ => q_u_nk a⟩
  have hq3s : q_fs90 (q_u F 90 3 0) s' := ⟨by rw [q_u_nk (by decide)]; exact hs.1, hs.2.1, fun i a b => by rw [q_u_ne (by decide)]; exact hs.2.2.1 i a b, fun p hp => by rw [q_u_ne (by decide)]; exact hs.2.2.2 p hp⟩
  match f, hf, hf3 with
  | 0, _, _ =>
    refine ⟨F, q_ff90_refl, hs, ho, ho3, fun rt => ?_⟩
    rw [g_Firing_restFirst_90_12, ho]
    match o, ho3 with
    | 0, _ => simp +decide only [q_onI_i, q_onJ_j, q_onS_s, q_onB_t, true_and, and_true, true_or, or_true, eq_self, true_implies, not_true_eq_false, not_false_eq_true, false_implies, q_bb0, q_bbok, q_bbok2, Bool.true_eq_false, Bool.false_eq_true, reduceCtorEq, i_hook hh, h3]; rfl
    | 1, _ => simp +decide only [q_onI_i, q_onJ_j, q_onS_s, q_onB_t, true_and, and_true, true_or, or_true, eq_self, true_implies, not_true_eq_false, not_false_eq_true, false_implies, q_bb0, q_bbok, q_bbok2, Bool.true_eq_false, Bool.false_eq_true, reduceCtorEq, i_hook hh, h3]; rfl
    | 2, _ => simp +decide only [q_onI_i, q_onJ_j, q_onS_s, q_onB_t, true_and, and_true, true_or, or_true, eq_self, true_implies, not_true_eq_false, not_false_eq_true, false_implies, q_bb0, q_bbok, q_bbok2, Bool.true_eq_false, Bool.false_eq_true, reduceCtorEq, i_hook hh, h3]; rfl
  | 1, _, _ =>
    match o, ho3 with
    | 0, _ =>
      refine ⟨F, q_ff90_refl, hs, ho, (by decide : 0 < 3), fun rt => ?_⟩
      rw [g_Firing_restFirst_90_12, ho]
      simp +decide only [q_onI_i, q_onJ_j, q_onS_s, q_onB_t, true_and, and_true, true_or, or_true, eq_self, true_implies, not_true_eq_false, not_false_eq_true, false_implies, q_bb0, q_bbok, q_bbok2, Bool.true_eq_false, Bool.false_eq_true, reduceCtorEq, i_hook hh, h3, h4]; rfl
    | 1, _ =>
      refine ⟨F, q_ff90_refl, hs, ho, (by decide : 1 < 3), fun rt => ?_⟩
      rw [g_Firing_restFirst_90_12, ho]
      simp +decide only [q_onI_i, q_onJ_j, q_onS_s, q_onB_t, true_and, and_true, true_or, or_true, eq_self, true_implies, not_true_eq_false, not_false_eq_true, false_implies, q_bb0, q_bbok, q_bbok2, Bool.true_eq_false, Bool.false_eq_true, reduceCtorEq, i_hook hh, h3, h4]; rfl
    | 2, _ =>
      refine ⟨F, q_ff90_refl, hs, ho, (by decide : 2 < 3), fun rt => ?_⟩
      rw [g_Firing_restFirst_90_12, ho]
      simp +decide only [q_onI_i, q_onJ_j, q_onS_s, q_onB_t, true_and, and_true, true_or, or_true, eq_self, true_implies, not_true_eq_false, not_false_eq_true, false_implies, q_bb0, q_bbok, q_bbok2, Bool.true_eq_false, Bool.false_eq_true, reduceCtorEq, i_hook hh, h3, h4]; rfl
  | 2, _, _ =>
    match o, ho3 with
    | 0, _ =>
      obtain ⟨F', f1, f2, f3, f4, f5⟩ := IH L D J t F (at' + 1) v s' hat hD hx hs (by rw [ho]; rfl)
      refine ⟨F', f1, f2, f3, f4, fun rt => ?_⟩
      rw [g_Firing_restFirst_90_12, ho]
      simp +decide only [q_onI_i, q_onJ_j, q_onS_s, q_onB_t, true_and, and_true, true_or, or_true, eq_self, true_implies, not_true_eq_false, not_false_eq_true, false_implies, q_bb0, q_bbok, q_bbok2, Bool.true_eq_false, Bool.false_eq_true, reduceCtorEq, i_hook hh, h3, h4, q_n1, f5, g_Firing_restFirst_90_109]; rfl
    | 1, _ =>
      refine ⟨F, q_ff90_refl, hs, ho, (by decide : 1 < 3), fun rt => ?_⟩
      rw [g_Firing_restFirst_90_12, ho]
      simp +decide only [q_onI_i, q_onJ_j, q_onS_s, q_onB_t, true_and, and_true, true_or, or_true, eq_self, true_implies, not_true_eq_false, not_false_eq_true, false_implies, q_bb0, q_bbok, q_bbok2, Bool.true_eq_false, Bool.false_eq_true, reduceCtorEq, i_hook hh, h3, h4]; rfl
    | 2, _ =>
      refine ⟨F, q_ff90_refl, hs, ho, (by decide : 2 < 3), fun rt => ?_⟩
      rw [g_Firing_restFirst_90_12, ho]
      simp +decide only [q_onI_i, q_onJ_j, q_onS_s, q_onB_t, true_and, and_true, true_or, or_true, eq_self, true_implies, not_true_eq_false, not_false_eq_true, false_implies, q_bb0, q_bbok, q_bbok2, Bool.true_eq_false, Bool.false_eq_true, reduceCtorEq, i_hook hh, h3, h4]; rfl
  | 4, _, _ =>
    match o, ho3 with
    | 0, _ =>
      refine ⟨F, q_ff90_refl, hs, ho, (by decide : 0 < 3), fun rt => ?_⟩
      rw [g_Firing_restFirst_90_12, ho]
      simp +decide only [q_onI_i, q_onJ_j, q_onS_s, q_onB_t, true_and, and_true, true_or, or_true, eq_self, true_implies, not_true_eq_false, not_false_eq_true, false_implies, q_bb0, q_bbok, q_bbok2, Bool.true_eq_false, Bool.false_eq_true, reduceCtorEq, i_hook hh, h3, h4]; rfl
    | 1, _ =>
      refine ⟨F, q_ff90_refl, hs, ho, (by decide : 1 < 3), fun rt => ?_⟩
      rw [g_Firing_restFirst_90_12, ho]
      simp +decide only [q_onI_i, q_onJ_j, q_onS_s, q_onB_t, true_and, and_true, true_or, or_true, eq_self, true_implies, not_true_eq_false, not_false_eq_true, false_implies, q_bb0, q_bbok, q_bbok2, Bool.true_eq_false, Bool.false_eq_true, reduceCtorEq, i_hook hh, h3, h4]; rfl
    | 2, _ =>
      refine ⟨F, q_ff90_refl, hs, ho, (by decide : 2 < 3), fun rt => ?_⟩
      rw [g_Firing_restFirst_90_12, ho]
      simp +decide only [q_onI_i, q_onJ_j, q_onS_s, q_onB_t, true_and, and_true, true_or, or_true, eq_self, true_implies, not_true_eq_false, not_false_eq_true, false_implies, q_bb0, q_bbok, q_bbok2, Bool.true_eq_false, Bool.false_eq_true, reduceCtorEq, i_hook hh, h3, h4]; rfl
  | 5, _, _ =>
    match o, ho3 with
    | 0, _ =>
      refine ⟨F, q_ff90_refl, hs, ho, (by decide : 0 < 3), fun rt => ?_⟩
      rw [g_Firing_restFirst_90_12, ho]
      simp +decide only [q_onI_i, q_onJ_j, q_onS_s, q_onB_t, true_and, and_true, true_or, or_true, eq_self, true_implies, not_true_eq_false, not_false_eq_true, false_implies, q_bb0, q_bbok, q_bbok2, Bool.true_eq_false, Bool.false_eq_true, reduceCtorEq, i_hook hh, h3, h4, h5]; rfl
    | 1, _ =>
      refine ⟨F, q_ff90_refl, hs, ho, (by decide : 1 < 3), fun rt => ?_⟩
      rw [g_Firing_restFirst_90_12, ho]
      simp +decide only [q_onI_i, q_onJ_j, q_onS_s, q_onB_t, true_and, and_true, true_or, or_true, eq_self, true_implies, not_true_eq_false, not_false_eq_true, false_implies, q_bb0, q_bbok, q_bbok2, Bool.true_eq_false, Bool.false_eq_true, reduceCtorEq, i_hook hh, h3, h4]; rfl
    | 2, _ =>
      refine ⟨F, q_ff90_refl, hs, ho, (by decide : 2 < 3), fun rt => ?_⟩
      rw [g_Firing_restFirst_90_12, ho]
      simp +decide only [q_onI_i, q_onJ_j, q_onS_s, q_onB_t, true_and, and_true, true_or, or_true, eq_self, true_implies, not_true_eq_false, not_false_eq_true, false_implies, q_bb0, q_bbok, q_bbok2, Bool.true_eq_false, Bool.false_eq_true, reduceCtorEq, i_hook hh, h3, h4]; rfl
  | 8, _, _ =>
    match o, ho3 with
    | 0, _ =>
      refine ⟨F, q_ff90_refl, hs, ho, (by decide : 0 < 3), fun rt => ?_⟩
      rw [g_Firing_restFirst_90_12, ho]
      simp +decide only [q_onI_i, q_onJ_j, q_onS_s, q_onB_t, true_and, and_true, true_or, or_true, eq_self, true_implies, not_true_eq_false, not_false_eq_true, false_implies, q_bb0, q_bbok, q_bbok2, Bool.true_eq_false, Bool.false_eq_true, reduceCtorEq, i_hook hh, h3, h4]; rfl
    | 1, _ =>
      refine ⟨q_u F 90 3 0, hq3, hq3s, q_u_eq, (by decide : 0 < 3), fun rt => ?_⟩
      rw [g_Firing_restFirst_90_12, ho]
      simp +decide only [q_onI_i, q_onJ_j, q_onS_s, q_onB_t, true_and, and_true, true_or, or_true, eq_self, true_implies, not_true_eq_false, not_false_eq_true, false_implies, q_bb0, q_bbok, q_bbok2, Bool.true_eq_false, Bool.false_eq_true, reduceCtorEq, i_hook hh, h3, h4, hcat]; rfl
    | 2, _ =>
      refine ⟨F, q_ff90_refl, hs, ho, (by decide : 2 < 3), fun rt => ?_⟩
      rw [g_Firing_restFirst_90_12, ho]
      simp +decide only [q_onI_i, q_onJ_j, q_onS_s, q_onB_t, true_and, and_true, true_or, or_true, eq_self, true_implies, not_true_eq_false, not_false_eq_true, false_implies, q_bb0, q_bbok, q_bbok2, Bool.true_eq_false, Bool.false_eq_true, reduceCtorEq, i_hook hh, h3, h4]; rfl
/-- a hook gives by its function -/
theorem l_ak190 {L D n hk len m at' h : Nat} {J : Nat → Nat → Int64} {t : Nat} {I : Nat → Nat → Int32} {H T C : Nat → Int32} {x : Int32} {s : q_FS} (IH : q_aB90 H T C n hk len m) (hD : 2 * m + 5 ≤ D) (hat : at' + 1 + m = len) (hh : h < hk) (hx : q_fx90 I H T C n hk len) (hs : q_fs90 I s) (ho : I 90 3 = 0) : ∃ F, q_ff90 I F ∧ q_fs90 F (q_ak1 (q_ak H C len m) (H (96 + h)) (q_hp H h) x s (H (72 + h)).toNatClampNeg).2 ∧ F 90 3 = nI (q_ak1 (q_ak H C len m) (H (96 + h)) (q_hp H h) x s (H (72 + h)).toNatClampNeg).1.1 ∧ (q_ak1 (q_ak H C len m) (H (96 + h)) (q_hp H h) x s (H (72 + h)).toNatClampNeg).1.1 < 3 ∧ ∀ (rt : Value → q_Mem → Nat → Nat → Prop), q_X (q_W (D + 1)) rt 10 (86, [some (.ref 90), some (.int (nI at')), some (.int x), some (.int (nI h)), some (.ref (18 + h))], [.int (q_bb (decide ((H (72 + h)).toNatClampNeg = 3) || (decide ((H (72 + h)).toNatClampNeg = 6) || decide ((H (72 + h)).toNatClampNeg = 7))))], (q_mm L I J t), 0, 0) = rt (.int (q_ak1 (q_ak H C len m) (H (96 + h)) (q_hp H h) x s (H (72 + h)).toNatClampNeg).1.2) (q_mm L F J t) 0 0 := by
  obtain ⟨hc, hl2, hlen, hC⟩ := id hx
  have h24 := hc.2.2.2.1
  have h12 := hc.2.2.1
  obtain ⟨g0, g0', gn, g1, g2, g3, g4, f, hf, ef⟩ := q_ch_hook hc hh
  have hh24 : h < 24 := by omega
  obtain ⟨D', rfl⟩ : ∃ D', D = D' + 5 := ⟨D - 5, by omega⟩
  rw [ef] at g3 ⊢
  rw [q_clamp (show f < 2 ^ 31 by omega)]
  have hrest : ¬ f = 3 ∧ ¬ f = 6 ∧ ¬ f = 7 → ∃ F, q_ff90 I F ∧ q_fs90 F (q_ak1 (q_ak H C len m) (H (96 + h)) (q_hp H h) x s f).2 ∧ F 90 3 = nI (q_ak1 (q_ak H C len m) (H (96 + h)) (q_hp H h) x s f).1.1 ∧ (q_ak1 (q_ak H C len m) (H (96 + h)) (q_hp H h) x s f).1.1 < 3 ∧ ∀ (rt : Value → q_Mem → Nat → Nat → Prop), q_X (q_W (D' + 5 + 1)) rt 10 (86, [some (.ref 90), some (.int (nI at')), some (.int x), some (.int (nI h)), some (.ref (18 + h))], [.int (q_bb (decide (f = 3) || (decide (f = 6) || decide (f = 7))))], (q_mm L I J t), 0, 0) = rt (.int (q_ak1 (q_ak H C len m) (H (96 + h)) (q_hp H h) x s f).1.2) (q_mm L F J t) 0 0 := by
    intro hf3
    rw [q_ak1_aft f hf hf3.1 hf3.2.1 hf3.2.2]
    obtain ⟨F, f1, f2, f3, f4, f5⟩ := IH L (D' + 5) J t I (at' + 1) (q_hnd (H (96 + h)) x f) s hat hD hx hs ho
    have k3 : F (18 + h) 3 = nI f := by rw [f1.1 _ (by omega) (by omega) (by omega)]; exact g3
    have k4 : F (18 + h) 4 = H (96 + h) := by rw [f1.1 _ (by omega) (by omega) (by omega)]; exact g4
    obtain ⟨F', u1, u2, u3, u4, u5⟩ := l_thn90 (L := L) (J := J) (t := t) (x := x) IH hD hat hh24 hf hf3 (q_fx90_ff f1 hx) f2 f3 f4 k3 k4
    refine ⟨F', q_ff90_trans f1 u1, u2, u3, u4, fun rt => ?_⟩
    have hhand : ∀ {Q : Value → q_Mem → Prop}, q_W (D' + 5) 13 [.ref (18 + h), .int x] (q_mm L I J t) Q = Q (.int (q_hnd (H (96 + h)) x f)) (q_mm L I J t) := by
      intro Q
      rw [e_Firing_handedOn]
      match f, hf, hf3 with
      | 0, _, _ => simp +decide only [q_onI_i, q_onJ_j, q_onS_s, q_onB_t, true_and, and_true, true_or, or_true, eq_self, true_implies, not_true_eq_false, not_false_eq_true, false_implies, q_bb0, q_bbok, q_bbok2, Bool.true_eq_false, Bool.false_eq_true, reduceCtorEq, i_hook hh24, g3, g4]; rfl
      | 1, _, _ => simp +decide only [q_onI_i, q_onJ_j, q_onS_s, q_onB_t, true_and, and_true, true_or, or_true, eq_self, true_implies, not_true_eq_false, not_false_eq_true, false_implies, q_bb0, q_bbok, q_bbok2, Bool.true_eq_false, Bool.false_eq_true, reduceCtorEq, i_hook hh24, g3, g4]; rfl
      | 2, _, _ => simp +decide only [q_onI_i, q_onJ_j, q_onS_s, q_onB_t, true_and, and_true, true_or, or_true, eq_self, true_implies, not_true_eq_false, not_false_eq_true, false_implies, q_bb0, q_bbok, q_bbok2, Bool.true_eq_false, Bool.false_eq_true, reduceCtorEq, i_hook hh24, g3, g4]; rfl
      | 4, _, _ => simp +decide only [q_onI_i, q_onJ_j, q_onS_s, q_onB_t, true_and, and_true, true_or, or_true, eq_self, true_implies, not_true_eq_false, not_false_eq_true, false_implies, q_bb0, q_bbok, q_bbok2, Bool.true_eq_false, Bool.false_eq_true, reduceCtorEq, i_hook hh24, g3, g4]; rfl
      | 5, _, _ => simp +decide only [q_onI_i, q_onJ_j, q_onS_s, q_onB_t, true_and, and_true, true_or, or_true, eq_self, true_implies, not_true_eq_false, not_false_eq_true, false_implies, q_bb0, q_bbok, q_bbok2, Bool.true_eq_false, Bool.false_eq_true, reduceCtorEq, i_hook hh24, g3, g4]; rfl
      | 8, _, _ => simp +decide only [q_onI_i, q_onJ_j, q_onS_s, q_onB_t, true_and, and_true, true_or, or_true, eq_self, true_implies, not_true_eq_false, not_false_eq_true, false_implies, q_bb0, q_bbok, q_bbok2, Bool.true_eq_false, Bool.false_eq_true, reduceCtorEq, i_hook hh24, g3, g4]; rfl
    rw [decide_eq_false hf3.1, decide_eq_false hf3.2.1, decide_eq_false hf3.2.2, g_Firing_ask_90_86, q_br (by decide), e_Firing_restFirst_90, hhand, q_onI_i, g_Firing_restFirst_90_9, q_n1, f5, q_onI_i, u5, q_onI_i, g_Firing_ask_90_108]
  match f, hf, g3, hrest with
  | 0, _, _, hr => exact hr (by decide)
  | 1, _, _, hr => exact hr (by decide)
  | 2, _, _, hr => exact hr (by decide)
  | 4, _, _, hr => exact hr (by decide)
  | 5, _, _, hr => exact hr (by decide)
  | 8, _, _, hr => exact hr (by decide)
  | 3, _, g3, _ =>
    unfold q_ak1
    have e1 : q_bb (decide (3 = 3) || (decide (3 = 6) || decide (3 = 7))) = 1 := rfl
    by_cases e : q_ten x = q_ten (H (96 + h))
    · rw [if_pos e]
      refine ⟨I, q_ff90_refl, hs, by rw [ho]; rfl, (by decide : 0 < 3), fun rt => ?_⟩
      rw [e1, g_Firing_ask_90_86, q_brn (by decide), e_Firing_lookFirst_90]
      simp +decide only [q_onI_i, q_onJ_j, q_onS_s, q_onB_t, true_and, and_true, true_or, or_true, eq_self, true_implies, not_true_eq_false, not_false_eq_true, false_implies, q_bb0, q_bbok, q_bbok2, Bool.true_eq_false, Bool.false_eq_true, reduceCtorEq, i_hook hh24, g3, g4, s_fm10, g_Firing_lookFirst_90_14, g_Firing_lookFirst_90_23, g_Firing_ask_90_97, g_Firing_ask_90_108, e]
    · rw [if_neg e]
      obtain ⟨F, f1, f2, f3, f4, f5⟩ := IH L (D' + 5) J t I (at' + 1) x s hat hD hx hs ho
      refine ⟨F, f1, f2, f3, f4, fun rt => ?_⟩
      rw [e1, g_Firing_ask_90_86, q_brn (by decide), e_Firing_lookFirst_90]
      simp +decide only [q_onI_i, q_onJ_j, q_onS_s, q_onB_t, true_and, and_true, true_or, or_true, eq_self, true_implies, not_true_eq_false, not_false_eq_true, false_implies, q_bb0, q_bbok, q_bbok2, Bool.true_eq_false, Bool.false_eq_true, reduceCtorEq, i_hook hh24, g3, g4, s_fm10, g_Firing_lookFirst_90_14, g_Firing_lookFirst_90_23, g_Firing_ask_90_97, g_Firing_ask_90_108, e, q_n1, f5, g_Firing_lookFirst_90_96]
  | 6, _, g3, _ =>
    unfold q_ak1
    have hI1 : q_ff90 I (q_u I 93 (q_hp H h) (I 93 (q_hp H h) + x)) := ⟨fun o _ _ a => q_u_ne a, fun b _ _ => by rw [q_u_ne (by decide)]⟩
    have hs1 : q_fs90 (q_u I 93 (q_hp H h) (I 93 (q_hp H h) + x)) (s.1, s.2.1, q_up s.2.2 (q_hp H h) (s.2.2 (q_hp H h) + x)) := by
      refine ⟨by rw [q_u_ne (by decide)]; exact hs.1, hs.2.1, fun i a b => by rw [q_u_ne (by decide)]; exact hs.2.2.1 i a b, fun p hp => ?_⟩
      show _ = q_up s.2.2 (q_hp H h) (s.2.2 (q_hp H h) + x) p
      by_cases e : p = q_hp H h
      · subst e
        rw [q_u_eq, q_up_eq, hs.2.2.2 _ hp]
      · rw [q_u_nk e, q_up_ne e]
        exact hs.2.2.2 p hp
    obtain ⟨F, f1, f2, f3, f4, f5⟩ := IH L (D' + 5) J t _ (at' + 1) x _ hat hD (q_fx90_ff hI1 hx) hs1 (by rw [q_u_ne (by decide)]; exact ho)
    refine ⟨F, q_ff90_trans hI1 f1, f2, f3, f4, fun rt => ?_⟩
    have hpl : ∀ {Q : Value → q_Mem → Prop}, q_W (D' + 5) 20 [.ref 3, .int (nI (q_hp H h))] (q_mm L I J t) Q = Q (.int 1) (q_mm L I J t) := by
      intro Q
      rw [s_hasPlug hc.1 h12, q_in_nI (by omega), decide_eq_true gn]
      rfl
    have g0h := g0
    rw [show q_bb (decide (6 = 3) || (decide (6 = 6) || decide (6 = 7))) = 1 from rfl, g_Firing_ask_90_86, q_brn (by decide), e_Firing_lookFirst_90]
    simp +decide only [q_onI_i, q_onJ_j, q_onS_s, q_onB_t, true_and, and_true, true_or, or_true, eq_self, true_implies, not_true_eq_false, not_false_eq_true, false_implies, q_bb0, q_bbok, q_bbok2, Bool.true_eq_false, Bool.false_eq_true, reduceCtorEq, i_hook hh24, g3, g4, g0, hpl, g_Firing_lookFirst_90_72, q_clamp (show q_hp H h < 2 ^ 31 by omega), q_bnd (show q_hp H h < 12 by omega) (by decide), g_Firing_ask_90_97, g_Firing_ask_90_108, q_n1, g_Firing_lookFirst_90_96, f5]
  | 7, _, g3, _ =>
    unfold q_ak1
    have e1 : q_bb (decide (7 = 3) || (decide (7 = 6) || decide (7 = 7))) = 1 := rfl
    by_cases e : x < H (96 + h)
    · have e2 : ¬ H (96 + h) ≤ x := Int32.not_le.mpr e
      rw [if_pos e]
      refine ⟨q_u I 90 3 1, ⟨fun o a _ _ => q_u_ne a, fun b a _ => q_u_nk a⟩, ⟨by rw [q_u_nk (by decide)]; exact hs.1, hs.2.1, fun i a b => by rw [q_u_ne (by decide)]; exact hs.2.2.1 i a b, fun p hp => by rw [q_u_ne (by decide)]; exact hs.2.2.2 p hp⟩, q_u_eq, (by decide : 1 < 3), fun rt => ?_⟩
      rw [e1, g_Firing_ask_90_86, q_brn (by decide), e_Firing_lookFirst_90]
      simp +decide only [q_onI_i, q_onJ_j, q_onS_s, q_onB_t, true_and, and_true, true_or, or_true, eq_self, true_implies, not_true_eq_false, not_false_eq_true, false_implies, q_bb0, q_bbok, q_bbok2, Bool.true_eq_false, Bool.false_eq_true, reduceCtorEq, i_hook hh24, g3, g4, e2, g_Firing_ask_90_97, g_Firing_ask_90_108]
    · have e2 : H (96 + h) ≤ x := Int32.not_lt.mp e
      rw [if_neg e]
      obtain ⟨F, f1, f2, f3, f4, f5⟩ := IH L (D' + 5) J t I (at' + 1) x s hat hD hx hs ho
      refine ⟨F, f1, f2, f3, f4, fun rt => ?_⟩
      rw [e1, g_Firing_ask_90_86, q_brn (by decide), e_Firing_lookFirst_90]
      simp +decide only [q_onI_i, q_onJ_j, q_onS_s, q_onB_t, true_and, and_true, true_or, or_true, eq_self, true_implies, not_true_eq_false, not_false_eq_true, false_implies, q_bb0, q_bbok, q_bbok2, Bool.true_eq_false, Bool.false_eq_true, reduceCtorEq, i_hook hh24, g3, g4, e2, g_Firing_ask_90_97, g_Firing_ask_90_108, q_n1, f5, g_Firing_lookFirst_90_96]
theorem c_ask90 {n hk len : Nat} {H T C : Nat → Int32} : ∀ m, q_aB90 H T C n hk len m
  | 0 => fun L D J t I at' x s hat hD hx hs ho => by
    obtain ⟨D', rfl⟩ : ∃ D', D = D' + 1 := ⟨D - 1, by omega⟩
    refine ⟨I, q_ff90_refl, hs, by rw [ho]; rfl, (by decide : 0 < 3), fun {Q} => ?_⟩
    have hlen := hx.2.2.1
    rw [e_Firing_ask_90, q_brn (nI_pos (by omega)), hx.2.1, q_ltN (by omega) (by omega), q_brn (by omega)]
    rfl
  | m + 1 => fun L D J t I at' x s hat hD hx hs ho => by
    obtain ⟨D', rfl⟩ : ∃ D', D = D' + 2 := ⟨D - 2, by omega⟩
    obtain ⟨hc, hl2, hlen, hC⟩ := id hx
    have h24 := hc.2.2.2.1
    obtain ⟨h5, hran, htr, hno⟩ := id hs
    have eat : len - (m + 1) = at' := by omega
    obtain ⟨hCa, h, hh, eh⟩ := hC at' (by omega)
    have hcl : (C at').toNatClampNeg = h := by rw [eh, q_clamp (by omega)]
    unfold q_ak
    rw [eat, hcl]
    by_cases hr : 200 ≤ s.1
    · rw [if_pos hr]
      refine ⟨q_u I 90 3 2, ⟨fun o a _ _ => q_u_ne a, fun b a _ => q_u_nk a⟩, ⟨by rw [q_u_nk (by decide)]; exact hs.1, hs.2.1, fun i a b => by rw [q_u_ne (by decide)]; exact hs.2.2.1 i a b, fun p hp => by rw [q_u_ne (by decide)]; exact hs.2.2.2 p hp⟩, q_u_eq, (by decide : 2 < 3), fun {Q} => ?_⟩
      rw [e_Firing_ask_90, q_brn (nI_pos (by omega)), hx.2.1, q_ltN (by omega) (by omega), q_br (by omega), h5, show (200 : Int32) = nI 200 by decide, q_ltN (by omega) (by decide), q_brn (by omega)]
    · rw [if_neg hr]
      have hgo : ∃ I1, q_ff90 I I1 ∧ q_fs90 I1 (q_s1 s (C at')) ∧ I1 90 3 = 0 ∧ ∀ {Q : Value → q_Mem → Prop}, q_W (D' + 2) 10 [.ref 90, .int (nI at'), .int x] (q_mm L I J t) Q = q_X (q_W (D' + 1)) (fun v μ _ _ => Q v μ) 10 (86, [some (.ref 90), some (.int (nI at')), some (.int x), some (.int (nI h)), some (.ref (18 + h))], [.int (q_bb (decide ((H (72 + h)).toNatClampNeg = 3) || (decide ((H (72 + h)).toNatClampNeg = 6) || decide ((H (72 + h)).toNatClampNeg = 7))))], q_mm L I1 J t, 0, 0) := by
        obtain ⟨g0, g0', gn, g1, g2, g3, g4, f, hf, ef⟩ := q_ch_hook hc hh
        have hh24 : h < 24 := by omega
        rw [ef] at g3 ⊢
        rw [q_clamp (show f < 2 ^ 31 by omega)]
        by_cases hr30 : 30 ≤ s.1
        · refine ⟨q_u I 90 5 (nI (s.1 + 1)), ⟨fun o a _ _ => q_u_ne a, fun b _ a => q_u_nk a⟩, ⟨q_u_eq, by show s.1 + 1 ≤ 200; omega, fun i a b => ?_, fun p hp => by rw [q_u_ne (by decide)]; exact hno p hp⟩, by rw [q_u_nk (by decide)]; exact ho, fun {Q} => ?_⟩
          · show _ = (if s.1 < 30 then q_up s.2.1 s.1 (C at') else s.2.1) i
            rw [if_neg (by omega), q_u_ne (by decide)]
            exact htr i a (by omega)
          · have z3 : q_u I 90 5 (nI (s.1 + 1)) (18 + h) 3 = nI f := by rw [q_u_ne (by omega)]; exact g3
            rw [e_Firing_ask_90, q_brn (nI_pos (by omega)), hx.2.1, q_ltN (by omega) (by omega), q_br (by omega), h5, show (200 : Int32) = nI 200 by decide, q_ltN (by omega) (by decide), q_br (by omega), show (30 : Int32) = nI 30 by decide, q_leN (by decide) (by omega), q_br (by omega), q_n1]
            simp only [q_clamp (show at' < 2 ^ 31 by omega), q_bnd (show at' < 24 by omega) (by decide), hCa, eh, q_clamp (show h < 2 ^ 31 by omega), q_bnd hh24 (by decide), r_hook hh24, i_hook hh24, q_onI_i, q_onJ_j, q_onS_s, q_onB_t, true_and, and_true, true_or, or_true, eq_self, true_implies, not_true_eq_false, not_false_eq_true, false_implies, q_bb0, q_bbok, q_bbok2, Bool.true_eq_false, Bool.false_eq_true, reduceCtorEq, z3, s_looksFirst hf]
        · refine ⟨q_u (q_u I 92 s.1 (nI h)) 90 5 (nI (s.1 + 1)), ⟨fun o a b _ => by rw [q_u_ne a, q_u_ne b], fun b _ a => by rw [q_u_nk a, q_u_ne (by decide)]⟩, ⟨q_u_eq, by show s.1 + 1 ≤ 200; omega, fun i a b => ?_, fun p hp => by rw [q_u_ne (by decide), q_u_ne (by decide)]; exact hno p hp⟩, by rw [q_u_nk (by decide), q_u_ne (by decide)]; exact ho, fun {Q} => ?_⟩
          · show _ = (if s.1 < 30 then q_up s.2.1 s.1 (C at') else s.2.1) i
            rw [if_pos (by omega), q_u_ne (by decide)]
            by_cases e : i = s.1
            · subst e
              rw [q_u_eq, q_up_eq, eh]
            · rw [q_u_nk e, q_up_ne e]
              exact htr i a (by have : i < s.1 + 1 := b; omega)
          · have z5 : q_u I 92 s.1 (nI h) 90 5 = nI s.1 := by rw [q_u_ne (by decide)]; exact h5
            have z3 : q_u (q_u I 92 s.1 (nI h)) 90 5 (nI (s.1 + 1)) (18 + h) 3 = nI f := by rw [q_u_ne (by omega), q_u_ne (by omega)]; exact g3
            rw [e_Firing_ask_90, q_brn (nI_pos (by omega)), hx.2.1, q_ltN (by omega) (by omega), q_br (by omega), h5, show (200 : Int32) = nI 200 by decide, q_ltN (by omega) (by decide), q_br (by omega), show (30 : Int32) = nI 30 by decide, q_leN (by decide) (by omega), q_brn (by omega)]
            simp only [q_clamp (show at' < 2 ^ 31 by omega), q_bnd (show at' < 24 by omega) (by decide), hCa, eh, q_clamp (show s.1 < 2 ^ 31 by omega), q_bnd (show s.1 < 30 by omega) (by decide), z5, q_n1, q_clamp (show h < 2 ^ 31 by omega), q_bnd hh24 (by decide), r_hook hh24, i_hook hh24, q_onI_i, q_onJ_j, q_onS_s, q_onB_t, true_and, and_true, true_or, or_true, eq_self, true_implies, not_true_eq_false, not_false_eq_true, false_implies, q_bb0, q_bbok, q_bbok2, Bool.true_eq_false, Bool.false_eq_true, reduceCtorEq, z3, s_looksFirst hf]
      obtain ⟨I1, i1, i2, i3, i4⟩ := hgo
      obtain ⟨F, f1, f2, f3, f4, f5⟩ := l_ak190 (L := L) (D := D') (J := J) (t := t) (at' := at') (x := x) (c_ask90 m) (by omega) (by omega) hh (q_fx90_ff i1 hx) i2 i3
      exact ⟨F, q_ff90_trans i1 f1, f2, f3, f4, fun {Q} => i4.trans (f5 _)⟩
