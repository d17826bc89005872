/-! chains: the class's, for its two firings -/
section CHN2_86
variable {L d : Nat} {J : Nat → Nat → Int64} {t : Nat}
theorem s_ahead86 {Q : Value → q_Mem → Prop} {I : Nat → Nat → Int32} {H T : Nat → Int32} {n hk g h : Nat} (hc : q_ch I H T n hk) (hg : g < hk) (hh : h < hk) (rg : T (q_hp H g) = 1) (rh : T (q_hp H h) = 1) : q_W (d + 4) 6 [.ref 86, .ref (18 + g), .ref (18 + h)] (q_mm L I J t) Q = Q (.int (q_bb (q_ahd H T g h))) (q_mm L I J t) := by
  have h24 := hc.2.2.2.1
  have h12 := hc.2.2.1
  obtain ⟨g0, g0', gn, g1, g2, g3, g4, g5⟩ := q_ch_hook hc hg
  obtain ⟨h0, h0', hn, h1, h2, h3, h4, h5⟩ := q_ch_hook hc hh
  obtain ⟨pg9, pg10, -⟩ := q_ch_plug hc gn
  obtain ⟨ph9, ph10, -⟩ := q_ch_plug hc hn
  rw [e_Firing_runsAhead_86]
  simp only [i_hook (show g < 24 by omega), i_hook (show h < 24 by omega), q_onI_i, q_onJ_j, q_onS_s, q_onB_t, true_and, and_true, true_or, or_true, eq_self, true_implies, not_true_eq_false, not_false_eq_true, false_implies, q_bb0, q_bbok, q_bbok2, Bool.true_eq_false, Bool.false_eq_true, reduceCtorEq, g0, h0, g2, h2, s_olderThan hc.1 h12 hn, g_Firing_runsAhead_86_39, q_shr0 (show q_hp H g < 31 by omega), q_bt_mk (show n ≤ 32 by omega) (show q_hp H g < 32 by omega), decide_eq_true gn, Bool.true_and, pg9, rg, decide_true, pg10 rg, ph10 rh]
  unfold q_ahd
  by_cases e1 : H (48 + g) = H (48 + h)
  · rw [q_br e1, decide_eq_true e1]
    dsimp only
    by_cases e2 : T (84 + q_hp H g) < T (84 + q_hp H h)
    · rw [q_brn (by rw [decide_eq_true e2]; decide), decide_eq_true e2]
      rfl
    · rw [q_br (decide_eq_false e2), decide_eq_false e2]
      rfl
  · rw [q_brn e1, decide_eq_false e1]
    dsimp only
    by_cases e2 : H (48 + h) < H (48 + g)
    · rw [q_brn (Int32.not_le.mpr e2), decide_eq_true e2]
      rfl
    · rw [q_br (Int32.not_lt.mp e2), decide_eq_false e2]
      rfl
theorem l_ins86 {H T : Nat → Int32} {n hk g m : Nat} (hg : g < hk) (rg : T (q_hp H g) = 1) (hmg : m ≤ g) : ∀ (a : Nat) (C : Nat → Int32) (I : Nat → Nat → Int32), a ≤ m → q_ch I H T n hk → I 86 2 = nI m → (∀ i, i ≤ m → i ≠ a → I 87 i = C i ∧ ∃ h, h < g ∧ C i = nI h ∧ T (q_hp H h) = 1) → ∃ F : Nat → Nat → Int32, (∀ o, o ≠ 86 → o ≠ 87 → F o = I o) ∧ (∀ b, b ≠ 2 → F 86 b = I 86 b) ∧ F 86 2 = nI (m + 1) ∧ (∀ i, i ≤ m → F 87 i = q_isr H T g a C i) ∧ ∀ (rt : Value → q_Mem → Nat → Nat → Prop), q_X (q_W (d + 4)) rt 5 (15, [some (.ref 86), some (.int (nI g)), some (.int (nI a))], [], (q_mm L I J t), 0, 0) = rt .null (q_mm L F J t) 0 0
  | 0, C, I, ha, hc, h2, hC => by
    refine ⟨q_u (q_u I 87 0 (nI g)) 86 2 (nI (m + 1)), fun o h1 h2 => by rw [q_u_ne h1, q_u_ne h2], fun b hb => by rw [q_u_nk hb, q_u_ne (by decide)], q_u_eq, fun i hi => ?_, fun rt => ?_⟩
    · rw [q_u_ne (by decide)]
      unfold q_isr
      by_cases e : i = 0
      · subst e
        rw [q_u_eq, q_up_eq]
      · rw [q_u_nk e, q_up_ne e]
        exact (hC i hi e).1
    · rw [g_Firing_insert_86_15, q_le0 (by decide), q_br rfl]
      simp only [q_clamp (show 0 < 2 ^ 31 by decide), q_bnd (show 0 < 24 by decide) (by decide), true_and]
      rw [q_u_ne (show (86 : Nat) ≠ 87 by decide), h2, q_n1]
  | a + 1, C, I, ha, hc, h2, hC => by
    have h24 := hc.2.2.2.1
    obtain ⟨hCa, h, hhg, hCh, rh⟩ := hC a (by omega) (by omega)
    have hah := fun Q => s_ahead86 (L := L) (d := d) (J := J) (t := t) (Q := Q) hc hg (show h < hk by omega) rg rh
    have hstep : ∀ (rt : Value → q_Mem → Nat → Nat → Prop), q_X (q_W (d + 4)) rt 5 (15, [some (.ref 86), some (.int (nI g)), some (.int (nI (a + 1)))], [], (q_mm L I J t), 0, 0) = q_X (q_W (d + 4)) rt 5 (48, [some (.ref 86), some (.int (nI g)), some (.int (nI (a + 1)))], [.int (q_bb (q_ahd H T g h))], (q_mm L I J t), 0, 0) := by
      intro rt
      rw [g_Firing_insert_86_15, q_le0 (by omega), q_brn (by omega), nI_pred]
      simp only [q_clamp (show a < 2 ^ 31 by omega), q_bnd (show a < 24 by omega) (by decide), true_and, hCa, hCh, q_clamp (show g < 2 ^ 31 by omega), q_bnd (show g < 24 by omega) (by decide), q_clamp (show h < 2 ^ 31 by omega), q_bnd (show h < 24 by omega) (by decide), r_hook (show g < 24 by omega), r_hook (show h < 24 by omega), q_onS_s]
      rw [hah, q_onI_i]
    have hcl : (C a).toNatClampNeg = h := by rw [hCh, q_clamp (by omega)]
    unfold q_isr
    rw [hcl]
    cases hb : q_ahd H T g h with
    | false =>
      refine ⟨q_u (q_u I 87 (a + 1) (nI g)) 86 2 (nI (m + 1)), fun o h1 h2 => by rw [q_u_ne h1, q_u_ne h2], fun b hb => by rw [q_u_nk hb, q_u_ne (by decide)], q_u_eq, fun i hi => ?_, fun rt => ?_⟩
      · rw [q_u_ne (by decide)]
        show _ = q_up C (a + 1) (nI g) i
        by_cases e : i = a + 1
        · subst e
          rw [q_u_eq, q_up_eq]
        · rw [q_u_nk e, q_up_ne e]
          exact (hC i hi e).1
      · rw [hstep, hb, g_Firing_insert_86_48, q_br (show q_bb false = 0 from rfl)]
        simp only [q_clamp (show a + 1 < 2 ^ 31 by omega), q_bnd (show a + 1 < 24 by omega) (by decide), true_and]
        rw [q_u_ne (show (86 : Nat) ≠ 87 by decide), h2, q_n1]
    | true =>
      obtain ⟨F, f1, f2, f3, f4, f5⟩ := l_ins86 (H := H) (T := T) (n := n) hg rg hmg a (q_up C (a + 1) (C a)) (q_u I 87 (a + 1) (I 87 a)) (by omega) (q_ch_congr (fun o ho => q_u_ne (by omega)) hc) (by rw [q_u_ne (by decide)]; exact h2) (fun i hi hia => by
        by_cases e : i = a + 1
        · subst e
          rw [q_u_eq, q_up_eq]
          exact ⟨hCa, h, hhg, hCh, rh⟩
        · rw [q_u_nk e, q_up_ne e]
          exact hC i hi e)
      refine ⟨F, fun o h1 h2 => by rw [f1 o h1 h2, q_u_ne h2], fun b hb => by rw [f2 b hb, q_u_ne (by decide)], f3, f4, fun rt => ?_⟩
      rw [hstep, hb, g_Firing_insert_86_48, q_brn (by decide), nI_pred, q_m1, nI_pred]
      simp only [q_clamp (show a < 2 ^ 31 by omega), q_bnd (show a < 24 by omega) (by decide), q_clamp (show a + 1 < 2 ^ 31 by omega), q_bnd (show a + 1 < 24 by omega) (by decide), true_and]
      exact f5 rt
theorem l_chn86 {H T : Nat → Int32} {n hk : Nat} {pt w : Int32} : ∀ (k j : Nat) (s : (Nat → Int32) × Nat) (I : Nat → Nat → Int32), j + k = hk → q_ch I H T n hk → q_cok H T j s → I 86 2 = nI s.2 → (∀ i, i < s.2 → I 87 i = s.1 i) → ∃ F, (∀ o, o ≠ 86 → o ≠ 87 → F o = I o) ∧ (∀ b, b ≠ 2 → F 86 b = I 86 b) ∧ F 86 2 = nI (q_it (q_gth1 H T pt w) j k s).2 ∧ (∀ i, i < (q_it (q_gth1 H T pt w) j k s).2 → F 87 i = (q_it (q_gth1 H T pt w) j k s).1 i) ∧ ∀ (rt : Value → q_Mem → Nat → Nat → Prop) (w4 : Option Value), q_X (q_W (d + 5)) rt 4 (7, [some (.ref 86), some (.int pt), some (.int w), some (.int (nI j)), w4], [], (q_mm L I J t), 0, 0) = rt .null (q_mm L F J t) 0 0
  | 0, j, s, I, h, hc, hs, h2, hC => by
    have h24 := hc.2.2.2.1
    refine ⟨I, fun _ _ _ => rfl, fun _ _ => rfl, h2, hC, fun rt w4 => ?_⟩
    rw [g_Firing_gather_86_7, hc.2.1, q_leN (by omega) (by omega), q_br (by omega)]
  | k + 1, j, s, I, h, hc, hs, h2, hC => by
    have h24 := hc.2.2.2.1
    have h12 := hc.2.2.1
    have hj : j < hk := by omega
    obtain ⟨g0, g0', gn, g1, -⟩ := q_ch_hook hc hj
    obtain ⟨p9, -⟩ := q_ch_plug hc gn
    have hskip : q_hin H T pt w j = false → ∃ F, (∀ o, o ≠ 86 → o ≠ 87 → F o = I o) ∧ (∀ b, b ≠ 2 → F 86 b = I 86 b) ∧ F 86 2 = nI (q_it (q_gth1 H T pt w) j (k + 1) s).2 ∧ (∀ i, i < (q_it (q_gth1 H T pt w) j (k + 1) s).2 → F 87 i = (q_it (q_gth1 H T pt w) j (k + 1) s).1 i) ∧ ∀ (rt : Value → q_Mem → Nat → Nat → Prop) (w4 : Option Value), q_X (q_W (d + 5)) rt 4 (7, [some (.ref 86), some (.int pt), some (.int w), some (.int (nI (j + 1))), w4], [], (q_mm L I J t), 0, 0) = rt .null (q_mm L F J t) 0 0 := fun hf => by
      have e : q_gth1 H T pt w j s = s := by
        unfold q_gth1
        rw [hf]
      have := l_chn86 (H := H) (T := T) (n := n) (pt := pt) (w := w) k (j + 1) s I (by omega) hc (by have h := q_gth1_ok (pt := pt) (w := w) hs; rw [e] at h; exact h) h2 hC
      rw [q_it_s, e]
      exact this
    have hstep : ∀ (rt : Value → q_Mem → Nat → Nat → Prop) (w4 : Option Value), q_X (q_W (d + 5)) rt 4 (7, [some (.ref 86), some (.int pt), some (.int w), some (.int (nI j)), w4], [], (q_mm L I J t), 0, 0) = ((nI j = w → q_X (q_W (d + 5)) rt 4 (63, [some (.ref 86), some (.int pt), some (.int w), some (.int (nI j)), some (.ref (18 + j))], [], (q_mm L I J t), 0, 0)) ∧ (¬ nI j = w → ((H (24 + j) = pt → q_X (q_W (d + 5)) rt 4 (55, [some (.ref 86), some (.int pt), some (.int w), some (.int (nI j)), some (.ref (18 + j))], [.int (q_bb (decide (T (q_hp H j) = 1)))], (q_mm L I J t), 0, 0)) ∧ (¬ H (24 + j) = pt → q_X (q_W (d + 5)) rt 4 (63, [some (.ref 86), some (.int pt), some (.int w), some (.int (nI j)), some (.ref (18 + j))], [], (q_mm L I J t), 0, 0))))) := by
      intro rt w4
      rw [g_Firing_gather_86_7, hc.2.1, q_leN (by omega) (by omega), q_brn (by omega)]
      simp only [q_clamp (show j < 2 ^ 31 by omega), q_bnd (show j < 24 by omega) (by decide), r_hook (show j < 24 by omega), i_hook (show j < 24 by omega), q_onI_i, q_onJ_j, q_onS_s, q_onB_t, true_and, and_true, true_or, or_true, eq_self, true_implies, not_true_eq_false, not_false_eq_true, false_implies, q_bb0, q_bbok, q_bbok2, Bool.true_eq_false, Bool.false_eq_true, reduceCtorEq, g0, g1, s_runs hc.1 h12, q_in_nI (show q_hp H j < 2 ^ 31 by omega), decide_eq_true gn, Bool.true_and, q_clamp (show q_hp H j < 2 ^ 31 by omega), p9]
    by_cases e1 : nI j = w
    · obtain ⟨F, f1, f2, f3, f4, f5⟩ := hskip (by unfold q_hin; rw [decide_eq_true e1]; rfl)
      refine ⟨F, f1, f2, f3, f4, fun rt w4 => ?_⟩
      rw [hstep, q_br e1, g_Firing_gather_86_63, q_n1, f5]
    · by_cases e2 : H (24 + j) = pt
      · by_cases e3 : T (q_hp H j) = 1
        · have hin : q_hin H T pt w j = true := by
            unfold q_hin
            rw [decide_eq_false e1, decide_eq_true e2, decide_eq_true e3]
            rfl
          have e : q_gth1 H T pt w j s = (q_isr H T j s.2 s.1, s.2 + 1) := by
            unfold q_gth1
            rw [hin]
          have hsj := hs.1
          obtain ⟨F, f1, f2, f3, f4, f5⟩ := l_ins86 (L := L) (d := d) (J := J) (t := t) (H := H) (T := T) (n := n) hj e3 hs.1 s.2 s.1 I (Nat.le_refl _) hc h2 (fun i hi hne => by
            obtain ⟨h, a, b, r⟩ := hs.2 i (by omega)
            exact ⟨hC i (by omega), h, a, b, r⟩)
          have hF : q_ch F H T n hk := q_ch_congr (fun o ho => f1 o (by omega) (by omega)) hc
          obtain ⟨F', u1, u2, u3, u4, u5⟩ := l_chn86 (H := H) (T := T) (n := n) (pt := pt) (w := w) k (j + 1) (q_isr H T j s.2 s.1, s.2 + 1) F (by omega) hF (by have h := q_gth1_ok (pt := pt) (w := w) hs; rw [e] at h; exact h) f3 (fun i hi => f4 i (by have : i < s.2 + 1 := hi; omega))
          refine ⟨F', fun o h1 h2 => (u1 o h1 h2).trans (f1 o h1 h2), fun b hb => (u2 b hb).trans (f2 b hb), by rw [q_it_s, e]; exact u3, fun i hi => by rw [q_it_s, e] at hi ⊢; exact u4 i hi, fun rt w4 => ?_⟩
          rw [hstep, q_brn e1, q_br e2, decide_eq_true e3, g_Firing_gather_86_55, q_brn (by decide), e_Firing_insert_86, h2, show (24 : Int32) = nI 24 by decide, q_ltN (by omega) (by decide), q_br (by omega), f5, g_Firing_gather_86_63, q_n1, u5]
        · obtain ⟨F, f1, f2, f3, f4, f5⟩ := hskip (by unfold q_hin; rw [decide_eq_false e3, Bool.and_false, Bool.and_false])
          refine ⟨F, f1, f2, f3, f4, fun rt w4 => ?_⟩
          rw [hstep, q_brn e1, q_br e2, decide_eq_false e3, g_Firing_gather_86_55, q_br (show q_bb false = 0 from rfl), g_Firing_gather_86_63, q_n1, f5]
      · obtain ⟨F, f1, f2, f3, f4, f5⟩ := hskip (by unfold q_hin; rw [decide_eq_false e2, Bool.false_and, Bool.and_false])
        refine ⟨F, f1, f2, f3, f4, fun rt w4 => ?_⟩
        rw [hstep, q_brn e1, q_brn e2, g_Firing_gather_86_63, q_n1, f5]
theorem c_gather86 {I : Nat → Nat → Int32} {H T : Nat → Int32} {n hk : Nat} {pt w : Int32} (hc : q_ch I H T n hk) : ∃ F, (∀ o, o ≠ 86 → o ≠ 87 → F o = I o) ∧ (∀ b, b ≠ 2 → F 86 b = I 86 b) ∧ F 86 2 = nI (q_gth H T pt w hk).2 ∧ (∀ i, i < (q_gth H T pt w hk).2 → F 87 i = (q_gth H T pt w hk).1 i) ∧ ∀ {Q : Value → q_Mem → Prop}, q_W (d + 6) 4 [.ref 86, .int pt, .int w] (q_mm L I J t) Q = Q .null (q_mm L F J t) := by
  obtain ⟨F, f1, f2, f3, f4, f5⟩ := l_chn86 (L := L) (d := d) (J := J) (t := t) (H := H) (T := T) (n := n) (pt := pt) (w := w) hk 0 (fun _ => 0, 0) (q_u I 86 2 0) (by omega) (q_ch_congr (fun o ho => q_u_ne (by omega)) hc) ⟨Nat.le_refl _, fun i hi => absurd hi (Nat.not_lt_zero i)⟩ q_u_eq (fun i hi => absurd hi (Nat.not_lt_zero i))
  refine ⟨F, fun o h1 h2 => by rw [f1 o h1 h2, q_u_ne h1], fun b hb => by rw [f2 b hb, q_u_nk hb], f3, f4, fun {Q} => ?_⟩
  rw [e_Firing_gather_86, show (0 : Int32) = nI 0 by decide]
  exact f5 _ _
end CHN2_86
section CHN2_90
variable {L d : Nat} {J : Nat → Nat → Int64} {t : Nat}
theorem s_ahead90 {Q : Value → q_Mem → Prop} {I : Nat → Nat → Int32} {H T : Nat → Int32} {n hk g h : Nat} (hc : q_ch I H T n hk) (hg : g < hk) (hh : h < hk) (rg : T (q_hp H g) = 1) (rh : T (q_hp H h) = 1) : q_W (d + 4) 6 [.ref 90, .ref (18 + g), .ref (18 + h)] (q_mm L I J t) Q = Q (.int (q_bb (q_ahd H T g h))) (q_mm L I J t) := by
  have h24 := hc.2.2.2.1
  have h12 := hc.2.2.1
  obtain ⟨g0, g0', gn, g1, g2, g3, g4, g5⟩ := q_ch_hook hc hg
  obtain ⟨h0, h0', hn, h1, h2, h3, h4, h5⟩ := q_ch_hook hc hh
  obtain ⟨pg9, pg10, -⟩ := q_ch_plug hc gn
  obtain ⟨ph9, ph10, -⟩ := q_ch_plug hc hn
  rw [e_Firing_runsAhead_90]
  simp only [i_hook (show g < 24 by omega), i_hook (show h < 24 by omega), q_onI_i, q_onJ_j, q_onS_s, q_onB_t, true_and, and_true, true_or, or_true, eq_self, true_implies, not_true_eq_false, not_false_eq_true, false_implies, q_bb0, q_bbok, q_bbok2, Bool.true_eq_false, Bool.false_eq_true, reduceCtorEq, g0, h0, g2, h2, s_olderThan hc.1 h12 hn, g_Firing_runsAhead_90_39, q_shr0 (show q_hp H g < 31 by omega), q_bt_mk (show n ≤ 32 by omega) (show q_hp H g < 32 by omega), decide_eq_true gn, Bool.true_and, pg9, rg, decide_true, pg10 rg, ph10 rh]
  unfold q_ahd
  by_cases e1 : H (48 + g) = H (48 + h)
  · rw [q_br e1, decide_eq_true e1]
    dsimp only
    by_cases e2 : T (84 + q_hp H g) < T (84 + q_hp H h)
    · rw [q_brn (by rw [decide_eq_true e2]; decide), decide_eq_true e2]
      rfl
    · rw [q_br (decide_eq_false e2), decide_eq_false e2]
      rfl
  · rw [q_brn e1, decide_eq_false e1]
    dsimp only
    by_cases e2 : H (48 + h) < H (48 + g)
    · rw [q_brn (Int32.not_le.mpr e2), decide_eq_true e2]
      rfl
    · rw [q_br (Int32.not_lt.mp e2), decide_eq_false e2]
      rfl
theorem l_ins90 {H T : Nat → Int32} {n hk g m : Nat} (hg : g < hk) (rg : T (q_hp H g) = 1) (hmg : m ≤ g) : ∀ (a : Nat) (C : Nat → Int32) (I : Nat → Nat → Int32), a ≤ m → q_ch I H T n hk → I 90 2 = nI m → (∀ i, i ≤ m → i ≠ a → I 91 i = C i ∧ ∃ h, h < g ∧ C i = nI h ∧ T (q_hp H h) = 1) → ∃ F : Nat → Nat → Int32, (∀ o, o ≠ 90 → o ≠ 91 → F o = I o) ∧ (∀ b, b ≠ 2 → F 90 b = I 90 b) ∧ F 90 2 = nI (m + 1) ∧ (∀ i, i ≤ m → F 91 i = q_isr H T g a C i) ∧ ∀ (rt : Value → q_Mem → Nat → Nat → Prop), q_X (q_W (d + 4)) rt 5 (15, [some (.ref 90), some (.int (nI g)), some (.int (nI a))], [], (q_mm L I J t), 0, 0) = rt .null (q_mm L F J t) 0 0
  | 0, C, I, ha, hc, h2, hC => by
    refine ⟨q_u (q_u I 91 0 (nI g)) 90 2 (nI (m + 1)), fun o h1 h2 => by rw [q_u_ne h1, q_u_ne h2], fun b hb => by rw [q_u_nk hb, q_u_ne (by decide)], q_u_eq, fun i hi => ?_, fun rt => ?_⟩
    · rw [q_u_ne (by decide)]
      unfold q_isr
      by_cases e : i = 0
      · subst e
        rw [q_u_eq, q_up_eq]
      · rw [q_u_nk e, q_up_ne e]
        exact (hC i hi e).1
    · rw [g_Firing_insert_90_15, q_le0 (by decide), q_br rfl]
      simp only [q_clamp (show 0 < 2 ^ 31 by decide), q_bnd (show 0 < 24 by decide) (by decide), true_and]
      rw [q_u_ne (show (90 : Nat) ≠ 91 by decide), h2, q_n1]
  | a + 1, C, I, ha, hc, h2, hC => by
    have h24 := hc.2.2.2.1
    obtain ⟨hCa, h, hhg, hCh, rh⟩ := hC a (by omega) (by omega)
    have hah := fun Q => s_ahead90 (L := L) (d := d) (J := J) (t := t) (Q := Q) hc hg (show h < hk by omega) rg rh
    have hstep : ∀ (rt : Value → q_Mem → Nat → Nat → Prop), q_X (q_W (d + 4)) rt 5 (15, [some (.ref 90), some (.int (nI g)), some (.int (nI (a + 1)))], [], (q_mm L I J t), 0, 0) = q_X (q_W (d + 4)) rt 5 (48, [some (.ref 90), some (.int (nI g)), some (.int (nI (a + 1)))], [.int (q_bb (q_ahd H T g h))], (q_mm L I J t), 0, 0) := by
      intro rt
      rw [g_Firing_insert_90_15, q_le0 (by omega), q_brn (by omega), nI_pred]
      simp only [q_clamp (show a < 2 ^ 31 by omega), q_bnd (show a < 24 by omega) (by decide), true_and, hCa, hCh, q_clamp (show g < 2 ^ 31 by omega), q_bnd (show g < 24 by omega) (by decide), q_clamp (show h < 2 ^ 31 by omega), q_bnd (show h < 24 by omega) (by decide), r_hook (show g < 24 by omega), r_hook (show h < 24 by omega), q_onS_s]
      rw [hah, q_onI_i]
    have hcl : (C a).toNatClampNeg = h := by rw [hCh, q_clamp (by omega)]
    unfold q_isr
    rw [hcl]
    cases hb : q_ahd H T g h with
    | false =>
      refine ⟨q_u (q_u I 91 (a + 1) (nI g)) 90 2 (nI (m + 1)), fun o h1 h2 => by rw [q_u_ne h1, q_u_ne h2], fun b hb => by rw [q_u_nk hb, q_u_ne (by decide)], q_u_eq, fun i hi => ?_, fun rt => ?_⟩
      · rw [q_u_ne (by decide)]
        show _ = q_up C (a + 1) (nI g) i
        by_cases e : i = a + 1
        · subst e
          rw [q_u_eq, q_up_eq]
        · rw [q_u_nk e, q_up_ne e]
          exact (hC i hi e).1
      · rw [hstep, hb, g_Firing_insert_90_48, q_br (show q_bb false = 0 from rfl)]
        simp only [q_clamp (show a + 1 < 2 ^ 31 by omega), q_bnd (show a + 1 < 24 by omega) (by decide), true_and]
        rw [q_u_ne (show (90 : Nat) ≠ 91 by decide), h2, q_n1]
    | true =>
      obtain ⟨F, f1, f2, f3, f4, f5⟩ := l_ins90 (H := H) (T := T) (n := n) hg rg hmg a (q_up C (a + 1) (C a)) (q_u I 91 (a + 1) (I 91 a)) (by omega) (q_ch_congr (fun o ho => q_u_ne (by omega)) hc) (by rw [q_u_ne (by decide)]; exact h2) (fun i hi hia => by
        by_cases e : i = a + 1
        · subst e
          rw [q_u_eq, q_up_eq]
          exact ⟨hCa, h, hhg, hCh, rh⟩
        · rw [q_u_nk e, q_up_ne e]
          exact hC i hi e)
      refine ⟨F, fun o h1 h2 => by rw [f1 o h1 h2, q_u_ne h2], fun b hb => by rw [f2 b hb, q_u_ne (by decide)], f3, f4, fun rt => ?_⟩
      rw [hstep, hb, g_Firing_insert_90_48, q_brn (by decide), nI_pred, q_m1, nI_pred]
      simp only [q_clamp (show a < 2 ^ 31 by omega), q_bnd (show a < 24 by omega) (by decide), q_clamp (show a + 1 < 2 ^ 31 by omega), q_bnd (show a + 1 < 24 by omega) (by decide), true_and]
      exact f5 rt
theorem l_chn90 {H T : Nat → Int32} {n hk : Nat} {pt w : Int32} : ∀ (k j : Nat) (s : (Nat → Int32) × Nat) (I : Nat → Nat → Int32), j + k = hk → q_ch I H T n hk → q_cok H T j s → I 90 2 = nI s.2 → (∀ i, i < s.2 → I 91 i = s.1 i) → ∃ F, (∀ o, o ≠ 90 → o ≠ 91 → F o = I o) ∧ (∀ b, b ≠ 2 → F 90 b = I 90 b) ∧ F 90 2 = nI (q_it (q_gth1 H T pt w) j k s).2 ∧ (∀ i, i < (q_it (q_gth1 H T pt w) j k s).2 → F 91 i = (q_it (q_gth1 H T pt w) j k s).1 i) ∧ ∀ (rt : Value → q_Mem → Nat → Nat → Prop) (w4 : Option Value), q_X (q_W (d + 5)) rt 4 (7, [some (.ref 90), some (.int pt), some (.int w), some (.int (nI j)), w4], [], (q_mm L I J t), 0, 0) = rt .null (q_mm L F J t) 0 0
  | 0, j, s, I, h, hc, hs, h2, hC => by
    have h24 := hc.2.2.2.1
    refine ⟨I, fun _ _ _ => rfl, fun _ _ => rfl, h2, hC, fun rt w4 => ?_⟩
    rw [g_Firing_gather_90_7, hc.2.1, q_leN (by omega) (by omega), q_br (by omega)]
  | k + 1, j, s, I, h, hc, hs, h2, hC => by
    have h24 := hc.2.2.2.1
    have h12 := hc.2.2.1
    have hj : j < hk := by omega
    obtain ⟨g0, g0', gn, g1, -⟩ := q_ch_hook hc hj
    obtain ⟨p9, -⟩ := q_ch_plug hc gn
    have hskip : q_hin H T pt w j = false → ∃ F, (∀ o, o ≠ 90 → o ≠ 91 → F o = I o) ∧ (∀ b, b ≠ 2 → F 90 b = I 90 b) ∧ F 90 2 = nI (q_it (q_gth1 H T pt w) j (k + 1) s).2 ∧ (∀ i, i < (q_it (q_gth1 H T pt w) j (k + 1) s).2 → F 91 i = (q_it (q_gth1 H T pt w) j (k + 1) s).1 i) ∧ ∀ (rt : Value → q_Mem → Nat → Nat → Prop) (w4 : Option Value), q_X (q_W (d + 5)) rt 4 (7, [some (.ref 90), some (.int pt), some (.int w), some (.int (nI (j + 1))), w4], [], (q_mm L I J t), 0, 0) = rt .null (q_mm L F J t) 0 0 := fun hf => by
      have e : q_gth1 H T pt w j s = s := by
        unfold q_gth1
        rw [hf]
      have := l_chn90 (H := H) (T := T) (n := n) (pt := pt) (w := w) k (j + 1) s I (by omega) hc (by have h := q_gth1_ok (pt := pt) (w := w) hs; rw [e] at h; exact h) h2 hC
      rw [q_it_s, e]
      exact this
    have hstep : ∀ (rt : Value → q_Mem → Nat → Nat → Prop) (w4 : Option Value), q_X (q_W (d + 5)) rt 4 (7, [some (.ref 90), some (.int pt), some (.int w), some (.int (nI j)), w4], [], (q_mm L I J t), 0, 0) = ((nI j = w → q_X (q_W (d + 5)) rt 4 (63, [some (.ref 90), some (.int pt), some (.int w), some (.int (nI j)), some (.ref (18 + j))], [], (q_mm L I J t), 0, 0)) ∧ (¬ nI j = w → ((H (24 + j) = pt → q_X (q_W (d + 5)) rt 4 (55, [some (.ref 90), some (.int pt), some (.int w), some (.int (nI j)), some (.ref (18 + j))], [.int (q_bb (decide (T (q_hp H j) = 1)))], (q_mm L I J t), 0, 0)) ∧ (¬ H (24 + j) = pt → q_X (q_W (d + 5)) rt 4 (63, [some (.ref 90), some (.int pt), some (.int w), some (.int (nI j)), some (.ref (18 + j))], [], (q_mm L I J t), 0, 0))))) := by
      intro rt w4
      rw [g_Firing_gather_90_7, hc.2.1, q_leN (by omega) (by omega), q_brn (by omega)]
      simp only [q_clamp (show j < 2 ^ 31 by omega), q_bnd (show j < 24 by omega) (by decide), r_hook (show j < 24 by omega), i_hook (show j < 24 by omega), q_onI_i, q_onJ_j, q_onS_s, q_onB_t, true_and, and_true, true_or, or_true, eq_self, true_implies, not_true_eq_false, not_false_eq_true, false_implies, q_bb0, q_bbok, q_bbok2, Bool.true_eq_false, Bool.false_eq_true, reduceCtorEq, g0, g1, s_runs hc.1 h12, q_in_nI (show q_hp H j < 2 ^ 31 by omega), decide_eq_true gn, Bool.true_and, q_clamp (show q_hp H j < 2 ^ 31 by omega), p9]
    by_cases e1 : nI j = w
    · obtain ⟨F, f1, f2, f3, f4, f5⟩ := hskip (by unfold q_hin; rw [decide_eq_true e1]; rfl)
      refine ⟨F, f1, f2, f3, f4, fun rt w4 => ?_⟩
      rw [hstep, q_br e1, g_Firing_gather_90_63, q_n1, f5]
    · by_cases e2 : H (24 + j) = pt
      · by_cases e3 : T (q_hp H j) = 1
        · have hin : q_hin H T pt w j = true := by
            unfold q_hin
            rw [decide_eq_false e1, decide_eq_true e2, decide_eq_true e3]
            rfl
          have e : q_gth1 H T pt w j s = (q_isr H T j s.2 s.1, s.2 + 1) := by
            unfold q_gth1
            rw [hin]
          have hsj := hs.1
          obtain ⟨F, f1, f2, f3, f4, f5⟩ := l_ins90 (L := L) (d := d) (J := J) (t := t) (H := H) (T := T) (n := n) hj e3 hs.1 s.2 s.1 I (Nat.le_refl _) hc h2 (fun i hi hne => by
            obtain ⟨h, a, b, r⟩ := hs.2 i (by omega)
            exact ⟨hC i (by omega), h, a, b, r⟩)
          have hF : q_ch F H T n hk := q_ch_congr (fun o ho => f1 o (by omega) (by omega)) hc
          obtain ⟨F', u1, u2, u3, u4, u5⟩ := l_chn90 (H := H) (T := T) (n := n) (pt := pt) (w := w) k (j + 1) (q_isr H T j s.2 s.1, s.2 + 1) F (by omega) hF (by have h := q_gth1_ok (pt := pt) (w := w) hs; rw [e] at h; exact h) f3 (fun i hi => f4 i (by have : i < s.2 + 1 := hi; omega))
          refine ⟨F', fun o h1 h2 => (u1 o h1 h2).trans (f1 o h1 h2), fun b hb => (u2 b hb).trans (f2 b hb), by rw [q_it_s, e]; exact u3, fun i hi => by rw [q_it_s, e] at hi ⊢; exact u4 i hi, fun rt w4 => ?_⟩
          rw [hstep, q_brn e1, q_br e2, decide_eq_true e3, g_Firing_gather_90_55, q_brn (by decide), e_Firing_insert_90, h2, show (24 : Int32) = nI 24 by decide, q_ltN (by omega) (by decide), q_br (by omega), f5, g_Firing_gather_90_63, q_n1, u5]
        · obtain ⟨F, f1, f2, f3, f4, f5⟩ := hskip (by unfold q_hin; rw [decide_eq_false e3, Bool.and_false, Bool.and_false])
          refine ⟨F, f1, f2, f3, f4, fun rt w4 => ?_⟩
          rw [hstep, q_brn e1, q_br e2, decide_eq_false e3, g_Firing_gather_90_55, q_br (show q_bb false = 0 from rfl), g_Firing_gather_90_63, q_n1, f5]
      · obtain ⟨F, f1, f2, f3, f4, f5⟩ := hskip (by unfold q_hin; rw [decide_eq_false e2, Bool.false_and, Bool.and_false])
        refine ⟨F, f1, f2, f3, f4, fun rt w4 => ?_⟩
        rw [hstep, q_brn e1, q_brn e2, g_Firing_gather_90_63, q_n1, f5]
theorem c_gather90 {I : Nat → Nat → Int32} {H T : Nat → Int32} {n hk : Nat} {pt w : Int32} (hc : q_ch I H T n hk) : ∃ F, (∀ o, o ≠ 90 → o ≠ 91 → F o = I o) ∧ (∀ b, b ≠ 2 → F 90 b = I 90 b) ∧ F 90 2 = nI (q_gth H T pt w hk).2 ∧ (∀ i, i < (q_gth H T pt w hk).2 → F 91 i = (q_gth H T pt w hk).1 i) ∧ ∀ {Q : Value → q_Mem → Prop}, q_W (d + 6) 4 [.ref 90, .int pt, .int w] (q_mm L I J t) Q = Q .null (q_mm L F J t) := by
  obtain ⟨F, f1, f2, f3, f4, f5⟩ := l_chn90 (L := L) (d := d) (J := J) (t := t) (H := H) (T := T) (n := n) (pt := pt) (w := w) hk 0 (fun _ => 0, 0) (q_u I 90 2 0) (by omega) (q_ch_congr (fun o ho => q_u_ne (by omega)) hc) ⟨Nat.le_refl _, fun i hi => absurd hi (Nat.not_lt_zero i)⟩ q_u_eq (fun i hi => absurd hi (Nat.not_lt_zero i))
  refine ⟨F, fun o h1 h2 => by rw [f1 o h1 h2, q_u_ne h1], fun b hb => by rw [f2 b hb, q_u_nk hb], f3, f4, fun {Q} => ?_⟩
  rw [e_Firing_gather_90, show (0 : Int32) = nI 0 by decide]
  exact f5 _ _
end CHN2_90
