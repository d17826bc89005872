/-! chains: pure; and what both sides hold of the hooks -/
def q_hp (H : Nat → Int32) (h : Nat) : Nat := (H h).toNatClampNeg
def q_hin (H T : Nat → Int32) (pt w : Int32) (h : Nat) : Bool := !decide (nI h = w) && (decide (H (24 + h) = pt) && decide (T (q_hp H h) = 1))
def q_ahd (H T : Nat → Int32) (g h : Nat) : Bool := match decide (H (48 + g) = H (48 + h)) with
  | true => decide (T (84 + q_hp H g) < T (84 + q_hp H h))
  | false => decide (H (48 + h) < H (48 + g))
def q_isr (H T : Nat → Int32) (g : Nat) : Nat → (Nat → Int32) → Nat → Int32
  | 0, C => q_up C 0 (nI g)
  | a + 1, C => match q_ahd H T g (C a).toNatClampNeg with
    | true => q_isr H T g a (q_up C (a + 1) (C a))
    | false => q_up C (a + 1) (nI g)
def q_gth1 (H T : Nat → Int32) (pt w : Int32) : Nat → (Nat → Int32) × Nat → (Nat → Int32) × Nat := fun h s => match q_hin H T pt w h with
  | true => (q_isr H T h s.2 s.1, s.2 + 1)
  | false => s
def q_gth (H T : Nat → Int32) (pt w : Int32) (hk : Nat) : (Nat → Int32) × Nat := q_it (q_gth1 H T pt w) 0 hk (fun _ => 0, 0)
/-- entries are hooks before j whose plug-ins run -/
def q_cok (H T : Nat → Int32) (j : Nat) (s : (Nat → Int32) × Nat) : Prop := s.2 ≤ j ∧ ∀ i, i < s.2 → ∃ h, h < j ∧ s.1 i = nI h ∧ T (q_hp H h) = 1
theorem q_isr_get {H T : Nat → Int32} {g : Nat} {P : Int32 → Prop} (hg : P (nI g)) : ∀ (a m : Nat) (C : Nat → Int32), a ≤ m → (∀ i, i ≤ m → i ≠ a → P (C i)) → ∀ i, i ≤ m → P (q_isr H T g a C i)
  | 0, m, C, ha, h, i, hi => by
    unfold q_isr q_up
    by_cases e : i = 0
    · rw [if_pos e]; exact hg
    · rw [if_neg e]; exact h i hi e
  | a + 1, m, C, ha, h, i, hi => by
    unfold q_isr
    cases q_ahd H T g (C a).toNatClampNeg with
    | true =>
      refine q_isr_get hg a m _ (by omega) (fun j hj hja => ?_) i hi
      unfold q_up
      by_cases e : j = a + 1
      · rw [if_pos e]; exact h a (by omega) (by omega)
      · rw [if_neg e]; exact h j hj e
    | false =>
      show P (q_up C (a + 1) (nI g) i)
      unfold q_up
      by_cases e : i = a + 1
      · rw [if_pos e]; exact hg
      · rw [if_neg e]; exact h i hi e
theorem q_gth1_ok {H T : Nat → Int32} {pt w : Int32} {j : Nat} {s : (Nat → Int32) × Nat} (h : q_cok H T j s) : q_cok H T (j + 1) (q_gth1 H T pt w j s) := by
  obtain ⟨h1, h2⟩ := h
  unfold q_gth1
  cases hh : q_hin H T pt w j with
  | false => exact ⟨by show s.2 ≤ j + 1; omega, fun i hi => by
      obtain ⟨h, a, b⟩ := h2 i hi
      exact ⟨h, by omega, b⟩⟩
  | true =>
    refine ⟨by show s.2 + 1 ≤ j + 1; omega, fun i hi => ?_⟩
    have hr : T (q_hp H j) = 1 := by
      unfold q_hin at hh
      simp only [Bool.and_eq_true, decide_eq_true_eq] at hh
      exact hh.2.2
    exact q_isr_get (P := fun v => ∃ h, h < j + 1 ∧ v = nI h ∧ T (q_hp H h) = 1) ⟨j, by omega, rfl, hr⟩ s.2 s.2 s.1 (Nat.le_refl _) (fun i hi hne => by
      obtain ⟨h, a, b, c⟩ := h2 i (by omega)
      exact ⟨h, by omega, b, c⟩) i (by have : i < s.2 + 1 := hi; omega)
theorem q_gth_ok {H T : Nat → Int32} {pt w : Int32} : ∀ (k i : Nat) (s : (Nat → Int32) × Nat), q_cok H T i s → q_cok H T (i + k) (q_it (q_gth1 H T pt w) i k s)
  | 0, _, _, h => h
  | k + 1, i, s, h => by
    rw [q_it_s, show i + (k + 1) = i + 1 + k by omega]
    exact q_gth_ok k (i + 1) _ (q_gth1_ok h)
/-- what the class holds of plugs and hooks; what the model holds -/
def q_ch (I : Nat → Nat → Int32) (H T : Nat → Int32) (n hk : Nat) : Prop := I 3 2 = nI n ∧ I 3 3 = nI hk ∧ n ≤ 12 ∧ hk ≤ 24 ∧ (∀ p, p < n → v_plug q_bc (q_ar 131 I T) 6 131 p) ∧ ∀ i, i < hk → v_hook (q_ar 132 I H) 18 132 0 i n
def q_mh (I : Nat → Nat → Int32) (H T : Nat → Int32) (n hk : Nat) : Prop := I 130 0 = nI n ∧ I 130 4 = nI hk ∧ I 131 = T ∧ I 132 = H
theorem q_ch_congr {I I' : Nat → Nat → Int32} {H T : Nat → Int32} {n hk : Nat} (ho : ∀ o, o < 42 → I' o = I o) (h : q_ch I H T n hk) : q_ch I' H T n hk := by
  obtain ⟨a, b, c, d, e, f⟩ := h
  refine ⟨by rw [ho 3 (by decide)]; exact a, by rw [ho 3 (by decide)]; exact b, c, d, fun p hp => v_plug_same (by omega) (ho _ (by omega)) (fun _ _ => rfl) (e p hp), fun i hi => v_hook_congr ?_ ?_ (f i hi)⟩
  · rw [q_ar_ne (by omega), q_ar_ne (by omega)]
    exact ho _ (by omega)
  · funext z
    rw [q_ar_eq, q_ar_eq]
/-- a hook, in the class's words -/
theorem q_ch_hook {I : Nat → Nat → Int32} {H T : Nat → Int32} {n hk i : Nat} (h : q_ch I H T n hk) (hi : i < hk) : I (18 + i) 0 = nI (q_hp H i) ∧ H i = nI (q_hp H i) ∧ q_hp H i < n ∧ I (18 + i) 1 = H (24 + i) ∧ I (18 + i) 2 = H (48 + i) ∧ I (18 + i) 3 = H (72 + i) ∧ I (18 + i) 4 = H (96 + i) ∧ ∃ f, f < 9 ∧ H (72 + i) = nI f := by
  obtain ⟨a, b, c, d, e, f⟩ := h
  obtain ⟨⟨h0, h1, h2, h3, h4⟩, ⟨p, hp, hp2⟩, r1, r2, r3, r4⟩ := f i hi
  rw [q_ar_ne (show 18 + i ≠ 132 by omega)] at h0 h1 h2 h3 h4
  simp only [q_ar_eq, Nat.zero_add] at h0 h1 h2 h3 h4 hp2 r3
  have e1 : q_hp H i = p := by
    unfold q_hp
    rw [hp2, q_clamp (by omega)]
  obtain ⟨v, hv, ev⟩ := q_in_get (n := 9) (x := H (72 + i)) (decide_eq_true ⟨r3.1, by have := r3.2; omega⟩)
  rw [e1]
  exact ⟨by rw [h0, hp2], hp2, hp, h1, h2, h3, h4, v, hv, ev⟩
theorem q_ch_plug {I : Nat → Nat → Int32} {H T : Nat → Int32} {n hk p : Nat} (h : q_ch I H T n hk) (hp : p < n) : I (6 + p) 9 = T p ∧ (T p = 1 → I (6 + p) 10 = T (84 + p)) ∧ I (6 + p) 8 = T (96 + p) := by
  obtain ⟨a, b, c, d, e, f⟩ := h
  have h9 := (e p hp).1.2.2.2.2.2.2.1
  have h8 := (e p hp).1.2.2.2.2.2.2.2
  have h10 := (e p hp).2.1
  rw [q_ar_ne (show 6 + p ≠ 131 by omega), q_ar_eq] at h9 h8
  rw [q_ar_ne (show 6 + p ≠ 131 by omega), q_ar_eq, q_ar_eq] at h10
  exact ⟨h9, h10, h8⟩
section CHN1
variable {L d : Nat} {I : Nat → Nat → Int32} {J : Nat → Nat → Int64} {t : Nat}
theorem s_hkm {Q : Value → q_Mem → Prop} {H T : Nat → Int32} {n hk w h : Nat} (hm : q_mh I H T n hk) (hh : h < 24) (hw : w < 5) : q_W (d + 1) 194 [.ref 130, .int (nI w), .int (nI h)] (q_mm L I J t) Q = Q (.int (H (24 * w + h))) (q_mm L I J t) := by
  rw [s_hk (by omega), hm.2.2.2]
theorem s_isAhead {Q : Value → q_Mem → Prop} {H T : Nat → Int32} {n hk g h : Nat} (hm : q_mh I H T n hk) (hk24 : hk ≤ 24) (h12 : n ≤ 12) (hg : g < hk) (hh : h < hk) (hgh : h < g) (hpg : H g = nI (q_hp H g) ∧ q_hp H g < n) (hph : H h = nI (q_hp H h) ∧ q_hp H h < n) : q_W (d + 3) 197 [.ref 130, .int (nI g), .int (nI h)] (q_mm L I J t) Q = Q (.int (q_bb (q_ahd H T g h))) (q_mm L I J t) := by
  have x2 : ∀ {Q : Value → q_Mem → Prop} {z : Nat}, z < hk → q_W (d + 2) 194 [.ref 130, .int 2, .int (nI z)] (q_mm L I J t) Q = Q (.int (H (48 + z))) (q_mm L I J t) := fun hz => by
    rw [show (2 : Int32) = nI 2 by decide, s_hkm hm (by omega) (by decide)]
  have x0 : ∀ {Q : Value → q_Mem → Prop} {z : Nat}, z < hk → q_W (d + 2) 194 [.ref 130, .int 0, .int (nI z)] (q_mm L I J t) Q = Q (.int (H z)) (q_mm L I J t) := fun {Q} {z} hz => by
    rw [show (0 : Int32) = nI 0 by decide, s_hkm hm (by omega) (by decide), show 24 * 0 + z = z by omega]
  rw [e_M_isAhead, x2 hg, q_onI_i, g_M_isAhead_6, x2 hh, q_onI_i, g_M_isAhead_12, x0 hg, q_onI_i, g_M_isAhead_42, x0 hh, q_onI_i, g_M_isAhead_48, x0 hg, q_onI_i, g_M_isAhead_58, x0 hh, q_onI_i, g_M_isAhead_64, x2 hg, q_onI_i, g_M_isAhead_21, x2 hh, q_onI_i, g_M_isAhead_27]
  unfold q_ahd
  by_cases e1 : H (48 + g) = H (48 + h)
  · rw [q_br e1, decide_eq_true e1]
    dsimp only
    rw [hpg.1, hph.1, s_isOlder (by omega) (by omega), q_onI_i, g_M_isAhead_67, q_eqN (by omega) (by omega), q_leN (by omega) (by omega), hm.2.2.1]
    have z1 : ∀ a b : Nat, q_hp (fun b => H b) a = q_hp H a := fun _ _ => rfl
    by_cases e2 : q_hp H g = q_hp H h
    · rw [q_br e2, q_br (by omega), e2, decide_eq_false (fun z => Int32.lt_irrefl z)]
      simp only [eq_self, true_or, true_and]
      rfl
    · rw [q_brn e2]
      simp only [q_bbok, true_and]
  · rw [q_brn e1, decide_eq_false e1]
    dsimp only
    by_cases e2 : H (48 + h) < H (48 + g)
    · rw [q_brn (Int32.not_le.mpr e2), decide_eq_true e2]
      simp only [q_onI_i, q_onJ_j, q_onS_s, q_onB_t, true_and, and_true, true_or, or_true, eq_self, true_implies, not_true_eq_false, not_false_eq_true, false_implies, q_bb0, q_bbok, q_bbok2, Bool.true_eq_false, Bool.false_eq_true, reduceCtorEq]
      rfl
    · rw [q_br (Int32.not_lt.mp e2), decide_eq_false e2]
      simp only [q_onI_i, q_onJ_j, q_onS_s, q_onB_t, true_and, and_true, true_or, or_true, eq_self, true_implies, not_true_eq_false, not_false_eq_true, false_implies, q_bb0, q_bbok, q_bbok2, Bool.true_eq_false, Bool.false_eq_true, reduceCtorEq]
      rfl
theorem l_Mins {H T : Nat → Int32} {n hk g m : Nat} {x1 x2 : Int32} (hk24 : hk ≤ 24) (h12 : n ≤ 12) (hg : g < hk) (hmg : m ≤ g) (hpl : ∀ h, h < hk → H h = nI (q_hp H h) ∧ q_hp H h < n) : ∀ (a : Nat) (C : Nat → Int32) (I : Nat → Nat → Int32), a ≤ m → q_mh I H T n hk → I 130 23 = nI m → (∀ i, i ≤ m → i ≠ a → I 141 i = C i ∧ ∃ h, h < g ∧ C i = nI h) → ∃ (F : Nat → Nat → Int32) (w4 : Option Value), (∀ o, o ≠ 130 → o ≠ 141 → F o = I o) ∧ (∀ b, b ≠ 23 → F 130 b = I 130 b) ∧ F 130 23 = nI (m + 1) ∧ (∀ i, i ≤ m → F 141 i = q_isr H T g a C i) ∧ ∀ rt, q_X (q_W (d + 3)) rt 198 (53, [some (.ref 130), some (.int x1), some (.int x2), some (.int (nI g)), some (.int (nI a))], [], (q_mm L I J t), 0, 0) = q_X (q_W (d + 3)) rt 198 (7, [some (.ref 130), some (.int x1), some (.int x2), some (.int (nI (g + 1))), w4], [], q_mm L F J t, 0, 0)
  | 0, C, I, ha, hm, h23, hC => by
    refine ⟨q_u (q_u I 141 0 (nI g)) 130 23 (nI (m + 1)), some (.int (nI 0)), fun o h1 h2 => by rw [q_u_ne h1, q_u_ne h2], fun b hb => by rw [q_u_nk hb, q_u_ne (by decide)], q_u_eq, fun i hi => ?_, fun rt => ?_⟩
    · rw [q_u_ne (by decide)]
      unfold q_isr
      by_cases e : i = 0
      · subst e
        rw [q_u_eq, q_up_eq]
      · rw [q_u_nk e, q_up_ne e]
        exact (hC i hi e).1
    · rw [g_M_chains_53, q_le0 (by decide), q_br rfl]
      simp only [q_clamp (show 0 < 2 ^ 31 by decide), q_bnd (show 0 < 24 by decide) (by decide), true_and]
      rw [q_u_ne (show (130 : Nat) ≠ 141 by decide), h23, q_n1, q_n1]
  | a + 1, C, I, ha, hm, h23, hC => by
    obtain ⟨hCa, h, hhg, hCh⟩ := hC a (by omega) (by omega)
    have hah := fun Q => s_isAhead (L := L) (d := d) (J := J) (t := t) (Q := Q) hm hk24 h12 hg (show h < hk by omega) hhg (hpl g hg) (hpl h (by omega))
    have hstep : ∀ rt, q_X (q_W (d + 3)) rt 198 (53, [some (.ref 130), some (.int x1), some (.int x2), some (.int (nI g)), some (.int (nI (a + 1)))], [], (q_mm L I J t), 0, 0) = q_X (q_W (d + 3)) rt 198 (72, [some (.ref 130), some (.int x1), some (.int x2), some (.int (nI g)), some (.int (nI (a + 1)))], [.int (q_bb (q_ahd H T g h))], (q_mm L I J t), 0, 0) := by
      intro rt
      rw [g_M_chains_53, q_le0 (by omega), q_brn (by omega), nI_pred]
      simp only [q_clamp (show a < 2 ^ 31 by omega), q_bnd (show a < 24 by omega) (by decide), true_and, hCa, hCh]
      rw [hah, q_onI_i]
    have hcl : (C a).toNatClampNeg = h := by rw [hCh, q_clamp (by omega)]
    unfold q_isr
    rw [hcl]
    cases hb : q_ahd H T g h with
    | false =>
      refine ⟨q_u (q_u I 141 (a + 1) (nI g)) 130 23 (nI (m + 1)), some (.int (nI (a + 1))), fun o h1 h2 => by rw [q_u_ne h1, q_u_ne h2], fun b hb => by rw [q_u_nk hb, q_u_ne (by decide)], q_u_eq, fun i hi => ?_, fun rt => ?_⟩
      · rw [q_u_ne (by decide)]
        show _ = q_up C (a + 1) (nI g) i
        by_cases e : i = a + 1
        · subst e
          rw [q_u_eq, q_up_eq]
        · rw [q_u_nk e, q_up_ne e]
          exact (hC i hi e).1
      · rw [hstep, hb, g_M_chains_72, q_br (show q_bb false = 0 from rfl)]
        simp only [q_clamp (show a + 1 < 2 ^ 31 by omega), q_bnd (show a + 1 < 24 by omega) (by decide), true_and]
        rw [q_u_ne (show (130 : Nat) ≠ 141 by decide), h23, q_n1, q_n1]
    | true =>
      obtain ⟨F, w4, f1, f2, f3, f4, f5⟩ := l_Mins (H := H) (T := T) (n := n) (x1 := x1) (x2 := x2) hk24 h12 hg hmg hpl a (q_up C (a + 1) (C a)) (q_u I 141 (a + 1) (I 141 a)) (by omega) ⟨by rw [q_u_ne (by decide)]; exact hm.1, by rw [q_u_ne (by decide)]; exact hm.2.1, by rw [q_u_ne (by decide)]; exact hm.2.2.1, by rw [q_u_ne (by decide)]; exact hm.2.2.2⟩ (by rw [q_u_ne (by decide)]; exact h23) (fun i hi hia => by
        by_cases e : i = a + 1
        · subst e
          rw [q_u_eq, q_up_eq]
          exact ⟨hCa, h, hhg, hCh⟩
        · rw [q_u_nk e, q_up_ne e]
          exact hC i hi e)
      refine ⟨F, w4, fun o h1 h2 => by rw [f1 o h1 h2, q_u_ne h2], fun b hb => by rw [f2 b hb, q_u_ne (by decide)], f3, f4, fun rt => ?_⟩
      rw [hstep, hb, g_M_chains_72, q_brn (by decide), nI_pred, q_m1, nI_pred]
      simp only [q_clamp (show a < 2 ^ 31 by omega), q_bnd (show a < 24 by omega) (by decide), q_clamp (show a + 1 < 2 ^ 31 by omega), q_bnd (show a + 1 < 24 by omega) (by decide), true_and]
      exact f5 rt
theorem l_Mchn {H T : Nat → Int32} {n hk : Nat} {pt w : Int32} (hk24 : hk ≤ 24) (h12 : n ≤ 12) (hpl : ∀ h, h < hk → H h = nI (q_hp H h) ∧ q_hp H h < n) : ∀ (k j : Nat) (s : (Nat → Int32) × Nat) (I : Nat → Nat → Int32), j + k = hk → q_mh I H T n hk → q_cok H T j s → I 130 23 = nI s.2 → (∀ i, i < s.2 → I 141 i = s.1 i) → ∃ F, (∀ o, o ≠ 130 → o ≠ 141 → F o = I o) ∧ (∀ b, b ≠ 23 → F 130 b = I 130 b) ∧ F 130 23 = nI (q_it (q_gth1 H T pt w) j k s).2 ∧ (∀ i, i < (q_it (q_gth1 H T pt w) j k s).2 → F 141 i = (q_it (q_gth1 H T pt w) j k s).1 i) ∧ ∀ (rt : Value → q_Mem → Nat → Nat → Prop) (w4 : Option Value), q_X (q_W (d + 3)) rt 198 (7, [some (.ref 130), some (.int pt), some (.int w), some (.int (nI j)), w4], [], (q_mm L I J t), 0, 0) = rt .null (q_mm L F J t) 0 0
  | 0, j, s, I, h, hm, hs, h23, h141 => by
    refine ⟨I, fun _ _ _ => rfl, fun _ _ => rfl, h23, h141, fun rt w4 => ?_⟩
    rw [g_M_chains_7, hm.2.1, q_leN (by omega) (by omega), q_br (by omega)]
  | k + 1, j, s, I, h, hm, hs, h23, h141 => by
    have hj : j < hk := by omega
    obtain ⟨hpj, hpn⟩ := hpl j hj
    have x1 : ∀ {Q : Value → q_Mem → Prop}, q_W (d + 3) 194 [.ref 130, .int 1, .int (nI j)] (q_mm L I J t) Q = Q (.int (H (24 + j))) (q_mm L I J t) := fun {Q} => by
      rw [show (1 : Int32) = nI 1 by decide, s_hkm hm (by omega) (by decide)]
    have x0 : ∀ {Q : Value → q_Mem → Prop}, q_W (d + 3) 194 [.ref 130, .int 0, .int (nI j)] (q_mm L I J t) Q = Q (.int (nI (q_hp H j))) (q_mm L I J t) := fun {Q} => by
      rw [show (0 : Int32) = nI 0 by decide, s_hkm hm (by omega) (by decide), show 24 * 0 + j = j by omega]
      conv => lhs; rw [hpj]
    have hskip : q_hin H T pt w j = false → ∃ F, (∀ o, o ≠ 130 → o ≠ 141 → F o = I o) ∧ (∀ b, b ≠ 23 → F 130 b = I 130 b) ∧ F 130 23 = nI (q_it (q_gth1 H T pt w) j (k + 1) s).2 ∧ (∀ i, i < (q_it (q_gth1 H T pt w) j (k + 1) s).2 → F 141 i = (q_it (q_gth1 H T pt w) j (k + 1) s).1 i) ∧ ∀ (rt : Value → q_Mem → Nat → Nat → Prop) (w4 : Option Value), q_X (q_W (d + 3)) rt 198 (7, [some (.ref 130), some (.int pt), some (.int w), some (.int (nI (j + 1))), w4], [], (q_mm L I J t), 0, 0) = rt .null (q_mm L F J t) 0 0 := fun hf => by
      have e : q_gth1 H T pt w j s = s := by
        unfold q_gth1
        rw [hf]
      have := l_Mchn (H := H) (T := T) (n := n) (pt := pt) (w := w) hk24 h12 hpl k (j + 1) s I (by omega) hm (by have h := q_gth1_ok (pt := pt) (w := w) hs; rw [e] at h; exact h) h23 h141
      rw [q_it_s, e]
      exact this
    by_cases e1 : nI j = w
    · obtain ⟨F, f1, f2, f3, f4, f5⟩ := hskip (by unfold q_hin; rw [decide_eq_true e1]; rfl)
      refine ⟨F, f1, f2, f3, f4, fun rt w4 => ?_⟩
      rw [g_M_chains_7, hm.2.1, q_leN (by omega) (by omega), q_brn (by omega), q_br e1, q_n1, f5]
    · by_cases e2 : H (24 + j) = pt
      · by_cases e3 : T (q_hp H j) = 1
        · have hin : q_hin H T pt w j = true := by
            unfold q_hin
            rw [decide_eq_false e1, decide_eq_true e2, decide_eq_true e3]
            rfl
          have e : q_gth1 H T pt w j s = (q_isr H T j s.2 s.1, s.2 + 1) := by
            unfold q_gth1
            rw [hin]
          obtain ⟨F, w4', f1, f2, f3, f4, f5⟩ := l_Mins (L := L) (d := d) (J := J) (t := t) (H := H) (T := T) (x1 := pt) (x2 := w) hk24 h12 hj hs.1 hpl s.2 s.1 I (Nat.le_refl _) hm h23 (fun i hi hne => by
            obtain ⟨h, a, b, -⟩ := hs.2 i (by omega)
            exact ⟨h141 i (by omega), h, a, b⟩)
          obtain ⟨F', u1, u2, u3, u4, u5⟩ := l_Mchn (H := H) (T := T) (n := n) (pt := pt) (w := w) hk24 h12 hpl k (j + 1) (q_isr H T j s.2 s.1, s.2 + 1) F (by omega) ⟨by rw [f2 0 (by decide)]; exact hm.1, by rw [f2 4 (by decide)]; exact hm.2.1, by rw [f1 131 (by decide) (by decide)]; exact hm.2.2.1, by rw [f1 132 (by decide) (by decide)]; exact hm.2.2.2⟩ (by have h := q_gth1_ok (pt := pt) (w := w) hs; rw [e] at h; exact h) f3 (fun i hi => f4 i (by have : i < s.2 + 1 := hi; omega))
          refine ⟨F', fun o h1 h2 => (u1 o h1 h2).trans (f1 o h1 h2), fun b hb => (u2 b hb).trans (f2 b hb), by rw [q_it_s, e]; exact u3, fun i hi => by rw [q_it_s, e] at hi ⊢; exact u4 i hi, fun rt w4 => ?_⟩
          rw [g_M_chains_7, hm.2.1, q_leN (by omega) (by omega), q_brn (by omega), q_brn e1, x1, q_onI_i, g_M_chains_26, q_br e2, x0, q_onI_i, g_M_chains_37, s_state (by omega), q_onI_i, hm.2.2.1, g_M_chains_40, q_br e3, h23, f5, u5]
        · obtain ⟨F, f1, f2, f3, f4, f5⟩ := hskip (by unfold q_hin; rw [decide_eq_false e3, Bool.and_false, Bool.and_false])
          refine ⟨F, f1, f2, f3, f4, fun rt w4 => ?_⟩
          rw [g_M_chains_7, hm.2.1, q_leN (by omega) (by omega), q_brn (by omega), q_brn e1, x1, q_onI_i, g_M_chains_26, q_br e2, x0, q_onI_i, g_M_chains_37, s_state (by omega), q_onI_i, hm.2.2.1, g_M_chains_40, q_brn e3, q_n1, f5]
      · obtain ⟨F, f1, f2, f3, f4, f5⟩ := hskip (by unfold q_hin; rw [decide_eq_false e2, Bool.false_and, Bool.and_false])
        refine ⟨F, f1, f2, f3, f4, fun rt w4 => ?_⟩
        rw [g_M_chains_7, hm.2.1, q_leN (by omega) (by omega), q_brn (by omega), q_brn e1, x1, q_onI_i, g_M_chains_26, q_brn e2, q_n1, f5]
theorem m_chains {I : Nat → Nat → Int32} {H T : Nat → Int32} {n hk : Nat} {pt w : Int32} (hk24 : hk ≤ 24) (h12 : n ≤ 12) (hpl : ∀ h, h < hk → H h = nI (q_hp H h) ∧ q_hp H h < n) (hm : q_mh I H T n hk) : ∃ F, (∀ o, o ≠ 130 → o ≠ 141 → F o = I o) ∧ (∀ b, b ≠ 23 → F 130 b = I 130 b) ∧ F 130 23 = nI (q_gth H T pt w hk).2 ∧ (∀ i, i < (q_gth H T pt w hk).2 → F 141 i = (q_gth H T pt w hk).1 i) ∧ ∀ {Q : Value → q_Mem → Prop}, q_W (d + 4) 198 [.ref 130, .int pt, .int w] (q_mm L I J t) Q = Q .null (q_mm L F J t) := by
  obtain ⟨F, f1, f2, f3, f4, f5⟩ := l_Mchn (L := L) (d := d) (J := J) (t := t) (H := H) (T := T) (n := n) (pt := pt) (w := w) hk24 h12 hpl hk 0 (fun _ => 0, 0) (q_u I 130 23 0) (by omega) ⟨by rw [q_u_nk (by decide)]; exact hm.1, by rw [q_u_nk (by decide)]; exact hm.2.1, by rw [q_u_ne (by decide)]; exact hm.2.2.1, by rw [q_u_ne (by decide)]; exact hm.2.2.2⟩ ⟨Nat.le_refl _, fun i hi => absurd hi (Nat.not_lt_zero i)⟩ q_u_eq (fun i hi => absurd hi (Nat.not_lt_zero i))
  refine ⟨F, fun o h1 h2 => by rw [f1 o h1 h2, q_u_ne h1], fun b hb => by rw [f2 b hb, q_u_nk hb], f3, f4, fun {Q} => ?_⟩
  rw [e_M_chains, show (0 : Int32) = nI 0 by decide]
  exact f5 _ _
end CHN1
