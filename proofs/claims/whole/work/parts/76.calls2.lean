/-! matter, judge -/
theorem q_isr_ex {H T : Nat → Int32} {g : Nat} {v : Int32} : ∀ (a m : Nat) (C : Nat → Int32), a ≤ m → (v = nI g ∨ ∃ i, i ≤ m ∧ i ≠ a ∧ C i = v) → ∃ i, i ≤ m ∧ q_isr H T g a C i = v
  | 0, m, C, ha, h => by
    unfold q_isr
    rcases h with h | ⟨i, h1, h2, h3⟩
    · exact ⟨0, Nat.zero_le _, by rw [q_up_eq, h]⟩
    · exact ⟨i, h1, by rw [q_up_ne h2, h3]⟩
  | a + 1, m, C, ha, h => by
    unfold q_isr
    cases q_ahd H T g (C a).toNatClampNeg with
    | true =>
      refine q_isr_ex a m _ (by omega) ?_
      rcases h with h | ⟨i, h1, h2, h3⟩
      · exact Or.inl h
      · by_cases e : i = a
        · subst e
          exact Or.inr ⟨i + 1, ha, by omega, by rw [q_up_eq, h3]⟩
        · exact Or.inr ⟨i, h1, e, by rw [q_up_ne h2, h3]⟩
    | false =>
      rcases h with h | ⟨i, h1, h2, h3⟩
      · exact ⟨a + 1, ha, by show q_up C (a + 1) (nI g) (a + 1) = v; rw [q_up_eq, h]⟩
      · exact ⟨i, h1, by show q_up C (a + 1) (nI g) i = v; rw [q_up_ne h2, h3]⟩
theorem q_gth_in {H T : Nat → Int32} {pt w : Int32} : ∀ (k j : Nat) (s : (Nat → Int32) × Nat) (h : Nat), ((h < j ∧ ∃ i, i < s.2 ∧ s.1 i = nI h) ∨ (j ≤ h ∧ h < j + k ∧ q_hin H T pt w h = true)) → ∃ i, i < (q_it (q_gth1 H T pt w) j k s).2 ∧ (q_it (q_gth1 H T pt w) j k s).1 i = nI h
  | 0, j, s, h, hh => by
    rcases hh with hh | hh
    · exact hh.2
    · omega
  | k + 1, j, s, h, hh => by
    rw [q_it_s]
    refine q_gth_in k (j + 1) _ h ?_
    rcases hh with ⟨h1, i, h2, h3⟩ | ⟨h1, h2, h3⟩
    · refine Or.inl ⟨by omega, ?_⟩
      unfold q_gth1
      cases q_hin H T pt w j with
      | false => exact ⟨i, h2, h3⟩
      | true =>
        obtain ⟨i', a, b⟩ := q_isr_ex (H := H) (T := T) (g := j) (v := nI h) s.2 s.2 s.1 (Nat.le_refl _) (Or.inr ⟨i, by omega, by omega, h3⟩)
        exact ⟨i', by show i' < s.2 + 1; omega, b⟩
    · by_cases e : h = j
      · subst e
        refine Or.inl ⟨by omega, ?_⟩
        unfold q_gth1
        rw [h3]
        obtain ⟨i', a, b⟩ := q_isr_ex (H := H) (T := T) (g := h) (v := nI h) s.2 s.2 s.1 (Nat.le_refl _) (Or.inl rfl)
        exact ⟨i', by show i' < s.2 + 1; omega, b⟩
      · exact Or.inr ⟨by omega, by omega, h3⟩
/-- one that is in no chain changes nothing -/
theorem q_gth_out {H T : Nat → Int32} {pt : Int32} {hk h : Nat} (hk24 : hk ≤ 24) (hh : h < hk) (ho : q_hin H T pt (-1) h = false) : q_gth H T pt (nI h) hk = q_gth H T pt (-1) hk := by
  unfold q_gth
  refine q_it_congr hk 0 _ fun p a _ hp => ?_
  unfold q_gth1
  have e : q_hin H T pt (nI h) p = q_hin H T pt (-1) p := by
    by_cases z : p = h
    · subst z
      rw [ho]
      unfold q_hin
      rw [decide_eq_true rfl]
      rfl
    · unfold q_hin
      rw [decide_eq_false (show ¬ nI p = nI h by rw [q_eqN (by omega) (by omega)]; exact z), decide_eq_false (q_nIm1 (show p < 2 ^ 31 by omega))]
  rw [e]
def q_dif (H T : Nat → Int32) (pt x : Int32) (hk h : Nat) : Bool := !(decide ((q_frr H T pt (nI h) hk x).1.1 = (q_frr H T pt (-1) hk x).1.1) && decide ((q_frr H T pt (nI h) hk x).1.2 = (q_frr H T pt (-1) hk x).1.2))
section MAT
variable {L d : Nat} {J : Nat → Nat → Int64} {t : Nat}
theorem l_Cmat {H T : Nat → Int32} {n hk : Nat} {pt x : Int32} (ho3 : (q_frr H T pt (-1) hk x).1.1 < 3) : ∀ (k h : Nat) (b : Int32) (I : Nat → Nat → Int32), h + k = hk → q_ch I H T n hk → ∃ F, q_fid I F ∧ ∀ (rt : Value → q_Mem → Nat → Nat → Prop), q_X (q_W (d + 60)) rt 107 (54, [some (.ref 1), some (.int pt), some (.int x), some (.int (nI (q_frr H T pt (-1) hk x).1.1)), some (.int (q_frr H T pt (-1) hk x).1.2), some (.int b), some (.int (nI h))], [], (q_mm L I J t), 0, 0) = rt (.int (q_it (q_orb (q_dif H T pt x hk)) h k b)) (q_mm L F J t) 0 0
  | 0, h, b, I, hh, hc => by
    have h24 := hc.2.2.2.1
    refine ⟨I, q_fid_refl, fun rt => ?_⟩
    rw [g_C_matter_54, hc.2.1, q_leN (by omega) (by omega), q_br (by omega)]
    rfl
  | k + 1, h, b, I, hh, hc => by
    have h24 := hc.2.2.2.1
    obtain ⟨F, f1, f2, f3, f4⟩ := c_gath90 (L := L) (d := d + 54) (J := J) (t := t) (pt := pt) (w := nI h) hc
    have d1 := q_fid_g90 f1
    obtain ⟨F2, p1, p2, p3, p4, p5, p6⟩ := c_frun90 (L := L) (d := d + 6) (J := J) (t := t) (x := x) f3
    have d2 := q_fid_trans d1 (q_fid_w90 p1)
    obtain ⟨F', u1, u2⟩ := l_Cmat (H := H) (T := T) (n := n) (hk := hk) (pt := pt) (x := x) ho3 k (h + 1) (q_orb (q_dif H T pt x hk) h b) F2 (by omega) (q_fid_ch d2 hc)
    refine ⟨F', q_fid_trans d2 u1, fun rt => ?_⟩
    rw [g_C_matter_54, hc.2.1, q_leN (by omega) (by omega), q_brn (by omega), f4, g_C_matter_76, p6, g_C_matter_84, p3, p5, q_it_s, ← u2 rt]
    unfold q_orb q_dif q_frr at *
    rw [q_eqN (by omega) (by omega), q_n1]
    by_cases e1 : (q_ak H (q_gth H T pt (nI h) hk).1 (q_gth H T pt (nI h) hk).2 (q_gth H T pt (nI h) hk).2 x (0, fun _ => 0, fun _ => 0)).1.1 = (q_ak H (q_gth H T pt (-1) hk).1 (q_gth H T pt (-1) hk).2 (q_gth H T pt (-1) hk).2 x (0, fun _ => 0, fun _ => 0)).1.1
    · by_cases e2 : (q_ak H (q_gth H T pt (nI h) hk).1 (q_gth H T pt (nI h) hk).2 (q_gth H T pt (nI h) hk).2 x (0, fun _ => 0, fun _ => 0)).1.2 = (q_ak H (q_gth H T pt (-1) hk).1 (q_gth H T pt (-1) hk).2 (q_gth H T pt (-1) hk).2 x (0, fun _ => 0, fun _ => 0)).1.2
      · rw [q_br e1, q_br e2, decide_eq_true e1, decide_eq_true e2]
        rfl
      · rw [q_br e1, q_brn e2, decide_eq_true e1, decide_eq_false e2]
        rfl
    · rw [q_brn e1, decide_eq_false e1]
      rfl
theorem l_Min {H T C : Nat → Int32} {n hk len : Nat} {I : Nat → Nat → Int32} {pt x : Int32} (hk24 : hk ≤ 24) (hx : q_fxm I H T C n hk len) : ∀ (k i : Nat) (b : Int32), i + k = len → ∃ b', (∀ h, h < 24 → q_bt b h = true → q_bt b' h = true) ∧ (∀ j h, i ≤ j → j < len → h < 24 → C j = nI h → q_bt b' h = true) ∧ ∀ (rt : Value → q_Mem → Nat → Nat → Prop), q_X (q_W d) rt 207 (24, [some (.ref 130), some (.int pt), some (.int x), some (.int b), some (.int (nI i)), none, none, none], [], (q_mm L I J t), 0, 0) = q_W d 203 [.ref 130, .int x] (q_mm L I J t) fun v μ => q_onI False v fun x' => q_X (q_W d) rt 207 (56, [some (.ref 130), some (.int pt), some (.int x), some (.int b'), some (.int (nI len)), none, none, none], [.int x'], μ, 0, 0)
  | 0, i, b, h => by
    have : i = len := by omega
    subst this
    have hlen := hx.2.2.1
    refine ⟨b, fun _ _ h => h, fun j h a b => absurd a (by omega), fun rt => ?_⟩
    rw [g_M_matter_24, hx.2.1, q_leN (by omega) (by omega), q_br (Nat.le_refl _)]
  | k + 1, i, b, h => by
    have hlen := hx.2.2.1
    obtain ⟨hCi, g, hg, eg⟩ := hx.2.2.2 i (by omega)
    obtain ⟨b', b1, b2, b3⟩ := l_Min (hk := hk) (pt := pt) (x := x) hk24 hx k (i + 1) (b ||| ((1 : Int32) <<< (nI g &&& 31))) (by omega)
    refine ⟨b', fun z hz h0 => b1 z hz (by rw [q_bt_or, h0]; rfl), fun j z h1 h2 h3 h4 => ?_, fun rt => ?_⟩
    · by_cases e : j = i
      · subst e
        rw [eg] at h4
        have ez : g = z := by
          rw [q_eqN (by omega) (by omega)] at h4
          exact h4
        subst ez
        refine b1 g h3 ?_
        rw [q_bt_or, q_bt_one g (by omega) g (by omega)]
        simp
      · exact b2 j z (by omega) h2 h3 h4
    · rw [g_M_matter_24, hx.2.1, q_leN (by omega) (by omega), q_brn (by omega)]
      simp only [q_clamp (show i < 2 ^ 31 by omega), q_bnd (show i < 24 by omega) (by decide), true_and, hCi, eg, q_n1, b3]
theorem l_Mmat {H T : Nat → Int32} {n hk : Nat} {pt x bi : Int32} (hok : q_hok H n hk) (ho3 : (q_frr H T pt (-1) hk x).1.1 < 3) (hin : ∀ h, h < hk → q_bt bi h = false → q_dif H T pt x hk h = false) : ∀ (k h : Nat) (b : Int32) (I : Nat → Nat → Int32), h + k = hk → q_mh I H T n hk → ∃ F, q_fid I F ∧ ∀ (rt : Value → q_Mem → Nat → Nat → Prop), q_X (q_W (d + 30)) rt 207 (70, [some (.ref 130), some (.int pt), some (.int x), some (.int bi), some (.int (q_frr H T pt (-1) hk x).1.2), some (.int (nI (q_frr H T pt (-1) hk x).1.1)), some (.int b), some (.int (nI h))], [], (q_mm L I J t), 0, 0) = rt (.int (q_it (q_orb (q_dif H T pt x hk)) h k b)) (q_mm L F J t) 0 0
  | 0, h, b, I, hh, hm => by
    have h24 := hok.2.1
    refine ⟨I, q_fid_refl, fun rt => ?_⟩
    rw [g_M_matter_70, hm.2.1, q_leN (by omega) (by omega), q_br (by omega)]
    rfl
  | k + 1, h, b, I, hh, hm => by
    have h24 := hok.2.1
    have hstep : ∀ (rt : Value → q_Mem → Nat → Nat → Prop), q_X (q_W (d + 30)) rt 207 (70, [some (.ref 130), some (.int pt), some (.int x), some (.int bi), some (.int (q_frr H T pt (-1) hk x).1.2), some (.int (nI (q_frr H T pt (-1) hk x).1.1)), some (.int b), some (.int (nI h))], [], (q_mm L I J t), 0, 0) = ((q_bt bi h = false → q_X (q_W (d + 30)) rt 207 (70, [some (.ref 130), some (.int pt), some (.int x), some (.int bi), some (.int (q_frr H T pt (-1) hk x).1.2), some (.int (nI (q_frr H T pt (-1) hk x).1.1)), some (.int b), some (.int (nI (h + 1)))], [], (q_mm L I J t), 0, 0)) ∧ (¬ q_bt bi h = false → q_W (d + 30) 198 [.ref 130, .int pt, .int (nI h)] (q_mm L I J t) fun _ μ => q_X (q_W (d + 30)) rt 207 (98, [some (.ref 130), some (.int pt), some (.int x), some (.int bi), some (.int (q_frr H T pt (-1) hk x).1.2), some (.int (nI (q_frr H T pt (-1) hk x).1.1)), some (.int b), some (.int (nI h))], [], μ, 0, 0))) := by
      intro rt
      rw [g_M_matter_70, hm.2.1, q_leN (by omega) (by omega), q_brn (by omega), q_shr0 (show h < 31 by omega), q_n1]
    rw [show (∃ F, q_fid I F ∧ ∀ (rt : Value → q_Mem → Nat → Nat → Prop), q_X (q_W (d + 30)) rt 207 (70, [some (.ref 130), some (.int pt), some (.int x), some (.int bi), some (.int (q_frr H T pt (-1) hk x).1.2), some (.int (nI (q_frr H T pt (-1) hk x).1.1)), some (.int b), some (.int (nI h))], [], (q_mm L I J t), 0, 0) = rt (.int (q_it (q_orb (q_dif H T pt x hk)) h (k + 1) b)) (q_mm L F J t) 0 0) = (∃ F, q_fid I F ∧ ∀ (rt : Value → q_Mem → Nat → Nat → Prop), q_X (q_W (d + 30)) rt 207 (70, [some (.ref 130), some (.int pt), some (.int x), some (.int bi), some (.int (q_frr H T pt (-1) hk x).1.2), some (.int (nI (q_frr H T pt (-1) hk x).1.1)), some (.int b), some (.int (nI h))], [], (q_mm L I J t), 0, 0) = rt (.int (q_it (q_orb (q_dif H T pt x hk)) (h + 1) k (q_orb (q_dif H T pt x hk) h b))) (q_mm L F J t) 0 0) from rfl]
    by_cases hb : q_bt bi h = false
    · have hd := hin h (by omega) hb
      have eo : q_orb (q_dif H T pt x hk) h b = b := by
        unfold q_orb
        rw [hd]
      obtain ⟨F', u1, u2⟩ := l_Mmat (H := H) (T := T) (n := n) (hk := hk) (pt := pt) (x := x) hok ho3 hin k (h + 1) b I (by omega) hm
      refine ⟨F', u1, fun rt => ?_⟩
      rw [hstep, q_br hb, eo]
      exact u2 rt
    · obtain ⟨G, g1, g2, g3, g4⟩ := m_gath (L := L) (d := d + 26) (J := J) (t := t) (pt := pt) (w := nI h) hok hm
      have d1 := q_fid_gm g1 g2
      obtain ⟨G2, k1, k2, k3, k4, k5⟩ := m_fires (L := L) (d := d) (J := J) (t := t) (x := x) hok g3
      have d2 := q_fid_trans d1 (q_fid_fm k1)
      obtain ⟨F', u1, u2⟩ := l_Mmat (H := H) (T := T) (n := n) (hk := hk) (pt := pt) (x := x) hok ho3 hin k (h + 1) (q_orb (q_dif H T pt x hk) h b) G2 (by omega) (q_fid_mh d2 hm)
      refine ⟨F', q_fid_trans d2 u1, fun rt => ?_⟩
      rw [hstep, q_brn hb, g4, g_M_matter_98, k5, q_onI_i, g_M_matter_103, k3, ← u2 rt]
      unfold q_orb q_dif q_frr at *
      rw [q_eqN (by omega) (by omega), q_n1]
      by_cases e1 : (q_ak H (q_gth H T pt (nI h) hk).1 (q_gth H T pt (nI h) hk).2 (q_gth H T pt (nI h) hk).2 x (0, fun _ => 0, fun _ => 0)).1.1 = (q_ak H (q_gth H T pt (-1) hk).1 (q_gth H T pt (-1) hk).2 (q_gth H T pt (-1) hk).2 x (0, fun _ => 0, fun _ => 0)).1.1
      · by_cases e2 : (q_ak H (q_gth H T pt (nI h) hk).1 (q_gth H T pt (nI h) hk).2 (q_gth H T pt (nI h) hk).2 x (0, fun _ => 0, fun _ => 0)).1.2 = (q_ak H (q_gth H T pt (-1) hk).1 (q_gth H T pt (-1) hk).2 (q_gth H T pt (-1) hk).2 x (0, fun _ => 0, fun _ => 0)).1.2
        · rw [q_br e2, q_br e1, decide_eq_true e1, decide_eq_true e2]
          rfl
        · rw [q_brn e2, decide_eq_true e1, decide_eq_false e2]
          rfl
      · by_cases e2 : (q_ak H (q_gth H T pt (nI h) hk).1 (q_gth H T pt (nI h) hk).2 (q_gth H T pt (nI h) hk).2 x (0, fun _ => 0, fun _ => 0)).1.2 = (q_ak H (q_gth H T pt (-1) hk).1 (q_gth H T pt (-1) hk).2 (q_gth H T pt (-1) hk).2 x (0, fun _ => 0, fun _ => 0)).1.2
        · rw [q_br e2, q_brn e1, decide_eq_false e1]
          rfl
        · rw [q_brn e2, decide_eq_false e1]
          rfl
end MAT
section MATTER
variable {L c : Nat} {I : Nat → Nat → Int32} {J : Nat → Nat → Int64} {t : Nat}
theorem t_matter {x y : Int32} (h : q_J c I J t) : q_SI 100 107 207 [.int x, .int y] (q_J (c + 1)) L I J t := by
  obtain ⟨n, hk, m, hr⟩ := id h
  obtain ⟨hc, hm⟩ := q_J_ch m
  have hok := q_ch_hok hc
  have h24 := hok.2.1
  unfold q_SI
  rw [e_C_matter, s_isBelow, show (4 : Int32).toInt = 4 by decide, q_onI_i, g_C_matter_5]
  cases hb : q_in x 4 with
  | false =>
    rw [q_br (show q_bb false = 0 from rfl), s_refuse1, q_onI_i, g_C_matter_13]
    refine ⟨_, _, _, _, rfl, rfl, q_u_ne (by decide), ?_⟩
    rw [e_M_matter, s_isPoint, hb, q_onI_i, g_M_matter_4, q_br (show q_bb false = 0 from rfl), s_no1, q_onI_i, g_M_matter_12]
    exact ⟨rfl, _, _, _, rfl, q_J_refuse 1 h⟩
  | true =>
    obtain ⟨F, f1, f2, f3, f4⟩ := c_gath90 (L := L) (d := 93) (J := J) (t := t) (pt := x) (w := -1) hc
    have d1 := q_fid_g90 f1
    obtain ⟨F2, p1, p2, p3, p4, p5, p6⟩ := c_frun90 (L := L) (d := 45) (J := J) (t := t) (x := y) f3
    have d2 := q_fid_trans d1 (q_fid_w90 p1)
    obtain ⟨F3, v1, v2⟩ := l_Cmat (L := L) (d := 39) (J := J) (t := t) (n := n) (hk := hk) (H := I 132) (T := I 131) (pt := x) (x := y) p4 hk 0 0 F2 (by omega) (q_fid_ch d2 hc)
    have d3 := q_fid_trans d2 v1
    obtain ⟨G, g1, g2, g3, g4⟩ := m_gath (L := L) (d := 95) (J := J) (t := t) (pt := x) (w := -1) hok (q_fid_mh d3 hm)
    have d4 := q_fid_trans d3 (q_fid_gm g1 g2)
    obtain ⟨bi, b1, b2, b3⟩ := l_Min (L := L) (d := 99) (J := J) (t := t) (pt := x) (x := y) h24 g3 (q_gth (I 132) (I 131) x (-1) hk).2 0 0 (by omega)
    obtain ⟨G2, k1, k2, k3, k4, k5⟩ := m_fires (L := L) (d := 69) (J := J) (t := t) (x := y) hok g3
    have d5 := q_fid_trans d4 (q_fid_fm k1)
    have hin : ∀ h, h < hk → q_bt bi h = false → q_dif (I 132) (I 131) x y hk h = false := fun h hh hbt => by
      have ho : q_hin (I 132) (I 131) x (-1) h = false := by
        cases e : q_hin (I 132) (I 131) x (-1) h with
        | false => rfl
        | true =>
          obtain ⟨i, i1, i2⟩ := q_gth_in (H := I 132) (T := I 131) (pt := x) (w := -1) hk 0 (fun _ => 0, 0) h (Or.inr ⟨Nat.zero_le _, by omega, e⟩)
          have := b2 i h (Nat.zero_le _) i1 (by omega) i2
          rw [hbt] at this
          exact absurd this (by decide)
      unfold q_dif q_frr
      rw [q_gth_out h24 hh ho, decide_eq_true rfl, decide_eq_true rfl]
      rfl
    obtain ⟨G3, w1, w2⟩ := l_Mmat (L := L) (d := 69) (J := J) (t := t) (n := n) (hk := hk) (H := I 132) (T := I 131) (pt := x) (x := y) (bi := bi) hok p4 hin hk 0 0 G2 (by omega) (q_fid_mh d5 hm)
    have d6 := q_fid_trans d5 w1
    rw [show nI 0 = (0 : Int32) by decide] at v2 b3 w2
    rw [q_brn (by decide), f4, g_C_matter_23, p6, g_C_matter_31, p3, p5]
    refine (v2 _).mpr ?_
    refine ⟨_, _, _, _, rfl, rfl, q_fid_0 d3, ?_⟩
    rw [e_M_matter, s_isPoint, hb, q_onI_i, g_M_matter_4, q_brn (by decide), g4, g_M_matter_19, b3, k5, q_onI_i, g_M_matter_56, k3]
    refine (w2 _).mpr ?_
    exact ⟨rfl, _, _, _, rfl, q_J_fid d6 h⟩
end MATTER
