/-! restore -/
theorem v_rest_sh {bc : Int32 → Int32} {T : Nat} {I F : Nat → Nat → Int32} {J : Nat → Nat → Int64} {n n' : Nat} (ho : ∀ o, 81 ≤ o → o < 146 → ¬ (114 ≤ o ∧ o < 134) → F o = I o) (e1 : F 1 11 = I 1 11 ∧ F 1 12 = I 1 12) (h130 : F 130 9 = I 130 9 ∧ F 130 12 = I 130 12 ∧ F 130 19 = I 130 19 ∧ F 130 20 = I 130 20 ∧ F 130 30 = I 130 30 ∧ F 130 32 = I 130 32) (hi : v_img bc F) (hs : v_shelves F J n') (h : v_rest bc T I J n) : v_rest bc T F J n' := by
  obtain ⟨h2, ⟨c, c1, c2, c3, c4⟩, ⟨k, k1, k2, k3, k4⟩, ⟨r, r1, r2, r3, r4, r5⟩, h6, -, ⟨w1, w2⟩⟩ := h
  obtain ⟨z9, z12, z19, z20, z30, z32⟩ := h130
  exact ⟨hs, ⟨c, c1, by rw [e1.1]; exact c2, by rw [z12]; exact c3, fun i hi w hw => by rw [ho 112 (by decide) (by decide) (by decide), ho 136 (by decide) (by decide) (by decide)]; exact c4 i hi w hw⟩, ⟨k, k1, by rw [ho 110 (by decide) (by decide) (by decide)]; exact k2, by rw [z20]; exact k3, fun i hi => by rw [ho 111 (by decide) (by decide) (by decide), ho 139 (by decide) (by decide) (by decide)]; exact k4 i hi⟩, ⟨r, r1, by rw [ho 86 (by decide) (by decide) (by decide)]; exact r2, by rw [z30]; exact r3, by rw [z32, ho 86 (by decide) (by decide) (by decide)]; exact r4, fun i hi hi2 => by rw [ho 88 (by decide) (by decide) (by decide), ho 144 (by decide) (by decide) (by decide)]; exact r5 i hi hi2⟩, fun i hi => by rw [ho 113 (by decide) (by decide) (by decide), ho 145 (by decide) (by decide) (by decide)]; exact h6 i hi, hi, by rw [e1.2, z9]; exact w1, by rw [z19]; exact w2⟩
section RESTORE
variable {L d : Nat} {J : Nat → Nat → Int64} {t : Nat}
theorem l_Crestore : ∀ (k i : Nat) (I : Nat → Nat → Int32), i + k = 8 → ∃ F, (∀ rt, q_X (q_W (d + 1)) rt 115 (27, [some (.ref 1), some (.int (nI i))], [], (q_mm L I J t), 0, 0) = rt (.int (F 3 2)) (q_mm L F J t) 0 0) ∧ (∀ a, (∀ s, i ≤ s → s < 8 → a ≠ 114 + 2 * s) → F a = I a) ∧ ∀ s, i ≤ s → s < 8 → (I (114 + 2 * s) 3 < I 3 2 ∧ F (114 + 2 * s) = I (114 + 2 * s)) ∨ (¬ I (114 + 2 * s) 3 < I 3 2 ∧ F (114 + 2 * s) 1 = -1 ∧ F (114 + 2 * s) 3 = -1)
  | 0, i, I, h => by
    refine ⟨I, fun rt => ?_, fun a _ => rfl, fun s h1 h2 => absurd h1 (by omega)⟩
    rw [g_C_restore_27, show (8 : Int32) = nI 8 by decide, q_leN (by decide) (by omega), q_br (by omega)]
  | k + 1, i, I, h => by
    have hi : i < 8 := by omega
    by_cases hc : I (114 + 2 * i) 3 < I 3 2
    · obtain ⟨F, f1, f2, f3⟩ := l_Crestore k (i + 1) I (by omega)
      refine ⟨F, fun rt => ?_, fun a ha => f2 a (fun s h1 h2 => ha s (by omega) h2), fun s h1 h2 => ?_⟩
      · rw [g_C_restore_27, show (8 : Int32) = nI 8 by decide, q_leN (by decide) (by omega), q_brn (by omega)]
        simp only [q_clamp (show i < 2 ^ 31 by omega), q_bnd hi (by decide), r_shelf hi, i_shelf hi, q_onI_i, q_onJ_j, q_onS_s, q_onB_t, true_and, and_true, true_or, or_true, eq_self, true_implies, not_true_eq_false, not_false_eq_true, false_implies, q_bb0, q_bbok, q_bbok2, Bool.true_eq_false, Bool.false_eq_true, reduceCtorEq]
        rw [q_br hc, g_C_restore_61, q_n1]
        exact f1 rt
      · by_cases e : s = i
        · subst e
          exact Or.inl ⟨hc, f2 _ (fun q h1 h2 => by omega)⟩
        · exact f3 s (by omega) h2
    · obtain ⟨G, hG⟩ : ∃ G, G = q_u (q_u (q_u I (114 + 2 * i) 1 (-1)) (114 + 2 * i) 2 0) (114 + 2 * i) 3 (-1) := ⟨_, rfl⟩
      have g2 : ∀ a, a ≠ 114 + 2 * i → G a = I a := fun a ha => by
        rw [hG]
        repeat rw [q_u_ne ha]
      obtain ⟨F, f1, f2, f3⟩ := l_Crestore k (i + 1) G (by omega)
      refine ⟨F, fun rt => ?_, fun a ha => ?_, fun s h1 h2 => ?_⟩
      · rw [g_C_restore_27, show (8 : Int32) = nI 8 by decide, q_leN (by decide) (by omega), q_brn (by omega)]
        simp only [q_clamp (show i < 2 ^ 31 by omega), q_bnd hi (by decide), r_shelf hi, i_shelf hi, q_onI_i, q_onJ_j, q_onS_s, q_onB_t, true_and, and_true, true_or, or_true, eq_self, true_implies, not_true_eq_false, not_false_eq_true, false_implies, q_bb0, q_bbok, q_bbok2, Bool.true_eq_false, Bool.false_eq_true, reduceCtorEq]
        rw [q_brn hc, s_holdNothing (i_shelf hi), g_C_restore_61, q_n1, ← hG]
        exact f1 rt
      · rw [f2 a (fun s h1 h2 => ha s (by omega) h2), g2 a (ha i (Nat.le_refl _) hi)]
      · by_cases e : s = i
        · subst e
          refine Or.inr ⟨hc, ?_, ?_⟩
          · rw [f2 _ (fun q h1 h2 => by omega), hG, q_u_nk (by decide), q_u_nk (by decide), q_u_eq]
          · rw [f2 _ (fun q h1 h2 => by omega), hG, q_u_eq]
        · have := f3 s (by omega) h2
          rw [g2 (114 + 2 * s) (by omega), g2 3 (by omega)] at this
          exact this
theorem l_Mrestore : ∀ (k i : Nat) (I : Nat → Nat → Int32), i + k = 8 → ∃ F, (∀ rt, q_X (q_W (d + 1)) rt 220 (24, [some (.ref 130), some (.int (nI i))], [], (q_mm L I J t), 0, 0) = rt (.int (F 130 0)) (q_mm L F J t) 0 0) ∧ (∀ a, a ≠ 133 → F a = I a) ∧ (∀ s, s < i → F 133 s = I 133 s) ∧ ∀ s, i ≤ s → s < 8 → ((¬ I 133 s < 100 ∨ I 133 s < I 130 0) ∧ F 133 s = I 133 s) ∨ (¬ (¬ I 133 s < 100 ∨ I 133 s < I 130 0) ∧ F 133 s = -1)
  | 0, i, I, h => by
    refine ⟨I, fun rt => ?_, fun a _ => rfl, fun s _ => rfl, fun s h1 h2 => absurd h1 (by omega)⟩
    rw [g_M_restore_24, show (8 : Int32) = nI 8 by decide, q_leN (by decide) (by omega), q_br (by omega)]
  | k + 1, i, I, h => by
    have hi : i < 8 := by omega
    by_cases hc : ¬ I 133 i < 100 ∨ I 133 i < I 130 0
    · obtain ⟨F, f1, f2, f3, f4⟩ := l_Mrestore k (i + 1) I (by omega)
      refine ⟨F, fun rt => ?_, f2, fun s hs => f3 s (by omega), fun s h1 h2 => ?_⟩
      · rw [g_M_restore_24, show (8 : Int32) = nI 8 by decide, q_leN (by decide) (by omega), q_brn (by omega), s_isRow hi, q_onI_i, g_M_restore_35]
        simp only [q_clamp (show i < 2 ^ 31 by omega), q_bnd hi (by decide), q_n1, f1, q_onI_i, q_onJ_j, q_onS_s, q_onB_t, true_and, and_true, true_or, or_true, eq_self, true_implies, not_true_eq_false, not_false_eq_true, false_implies, q_bb0, q_bbok, q_bbok2, Bool.true_eq_false, Bool.false_eq_true, reduceCtorEq]
        by_cases e1 : I 133 i < 100
        · rw [q_br (decide_eq_false (fun z => z e1)), q_br (hc.resolve_left (fun z => z e1))]
        · rw [q_brn (by rw [decide_eq_true e1]; decide)]
      · by_cases e : s = i
        · subst e
          exact Or.inl ⟨hc, f3 _ (by omega)⟩
        · exact f4 s (by omega) h2
    · have e1 : I 133 i < 100 := Decidable.byContradiction (fun z => hc (Or.inl z))
      have e2 : ¬ I 133 i < I 130 0 := fun z => hc (Or.inr z)
      obtain ⟨F, f1, f2, f3, f4⟩ := l_Mrestore k (i + 1) (q_u I 133 i (-1)) (by omega)
      refine ⟨F, fun rt => ?_, fun a ha => ?_, fun s hs => ?_, fun s h1 h2 => ?_⟩
      · rw [g_M_restore_24, show (8 : Int32) = nI 8 by decide, q_leN (by decide) (by omega), q_brn (by omega), s_isRow hi, q_onI_i, g_M_restore_35]
        simp only [q_clamp (show i < 2 ^ 31 by omega), q_bnd hi (by decide), q_n1, f1, q_onI_i, q_onJ_j, q_onS_s, q_onB_t, true_and, and_true, true_or, or_true, eq_self, true_implies, not_true_eq_false, not_false_eq_true, false_implies, q_bb0, q_bbok, q_bbok2, Bool.true_eq_false, Bool.false_eq_true, reduceCtorEq]
        rw [q_br (decide_eq_false (fun z => z e1)), q_brn e2]
      · rw [f2 a ha, q_u_ne ha]
      · rw [f3 s (by omega), q_u_nk (by omega)]
      · by_cases e : s = i
        · subst e
          exact Or.inr ⟨hc, by rw [f3 _ (by omega), q_u_eq]⟩
        · have := f4 s (by omega) h2
          rw [q_u_nk (show s ≠ i from e), q_u_ne (show (130 : Nat) ≠ 133 by decide)] at this
          exact this
end RESTORE
section OPS13
variable {L c : Nat} {I : Nat → Nat → Int32} {J : Nat → Nat → Int64} {t : Nat}
theorem t_restore (h : q_J c I J t) : q_SI 100 115 220 [] (q_J (c + 1)) L I J t := by
  obtain ⟨n, hk, m, h2, h3, h4, h5, h6, h7, h8⟩ := id h
  obtain ⟨⟨a1, a2, a3, a4, a5, a6⟩, m2, m3, m4, m5⟩ := id m
  have hrest := q_J_rest m h
  obtain ⟨i1, i2, i3⟩ := h7
  unfold q_SI
  rw [e_C_restore]
  by_cases h0 : I 1 3 = 0
  · rw [q_br h0, s_refuse6, q_onI_i, g_C_restore_13]
    refine ⟨_, _, _, _, rfl, rfl, q_u_ne (by decide), ?_⟩
    rw [e_M_restore, q_br (by rw [q_u_ne (by decide), ← i1]; exact h0), s_no6, q_onI_i, g_M_restore_13]
    exact ⟨rfl, _, _, _, rfl, q_J_refuse 6 h⟩
  · have h1 : I 1 3 = 1 := i2.resolve_left h0
    obtain ⟨n', hk', ⟨d1, d2, d3, d4, d5, d6⟩, b2, b3, b4, b5⟩ := i3 h1
    obtain ⟨A, f1, f2, f3, f4, f5, f6, f7, f8⟩ := s_takeHost (L := L) (d := 94) (J := J) (t := t) (I := I) q_HH2 (by decide) (fun p hp => ⟨by omega, by omega, fun q hq => ⟨by omega, by omega⟩⟩) (fun q hq => ⟨by omega, by omega⟩)
    have hA : ∀ o, o < 3 ∨ 42 ≤ o → A o = I o := fun o ho => f2 o (by omega) (fun p _ => by omega) (fun q _ => by omega)
    obtain ⟨G, g1, g2, g3⟩ := l_Crestore (L := L) (d := 98) (J := J) (t := t) 8 0 A (by decide)
    have hG : ∀ o, ¬ (114 ≤ o ∧ o < 130) → G o = A o := fun o ho => g2 o (fun s _ hs => by omega)
    rw [q_brn h0, f1, g_C_restore_25, show (0 : Int32) = nI 0 by decide, g1]
    refine ⟨_, _, _, _, rfl, rfl, by rw [hG 0 (by omega), hA 0 (by omega)], ?_⟩
    have z34 : ¬ G 130 34 = 0 := by
      rw [hG 130 (by omega), hA 130 (by omega), ← i1]
      exact h0
    obtain ⟨B, k1, k2, k3, k4, k5, k6, k7, k8, k9⟩ := s_again (L := L) (d := 98) (J := J) (t := t) (I := G)
    obtain ⟨F, l1, l2, -, l4⟩ := l_Mrestore (L := L) (d := 98) (J := J) (t := t) 8 0 B (by decide)
    rw [e_M_restore, q_brn z34, k1, g_M_restore_22, show (0 : Int32) = nI 0 by decide, l1]
    have G146 : G 146 = I 146 := by rw [hG 146 (by omega), hA 146 (by omega)]
    have G130 : G 130 = I 130 := by rw [hG 130 (by omega), hA 130 (by omega)]
    have hF : ∀ o, o ≠ 130 → o ≠ 131 → o ≠ 132 → o ≠ 133 → F o = G o := fun o p1 p2 p3 p4 => by rw [l2 o p4, k2 o p1 p2 p3]
    have hFA : ∀ o, ¬ (114 ≤ o ∧ o < 134) → F o = A o := fun o ho => by rw [hF o (by omega) (by omega) (by omega) (by omega), hG o (by omega)]
    have hFI : ∀ o, (o < 3 ∨ 42 ≤ o) → ¬ (114 ≤ o ∧ o < 134) → F o = I o := fun o o1 o2 => by rw [hFA o o2, hA o o1]
    have F130 : F 130 = B 130 := l2 130 (by decide)
    have F131 : ∀ p, p < 108 → F 131 p = I 146 p := fun p hp => by rw [l2 131 (by decide), k3 p hp, G146]
    have F132 : ∀ p, p < 120 → F 132 p = I 146 (108 + p) := fun p hp => by rw [l2 132 (by decide), k4 p hp, G146]
    have y0 : F 130 0 = nI n' := by rw [F130, k5, G146, b2]
    have A32 : A 3 2 = nI n' := by rw [f5, d1]
    have y130 : ∀ k, 4 < k → F 130 k = I 130 k := fun k hk => by rw [F130, k9 k hk, G130]
    refine ⟨by rw [y0, hG 3 (by omega), A32], _, _, _, rfl, n', hk', ⟨⟨by rw [hFA 3 (by omega), A32], by rw [hFA 3 (by omega), f6, d2], d3, d4, fun p hp => v_plug_take rfl (hFA _ (by omega)) (f3 p (by omega)) (fun k hk => F131 _ (by omega)) (d5 p hp), fun i hi => v_hook_take (hFA _ (by omega)) (f4 i (by omega)) (fun k hk => ?_) (d6 i hi)⟩, y0, by rw [F130, k6, G146, b3], by rw [hFA 3 (by omega), f7, F130, k7, G146, b4], by rw [hFA 3 (by omega), f8, F130, k8, G146, b5]⟩, v_rest_sh (fun o o1 o2 o3 => hFI o (by omega) o3) ⟨by rw [hFI 1 (by omega) (by omega)], by rw [hFI 1 (by omega) (by omega)]⟩ ⟨y130 _ (by decide), y130 _ (by decide), y130 _ (by decide), y130 _ (by decide), y130 _ (by decide), y130 _ (by decide)⟩ ⟨by rw [hFI 1 (by omega) (by omega), y130 34 (by decide)]; exact i1, by rw [hFI 1 (by omega) (by omega)]; exact i2, fun _ => ⟨n', hk', v_host_congr (hFI 42 (by omega) (by omega)) (fun p hp => hFI _ (by omega) (by omega)) (fun p hp => hFI _ (by omega) (by omega)) (hFI 146 (by omega) (by omega)) (hFI 146 (by omega) (by omega)) ⟨d1, d2, d3, d4, d5, d6⟩, by rw [hFI 146 (by omega) (by omega)]; exact b2, by rw [hFI 146 (by omega) (by omega)]; exact b3, by rw [hFI 42 (by omega) (by omega), hFI 146 (by omega) (by omega)]; exact b4, by rw [hFI 42 (by omega) (by omega), hFI 146 (by omega) (by omega)]; exact b5⟩⟩ (fun s hs => ?_) hrest⟩
    · rw [show 108 + 24 * k + i = 108 + (24 * k + i) by omega, show 0 + 24 * k + i = 24 * k + i by omega, F132 _ (by omega)]
    · have c1 := g3 s (Nat.zero_le _) hs
      have c2 := l4 s (Nat.zero_le _) hs
      have B133 : B 133 = I 133 := by rw [k2 133 (by decide) (by decide) (by decide), hG 133 (by omega), hA 133 (by omega)]
      have B130 : B 130 0 = nI n' := by rw [← F130]; exact y0
      rw [hA (114 + 2 * s) (by omega), A32] at c1
      rw [B133, B130] at c2
      have e134 : F 134 = I 134 := hFI 134 (by omega) (by omega)
      have eS : F (114 + 2 * s) = G (114 + 2 * s) := hF _ (by omega) (by omega) (by omega) (by omega)
      have hm1 : (-1 : Int32) < nI n' := by rw [q_lt, nI_toInt (by omega), show (-1 : Int32).toInt = -1 by decide]; omega
      unfold v_shelf
      rw [eS, e134]
      rcases h2 s hs with ⟨s1, s2, s3⟩ | ⟨q, len, s1, s2, s3, s4, s5, s6, s7, s8⟩ | ⟨p, s1, s2, s3, s4⟩
      · have u1 := c1.resolve_right (fun z => z.1 (by rw [s2]; exact hm1))
        have u2 := c2.resolve_right (fun z => z.1 (Or.inr (by rw [s3]; exact hm1)))
        rw [u1.2, u2.2]
        exact Or.inl ⟨s1, s2, s3⟩
      · have u1 := c1.resolve_right (fun z => z.1 (by rw [s5]; exact hm1))
        have u2 := c2.resolve_right (fun z => z.1 (Or.inl (by rw [s6, show (100 : Int32) = nI 100 by decide, q_ltN (by omega) (by decide)]; omega)))
        rw [u1.2, u2.2]
        exact Or.inr (Or.inl ⟨q, len, s1, s2, s3, s4, s5, s6, s7, s8⟩)
      · have p12 : p < 12 := by omega
        by_cases e : p < n'
        · have u1 := c1.resolve_right (fun z => z.1 (by rw [s3, q_ltN (by omega) (by omega)]; exact e))
          have u2 := c2.resolve_right (fun z => z.1 (Or.inr (by rw [s4, q_ltN (by omega) (by omega)]; exact e)))
          rw [u1.2, u2.2]
          exact Or.inr (Or.inr ⟨p, e, s2, s3, s4⟩)
        · have u1 := c1.resolve_left (fun z => e (by have := z.1; rw [s3, q_ltN (by omega) (by omega)] at this; exact this))
          have u2 := c2.resolve_left (fun z => by
            rcases z.1 with y | y
            · rw [s4, show (100 : Int32) = nI 100 by decide, q_ltN (by omega) (by decide)] at y
              omega
            · rw [s4, q_ltN (by omega) (by omega)] at y
              exact e y)
          exact Or.inl ⟨u1.2.1, u1.2.2, u2.2⟩
end OPS13
