/-! image and restore: the model's, and the two calls -/
theorem q_HH1 {L t : Nat} : q_HH L t 42 3 43 4 44 5 45 6 57 18 := ⟨rfl, rfl, rfl, rfl, rfl, rfl, ⟨_, rfl⟩, ⟨_, rfl⟩, ⟨_, rfl⟩, ⟨_, rfl⟩, fun _ h => r_kplug h, fun _ h => r_plug h, fun _ h => r_khook h, fun _ h => r_hook h, fun _ h => i_kplug h, fun _ h => i_plug h, fun _ h => i_khook h, fun _ h => i_hook h, by omega, by omega⟩
theorem q_HH2 {L t : Nat} : q_HH L t 3 42 4 43 5 44 6 45 18 57 := ⟨rfl, rfl, rfl, rfl, rfl, rfl, ⟨_, rfl⟩, ⟨_, rfl⟩, ⟨_, rfl⟩, ⟨_, rfl⟩, fun _ h => r_plug h, fun _ h => r_kplug h, fun _ h => r_hook h, fun _ h => r_khook h, fun _ h => i_plug h, fun _ h => i_kplug h, fun _ h => i_hook h, fun _ h => i_khook h, by omega, by omega⟩
section KEEP
variable {L d : Nat} {J : Nat → Nat → Int64} {t : Nat}
theorem a_img {L : Nat} : q_arr (q_SH L) 146 100 = some 232 := rfl
theorem a_imgd {L : Nat} : q_ard 218 (q_SH L) 146 = some 232 := rfl
theorem l_keep1 : ∀ (k i : Nat) (I : Nat → Nat → Int32), i + k = 108 → ∃ F, (∀ rt, q_X (q_W d) rt 217 (2, [some (.ref 130), some (.ref 146), some (.int (nI i))], [], (q_mm L I J t), 0, 0) = q_X (q_W d) rt 217 (2, [some (.ref 130), some (.ref 146), some (.int (nI 108))], [], (q_mm L F J t), 0, 0)) ∧ (∀ a, a ≠ 146 → F a = I a) ∧ (∀ p, i ≤ p → p < 108 → F 146 (p) = I 131 (p)) ∧ ∀ k, (∀ p, i ≤ p → p < 108 → k ≠ p) → F 146 k = I 146 k
  | 0, i, I, h => by
    have : i = 108 := by omega
    subst this
    exact ⟨I, fun rt => rfl, fun a _ => rfl, fun p h1 h2 => absurd h1 (by omega), fun k _ => rfl⟩
  | k + 1, i, I, h => by
    have hi : i < 108 := by omega
    obtain ⟨F, f1, f2, f3, f4⟩ := l_keep1 k (i + 1) (q_u I 146 (i) (I 131 (i))) (by omega)
    refine ⟨F, fun rt => ?_, fun a ha => ?_, fun p h1 h2 => ?_, fun m hm => ?_⟩
    · rw [g_M_keep_2, show (108 : Int32) = nI 108 by decide, q_leN (by decide) (by omega), q_brn (by omega)]
      simp only [a_img, q_onI_i, q_onJ_j, q_onS_s, q_onB_t, true_and, and_true, true_or, or_true, eq_self, true_implies, not_true_eq_false, not_false_eq_true, false_implies, q_bb0, q_bbok, q_bbok2, Bool.true_eq_false, Bool.false_eq_true, reduceCtorEq, q_clamp (show i < 2 ^ 31 by omega), q_bnd (show i < 108 by omega) (by decide), q_bnd (show i < 232 by omega) (by decide), q_n1]
      exact f1 rt
    · rw [f2 a ha, q_u_ne ha]
    · by_cases e : p = i
      · subst e
        rw [f4 _ (fun q h1 h2 => by omega), q_u_eq]
      · rw [f3 p (by omega) h2, q_u_ne (by decide)]
    · rw [f4 m (fun q h1 h2 => hm q (by omega) h2), q_u_nk (hm i (Nat.le_refl _) hi)]
theorem l_keep2 : ∀ (k i : Nat) (I : Nat → Nat → Int32), i + k = 120 → ∃ F, (∀ rt, q_X (q_W d) rt 217 (25, [some (.ref 130), some (.ref 146), some (.int (nI i))], [], (q_mm L I J t), 0, 0) = q_X (q_W d) rt 217 (25, [some (.ref 130), some (.ref 146), some (.int (nI 120))], [], (q_mm L F J t), 0, 0)) ∧ (∀ a, a ≠ 146 → F a = I a) ∧ (∀ p, i ≤ p → p < 120 → F 146 (108 + p) = I 132 (p)) ∧ ∀ k, (∀ p, i ≤ p → p < 120 → k ≠ 108 + p) → F 146 k = I 146 k
  | 0, i, I, h => by
    have : i = 120 := by omega
    subst this
    exact ⟨I, fun rt => rfl, fun a _ => rfl, fun p h1 h2 => absurd h1 (by omega), fun k _ => rfl⟩
  | k + 1, i, I, h => by
    have hi : i < 120 := by omega
    obtain ⟨F, f1, f2, f3, f4⟩ := l_keep2 k (i + 1) (q_u I 146 (108 + i) (I 132 (i))) (by omega)
    refine ⟨F, fun rt => ?_, fun a ha => ?_, fun p h1 h2 => ?_, fun m hm => ?_⟩
    · rw [g_M_keep_25, show (120 : Int32) = nI 120 by decide, q_leN (by decide) (by omega), q_brn (by omega)]
      simp only [a_img, q_onI_i, q_onJ_j, q_onS_s, q_onB_t, true_and, and_true, true_or, or_true, eq_self, true_implies, not_true_eq_false, not_false_eq_true, false_implies, q_bb0, q_bbok, q_bbok2, Bool.true_eq_false, Bool.false_eq_true, reduceCtorEq, q_clamp (show i < 2 ^ 31 by omega), q_bnd (show i < 120 by omega) (by decide), q_bnd (show i < 232 by omega) (by decide), show (108 : Int32) + nI i = nI (108 + i) by rw [show (108 : Int32) = nI 108 by decide, q_add], q_clamp (show 108 + i < 2 ^ 31 by omega), q_bnd (show 108 + i < 232 by omega) (by decide), q_n1]
      exact f1 rt
    · rw [f2 a ha, q_u_ne ha]
    · by_cases e : p = i
      · subst e
        rw [f4 _ (fun q h1 h2 => by omega), q_u_eq]
      · rw [f3 p (by omega) h2, q_u_ne (by decide)]
    · rw [f4 m (fun q h1 h2 => hm q (by omega) h2), q_u_nk (hm i (Nat.le_refl _) hi)]
theorem l_again1 : ∀ (k i : Nat) (I : Nat → Nat → Int32), i + k = 108 → ∃ F, (∀ rt, q_X (q_W d) rt 218 (2, [some (.ref 130), some (.ref 146), some (.int (nI i))], [], (q_mm L I J t), 0, 0) = q_X (q_W d) rt 218 (2, [some (.ref 130), some (.ref 146), some (.int (nI 108))], [], (q_mm L F J t), 0, 0)) ∧ (∀ a, a ≠ 131 → F a = I a) ∧ (∀ p, i ≤ p → p < 108 → F 131 (p) = I 146 (p)) ∧ ∀ k, (∀ p, i ≤ p → p < 108 → k ≠ p) → F 131 k = I 131 k
  | 0, i, I, h => by
    have : i = 108 := by omega
    subst this
    exact ⟨I, fun rt => rfl, fun a _ => rfl, fun p h1 h2 => absurd h1 (by omega), fun k _ => rfl⟩
  | k + 1, i, I, h => by
    have hi : i < 108 := by omega
    obtain ⟨F, f1, f2, f3, f4⟩ := l_again1 k (i + 1) (q_u I 131 (i) (I 146 (i))) (by omega)
    refine ⟨F, fun rt => ?_, fun a ha => ?_, fun p h1 h2 => ?_, fun m hm => ?_⟩
    · rw [g_M_again_2, show (108 : Int32) = nI 108 by decide, q_leN (by decide) (by omega), q_brn (by omega)]
      simp only [a_imgd, q_onI_i, q_onJ_j, q_onS_s, q_onB_t, true_and, and_true, true_or, or_true, eq_self, true_implies, not_true_eq_false, not_false_eq_true, false_implies, q_bb0, q_bbok, q_bbok2, Bool.true_eq_false, Bool.false_eq_true, reduceCtorEq, q_clamp (show i < 2 ^ 31 by omega), q_bnd (show i < 108 by omega) (by decide), q_bnd (show i < 232 by omega) (by decide), q_n1]
      exact f1 rt
    · rw [f2 a ha, q_u_ne ha]
    · by_cases e : p = i
      · subst e
        rw [f4 _ (fun q h1 h2 => by omega), q_u_eq]
      · rw [f3 p (by omega) h2, q_u_ne (by decide)]
    · rw [f4 m (fun q h1 h2 => hm q (by omega) h2), q_u_nk (hm i (Nat.le_refl _) hi)]
theorem l_again2 : ∀ (k i : Nat) (I : Nat → Nat → Int32), i + k = 120 → ∃ F, (∀ rt, q_X (q_W d) rt 218 (25, [some (.ref 130), some (.ref 146), some (.int (nI i))], [], (q_mm L I J t), 0, 0) = q_X (q_W d) rt 218 (25, [some (.ref 130), some (.ref 146), some (.int (nI 120))], [], (q_mm L F J t), 0, 0)) ∧ (∀ a, a ≠ 132 → F a = I a) ∧ (∀ p, i ≤ p → p < 120 → F 132 (p) = I 146 (108 + p)) ∧ ∀ k, (∀ p, i ≤ p → p < 120 → k ≠ p) → F 132 k = I 132 k
  | 0, i, I, h => by
    have : i = 120 := by omega
    subst this
    exact ⟨I, fun rt => rfl, fun a _ => rfl, fun p h1 h2 => absurd h1 (by omega), fun k _ => rfl⟩
  | k + 1, i, I, h => by
    have hi : i < 120 := by omega
    obtain ⟨F, f1, f2, f3, f4⟩ := l_again2 k (i + 1) (q_u I 132 (i) (I 146 (108 + i))) (by omega)
    refine ⟨F, fun rt => ?_, fun a ha => ?_, fun p h1 h2 => ?_, fun m hm => ?_⟩
    · rw [g_M_again_25, show (120 : Int32) = nI 120 by decide, q_leN (by decide) (by omega), q_brn (by omega)]
      simp only [a_imgd, q_onI_i, q_onJ_j, q_onS_s, q_onB_t, true_and, and_true, true_or, or_true, eq_self, true_implies, not_true_eq_false, not_false_eq_true, false_implies, q_bb0, q_bbok, q_bbok2, Bool.true_eq_false, Bool.false_eq_true, reduceCtorEq, q_clamp (show i < 2 ^ 31 by omega), q_bnd (show i < 120 by omega) (by decide), q_bnd (show i < 232 by omega) (by decide), show (108 : Int32) + nI i = nI (108 + i) by rw [show (108 : Int32) = nI 108 by decide, q_add], q_clamp (show 108 + i < 2 ^ 31 by omega), q_bnd (show 108 + i < 232 by omega) (by decide), q_n1]
      exact f1 rt
    · rw [f2 a ha, q_u_ne ha]
    · by_cases e : p = i
      · subst e
        rw [f4 _ (fun q h1 h2 => by omega), q_u_eq]
      · rw [f3 p (by omega) h2, q_u_ne (by decide)]
    · rw [f4 m (fun q h1 h2 => hm q (by omega) h2), q_u_nk (hm i (Nat.le_refl _) hi)]
theorem s_keep {I : Nat → Nat → Int32} : ∃ F, (∀ Q, q_W (d + 1) 217 [.ref 130, .ref 146] (q_mm L I J t) Q = Q .null (q_mm L F J t)) ∧ (∀ a, a ≠ 146 → F a = I a) ∧ (∀ p, p < 108 → F 146 p = I 131 p) ∧ (∀ p, p < 120 → F 146 (108 + p) = I 132 p) ∧ F 146 228 = I 130 0 ∧ F 146 229 = I 130 4 ∧ F 146 230 = I 130 2 ∧ F 146 231 = I 130 3 := by
  obtain ⟨F1, f1, f2, f3, f4⟩ := l_keep1 (L := L) (d := d) (J := J) (t := t) 108 0 I (by decide)
  obtain ⟨F2, g1, g2, g3, g4⟩ := l_keep2 (L := L) (d := d) (J := J) (t := t) 120 0 F1 (by decide)
  have k130 : F2 130 = I 130 := by rw [g2 _ (by decide), f2 _ (by decide)]
  apply Exists.intro
  refine ⟨fun Q => ?_, ?_, ?_, ?_, ?_, ?_, ?_, ?_⟩
  · rw [e_M_keep, show (0 : Int32) = nI 0 by decide, f1, g_M_keep_2, show (108 : Int32) = nI 108 by decide, q_br (by decide), show (0 : Int32) = nI 0 by decide, g1, g_M_keep_25, show (120 : Int32) = nI 120 by decide, q_br (by decide), a_img]
    simp only [q_onI_i, q_onJ_j, q_onS_s, q_onB_t, true_and, and_true, true_or, or_true, eq_self, true_implies, not_true_eq_false, not_false_eq_true, false_implies, q_bb0, q_bbok, q_bbok2, Bool.true_eq_false, Bool.false_eq_true, reduceCtorEq, show (228 : Int32) = nI 228 by decide, q_clamp (show 228 < 2 ^ 31 by decide), q_bnd (show 228 < 232 by decide) (by decide), show (229 : Int32) = nI 229 by decide, q_clamp (show 229 < 2 ^ 31 by decide), q_bnd (show 229 < 232 by decide) (by decide), show (230 : Int32) = nI 230 by decide, q_clamp (show 230 < 2 ^ 31 by decide), q_bnd (show 230 < 232 by decide) (by decide), show (231 : Int32) = nI 231 by decide, q_clamp (show 231 < 2 ^ 31 by decide), q_bnd (show 231 < 232 by decide) (by decide), g_M_keep_76, a_img]
    rfl
  · intro a ha
    repeat rw [q_u_ne ha]
    rw [g2 a ha, f2 a ha]
  · intro p hp
    (repeat (first | rw [q_u_nk (by omega)]))
    rw [g4 p (fun q _ _ => by omega), f3 p (Nat.zero_le _) hp]
  · intro p hp
    (repeat (first | rw [q_u_nk (by omega)]))
    rw [g3 p (Nat.zero_le _) hp, f2 _ (by decide)]
  · (repeat (first | rw [q_u_eq] | rw [q_u_nk (by decide)] | rw [q_u_ne (by decide)]))
    rw [k130]
  · (repeat (first | rw [q_u_eq] | rw [q_u_nk (by decide)] | rw [q_u_ne (by decide)]))
    rw [k130]
  · (repeat (first | rw [q_u_eq] | rw [q_u_nk (by decide)] | rw [q_u_ne (by decide)]))
    rw [k130]
  · (repeat (first | rw [q_u_eq] | rw [q_u_nk (by decide)] | rw [q_u_ne (by decide)]))
    rw [k130]
theorem s_again {I : Nat → Nat → Int32} : ∃ F, (∀ Q, q_W (d + 1) 218 [.ref 130, .ref 146] (q_mm L I J t) Q = Q .null (q_mm L F J t)) ∧ (∀ a, a ≠ 130 → a ≠ 131 → a ≠ 132 → F a = I a) ∧ (∀ p, p < 108 → F 131 p = I 146 p) ∧ (∀ p, p < 120 → F 132 p = I 146 (108 + p)) ∧ F 130 0 = I 146 228 ∧ F 130 4 = I 146 229 ∧ F 130 2 = I 146 230 ∧ F 130 3 = I 146 231 ∧ ∀ k, 4 < k → F 130 k = I 130 k := by
  obtain ⟨F1, f1, f2, f3, f4⟩ := l_again1 (L := L) (d := d) (J := J) (t := t) 108 0 I (by decide)
  obtain ⟨F2, g1, g2, g3, g4⟩ := l_again2 (L := L) (d := d) (J := J) (t := t) 120 0 F1 (by decide)
  have k146 : F2 146 = I 146 := by rw [g2 _ (by decide), f2 _ (by decide)]
  apply Exists.intro
  refine ⟨fun Q => ?_, ?_, ?_, ?_, ?_, ?_, ?_, ?_, ?_⟩
  · rw [e_M_again, show (0 : Int32) = nI 0 by decide, f1, g_M_again_2, show (108 : Int32) = nI 108 by decide, q_br (by decide), show (0 : Int32) = nI 0 by decide, g1, g_M_again_25, show (120 : Int32) = nI 120 by decide, q_br (by decide), a_imgd]
    simp only [q_onI_i, q_onJ_j, q_onS_s, q_onB_t, true_and, and_true, true_or, or_true, eq_self, true_implies, not_true_eq_false, not_false_eq_true, false_implies, q_bb0, q_bbok, q_bbok2, Bool.true_eq_false, Bool.false_eq_true, reduceCtorEq, show (228 : Int32) = nI 228 by decide, q_clamp (show 228 < 2 ^ 31 by decide), q_bnd (show 228 < 232 by decide) (by decide), show (229 : Int32) = nI 229 by decide, q_clamp (show 229 < 2 ^ 31 by decide), q_bnd (show 229 < 232 by decide) (by decide), show (230 : Int32) = nI 230 by decide, q_clamp (show 230 < 2 ^ 31 by decide), q_bnd (show 230 < 232 by decide) (by decide), show (231 : Int32) = nI 231 by decide, q_clamp (show 231 < 2 ^ 31 by decide), q_bnd (show 231 < 232 by decide) (by decide), g_M_again_76, a_imgd]
    rfl
  · intro a h1 h2 h3
    repeat rw [q_u_ne h1]
    rw [g2 a h3, f2 a h2]
  · intro p hp
    (repeat (first | rw [q_u_ne (by decide)]))
    rw [g2 _ (by decide), f3 p (Nat.zero_le _) hp]
  · intro p hp
    (repeat (first | rw [q_u_ne (by decide)]))
    rw [g3 p (Nat.zero_le _) hp, f2 _ (by decide)]
  · (repeat (first | rw [q_u_eq] | rw [q_u_nk (by decide)] | rw [q_u_ne (by decide)]))
    rw [k146]
  · (repeat (first | rw [q_u_eq] | rw [q_u_nk (by decide)] | rw [q_u_ne (by decide)]))
    rw [k146]
  · (repeat (first | rw [q_u_eq] | rw [q_u_nk (by decide)] | rw [q_u_ne (by decide)]))
    rw [k146]
  · (repeat (first | rw [q_u_eq] | rw [q_u_nk (by decide)] | rw [q_u_ne (by decide)]))
    rw [k146]
  · intro k hk
    (repeat (first | rw [q_u_nk (by omega)]))
    rw [g2 _ (by decide), f2 _ (by decide)]
end KEEP
theorem v_rest_but {bc : Int32 → Int32} {T : Nat} {I F : Nat → Nat → Int32} {J : Nat → Nat → Int64} {n : Nat} (ho : ∀ o, 81 ≤ o → o < 146 → o ≠ 130 → o ≠ 131 → o ≠ 132 → F o = I o) (e1 : F 1 11 = I 1 11 ∧ F 1 12 = I 1 12) (h130 : F 130 9 = I 130 9 ∧ F 130 12 = I 130 12 ∧ F 130 19 = I 130 19 ∧ F 130 20 = I 130 20 ∧ F 130 30 = I 130 30 ∧ F 130 32 = I 130 32) (hi : v_img bc F) (h : v_rest bc T I J n) : v_rest bc T F J n := by
  obtain ⟨h2, ⟨c, c1, c2, c3, c4⟩, ⟨k, k1, k2, k3, k4⟩, ⟨r, r1, r2, r3, r4, r5⟩, h6, -, ⟨w1, w2⟩⟩ := h
  obtain ⟨z9, z12, z19, z20, z30, z32⟩ := h130
  have hx : ∀ o, 81 ≤ o → o < 130 → F o = I o := fun o a b => ho o a (by omega) (by omega) (by omega) (by omega)
  have hy : ∀ o, 133 ≤ o → o < 146 → F o = I o := fun o a b => ho o (by omega) b (by omega) (by omega) (by omega)
  exact ⟨fun s hs => v_shelf_congr (hx _ (by omega) (by omega)) (hy _ (by decide) (by decide)) (hy _ (by decide) (by decide)) rfl rfl (h2 s hs), ⟨c, c1, by rw [e1.1]; exact c2, by rw [z12]; exact c3, fun i hi w hw => by rw [hx 112 (by decide) (by decide), hy 136 (by decide) (by decide)]; exact c4 i hi w hw⟩, ⟨k, k1, by rw [hx 110 (by decide) (by decide)]; exact k2, by rw [z20]; exact k3, fun i hi => by rw [hx 111 (by decide) (by decide), hy 139 (by decide) (by decide)]; exact k4 i hi⟩, ⟨r, r1, by rw [hx 86 (by decide) (by decide)]; exact r2, by rw [z30]; exact r3, by rw [z32, hx 86 (by decide) (by decide)]; exact r4, fun i hi hi2 => by rw [hx 88 (by decide) (by decide), hy 144 (by decide) (by decide)]; exact r5 i hi hi2⟩, fun i hi => by rw [hx 113 (by decide) (by decide), hy 145 (by decide) (by decide)]; exact h6 i hi, hi, by rw [e1.2, z9]; exact w1, by rw [z19]; exact w2⟩
/-- a plug taken over -/
theorem v_plug_take {bc : Int32 → Int32} {I A F : Nat → Nat → Int32} {b b' a a' p : Nat} (hbc : bc = q_bc) (hF : F (b' + p) = A (b' + p)) (hc : q_cpP I A (b' + p) (b + p)) (h2 : ∀ k, k < 9 → F a' (12 * k + p) = I a (12 * k + p)) (h : v_plug bc I b a p) : v_plug bc F b' a' p := by
  subst hbc
  unfold v_plug at h ⊢
  obtain ⟨⟨c0, c1, c2, c3, c4, c5⟩, c6, c7, c8, c9, c10⟩ := hc
  have e0 := h2 0 (by decide)
  rw [Nat.mul_zero, Nat.zero_add] at e0
  rw [hF, c0, c1, c2, c3, c4, c5, c6, c7, c8, c9, c10, e0, show F a' (12 + p) = I a (12 + p) from h2 1 (by decide), show F a' (24 + p) = I a (24 + p) from h2 2 (by decide), show F a' (36 + p) = I a (36 + p) from h2 3 (by decide), show F a' (48 + p) = I a (48 + p) from h2 4 (by decide), show F a' (60 + p) = I a (60 + p) from h2 5 (by decide), show F a' (72 + p) = I a (72 + p) from h2 6 (by decide), show F a' (84 + p) = I a (84 + p) from h2 7 (by decide), show F a' (96 + p) = I a (96 + p) from h2 8 (by decide)]
  obtain ⟨d1, d2, d3, d4, d5⟩ := h
  refine ⟨d1, d2, rfl, ?_, d5⟩
  rw [q_tw3_ord]
  rw [d1.2.2.2.2.2.1]
  exact d5.2.2.2.2.2.1
theorem v_hook_take {I A F : Nat → Nat → Int32} {b b' a a' f f' i n : Nat} (hF : F (b' + i) = A (b' + i)) (hc : q_cpH I A (b' + i) (b + i)) (h2 : ∀ k, k < 5 → F a' (f' + 24 * k + i) = I a (f + 24 * k + i)) (h : v_hook I b a f i n) : v_hook F b' a' f' i n := by
  unfold v_hook at h ⊢
  obtain ⟨c0, c1, c2, c3, c4⟩ := hc
  have e0 := h2 0 (by decide)
  rw [Nat.mul_zero, Nat.add_zero, Nat.add_zero] at e0
  rw [hF, c0, c1, c2, c3, c4, e0, show F a' (f' + 24 + i) = I a (f + 24 + i) from h2 1 (by decide), show F a' (f' + 48 + i) = I a (f + 48 + i) from h2 2 (by decide), show F a' (f' + 72 + i) = I a (f + 72 + i) from h2 3 (by decide), show F a' (f' + 96 + i) = I a (f + 96 + i) from h2 4 (by decide)]
  exact h
section OPS11
variable {L c : Nat} {I : Nat → Nat → Int32} {J : Nat → Nat → Int64} {t : Nat}
theorem t_image (h : q_J c I J t) : q_SI 100 114 219 [] (q_J (c + 1)) L I J t := by
  obtain ⟨n, hk, m, h2, h3, h4, h5, h6, h7, h8⟩ := id h
  obtain ⟨⟨a1, a2, a3, a4, a5, a6⟩, m2, m3, m4, m5⟩ := id m
  have hrest := q_J_rest m h
  obtain ⟨A, f1, f2, f3, f4, f5, f6, f7, f8⟩ := s_takeHost (L := L) (d := 94) (J := J) (t := t) (I := I) q_HH1 (by decide) (fun p hp => ⟨by omega, by omega, fun q hq => ⟨by omega, by omega⟩⟩) (fun q hq => ⟨by omega, by omega⟩)
  have A3 : A 3 = I 3 := f2 3 (by decide) (fun p _ => by omega) (fun q _ => by omega)
  unfold q_SI
  rw [e_C_image, f1, g_C_image_11]
  simp only [q_ok1, eq_self, or_true, true_and]
  refine ⟨_, _, _, _, rfl, rfl, by rw [q_u_ne (by decide), f2 0 (by decide) (fun p _ => by omega) (fun q _ => by omega)], ?_⟩
  obtain ⟨B, g1, g2, g3, g4, g5, g6, g7, g8⟩ := s_keep (L := L) (d := 98) (J := J) (t := t) (I := q_u (q_u A 1 3 1) 130 34 1)
  rw [e_M_image]
  simp only [q_ok1, eq_self, or_true, true_and]
  rw [g1, g_M_image_13]
  have hA : ∀ o, o < 42 ∨ 81 ≤ o → A o = I o := fun o ho => f2 o (by omega) (fun p _ => by omega) (fun q _ => by omega)
  have hB : ∀ o, o ≠ 146 → o ≠ 1 → o ≠ 130 → B o = A o := fun o h1 h2 h3 => by rw [g2 o h1, q_u_ne h3, q_u_ne h2]
  have hBI : ∀ o, o ≠ 146 → o ≠ 1 → o ≠ 130 → (o < 42 ∨ 81 ≤ o) → B o = I o := fun o h1 h2 h3 h4 => by rw [hB o h1 h2 h3, hA o h4]
  have B130 : ∀ k, k ≠ 34 → B 130 k = I 130 k := fun k hk => by rw [g2 130 (by decide), q_u_nk hk, q_u_ne (by decide), hA 130 (by omega)]
  have B1 : ∀ k, k ≠ 3 → B 1 k = I 1 k := fun k hk => by rw [g2 1 (by decide), q_u_ne (by decide), q_u_nk hk, hA 1 (by omega)]
  have z131 : ∀ p, p < 108 → B 146 p = I 131 p := fun p hp => by rw [g3 p hp, q_u_ne (by decide), q_u_ne (by decide), hA 131 (by omega)]
  have z132 : ∀ p, p < 120 → B 146 (108 + p) = I 132 p := fun p hp => by rw [g4 p hp, q_u_ne (by decide), q_u_ne (by decide), hA 132 (by omega)]
  have zz : ∀ k, k ≠ 34 → q_u (q_u A 1 3 1) 130 34 1 130 k = I 130 k := fun k hk => by rw [q_u_nk hk, q_u_ne (by decide), hA 130 (by omega)]
  rw [zz 0 (by decide)] at g5
  rw [zz 4 (by decide)] at g6
  rw [zz 2 (by decide)] at g7
  rw [zz 3 (by decide)] at g8
  refine ⟨by rw [B130 0 (by decide), m2, q_u_ne (by decide), A3, a1], _, _, _, rfl, n, hk, ⟨⟨by rw [hBI 3 (by decide) (by decide) (by decide) (by omega)]; exact a1, by rw [hBI 3 (by decide) (by decide) (by decide) (by omega)]; exact a2, a3, a4, fun p hp => v_plug_congr (hBI _ (by omega) (by omega) (by omega) (by omega)) (hBI 131 (by decide) (by decide) (by decide) (by omega)) (a5 p hp), fun i hi => v_hook_congr (hBI _ (by omega) (by omega) (by omega) (by omega)) (hBI 132 (by decide) (by decide) (by decide) (by omega)) (a6 i hi)⟩, by rw [B130 0 (by decide)]; exact m2, by rw [B130 4 (by decide)]; exact m3, by rw [B130 2 (by decide), hBI 3 (by decide) (by decide) (by decide) (by omega)]; exact m4, by rw [B130 3 (by decide), hBI 3 (by decide) (by decide) (by decide) (by omega)]; exact m5⟩, v_rest_but (fun o o1 o2 o3 o4 o5 => hBI o (by omega) (by omega) o3 (by omega)) ⟨B1 11 (by decide), B1 12 (by decide)⟩ ⟨B130 _ (by decide), B130 _ (by decide), B130 _ (by decide), B130 _ (by decide), B130 _ (by decide), B130 _ (by decide)⟩ ?_ hrest⟩
  have B13 : B 1 3 = 1 := by rw [g2 1 (by decide), q_u_ne (by decide), q_u_eq]
  have B34 : B 130 34 = 1 := by rw [g2 130 (by decide), q_u_eq]
  have B42 : B 42 = A 42 := hB 42 (by decide) (by decide) (by decide)
  refine ⟨by rw [B13, B34], Or.inr B13, fun _ => ⟨n, hk, ⟨by rw [B42, f5]; exact a1, by rw [B42, f6]; exact a2, a3, a4, fun p hp => v_plug_take rfl (hB _ (by omega) (by omega) (by omega)) (f3 p (by omega)) (fun k hk => z131 _ (by omega)) (a5 p hp), fun i hi => v_hook_take (hB _ (by omega) (by omega) (by omega)) (f4 i (by omega)) (fun k hk => ?_) (a6 i hi)⟩, by rw [g5]; exact m2, by rw [g6]; exact m3, by rw [B42, f7, g7]; exact m4, by rw [B42, f8, g8]; exact m5⟩⟩
  rw [show 108 + 24 * k + i = 108 + (24 * k + i) by omega, show 0 + 24 * k + i = 24 * k + i by omega, z132 _ (by omega)]
end OPS11
