/-! keep and again, over the row that would takes -/
section KEEP
variable {L d : Nat} {J : Nat → Nat → Int64} {t : Nat}
theorem a_ah {L : Nat} : q_arr (q_SH L) 147 100 = some 232 := rfl
theorem a_ahd {L : Nat} : q_ard 218 (q_SH L) 147 = some 232 := rfl
theorem l_keep17 : ∀ (k i : Nat) (I : Nat → Nat → Int32), i + k = 108 → ∃ F, (∀ rt, q_X (q_W d) rt 217 (2, [some (.ref 130), some (.ref 147), some (.int (nI i))], [], (q_mm L I J t), 0, 0) = q_X (q_W d) rt 217 (2, [some (.ref 130), some (.ref 147), some (.int (nI 108))], [], (q_mm L F J t), 0, 0)) ∧ (∀ a, a ≠ 147 → F a = I a) ∧ (∀ p, i ≤ p → p < 108 → F 147 (p) = I 131 (p)) ∧ ∀ k, (∀ p, i ≤ p → p < 108 → k ≠ p) → F 147 k = I 147 k
  | 0, i, I, h => by
    have : i = 108 := by omega
    subst this
    exact ⟨I, fun rt => rfl, fun a _ => rfl, fun p h1 h2 => absurd h1 (by omega), fun k _ => rfl⟩
  | k + 1, i, I, h => by
    have hi : i < 108 := by omega
    obtain ⟨F, f1, f2, f3, f4⟩ := l_keep17 k (i + 1) (q_u I 147 (i) (I 131 (i))) (by omega)
    refine ⟨F, fun rt => ?_, fun a ha => ?_, fun p h1 h2 => ?_, fun m hm => ?_⟩
    · rw [g_M_keep_2, show (108 : Int32) = nI 108 by decide, q_leN (by decide) (by omega), q_brn (by omega)]
      simp only [a_ah, q_onI_i, q_onJ_j, q_onS_s, q_onB_t, true_and, and_true, true_or, or_true, eq_self, true_implies, not_true_eq_false, not_false_eq_true, false_implies, q_bb0, q_bbok, q_bbok2, Bool.true_eq_false, Bool.false_eq_true, reduceCtorEq, q_clamp (show i < 2 ^ 31 by omega), q_bnd (show i < 108 by omega) (by decide), q_bnd (show i < 232 by omega) (by decide), q_n1]
      exact f1 rt
    · rw [f2 a ha, q_u_ne ha]
    · by_cases e : p = i
      · subst e
        rw [f4 _ (fun q h1 h2 => by omega), q_u_eq]
      · rw [f3 p (by omega) h2, q_u_ne (by decide)]
    · rw [f4 m (fun q h1 h2 => hm q (by omega) h2), q_u_nk (hm i (Nat.le_refl _) hi)]
theorem l_keep27 : ∀ (k i : Nat) (I : Nat → Nat → Int32), i + k = 120 → ∃ F, (∀ rt, q_X (q_W d) rt 217 (25, [some (.ref 130), some (.ref 147), some (.int (nI i))], [], (q_mm L I J t), 0, 0) = q_X (q_W d) rt 217 (25, [some (.ref 130), some (.ref 147), some (.int (nI 120))], [], (q_mm L F J t), 0, 0)) ∧ (∀ a, a ≠ 147 → F a = I a) ∧ (∀ p, i ≤ p → p < 120 → F 147 (108 + p) = I 132 (p)) ∧ ∀ k, (∀ p, i ≤ p → p < 120 → k ≠ 108 + p) → F 147 k = I 147 k
  | 0, i, I, h => by
    have : i = 120 := by omega
    subst this
    exact ⟨I, fun rt => rfl, fun a _ => rfl, fun p h1 h2 => absurd h1 (by omega), fun k _ => rfl⟩
  | k + 1, i, I, h => by
    have hi : i < 120 := by omega
    obtain ⟨F, f1, f2, f3, f4⟩ := l_keep27 k (i + 1) (q_u I 147 (108 + i) (I 132 (i))) (by omega)
    refine ⟨F, fun rt => ?_, fun a ha => ?_, fun p h1 h2 => ?_, fun m hm => ?_⟩
    · rw [g_M_keep_25, show (120 : Int32) = nI 120 by decide, q_leN (by decide) (by omega), q_brn (by omega)]
      simp only [a_ah, q_onI_i, q_onJ_j, q_onS_s, q_onB_t, true_and, and_true, true_or, or_true, eq_self, true_implies, not_true_eq_false, not_false_eq_true, false_implies, q_bb0, q_bbok, q_bbok2, Bool.true_eq_false, Bool.false_eq_true, reduceCtorEq, q_clamp (show i < 2 ^ 31 by omega), q_bnd (show i < 120 by omega) (by decide), q_bnd (show i < 232 by omega) (by decide), show (108 : Int32) + nI i = nI (108 + i) by rw [show (108 : Int32) = nI 108 by decide, q_add], q_clamp (show 108 + i < 2 ^ 31 by omega), q_bnd (show 108 + i < 232 by omega) (by decide), q_n1]
      exact f1 rt
    · rw [f2 a ha, q_u_ne ha]
    · by_cases e : p = i
      · subst e
        rw [f4 _ (fun q h1 h2 => by omega), q_u_eq]
      · rw [f3 p (by omega) h2, q_u_ne (by decide)]
    · rw [f4 m (fun q h1 h2 => hm q (by omega) h2), q_u_nk (hm i (Nat.le_refl _) hi)]
theorem l_again17 : ∀ (k i : Nat) (I : Nat → Nat → Int32), i + k = 108 → ∃ F, (∀ rt, q_X (q_W d) rt 218 (2, [some (.ref 130), some (.ref 147), some (.int (nI i))], [], (q_mm L I J t), 0, 0) = q_X (q_W d) rt 218 (2, [some (.ref 130), some (.ref 147), some (.int (nI 108))], [], (q_mm L F J t), 0, 0)) ∧ (∀ a, a ≠ 131 → F a = I a) ∧ (∀ p, i ≤ p → p < 108 → F 131 (p) = I 147 (p)) ∧ ∀ k, (∀ p, i ≤ p → p < 108 → k ≠ p) → F 131 k = I 131 k
  | 0, i, I, h => by
    have : i = 108 := by omega
    subst this
    exact ⟨I, fun rt => rfl, fun a _ => rfl, fun p h1 h2 => absurd h1 (by omega), fun k _ => rfl⟩
  | k + 1, i, I, h => by
    have hi : i < 108 := by omega
    obtain ⟨F, f1, f2, f3, f4⟩ := l_again17 k (i + 1) (q_u I 131 (i) (I 147 (i))) (by omega)
    refine ⟨F, fun rt => ?_, fun a ha => ?_, fun p h1 h2 => ?_, fun m hm => ?_⟩
    · rw [g_M_again_2, show (108 : Int32) = nI 108 by decide, q_leN (by decide) (by omega), q_brn (by omega)]
      simp only [a_ahd, q_onI_i, q_onJ_j, q_onS_s, q_onB_t, true_and, and_true, true_or, or_true, eq_self, true_implies, not_true_eq_false, not_false_eq_true, false_implies, q_bb0, q_bbok, q_bbok2, Bool.true_eq_false, Bool.false_eq_true, reduceCtorEq, q_clamp (show i < 2 ^ 31 by omega), q_bnd (show i < 108 by omega) (by decide), q_bnd (show i < 232 by omega) (by decide), q_n1]
      exact f1 rt
    · rw [f2 a ha, q_u_ne ha]
    · by_cases e : p = i
      · subst e
        rw [f4 _ (fun q h1 h2 => by omega), q_u_eq]
      · rw [f3 p (by omega) h2, q_u_ne (by decide)]
    · rw [f4 m (fun q h1 h2 => hm q (by omega) h2), q_u_nk (hm i (Nat.le_refl _) hi)]
theorem l_again27 : ∀ (k i : Nat) (I : Nat → Nat → Int32), i + k = 120 → ∃ F, (∀ rt, q_X (q_W d) rt 218 (25, [some (.ref 130), some (.ref 147), some (.int (nI i))], [], (q_mm L I J t), 0, 0) = q_X (q_W d) rt 218 (25, [some (.ref 130), some (.ref 147), some (.int (nI 120))], [], (q_mm L F J t), 0, 0)) ∧ (∀ a, a ≠ 132 → F a = I a) ∧ (∀ p, i ≤ p → p < 120 → F 132 (p) = I 147 (108 + p)) ∧ ∀ k, (∀ p, i ≤ p → p < 120 → k ≠ p) → F 132 k = I 132 k
  | 0, i, I, h => by
    have : i = 120 := by omega
    subst this
    exact ⟨I, fun rt => rfl, fun a _ => rfl, fun p h1 h2 => absurd h1 (by omega), fun k _ => rfl⟩
  | k + 1, i, I, h => by
    have hi : i < 120 := by omega
    obtain ⟨F, f1, f2, f3, f4⟩ := l_again27 k (i + 1) (q_u I 132 (i) (I 147 (108 + i))) (by omega)
    refine ⟨F, fun rt => ?_, fun a ha => ?_, fun p h1 h2 => ?_, fun m hm => ?_⟩
    · rw [g_M_again_25, show (120 : Int32) = nI 120 by decide, q_leN (by decide) (by omega), q_brn (by omega)]
      simp only [a_ahd, q_onI_i, q_onJ_j, q_onS_s, q_onB_t, true_and, and_true, true_or, or_true, eq_self, true_implies, not_true_eq_false, not_false_eq_true, false_implies, q_bb0, q_bbok, q_bbok2, Bool.true_eq_false, Bool.false_eq_true, reduceCtorEq, q_clamp (show i < 2 ^ 31 by omega), q_bnd (show i < 120 by omega) (by decide), q_bnd (show i < 232 by omega) (by decide), show (108 : Int32) + nI i = nI (108 + i) by rw [show (108 : Int32) = nI 108 by decide, q_add], q_clamp (show 108 + i < 2 ^ 31 by omega), q_bnd (show 108 + i < 232 by omega) (by decide), q_n1]
      exact f1 rt
    · rw [f2 a ha, q_u_ne ha]
    · by_cases e : p = i
      · subst e
        rw [f4 _ (fun q h1 h2 => by omega), q_u_eq]
      · rw [f3 p (by omega) h2, q_u_ne (by decide)]
    · rw [f4 m (fun q h1 h2 => hm q (by omega) h2), q_u_nk (hm i (Nat.le_refl _) hi)]
theorem s_keep7 {I : Nat → Nat → Int32} : ∃ F, (∀ Q, q_W (d + 1) 217 [.ref 130, .ref 147] (q_mm L I J t) Q = Q .null (q_mm L F J t)) ∧ (∀ a, a ≠ 147 → F a = I a) ∧ (∀ p, p < 108 → F 147 p = I 131 p) ∧ (∀ p, p < 120 → F 147 (108 + p) = I 132 p) ∧ F 147 228 = I 130 0 ∧ F 147 229 = I 130 4 ∧ F 147 230 = I 130 2 ∧ F 147 231 = I 130 3 := by
  obtain ⟨F1, f1, f2, f3, f4⟩ := l_keep17 (L := L) (d := d) (J := J) (t := t) 108 0 I (by decide)
  obtain ⟨F2, g1, g2, g3, g4⟩ := l_keep27 (L := L) (d := d) (J := J) (t := t) 120 0 F1 (by decide)
  have k130 : F2 130 = I 130 := by rw [g2 _ (by decide), f2 _ (by decide)]
  apply Exists.intro
  refine ⟨fun Q => ?_, ?_, ?_, ?_, ?_, ?_, ?_, ?_⟩
  · rw [e_M_keep, show (0 : Int32) = nI 0 by decide, f1, g_M_keep_2, show (108 : Int32) = nI 108 by decide, q_br (by decide), show (0 : Int32) = nI 0 by decide, g1, g_M_keep_25, show (120 : Int32) = nI 120 by decide, q_br (by decide), a_ah]
    simp only [q_onI_i, q_onJ_j, q_onS_s, q_onB_t, true_and, and_true, true_or, or_true, eq_self, true_implies, not_true_eq_false, not_false_eq_true, false_implies, q_bb0, q_bbok, q_bbok2, Bool.true_eq_false, Bool.false_eq_true, reduceCtorEq, show (228 : Int32) = nI 228 by decide, q_clamp (show 228 < 2 ^ 31 by decide), q_bnd (show 228 < 232 by decide) (by decide), show (229 : Int32) = nI 229 by decide, q_clamp (show 229 < 2 ^ 31 by decide), q_bnd (show 229 < 232 by decide) (by decide), show (230 : Int32) = nI 230 by decide, q_clamp (show 230 < 2 ^ 31 by decide), q_bnd (show 230 < 232 by decide) (by decide), show (231 : Int32) = nI 231 by decide, q_clamp (show 231 < 2 ^ 31 by decide), q_bnd (show 231 < 232 by decide) (by decide), g_M_keep_76, a_ah]
    rfl
  · intro a ha
    repeat rw [q_u_ne ha]
    rw [g2 a ha, f2 a ha]
  · intro p hp
    (repeat (first | rw [q_u_nk (by omega)]))
    rw [g4 p (fun q _ _ => by omega), f3 p (Nat.zero_le _) hp]
  · intro p hp
    (repeat (first | rw [q_u_nk (by omega)]))
    rw [g3 p (Nat.zero_le _) hp, f2 _ (by decide)]
  · (repeat (first | rw [q_u_eq] | rw [q_u_nk (by decide)] | rw [q_u_ne (by decide)]))
    rw [k130]
  · (repeat (first | rw [q_u_eq] | rw [q_u_nk (by decide)] | rw [q_u_ne (by decide)]))
    rw [k130]
  · (repeat (first | rw [q_u_eq] | rw [q_u_nk (by decide)] | rw [q_u_ne (by decide)]))
    rw [k130]
  · (repeat (first | rw [q_u_eq] | rw [q_u_nk (by decide)] | rw [q_u_ne (by decide)]))
    rw [k130]
theorem s_again7 {I : Nat → Nat → Int32} : ∃ F, (∀ Q, q_W (d + 1) 218 [.ref 130, .ref 147] (q_mm L I J t) Q = Q .null (q_mm L F J t)) ∧ (∀ a, a ≠ 130 → a ≠ 131 → a ≠ 132 → F a = I a) ∧ (∀ p, p < 108 → F 131 p = I 147 p) ∧ (∀ p, p < 120 → F 132 p = I 147 (108 + p)) ∧ F 130 0 = I 147 228 ∧ F 130 4 = I 147 229 ∧ F 130 2 = I 147 230 ∧ F 130 3 = I 147 231 ∧ ∀ k, 4 < k → F 130 k = I 130 k := by
  obtain ⟨F1, f1, f2, f3, f4⟩ := l_again17 (L := L) (d := d) (J := J) (t := t) 108 0 I (by decide)
  obtain ⟨F2, g1, g2, g3, g4⟩ := l_again27 (L := L) (d := d) (J := J) (t := t) 120 0 F1 (by decide)
  have k147 : F2 147 = I 147 := by rw [g2 _ (by decide), f2 _ (by decide)]
  apply Exists.intro
  refine ⟨fun Q => ?_, ?_, ?_, ?_, ?_, ?_, ?_, ?_, ?_⟩
  · rw [e_M_again, show (0 : Int32) = nI 0 by decide, f1, g_M_again_2, show (108 : Int32) = nI 108 by decide, q_br (by decide), show (0 : Int32) = nI 0 by decide, g1, g_M_again_25, show (120 : Int32) = nI 120 by decide, q_br (by decide), a_ahd]
    simp only [q_onI_i, q_onJ_j, q_onS_s, q_onB_t, true_and, and_true, true_or, or_true, eq_self, true_implies, not_true_eq_false, not_false_eq_true, false_implies, q_bb0, q_bbok, q_bbok2, Bool.true_eq_false, Bool.false_eq_true, reduceCtorEq, show (228 : Int32) = nI 228 by decide, q_clamp (show 228 < 2 ^ 31 by decide), q_bnd (show 228 < 232 by decide) (by decide), show (229 : Int32) = nI 229 by decide, q_clamp (show 229 < 2 ^ 31 by decide), q_bnd (show 229 < 232 by decide) (by decide), show (230 : Int32) = nI 230 by decide, q_clamp (show 230 < 2 ^ 31 by decide), q_bnd (show 230 < 232 by decide) (by decide), show (231 : Int32) = nI 231 by decide, q_clamp (show 231 < 2 ^ 31 by decide), q_bnd (show 231 < 232 by decide) (by decide), g_M_again_76, a_ahd]
    rfl
  · intro a h1 h2 h3
    repeat rw [q_u_ne h1]
    rw [g2 a h3, f2 a h2]
  · intro p hp
    (repeat (first | rw [q_u_ne (by decide)]))
    rw [g2 _ (by decide), f3 p (Nat.zero_le _) hp]
  · intro p hp
    (repeat (first | rw [q_u_ne (by decide)]))
    rw [g3 p (Nat.zero_le _) hp, f2 _ (by decide)]
  · (repeat (first | rw [q_u_eq] | rw [q_u_nk (by decide)] | rw [q_u_ne (by decide)]))
    rw [k147]
  · (repeat (first | rw [q_u_eq] | rw [q_u_nk (by decide)] | rw [q_u_ne (by decide)]))
    rw [k147]
  · (repeat (first | rw [q_u_eq] | rw [q_u_nk (by decide)] | rw [q_u_ne (by decide)]))
    rw [k147]
  · (repeat (first | rw [q_u_eq] | rw [q_u_nk (by decide)] | rw [q_u_ne (by decide)]))
    rw [k147]
  · intro k hk
    (repeat (first | rw [q_u_nk (by omega)]))
    rw [g2 _ (by decide), f2 _ (by decide)]
end KEEP
