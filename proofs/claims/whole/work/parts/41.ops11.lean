/-! image and restore: whole hosts are taken over -/
def q_tw (x : Int32) : Int32 := if (19683 : Int32) ≤ x then x else x * 27
theorem q_tw_hi {x : Int32} (h : (19683 : Int32) ≤ x) : q_tw x = x := by
  unfold q_tw
  rw [if_pos h]
theorem q_tw_lo {x : Int32} (h : ¬ (19683 : Int32) ≤ x) : q_tw x = x * 27 := by
  unfold q_tw
  rw [if_neg h]
def q_tw3 (x : Int32) : Int32 := q_tw (q_tw (q_tw x))
theorem s_strG {L d : Nat} {Q : Value → q_Mem → Prop} {I : Nat → Nat → Int32} {J : Nat → Nat → Int64} {t : Nat} {o : Nat} (ho : q_isO (q_SH L) o 5 = true) : q_W (d + 2) 42 [.ref o] (q_mm L I J t) Q = Q (.int (q_str (I o 0) (I o 1) (q_bc (I o 3)))) (q_mm L I J t) := by
  rw [e_Plug_strengthByKind]
  simp only [ho, q_onI_i, q_onJ_j, q_onS_s, q_onB_t, true_and, and_true, true_or, or_true, eq_self, true_implies, not_true_eq_false, not_false_eq_true, false_implies, q_bb0, q_bbok, q_bbok2, Bool.true_eq_false, Bool.false_eq_true, reduceCtorEq, s_bitCount, g_Plug_strengthByKind_11, q_five]
  unfold q_str
  by_cases h1 : (I o 0).toInt = 1
  · simp [h1]
  · by_cases h2 : (I o 0).toInt = 2
    · simp [h2]
    · by_cases h3 : (I o 0).toInt = 3
      · simp [h3]
      · by_cases h4 : (I o 0).toInt = 4
        · simp [h4]
        · simp [h1, h2, h3, h4]
theorem s_letG {L d : Nat} {Q : Value → q_Mem → Prop} {I : Nat → Nat → Int32} {J : Nat → Nat → Int64} {t : Nat} {o : Nat} (ho : q_isO (q_SH L) o 5 = true) : q_W (d + 1) 45 [.ref o] (q_mm L I J t) Q = Q (.int (q_tw3 (I o 5))) (q_mm L I J t) := by
  rw [e_Plug_lettersFromLeft]
  simp only [ho, q_onI_i, q_onJ_j, q_onS_s, q_onB_t, true_and, and_true, true_or, or_true, eq_self, true_implies, not_true_eq_false, not_false_eq_true, false_implies, q_bb0, q_bbok, q_bbok2, Bool.true_eq_false, Bool.false_eq_true, reduceCtorEq]
  have h4 : (4 : Int32) = nI 4 := by decide
  have hL : ∀ (a : Int32) (j : Nat), j < 4 → q_X (q_W d) (fun v μ x x_1 => Q v μ) 45 (7, [some (.ref o), some (.int a), some (.int (nI j))], [], (q_mm L I J t), 0, 0) = (((19683 : Int32) ≤ a → Q (.int a) (q_mm L I J t)) ∧ (¬ (19683 : Int32) ≤ a → q_X (q_W d) (fun v μ x x_1 => Q v μ) 45 (7, [some (.ref o), some (.int (a * 27)), some (.int (nI (j + 1)))], [], (q_mm L I J t), 0, 0))) := fun a j hj => by
    rw [g_Plug_lettersFromLeft_7, h4, q_leN (by decide) (by omega), q_brn (by omega), q_n1]
  have hE : ∀ (a : Int32), q_X (q_W d) (fun v μ x x_1 => Q v μ) 45 (7, [some (.ref o), some (.int a), some (.int (nI 4))], [], (q_mm L I J t), 0, 0) = Q (.int a) (q_mm L I J t) := fun a => by
    rw [g_Plug_lettersFromLeft_7, h4, q_leN (by decide) (by decide), q_br (by omega)]
  unfold q_tw3
  rw [show (1 : Int32) = nI 1 by decide, hL _ 1 (by decide)]
  by_cases c1 : (19683 : Int32) ≤ I o 5
  · rw [q_br c1, q_tw_hi c1, q_tw_hi c1, q_tw_hi c1]
  · rw [q_brn c1, hL _ 2 (by decide), q_tw_lo c1]
    by_cases c2 : (19683 : Int32) ≤ I o 5 * 27
    · rw [q_br c2, q_tw_hi c2, q_tw_hi c2]
    · rw [q_brn c2, hL _ 3 (by decide), q_tw_lo c2]
      by_cases c3 : (19683 : Int32) ≤ I o 5 * 27 * 27
      · rw [q_br c3, q_tw_hi c3]
      · rw [q_brn c3, hE, q_tw_lo c3]
theorem q_tw3_ord {x : Int32} (hx : q_nameok x) : q_tw3 x = q_ord x := by
  have h1 := s_letters (L := 0) (d := 0) (Q := fun v _ => v = .int (q_ord x)) (I := fun _ _ => x) (J := fun _ _ => 0) (t := 0) (p := 0) (by decide) hx
  have h2 := s_letG (L := 0) (d := 0) (Q := fun v _ => v = .int (q_ord x)) (I := fun _ _ => x) (J := fun _ _ => 0) (t := 0) (o := 6 + 0) (i_plug (by decide))
  have h3 := h1.symm.trans h2
  have h4 : (Value.int (q_ord x) = .int (q_ord x)) = (Value.int (q_tw3 x) = .int (q_ord x)) := h3
  have h5 : Value.int (q_tw3 x) = .int (q_ord x) := h4 ▸ rfl
  injection h5
def q_cpP (I F : Nat → Nat → Int32) (o o1 : Nat) : Prop := (F o 0 = I o1 0 ∧ F o 1 = I o1 1 ∧ F o 2 = I o1 2 ∧ F o 3 = I o1 3 ∧ F o 4 = I o1 4 ∧ F o 5 = I o1 5) ∧ F o 6 = q_str (I o1 0) (I o1 1) (q_bc (I o1 3)) ∧ F o 7 = q_tw3 (I o1 5) ∧ F o 8 = I o1 8 ∧ F o 9 = I o1 9 ∧ F o 10 = I o1 10
def q_cpH (I F : Nat → Nat → Int32) (o o1 : Nat) : Prop := F o 0 = I o1 0 ∧ F o 1 = I o1 1 ∧ F o 2 = I o1 2 ∧ F o 3 = I o1 3 ∧ F o 4 = I o1 4
section TAKE
variable {L d : Nat} {J : Nat → Nat → Int64} {t : Nat}
theorem s_takePlug {I : Nat → Nat → Int32} {o o1 : Nat} (ho : q_isO (q_SH L) o 5 = true) (ho1 : q_isO (q_SH L) o1 5 = true) (hne : o1 ≠ o) : ∃ F, (∀ Q, q_W (d + 4) 39 [.ref o, .ref o1] (q_mm L I J t) Q = Q .null (q_mm L F J t)) ∧ (∀ a, a ≠ o → F a = I a) ∧ q_cpP I F o o1 := by
  apply Exists.intro
  refine ⟨fun Q => ?_, ?_, ?_⟩
  · rw [e_Plug_takeFrom, ho, ho1]
    simp only [q_onI_i, q_onJ_j, q_onS_s, q_onB_t, true_and, and_true, true_or, or_true, eq_self, true_implies, not_true_eq_false, not_false_eq_true, false_implies, q_bb0, q_bbok, q_bbok2, Bool.true_eq_false, Bool.false_eq_true, reduceCtorEq]
    rw [e_Plug_begin]
    simp only [ho, q_onI_i, q_onJ_j, q_onS_s, q_onB_t, true_and, and_true, true_or, or_true, eq_self, true_implies, not_true_eq_false, not_false_eq_true, false_implies, q_bb0, q_bbok, q_bbok2, Bool.true_eq_false, Bool.false_eq_true, reduceCtorEq, s_strG ho, g_Plug_begin_38, s_letG ho, g_Plug_begin_46, g_Plug_takeFrom_28, ho1]
    rfl
  · intro a ha
    repeat rw [q_u_ne ha]
  · unfold q_cpP
    refine ⟨⟨?_, ?_, ?_, ?_, ?_, ?_⟩, ?_, ?_, ?_, ?_, ?_⟩ <;> (repeat (first | rw [q_u_eq] | rw [q_u_nk (by decide)] | rw [q_u_ne hne]))
theorem s_takeHook {I : Nat → Nat → Int32} {o o1 : Nat} (ho : q_isO (q_SH L) o 2 = true) (ho1 : q_isO (q_SH L) o1 2 = true) (hne : o1 ≠ o) : ∃ F, (∀ Q, q_W (d + 2) 17 [.ref o, .ref o1] (q_mm L I J t) Q = Q .null (q_mm L F J t)) ∧ (∀ a, a ≠ o → F a = I a) ∧ q_cpH I F o o1 := by
  apply Exists.intro
  refine ⟨fun Q => ?_, ?_, ?_⟩
  · rw [e_Hook_takeFrom, ho, ho1]
    simp only [q_onI_i, q_onJ_j, q_onS_s, q_onB_t, true_and, and_true, true_or, or_true, eq_self, true_implies, not_true_eq_false, not_false_eq_true, false_implies, q_bb0, q_bbok, q_bbok2, Bool.true_eq_false, Bool.false_eq_true, reduceCtorEq]
    rw [e_Hook_begin]
    simp only [ho, q_onI_i, q_onJ_j, q_onS_s, q_onB_t, true_and, and_true, true_or, or_true, eq_self, true_implies, not_true_eq_false, not_false_eq_true, false_implies, q_bb0, q_bbok, q_bbok2, Bool.true_eq_false, Bool.false_eq_true, reduceCtorEq, g_Hook_takeFrom_24]
    rfl
  · intro a ha
    repeat rw [q_u_ne ha]
  · unfold q_cpH
    refine ⟨?_, ?_, ?_, ?_, ?_⟩ <;> (repeat (first | rw [q_u_eq] | rw [q_u_nk (by decide)] | rw [q_u_ne hne]))
/-- two hosts and what they hold -/
def q_HH (L t ho hs pa sa ha za pb ps hb zs : Nat) : Prop := (q_isO (q_SH L) ho 3 = true) ∧ (q_isO (q_SH L) hs 3 = true) ∧ (q_RR t ho 0 = some pa) ∧ (q_RR t hs 0 = some sa) ∧ (q_RR t ho 1 = some ha) ∧ (q_RR t hs 1 = some za) ∧ (∃ c, q_arq (q_SH L) pa = some (c, 12)) ∧ (∃ c, q_arq (q_SH L) sa = some (c, 12)) ∧ (∃ c, q_arq (q_SH L) ha = some (c, 24)) ∧ (∃ c, q_arq (q_SH L) za = some (c, 24)) ∧ (∀ p, p < 12 → q_RR t pa p = some (pb + p)) ∧ (∀ p, p < 12 → q_RR t sa p = some (ps + p)) ∧ (∀ p, p < 24 → q_RR t ha p = some (hb + p)) ∧ (∀ p, p < 24 → q_RR t za p = some (zs + p)) ∧ (∀ p, p < 12 → q_isO (q_SH L) (pb + p) 5 = true) ∧ (∀ p, p < 12 → q_isO (q_SH L) (ps + p) 5 = true) ∧ (∀ p, p < 24 → q_isO (q_SH L) (hb + p) 2 = true) ∧ (∀ p, p < 24 → q_isO (q_SH L) (zs + p) 2 = true) ∧ (pb + 12 ≤ ps ∨ ps + 12 ≤ pb) ∧ (hb + 24 ≤ zs ∨ zs + 24 ≤ hb)
theorem l_takeP {ho hs pa sa ha za pb ps hb zs : Nat} (H : q_HH L t ho hs pa sa ha za pb ps hb zs) : ∀ (k i : Nat) (I : Nat → Nat → Int32), i + k = 12 → ∃ F, (∀ rt, q_X (q_W (d + 4)) rt 19 (2, [some (.ref ho), some (.ref hs), some (.int (nI i))], [], (q_mm L I J t), 0, 0) = q_X (q_W (d + 4)) rt 19 (31, [some (.ref ho), some (.ref hs), some (.int 0)], [], (q_mm L F J t), 0, 0)) ∧ (∀ a, (∀ p, i ≤ p → p < 12 → a ≠ pb + p) → F a = I a) ∧ ∀ p, i ≤ p → p < 12 → q_cpP I F (pb + p) (ps + p)
  | 0, i, I, h => by
    refine ⟨I, fun rt => ?_, fun a _ => rfl, fun p h1 h2 => absurd h1 (by omega)⟩
    rw [g_Host_takeFrom_2, show (12 : Int32) = nI 12 by decide, q_leN (by decide) (by omega), q_br (by omega)]
  | k + 1, i, I, h => by
    obtain ⟨Hi1, Hi2, Hr1, Hr2, Hr3, Hr4, Ha1, Ha2, Ha3, Ha4, Hp1, Hp2, Hp3, Hp4, Ho1, Ho2, Ho3, Ho4, Hdp, Hdh⟩ := id H
    have hi : i < 12 := by omega
    obtain ⟨G, g1, g2, g3⟩ := s_takePlug (d := d) (J := J) (t := t) (I := I) (Ho1 i hi) (Ho2 i hi) (by have := Hdp; omega)
    obtain ⟨F, f1, f2, f3⟩ := l_takeP H k (i + 1) G (by omega)
    have hG : ∀ p, i + 1 ≤ p → p < 12 → G (ps + p) = I (ps + p) := fun p h1 h2 => g2 _ (by have := Hdp; omega)
    refine ⟨F, fun rt => ?_, fun a ha => ?_, fun p h1 h2 => ?_⟩
    · obtain ⟨c1, e1⟩ := Ha1
      obtain ⟨c2, e2⟩ := Ha2
      rw [g_Host_takeFrom_2, show (12 : Int32) = nI 12 by decide, q_leN (by decide) (by omega), q_brn (by omega), Hi1, Hr1]
      simp only [q_onI_i, q_onJ_j, q_onS_s, q_onB_t, true_and, and_true, true_or, or_true, eq_self, true_implies, not_true_eq_false, not_false_eq_true, false_implies, q_bb0, q_bbok, q_bbok2, Bool.true_eq_false, Bool.false_eq_true, reduceCtorEq, e1, e2, Hi2, Hr2, q_clamp (show i < 2 ^ 31 by omega), q_bnd hi (by decide), Hp1 i hi, Hp2 i hi, Ho1 i hi, g1, g_Host_takeFrom_23, q_n1]
      exact f1 rt
    · rw [f2 a (fun p h1 h2 => ha p (by omega) h2), g2 a (ha i (Nat.le_refl _) hi)]
    · by_cases e : p = i
      · subst e
        unfold q_cpP at g3 ⊢
        rw [f2 (pb + p) (fun q h1 h2 => by omega)]
        exact g3
      · have := f3 p (by omega) h2
        unfold q_cpP at this ⊢
        rw [hG p (by omega) h2] at this
        exact this
theorem l_takeH {ho hs pa sa ha za pb ps hb zs : Nat} (H : q_HH L t ho hs pa sa ha za pb ps hb zs) : ∀ (k i : Nat) (I : Nat → Nat → Int32), i + k = 24 → ∃ F, (∀ rt, q_X (q_W (d + 4)) rt 19 (31, [some (.ref ho), some (.ref hs), some (.int (nI i))], [], (q_mm L I J t), 0, 0) = q_X (q_W (d + 4)) rt 19 (31, [some (.ref ho), some (.ref hs), some (.int (nI 24))], [], (q_mm L F J t), 0, 0)) ∧ (∀ a, (∀ p, i ≤ p → p < 24 → a ≠ hb + p) → F a = I a) ∧ ∀ p, i ≤ p → p < 24 → q_cpH I F (hb + p) (zs + p)
  | 0, i, I, h => by
    have : i = 24 := by omega
    subst this
    exact ⟨I, fun rt => rfl, fun a _ => rfl, fun p h1 h2 => absurd h1 (by omega)⟩
  | k + 1, i, I, h => by
    obtain ⟨Hi1, Hi2, Hr1, Hr2, Hr3, Hr4, Ha1, Ha2, Ha3, Ha4, Hp1, Hp2, Hp3, Hp4, Ho1, Ho2, Ho3, Ho4, Hdp, Hdh⟩ := id H
    have hi : i < 24 := by omega
    obtain ⟨G, g1, g2, g3⟩ := s_takeHook (d := d + 2) (J := J) (t := t) (I := I) (Ho3 i hi) (Ho4 i hi) (by have := Hdh; omega)
    obtain ⟨F, f1, f2, f3⟩ := l_takeH H k (i + 1) G (by omega)
    have hG : ∀ p, i + 1 ≤ p → p < 24 → G (zs + p) = I (zs + p) := fun p h1 h2 => g2 _ (by have := Hdh; omega)
    refine ⟨F, fun rt => ?_, fun a ha => ?_, fun p h1 h2 => ?_⟩
    · obtain ⟨c1, e1⟩ := Ha3
      obtain ⟨c2, e2⟩ := Ha4
      rw [g_Host_takeFrom_31, show (24 : Int32) = nI 24 by decide, q_leN (by decide) (by omega), q_brn (by omega), Hi1, Hr3]
      simp only [q_onI_i, q_onJ_j, q_onS_s, q_onB_t, true_and, and_true, true_or, or_true, eq_self, true_implies, not_true_eq_false, not_false_eq_true, false_implies, q_bb0, q_bbok, q_bbok2, Bool.true_eq_false, Bool.false_eq_true, reduceCtorEq, e1, e2, Hi2, Hr4, q_clamp (show i < 2 ^ 31 by omega), q_bnd hi (by decide), Hp3 i hi, Hp4 i hi, Ho3 i hi, g1, g_Host_takeFrom_52, q_n1]
      exact f1 rt
    · rw [f2 a (fun p h1 h2 => ha p (by omega) h2), g2 a (ha i (Nat.le_refl _) hi)]
    · by_cases e : p = i
      · subst e
        unfold q_cpH at g3 ⊢
        rw [f2 (hb + p) (fun q h1 h2 => by omega)]
        exact g3
      · have := f3 p (by omega) h2
        unfold q_cpH at this ⊢
        rw [hG p (by omega) h2] at this
        exact this
theorem s_takeHost {I : Nat → Nat → Int32} {ho hs pa sa ha za pb ps hb zs : Nat} (H : q_HH L t ho hs pa sa ha za pb ps hb zs) (hne : hs ≠ ho) (e1 : ∀ p, p < 12 → pb + p ≠ ho ∧ pb + p ≠ hs ∧ ∀ q, q < 24 → pb + p ≠ hb + q ∧ pb + p ≠ zs + q) (e2 : ∀ q, q < 24 → hb + q ≠ ho ∧ hb + q ≠ hs) : ∃ F, (∀ Q, q_W (d + 5) 19 [.ref ho, .ref hs] (q_mm L I J t) Q = Q .null (q_mm L F J t)) ∧ (∀ a, a ≠ ho → (∀ p, p < 12 → a ≠ pb + p) → (∀ q, q < 24 → a ≠ hb + q) → F a = I a) ∧ (∀ p, p < 12 → q_cpP I F (pb + p) (ps + p)) ∧ (∀ q, q < 24 → q_cpH I F (hb + q) (zs + q)) ∧ F ho 2 = I hs 2 ∧ F ho 3 = I hs 3 ∧ F ho 4 = I hs 4 ∧ F ho 5 = I hs 5 := by
  obtain ⟨Hi1, Hi2, Hr1, Hr2, Hr3, Hr4, Ha1, Ha2, Ha3, Ha4, Hp1, Hp2, Hp3, Hp4, Ho1, Ho2, Ho3, Ho4, Hdp, Hdh⟩ := id H
  obtain ⟨F1, f1, f2, f3⟩ := l_takeP (d := d) (J := J) H 12 0 I (by decide)
  obtain ⟨F2, g1, g2, g3⟩ := l_takeH (d := d) (J := J) H 24 0 F1 (by decide)
  have k1 : F2 hs = I hs := by
    rw [g2 hs (fun p _ hp => (e2 p hp).2.symm), f2 hs (fun p _ hp => (e1 p hp).2.1.symm)]
  have kz : ∀ q, q < 24 → F1 (zs + q) = I (zs + q) := fun q hq => f2 _ (fun p _ hp => ((e1 p hp).2.2 q hq).2.symm)
  apply Exists.intro
  refine ⟨fun Q => ?_, ?_, ?_, ?_, ?_, ?_, ?_, ?_⟩
  · rw [e_Host_takeFrom, show (0 : Int32) = nI 0 by decide, f1, show (0 : Int32) = nI 0 by decide, g1, g_Host_takeFrom_31, show (24 : Int32) = nI 24 by decide, q_br (by decide), Hi1, Hi2]
    simp only [q_onI_i, q_onJ_j, q_onS_s, q_onB_t, true_and, and_true, true_or, or_true, eq_self, true_implies, not_true_eq_false, not_false_eq_true, false_implies, q_bb0, q_bbok, q_bbok2, Bool.true_eq_false, Bool.false_eq_true, reduceCtorEq, g_Host_takeFrom_90]
    rfl
  · intro a ha hp hq
    repeat rw [q_u_ne ha]
    rw [g2 a (fun q _ h => hq q h), f2 a (fun p _ h => hp p h)]
  · intro p hp
    have := f3 p (Nat.zero_le _) hp
    unfold q_cpP at this ⊢
    repeat rw [q_u_ne (e1 p hp).1]
    rw [g2 (pb + p) (fun q _ h => ((e1 p hp).2.2 q h).1)]
    exact this
  · intro q hq
    have := g3 q (Nat.zero_le _) hq
    unfold q_cpH at this ⊢
    repeat rw [q_u_ne (e2 q hq).1]
    rw [kz q hq] at this
    exact this
  · (repeat (first | rw [q_u_eq] | rw [q_u_nk (by decide)] | rw [q_u_ne hne]))
    rw [k1]
  · (repeat (first | rw [q_u_eq] | rw [q_u_nk (by decide)] | rw [q_u_ne hne]))
    rw [k1]
  · (repeat (first | rw [q_u_eq] | rw [q_u_nk (by decide)] | rw [q_u_ne hne]))
    rw [k1]
  · (repeat (first | rw [q_u_eq] | rw [q_u_nk (by decide)] | rw [q_u_ne hne]))
    rw [k1]
end TAKE
