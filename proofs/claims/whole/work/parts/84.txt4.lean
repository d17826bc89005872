/-! texts: the class's item -/
theorem q_nml_len {J : Nat → Nat → Int64} {s len : Nat} : ∀ (k pos nm : Nat), pos ≤ len → (q_nml (q_sg J s len) k pos nm).1 ≤ len
  | 0, pos, nm, h => h
  | k + 1, pos, nm, h => by
    unfold q_nml
    cases hl : q_ltr (q_sg J s len pos) with
    | none => exact h
    | some l =>
      obtain ⟨l1, l2, l3⟩ := q_ltr_so hl
      exact q_nml_len k (pos + 1) _ (q_sg_lt (q_nIm1 (w := 96 + l) (by omega)) l1)
section TXT4
variable {L d : Nat} {J : Nat → Nat → Int64}
theorem w_word {I : Nat → Nat → Int32} {Q : Value → q_Mem → Prop} {s len pos : Nat} (ha : q_at I s len pos) (hT : q_wd4 (q_sg J s len) pos = none → ∀ F, q_fat I F (pos + 4) → q_at F s len (pos + 4) → q_X (q_W (d + 3)) (fun v μ _ _ => Q v μ) 60 (38, [some (.ref 94), some (.int (nI pos)), none], [.int 1], q_mm L F J (114 + 2 * s), 0, 0)) (hF : ∀ p, q_wd4 (q_sg J s len) pos = some p → ∀ F, q_ffl I F p → Q (.int 0) (q_mm L F J (114 + 2 * s))) : q_W (d + 4) 60 [.ref 94] (q_mm L I J (114 + 2 * s)) Q := by
  rw [e_TextReader_readItem, ha.1]
  refine w_take (by decide) ha (fun e1 F1 f1 a1 => ?_) (fun e1 F1 f1 => ?_)
  · rw [q_onI_i, g_TextReader_readItem_11, q_brn (by decide)]
    refine w_take (by decide) a1 (fun e2 F2 f2 a2 => ?_) (fun e2 F2 f2 => ?_)
    · rw [q_onI_i, g_TextReader_readItem_20, q_brn (by decide)]
      refine w_take (by decide) a2 (fun e3 F3 f3 a3 => ?_) (fun e3 F3 f3 => ?_)
      · rw [q_onI_i, g_TextReader_readItem_29, q_brn (by decide)]
        refine w_take (by decide) a3 (fun e4 F4 f4 a4 => ?_) (fun e4 F4 f4 => ?_)
        · exact hT (by unfold q_wd4; rw [if_pos e1, if_pos e2, if_pos e3, if_pos e4]) F4 (q_fat_t (q_fat_t (q_fat_t f1 f2) f3) f4) a4
        · rw [q_onI_i, g_TextReader_readItem_38, q_br rfl]
          exact ⟨Or.inl rfl, hF _ (by unfold q_wd4; rw [if_pos e1, if_pos e2, if_pos e3, if_neg e4]) _ (q_fat_f (q_fat_t (q_fat_t f1 f2) f3) f4)⟩
      · rw [q_onI_i, g_TextReader_readItem_29, q_br rfl]
        exact ⟨Or.inl rfl, hF _ (by unfold q_wd4; rw [if_pos e1, if_pos e2, if_neg e3]) _ (q_fat_f (q_fat_t f1 f2) f3)⟩
    · rw [q_onI_i, g_TextReader_readItem_20, q_br rfl]
      exact ⟨Or.inl rfl, hF _ (by unfold q_wd4; rw [if_pos e1, if_neg e2]) _ (q_fat_f f1 f2)⟩
  · rw [q_onI_i, g_TextReader_readItem_11, q_br rfl]
    exact ⟨Or.inl rfl, hF _ (by unfold q_wd4; rw [if_neg e1]) _ f1⟩
theorem w_name {I : Nat → Nat → Int32} {Q : Value → q_Mem → Prop} {s len pos o n cnt : Nat} {has : Int32 → Bool} (ho : q_isO (q_SH L) o 5 = true) (h94 : o ≠ 94) (ho2 : o < 114) (ho3 : 98 ≤ o) (ha : q_at I s len pos) (h5 : I o 5 = 0) (hn : I 3 2 = nI n) (h12 : n ≤ 12) (hc : I 94 2 = nI cnt) (hcn : cnt ≤ 12) (hco : ∀ i, i < cnt → 98 + i ≠ o) (hh : ∀ x, has x = (q_any (fun p => !decide (I (6 + p) 9 = 3) && decide (I (6 + p) 5 = x)) 0 n || q_any (fun i => decide (I (98 + i) 5 = x)) 0 cnt)) (hT : (q_nmp (q_sg J s len) has pos).1 = 1 → ∀ F, q_fro I F o → q_at F s len (q_nmp (q_sg J s len) has pos).2.1 → F o 5 = nI (q_nmp (q_sg J s len) has pos).2.2 → (∀ x, x ≠ 5 → F o x = I o x) → Q (.int 1) (q_mm L F J (114 + 2 * s))) (hF : ¬ (q_nmp (q_sg J s len) has pos).1 = 1 → ∀ F, q_ffo I F o (q_nmp (q_sg J s len) has pos).2.1 → Q (.int 0) (q_mm L F J (114 + 2 * s))) : q_W (d + 4) 61 [.ref 94, .ref o] (q_mm L I J (114 + 2 * s)) Q := by
  rw [e_TextReader_readName]
  refine w_take (by decide) ha (fun e1 F1 f1 a1 => ?_) (fun e1 F1 f1 => ?_)
  · have q1 := q_nml_ok (sg := q_sg J s len) 4 (pos + 1) 0 (by decide) (by decide)
    have q2 := q_nml_len (J := J) (s := s) (len := len) 4 (pos + 1) 0 a1.2.2.2.2
    have hlen := ha.2.2.2.1
    unfold q_nmp at hT hF
    rw [if_pos e1] at hT hF
    rw [q_onI_i, g_TextReader_readName_6, q_brn (by decide), a1.1, show (0 : Int32) = nI 0 by decide]
    refine l_Cnm ho h94 ho2 4 0 (pos + 1) 0 F1 (by decide) a1 (by rw [f1.1 o h94, h5]; decide) (fun F f2 f3 f4 f5 y => ?_)
    have f02 := q_fro_t (q_fat_o (o := o) f1) f2
    rw [f3.1, q_eqN (by omega) (by omega)]
    by_cases e2 : (q_nml (q_sg J s len) 4 (pos + 1) 0).1 = pos + 1
    · rw [if_pos e2] at hF
      rw [q_br e2, s_failAt, q_onI_i, g_TextReader_readName_86, e2]
      exact ⟨Or.inl rfl, hF (show ¬ (0 : Nat) = 1 by decide) _ (q_fro_f f02 (q_ffl_o q_ffl_u))⟩
    · rw [if_neg e2] at hT hF
      rw [q_brn e2]
      refine w_take (by decide) f3 (fun e3 G g1 g2 => ?_) (fun e3 G g1 => ?_)
      · rw [if_pos e3] at hT hF
        have f03 := q_fro_t f02 (q_fat_o (o := o) g1)
        have h5' : G o 5 = nI (q_nml (q_sg J s len) 4 (pos + 1) 0).2 := by rw [g1.1 o h94, f4]
        have hhx : has (nI (q_nml (q_sg J s len) 4 (pos + 1) 0).2) = (q_any (fun p => !decide (G (6 + p) 9 = 3) && decide (G (6 + p) 5 = nI (q_nml (q_sg J s len) 4 (pos + 1) 0).2)) 0 n || q_any (fun i => decide (G (98 + i) 5 = nI (q_nml (q_sg J s len) 4 (pos + 1) 0).2)) 0 cnt) := by
          rw [hh]
          congr 1
          · exact q_any_congr n 0 fun p _ hp => by rw [f03.1 _ (by omega) (by omega)]
          · exact q_any_congr cnt 0 fun p _ hp => by rw [f03.1 _ (by omega) (hco p (by omega))]
        rw [hhx] at hT hF
        rw [q_onI_i, g_TextReader_readName_93, q_brn (by decide), ho, q_onB_t, h5', s_hasName (by rw [f03.1 3 (by decide) (by omega)]; exact hn) h12, q_onI_i, g_TextReader_readName_109]
        cases ex : q_any (fun p => !decide (G (6 + p) 9 = 3) && decide (G (6 + p) 5 = nI (q_nml (q_sg J s len) 4 (pos + 1) 0).2)) 0 n with
        | true =>
          rw [ex, Bool.true_or] at hF
          rw [q_brn (show ¬ q_bb true = 0 by decide), s_failAt, q_onI_i, g_TextReader_readName_128]
          exact ⟨Or.inl rfl, hF (show ¬ (0 : Nat) = 1 by decide) _ (q_fro_f f03 (q_ffl_o q_ffl_u))⟩
        | false =>
          rw [ex, Bool.false_or] at hT hF
          rw [q_br (show q_bb false = 0 from rfl), ho, q_onB_t, h5', s_hasItem (by rw [f03.2.1]; exact hc) hcn, q_onI_i, g_TextReader_readName_120]
          cases ey : q_any (fun i => decide (G (98 + i) 5 = nI (q_nml (q_sg J s len) 4 (pos + 1) 0).2)) 0 cnt with
          | true =>
            rw [ey] at hF
            rw [q_brn (show ¬ q_bb true = 0 by decide), s_failAt, q_onI_i, g_TextReader_readName_128]
            exact ⟨Or.inl rfl, hF (show ¬ (0 : Nat) = 1 by decide) _ (q_fro_f f03 (q_ffl_o q_ffl_u))⟩
          | false =>
            rw [ey] at hT
            rw [q_br (show q_bb false = 0 from rfl)]
            exact ⟨Or.inr rfl, hT rfl G f03 g2 h5' (fun x hx => by rw [g1.1 o h94, f5 x hx, f1.1 o h94])⟩
      · rw [if_neg e3] at hF
        rw [q_onI_i, g_TextReader_readName_93, q_br rfl]
        exact ⟨Or.inl rfl, hF (show ¬ (0 : Nat) = 1 by decide) _ (q_fro_f f02 (q_ffl_o g1))⟩
  · unfold q_nmp at hF
    rw [if_neg e1] at hF
    rw [q_onI_i, g_TextReader_readName_6, q_br rfl]
    exact ⟨Or.inl rfl, hF (show ¬ (0 : Nat) = 1 by decide) _ (q_ffl_o f1)⟩
theorem w_nums {I : Nat → Nat → Int32} {Q : Value → q_Mem → Prop} {s len pos o : Nat} (ho : q_isO (q_SH L) o 5 = true) (h94 : o ≠ 94) (ho2 : o < 114) (ha : q_at I s len pos) (hT : (q_nbs (q_sg J s len) pos).1 = 1 → ∀ F, q_fro I F o → q_at F s len (q_nbs (q_sg J s len) pos).2.1 → F o 0 = nI (q_nbs (q_sg J s len) pos).2.2.1 → F o 1 = nI (q_nbs (q_sg J s len) pos).2.2.2 → (∀ x, x ≠ 0 → x ≠ 1 → F o x = I o x) → Q (.int 1) (q_mm L F J (114 + 2 * s))) (hF : ¬ (q_nbs (q_sg J s len) pos).1 = 1 → ∀ F, q_ffo I F o (q_nbs (q_sg J s len) pos).2.1 → Q (.int 0) (q_mm L F J (114 + 2 * s))) : q_W (d + 4) 63 [.ref 94, .ref o] (q_mm L I J (114 + 2 * s)) Q := by
  unfold q_nbs at hT hF
  rw [e_TextReader_readNumbers, show (4 : Int32) = nI 4 by decide]
  refine w_dgt (by decide) ha (fun v hv F1 f1 a1 => ?_) (fun hv F1 f1 => ?_)
  · rw [hv] at hT hF
    dsimp only at hT hF
    have g0 : q_fro F1 (q_u F1 o 0 (nI v)) o := q_fro_1 h94
    have a1' : q_at (q_u F1 o 0 (nI v)) s len (pos + 1) := q_at_o a1 g0 ho2 (by rw [q_u_ne (fun z => h94 z.symm)]; exact a1.1) a1.2.2.2.2
    rw [q_onI_i, g_TextReader_readNumbers_6, ho, q_onB_t, q_onB_t, q_u_eq, q_brn (q_nIm1 (by have := (q_dgt_so (by decide) hv).2; omega))]
    refine w_take (by decide) a1' (fun e2 F2 f2 a2 => ?_) (fun e2 F2 f2 => ?_)
    · rw [if_pos e2] at hT hF
      rw [q_onI_i, g_TextReader_readNumbers_23, q_brn (by decide), show (9 : Int32) = nI 9 by decide]
      refine w_dgt (by decide) a2 (fun w hw F3 f3 a3 => ?_) (fun hw F3 f3 => ?_)
      · rw [hw] at hT
        dsimp only at hT
        have g3 : q_fro F3 (q_u F3 o 1 (nI w)) o := q_fro_1 h94
        have hz := (q_dgt_so (by decide) hw).2
        rw [q_onI_i, g_TextReader_readNumbers_35, ho, q_onB_t, q_onB_t, q_u_eq, q_brn (q_nIm1 (by omega))]
        refine ⟨Or.inr rfl, hT rfl _ (q_fro_t (q_fro_t (q_fro_t (q_fro_t (q_fat_o f1) g0) (q_fat_o f2)) (q_fat_o f3)) g3) (q_at_o a3 g3 ho2 (by rw [q_u_ne (fun z => h94 z.symm)]; exact a3.1) a3.2.2.2.2) ?_ q_u_eq (fun x x0 x1 => ?_)⟩
        · rw [q_u_nk (by decide), f3.1 o h94, f2.1 o h94, q_u_eq]
        · rw [q_u_nk x1, f3.1 o h94, f2.1 o h94, q_u_nk x0, f1.1 o h94]
      · rw [hw] at hF
        dsimp only at hF
        have g3 : q_fro F3 (q_u F3 o 1 (-1)) o := q_fro_1 h94
        rw [q_onI_i, g_TextReader_readNumbers_35, ho, q_onB_t, q_onB_t, q_u_eq, q_br rfl]
        exact ⟨Or.inl rfl, hF (show ¬ (0 : Nat) = 1 by decide) _ (q_fro_f (q_fro_t (q_fro_t (q_fat_o f1) g0) (q_fat_o f2)) ⟨fun a h1 h2 => by rw [q_u_ne h2, f3.1 a h1], by rw [q_u_ne (fun z => h94 z.symm)]; exact f3.2⟩)⟩
    · rw [if_neg e2] at hF
      rw [q_onI_i, g_TextReader_readNumbers_23, q_br rfl]
      exact ⟨Or.inl rfl, hF (show ¬ (0 : Nat) = 1 by decide) _ (q_fro_f (q_fro_t (q_fat_o f1) g0) (q_ffl_o f2))⟩
  · rw [hv] at hF
    dsimp only at hF
    rw [q_onI_i, g_TextReader_readNumbers_6, ho, q_onB_t, q_onB_t, q_u_eq, q_br rfl]
    exact ⟨Or.inl rfl, hF (show ¬ (0 : Nat) = 1 by decide) _ ⟨fun a h1 h2 => by rw [q_u_ne h2, f1.1 a h1], by rw [q_u_ne (fun z => h94 z.symm)]; exact f1.2⟩⟩
end TXT4
