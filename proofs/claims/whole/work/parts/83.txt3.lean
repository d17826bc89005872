/-! texts: the class's marks -/
theorem q_u2 {I : Nat → Nat → Int32} {o k k' : Nat} {x y : Int32} {a b : Nat} (h1 : ¬ (a = o ∧ b = k)) (h2 : ¬ (a = 94 ∧ b = k')) : q_u (q_u I o k x) 94 k' y a b = I a b := by
  unfold q_u
  rw [if_neg h2, if_neg h1]
section TXT3
variable {L d : Nat} {J : Nat → Nat → Int64}
theorem q_fro_u {I : Nat → Nat → Int32} {o k : Nat} {x y : Int32} (h94 : o ≠ 94) : q_fro I (q_u (q_u I o k x) 94 4 y) o := ⟨fun a h1 h2 => by rw [q_u_ne h1, q_u_ne h2], by rw [q_u_nk (by decide), q_u_ne (fun z => h94 z.symm)], by rw [q_u_nk (by decide), q_u_ne (fun z => h94 z.symm)]⟩
theorem q_fro_1 {I : Nat → Nat → Int32} {o k : Nat} {x : Int32} (h94 : o ≠ 94) : q_fro I (q_u I o k x) o := ⟨fun a _ h2 => by rw [q_u_ne h2], by rw [q_u_ne (fun z => h94 z.symm)], by rw [q_u_ne (fun z => h94 z.symm)]⟩
theorem l_Cmk0 {rt : Value → q_Mem → Nat → Nat → Prop} {I : Nat → Nat → Int32} {s o : Nat} {y : Int32} (hs : s < 8) : q_X (q_W d) rt 64 (4, [some (.ref 94), some (.ref o), some (.int 0), some (.int y)], [], q_mm L I J (114 + 2 * s), 0, 0) = rt (.int 0) (q_mm L I J (114 + 2 * s)) 0 0 := by
  rw [g_TextReader_readMarks_4]
  by_cases e : 160 ≤ y
  · rw [q_br e]
    simp only [q_onI_i, q_onJ_j, q_onS_s, q_onB_t, true_and, and_true, true_or, or_true, eq_self, true_implies, not_true_eq_false, not_false_eq_true, false_implies, q_bb0, q_bbok, q_bbok2, Bool.true_eq_false, Bool.false_eq_true, reduceCtorEq]
  · rw [q_brn e, q_br rfl]
    simp only [q_onI_i, q_onJ_j, q_onS_s, q_onB_t, true_and, and_true, true_or, or_true, eq_self, true_implies, not_true_eq_false, not_false_eq_true, false_implies, q_bb0, q_bbok, q_bbok2, Bool.true_eq_false, Bool.false_eq_true, reduceCtorEq]
theorem l_Cmks {rt : Value → q_Mem → Nat → Nat → Prop} {s len o : Nat} (ho : q_isO (q_SH L) o 5 = true) (h94 : o ≠ 94) (ho2 : o < 114) : ∀ (k i pos : Nat) (a b : Int32) (f : Nat) (I : Nat → Nat → Int32) (r : Nat × Nat × Int32 × Int32 × Nat), len + 1 ≤ k + pos → i ≤ pos → q_at I s len pos → I o 2 = a → I o 3 = b → I o 4 = nI f → f ≤ 9 → q_mks (q_sg J s len) len k pos a b f = r → (r.1 = 1 → ∀ F, q_fro I F o → q_at F s len r.2.1 → F o 2 = r.2.2.1 → F o 3 = r.2.2.2.1 → F o 4 = nI r.2.2.2.2 → (∀ x, x ≠ 2 → x ≠ 3 → x ≠ 4 → F o x = I o x) → rt (.int 1) (q_mm L F J (114 + 2 * s)) 0 0) → (¬ r.1 = 1 → ∀ F, q_ffo I F o r.2.1 → rt (.int 0) (q_mm L F J (114 + 2 * s)) 0 0) → q_X (q_W (d + 5)) rt 64 (4, [some (.ref 94), some (.ref o), some (.int 1), some (.int (nI i))], [], q_mm L I J (114 + 2 * s), 0, 0)
  | 0, i, pos, a, b, f, I, r, hk, hi, ha, h2, h3, h4, h9, hr, hT, hF => absurd ha.2.2.2.2 (by omega)
  | k + 1, i, pos, a, b, f, I, r, hk, hi, ha, h2, h3, h4, h9, hr, hT, hF => by
    have hlen := ha.2.2.2.1
    have hpl := ha.2.2.2.2
    have hs := ha.2.2.1
    unfold q_mks at hr
    have hR : ∀ x, x ≠ 2 → x ≠ 3 → x ≠ 4 → I o x = I o x := fun _ _ _ _ => rfl
    by_cases hp : pos < len
    · rw [g_TextReader_readMarks_4, show (160 : Int32) = nI 160 by decide, q_leN (by decide) (by omega), q_brn (by omega), q_brn (by decide), i_shelf hs, q_onB_t, ha.2.1, ha.1, q_leN (by omega) (by omega), q_brn (by omega), s_look ha, q_onI_i, g_TextReader_readMarks_33]
      by_cases e59 : q_sg J s len pos = 59
      · rw [q_br e59]
        rw [e59, if_neg (by decide), if_neg (by decide), if_neg (by decide), if_neg (fun z => z.2 rfl)] at hr
        subst hr
        exact ⟨Or.inr rfl, hT rfl I ⟨fun _ _ _ => rfl, rfl, rfl⟩ ha h2 h3 h4 hR⟩
      · rw [q_brn e59, e_TextReader_readMark, s_look ha, q_onI_i, g_TextReader_readMark_4]
        by_cases e33 : q_sg J s len pos = 33
        · rw [if_pos e33] at hr
          rw [q_br e33, ho, q_onB_t, h4, show (9 : Int32) = nI 9 by decide, q_leN (by decide) (by omega)]
          by_cases e9 : f < 9
          · rw [if_pos e9] at hr
            rw [q_brn (by omega), q_onB_t, q_onB_t, q_onI_i, g_TextReader_readMarks_43, q_n1, q_n1, q_u_ne (fun z => h94 z.symm), ha.1, q_n1]
            refine ⟨Or.inr rfl, ?_⟩
            refine l_Cmks (len := len) ho h94 ho2 k (i + 1) (pos + 1) a b (f + 1) _ r (by omega) (by omega) (q_at_o ha (q_fro_u (k := 4) (x := nI (f + 1)) (y := nI (pos + 1)) h94) ho2 q_u_eq hp) ?_ ?_ ?_ (by omega) hr (fun hc F f1 f2 f3 f4 f5 f6 => ?_) (fun hc F f1 => hF hc F (q_fro_f (q_fro_u h94) f1))
            · rw [q_u_ne h94, q_u_nk (by decide)]; exact h2
            · rw [q_u_ne h94, q_u_nk (by decide)]; exact h3
            · rw [q_u_ne h94, q_u_eq]
            · refine hT hc F (q_fro_t (q_fro_u h94) f1) f2 f3 f4 f5 (fun x x1 x2 x3 => ?_)
              rw [f6 x x1 x2 x3, q_u_ne h94, q_u_nk x3]
          · rw [if_neg e9] at hr
            subst hr
            rw [q_br (by omega), e33, q_brn (by decide), q_brn (by decide), s_failAt, q_onI_i, g_TextReader_readMark_62]
            refine ⟨Or.inl rfl, ?_⟩
            rw [q_onI_i, g_TextReader_readMarks_43, l_Cmk0 hs, ha.1]
            exact hF (show ¬ (0 : Nat) = 1 by decide) _ (q_ffl_o q_ffl_u)
        · rw [if_neg e33] at hr
          rw [q_brn e33]
          by_cases e45 : q_sg J s len pos = 45
          · rw [if_pos e45] at hr
            rw [q_br e45, ha.1, q_n1, show (7 : Int32) = nI 7 by decide]
            refine w_dgt (by decide) (q_at_t ha q_fat_u hp) (fun v hv F f1 f2 => ?_) (fun hv F f1 => ?_)
            · rw [hv] at hr
              dsimp only at hr
              have hvp : pos + 1 < len := q_dgt_lt (by decide) hv
              rw [q_onI_i, g_TextReader_readMark_79, q_brn (q_nIm1 (by have := (q_dgt_so (by decide) hv).2; omega)), q_br e45, ho, q_onB_t, q_onB_t, q_onI_i, g_TextReader_readMarks_43, q_n1]
              refine ⟨Or.inr rfl, ?_⟩
              have f0 := q_fat_t q_fat_u f1
              have g0 : q_fro F (q_u F o 2 (F o 2 ||| ((1 : Int32) <<< (nI v &&& 31)))) o := q_fro_1 h94
              refine l_Cmks (len := len) ho h94 ho2 k (i + 1) (pos + 1 + 1) (a ||| ((1 : Int32) <<< (nI v &&& 31))) b f _ r (by omega) (by omega) (q_at_o f2 g0 ho2 (by rw [q_u_ne (fun z => h94 z.symm)]; exact f1.2.2) hvp) ?_ ?_ ?_ (by omega) hr (fun hc G g1 g2 g3 g4 g5 g6 => ?_) (fun hc G g1 => hF hc G (q_fro_f (q_fro_t (q_fat_o f0) g0) g1))
              · rw [q_u_eq, f0.1 o h94, h2]
              · rw [q_u_nk (by decide), f0.1 o h94, h3]
              · rw [q_u_nk (by decide), f0.1 o h94, h4]
              · refine hT hc G (q_fro_t (q_fro_t (q_fat_o f0) g0) g1) g2 g3 g4 g5 (fun x x1 x2 x3 => ?_)
                rw [g6 x x1 x2 x3, q_u_nk x1, f0.1 o h94]
            · rw [hv] at hr
              dsimp only at hr
              subst hr
              rw [q_onI_i, g_TextReader_readMark_79, q_br rfl]
              refine ⟨Or.inl rfl, ?_⟩
              rw [q_onI_i, g_TextReader_readMarks_43, l_Cmk0 hs]
              exact hF (show ¬ (0 : Nat) = 1 by decide) _ (q_ffl_o (q_fat_f q_fat_u f1))
          · rw [if_neg e45] at hr
            rw [q_brn e45]
            by_cases e43 : q_sg J s len pos = 43
            · rw [if_pos e43] at hr
              rw [q_br e43, ha.1, q_n1, show (7 : Int32) = nI 7 by decide]
              refine w_dgt (by decide) (q_at_t ha q_fat_u hp) (fun v hv F f1 f2 => ?_) (fun hv F f1 => ?_)
              · rw [hv] at hr
                dsimp only at hr
                have hvp : pos + 1 < len := q_dgt_lt (by decide) hv
                rw [q_onI_i, g_TextReader_readMark_79, q_brn (q_nIm1 (by have := (q_dgt_so (by decide) hv).2; omega)), q_brn e45, ho, q_onB_t, q_onB_t, q_onI_i, g_TextReader_readMarks_43, q_n1]
                refine ⟨Or.inr rfl, ?_⟩
                have f0 := q_fat_t q_fat_u f1
                have g0 : q_fro F (q_u F o 3 (F o 3 ||| ((1 : Int32) <<< (nI v &&& 31)))) o := q_fro_1 h94
                refine l_Cmks (len := len) ho h94 ho2 k (i + 1) (pos + 1 + 1) a (b ||| ((1 : Int32) <<< (nI v &&& 31))) f _ r (by omega) (by omega) (q_at_o f2 g0 ho2 (by rw [q_u_ne (fun z => h94 z.symm)]; exact f1.2.2) hvp) ?_ ?_ ?_ (by omega) hr (fun hc G g1 g2 g3 g4 g5 g6 => ?_) (fun hc G g1 => hF hc G (q_fro_f (q_fro_t (q_fat_o f0) g0) g1))
                · rw [q_u_nk (by decide), f0.1 o h94, h2]
                · rw [q_u_eq, f0.1 o h94, h3]
                · rw [q_u_nk (by decide), f0.1 o h94, h4]
                · refine hT hc G (q_fro_t (q_fro_t (q_fat_o f0) g0) g1) g2 g3 g4 g5 (fun x x1 x2 x3 => ?_)
                  rw [g6 x x1 x2 x3, q_u_nk x2, f0.1 o h94]
              · rw [hv] at hr
                dsimp only at hr
                subst hr
                rw [q_onI_i, g_TextReader_readMark_79, q_br rfl]
                refine ⟨Or.inl rfl, ?_⟩
                rw [q_onI_i, g_TextReader_readMarks_43, l_Cmk0 hs]
                exact hF (show ¬ (0 : Nat) = 1 by decide) _ (q_ffl_o (q_fat_f q_fat_u f1))
            · rw [if_neg e43, if_pos ⟨hp, e59⟩] at hr
              subst hr
              rw [q_brn e43, s_failAt, q_onI_i, g_TextReader_readMark_62]
              refine ⟨Or.inl rfl, ?_⟩
              rw [q_onI_i, g_TextReader_readMarks_43, l_Cmk0 hs, ha.1]
              exact hF (show ¬ (2 : Nat) = 1 by decide) _ (q_ffl_o q_ffl_u)
    · have hm : q_sg J s len pos = -1 := by
        unfold q_sg
        rw [if_neg hp]
      rw [hm, if_neg (by decide), if_neg (by decide), if_neg (by decide), if_neg (fun z => hp z.1)] at hr
      subst hr
      have hT' := hT rfl I ⟨fun _ _ _ => rfl, rfl, rfl⟩ ha h2 h3 h4 hR
      rw [g_TextReader_readMarks_4]
      by_cases e : 160 ≤ nI i
      · rw [q_br e]
        exact ⟨Or.inr rfl, hT'⟩
      · rw [q_brn e, q_brn (by decide), i_shelf hs, q_onB_t, ha.2.1, ha.1, q_leN (by omega) (by omega), q_br (by omega)]
        exact ⟨Or.inr rfl, hT'⟩
end TXT3
