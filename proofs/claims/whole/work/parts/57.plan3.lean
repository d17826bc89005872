/-! the class's plan, whole -/
theorem q_fpl_st {I I' : Nat → Nat → Int32} {n : Nat} {T : Nat → Int32} (f : q_fpl I I') (hn : I 3 2 = nI n) (h12 : n ≤ 12) (hv : ∀ p, p < n → v_plug q_bc (q_ar 131 I T) 6 131 p) : I' 3 2 = nI n ∧ ∀ p, p < n → v_plug q_bc (q_ar 131 I' T) 6 131 p := by
  refine ⟨by rw [f 3 (by decide) (by decide) (by decide)]; exact hn, fun p hp => v_plug_congr ?_ ?_ (hv p hp)⟩
  · rw [q_ar_ne (by omega), q_ar_ne (by omega)]
    exact f _ (by omega) (by omega) (by omega)
  · funext z
    rw [q_ar_eq, q_ar_eq]
theorem q_fpu {I I' : Nat → Nat → Int32} {k : Nat} {v : Int32} (f : q_fpl I I') : q_fpl I (q_u I' 81 k v) := fun o a b c => by rw [q_u_ne a]; exact f o a b c
theorem q_fpv {I I' : Nat → Nat → Int32} {k : Nat} {v : Int32} (f : q_fpl I I') : q_fpl I (q_u I' 82 k v) := fun o a b c => by rw [q_u_ne b]; exact f o a b c
theorem q_fpl_r {I : Nat → Nat → Int32} : q_fpl I I := fun _ _ _ _ => rfl
theorem q_idx_add {I : Nat → Nat → Int32} {o p : Nat} {st : List Nat} (h : ∀ i p, st[i]? = some p → I o i = nI p) : ∀ i q, (st ++ [p])[i]? = some q → q_u I o st.length (nI p) o i = nI q := fun i q hq => by
  rw [List.getElem?_append] at hq
  by_cases hi : i < st.length
  · rw [if_pos hi] at hq
    rw [q_u_nk (by omega)]
    exact h i q hq
  · rw [if_neg hi] at hq
    cases hj : i - st.length with
    | succ j => rw [hj] at hq; exact absurd hq (by simp)
    | zero =>
      rw [hj] at hq
      simp only [List.getElem?_cons_zero, Option.some.injEq] at hq
      subst hq
      rw [show i = st.length by omega, q_u_eq]
theorem c_bring {n : Nat} {T : Nat → Int32} (h12 : n ≤ 12) : ∀ f, q_cB n T f
  | 0 => fun L D J t I p B st hD hpc hpp hp hrn hB hf => by
    have := (q_pp_in hp hrn hB hpp).2.1
    omega
  | f + 1 => fun L D J t I p B st hD hpc hpp hp hrn hB hf => by
    obtain ⟨D', rfl⟩ : ∃ D', D = D' + 8 := ⟨D - 8, by omega⟩
    obtain ⟨hpp', hBn, hsn⟩ := q_pp_in hp hrn hB hpp
    obtain ⟨hn, hv, h2, h82, h6, h7, h5, h3⟩ := id hpc
    have hp12 : p < 12 := by omega
    have h9 : I (6 + p) 9 = T p := by
      have h := (hv p hp).1.2.2.2.2.2.2.1
      rw [q_ar_ne (show 6 + p ≠ 131 by omega), q_ar_eq] at h
      exact h
    have hent : ∀ {Q : Value → q_Mem → Prop}, q_W (D' + 8) 32 [.ref 81, .int (nI p), .int (nI B.length)] (q_mm L I J t) Q = (((T p = 0) → q_X (q_W (D' + 7)) (fun v μ _ _ => Q v μ) 32 (66, [some (.ref 81), some (.int (nI p)), some (.int (nI B.length)), some (.int 0)], [], q_mm L (q_u I 81 7 (I 81 7 ||| ((1 : Int32) <<< (nI p &&& 31)))) J t, 0, 0)) ∧ (¬ (T p = 0) → Q (.int 0) (q_mm L (q_fl I B.length (nI p) 1 (-1)) J t))) := by
      intro Q
      rw [e_Plan_bring, s_hasPlug hn h12, q_in_nI (by omega), decide_eq_true hp, q_onI_i, g_Plan_bring_8, q_brn (by decide), show (12 : Int32) = nI 12 by decide, q_leN (by decide) (by omega), q_brn (by omega), h2, q_ltN (by omega) (by decide), q_br (by omega)]
      simp only [q_clamp (show p < 2 ^ 31 by omega), q_bnd hp12 (by decide), r_plug hp12, i_plug hp12, q_onI_i, q_onJ_j, q_onS_s, q_onB_t, true_and, and_true, true_or, or_true, eq_self, true_implies, not_true_eq_false, not_false_eq_true, false_implies, q_bb0, q_bbok, q_bbok2, Bool.true_eq_false, Bool.false_eq_true, reduceCtorEq, h9, s_fails (show B.length < 12 by omega), g_Plan_bring_51]
    unfold q_bring
    cases hT : decide (T p = 0) with
    | false =>
      have hT' := of_decide_eq_false hT
      dsimp only
      refine ⟨_, q_fl_fpl (b := B.length) (a := nI p) (y := 1) (z := -1), ⟨fun z => q_nFT z, fun _ => ⟨q_pf_first (by omega) h2 h82 h5 h3, q_pp_ln hpp⟩⟩, fun {Q} => ?_⟩
      rw [hent, q_brn hT']
      rfl
    | true =>
      have hT' := of_decide_eq_true hT
      have hpc1 : q_pc (q_u I 81 7 (I 81 7 ||| ((1 : Int32) <<< (nI p &&& 31)))) n T (p :: B) st := by
        have hs := q_fpl_st (q_fpu (k := 7) (v := I 81 7 ||| ((1 : Int32) <<< (nI p &&& 31))) (q_fpl_r (I := I))) hn h12 hv
        refine ⟨hs.1, hs.2, ?_, fun i q hq => ?_, fun q hq => ?_, fun q hq => ?_, ?_, ?_⟩
        · rw [q_u_nk (by decide)]; exact h2
        · rw [q_u_ne (by decide)]; exact h82 i q hq
        · rw [q_u_nk (by decide)]; exact h6 q hq
        · rw [q_u_eq, q_bt_or, h7 q hq, q_bt_one p (by omega) q (by omega), q_con_cons]
        · rw [q_u_nk (by decide)]; exact h5
        · rw [q_u_nk (by decide)]; exact h3
      dsimp only
      obtain ⟨I2, f2, p2, w2⟩ := l_cneed (L := L) (J := J) (t := t) (D := D') h12 (c_bring h12 f) (by omega) hp (by rw [List.length_cons]; omega) 8 0 _ st (by decide) hpc1 hpp'
      have f02 : q_fpl I I2 := q_fpl_trans (q_fpu q_fpl_r) f2
      have hent2 : ∀ {Q : Value → q_Mem → Prop}, q_W (D' + 8) 32 [.ref 81, .int (nI p), .int (nI B.length)] (q_mm L I J t) Q = (match (q_need (q_bring T n f) T n p (p :: B) 8 0 st).1 with
        | true => q_X (q_W (D' + 7)) (fun v μ _ _ => Q v μ) 32 (66, [some (.ref 81), some (.int (nI p)), some (.int (nI B.length)), some (.int (nI 8))], [], q_mm L I2 J t, 0, 0)
        | false => Q (.int 0) (q_mm L I2 J t)) := by
        intro Q
        rw [hent, q_br hT', show (0 : Int32) = nI 0 by decide]
        exact w2 _
      clear hent w2
      revert p2 hent2
      cases hr : q_need (q_bring T n f) T n p (p :: B) 8 0 st with
      | mk ok r =>
        obtain ⟨st', cs⟩ := r
        intro p2 hent2
        cases ok with
        | false =>
          exact ⟨I2, f02, ⟨fun z => q_nFT z, p2.2⟩, hent2⟩
        | true =>
          obtain ⟨hpc2, hpp2⟩ := p2.1 rfl
          obtain ⟨gn, gv, g2, g82, g6, g7, g5, g3⟩ := id hpc2
          have hf4 : I2 (6 + p) 4 = T (60 + p) := by
            have h := (gv p hp).1.2.2.2.2.1
            rw [q_ar_ne (show 6 + p ≠ 131 by omega), q_ar_eq] at h
            exact h
          have hln := q_pp_ln hpp2
          have hout := q_pp_out hp hB hpp hpp2
          have hln2 := q_pp_ln hout
          rw [q_lnn, List.length_append, List.length_singleton] at hln2
          dsimp only at hln2
          have hlt : st'.length < 12 := by omega
          dsimp only at hent2 g2 g82
          cases hF : decide (T (60 + p) ≤ 0) with
          | false =>
            have hF' := of_decide_eq_false hF
            dsimp only
            refine ⟨q_fl (q_u I2 81 3 (nI p)) B.length (nI p) 5 (-1), q_fpl_trans (q_fpu f02) q_fl_fpl, ⟨fun z => q_nFT z, fun _ => ⟨q_pf_first (by omega) ?_ (fun i q hq => ?_) ?_ ?_, hln⟩⟩, fun {Q} => ?_⟩
            · rw [q_u_nk (by decide)]; exact g2
            · rw [q_u_ne (by decide)]; exact g82 i q hq
            · rw [q_u_nk (by decide)]; exact g5
            · rw [q_u_eq]; rfl
            · rw [hent2, g_Plan_bring_66, show (8 : Int32) = nI 8 by decide, q_leN (by decide) (by decide), q_br (Nat.le_refl 8)]
              simp only [q_clamp (show p < 2 ^ 31 by omega), q_bnd hp12 (by decide), r_plug hp12, i_plug hp12, q_onI_i, q_onJ_j, q_onS_s, q_onB_t, true_and, and_true, true_or, or_true, eq_self, true_implies, not_true_eq_false, not_false_eq_true, false_implies, q_bb0, q_bbok, q_bbok2, Bool.true_eq_false, Bool.false_eq_true, reduceCtorEq, hf4]
              rw [q_brn hF', s_fails (show B.length < 12 by omega), q_onI_i, g_Plan_bring_134]
              simp only [q_onI_i, q_onJ_j, q_onS_s, q_onB_t, true_and, and_true, true_or, or_true, eq_self, true_implies, not_true_eq_false, not_false_eq_true, false_implies, q_bb0, q_bbok, q_bbok2, Bool.true_eq_false, Bool.false_eq_true, reduceCtorEq]
              rfl
          | true =>
            have hF' := of_decide_eq_true hF
            dsimp only
            have hbit : q_u (q_u I2 81 7 (I2 81 7 &&& (((1 : Int32) <<< (nI p &&& 31)) ^^^ (-1 : Int32)))) 81 6 (I2 81 6 ||| ((1 : Int32) <<< (nI p &&& 31))) 81 2 = nI st'.length := by
              rw [q_u_nk (by decide), q_u_nk (by decide)]; exact g2
            refine ⟨q_u (q_u (q_u (q_u I2 81 7 (I2 81 7 &&& (((1 : Int32) <<< (nI p &&& 31)) ^^^ (-1 : Int32)))) 81 6 (I2 81 6 ||| ((1 : Int32) <<< (nI p &&& 31)))) 82 st'.length (nI p)) 81 2 (nI (st'.length + 1)), q_fpu (q_fpv (q_fpu (q_fpu f02))), ⟨fun _ => ⟨?_, hout⟩, fun z => q_nTF z⟩, fun {Q} => ?_⟩
            · have hs := q_fpl_st (q_fpu (k := 2) (v := nI (st'.length + 1)) (q_fpv (k := st'.length) (v := nI p) (q_fpu (k := 6) (v := I2 81 6 ||| ((1 : Int32) <<< (nI p &&& 31))) (q_fpu (k := 7) (v := I2 81 7 &&& (((1 : Int32) <<< (nI p &&& 31)) ^^^ (-1 : Int32))) (q_fpl_r (I := I2)))))) gn h12 gv
              refine ⟨hs.1, hs.2, ?_, fun i q hq => ?_, fun q hq => ?_, fun q hq => ?_, ?_, ?_⟩
              · rw [q_u_eq, List.length_append, List.length_singleton]
              · rw [q_u_ne (by decide)]
                exact q_idx_add (fun i q hq => by rw [q_u_ne (by decide), q_u_ne (by decide)]; exact g82 i q hq) i q hq
              · rw [q_u_nk (by decide), q_u_ne (by decide), q_u_eq, q_bt_or, g6 q hq, q_bt_one p (by omega) q (by omega), q_rnn_add]
              · rw [q_u_nk (by decide), q_u_ne (by decide), q_u_nk (by decide), q_u_eq, q_bt_and, g7 q hq, q_bt_not p (by omega) q (by omega), q_con_cons]
                by_cases e : q = p
                · rw [e, hB, decide_eq_true rfl]
                  rfl
                · rw [decide_eq_false e, Bool.or_false, Bool.not_false, Bool.and_true]
              · rw [q_u_nk (by decide), q_u_ne (by decide), q_u_nk (by decide), q_u_nk (by decide)]; exact g5
              · rw [q_u_nk (by decide), q_u_ne (by decide), q_u_nk (by decide), q_u_nk (by decide)]; exact g3
            · rw [hent2, g_Plan_bring_66, show (8 : Int32) = nI 8 by decide, q_leN (by decide) (by decide), q_br (Nat.le_refl 8)]
              simp only [q_clamp (show p < 2 ^ 31 by omega), q_bnd hp12 (by decide), r_plug hp12, i_plug hp12, q_onI_i, q_onJ_j, q_onS_s, q_onB_t, true_and, and_true, true_or, or_true, eq_self, true_implies, not_true_eq_false, not_false_eq_true, false_implies, q_bb0, q_bbok, q_bbok2, Bool.true_eq_false, Bool.false_eq_true, reduceCtorEq, hf4]
              rw [q_br hF', q_u_nk (show (6 : Nat) ≠ 7 by decide), hbit]
              simp only [q_clamp (show st'.length < 2 ^ 31 by omega), q_bnd hlt (by decide), true_and]
              rw [g_Plan_bring_171, q_u_ne (show (81 : Nat) ≠ 82 by decide), hbit, q_n1]
              simp only [q_onI_i, q_onJ_j, q_onS_s, q_onB_t, true_and, and_true, true_or, or_true, eq_self, true_implies, not_true_eq_false, not_false_eq_true, false_implies, q_bb0, q_bbok, q_bbok2, Bool.true_eq_false, Bool.false_eq_true, reduceCtorEq]
              rfl
theorem s_make {L D n p : Nat} {I : Nat → Nat → Int32} {J : Nat → Nat → Int64} {t : Nat} {T : Nat → Int32} (h12 : n ≤ 12) (hn : I 3 2 = nI n) (hv : ∀ p, p < n → v_plug q_bc (q_ar 131 I T) 6 131 p) (hp : p < n) (hT : ¬ T p = 1) : ∃ I', q_fpl I I' ∧ q_pst I' n T [] 0 (q_bring T n 12 p [] []) ∧ ∀ {Q : Value → q_Mem → Prop}, q_W (D + 31) 31 [.ref 81, .int (nI p)] (q_mm L I J t) Q = Q (.int (q_bb (q_bring T n 12 p [] []).1)) (q_mm L I' J t) := by
  have h9 : ∀ p, p < n → I (6 + p) 9 = T p := fun p hp => by
    have h := (hv p hp).1.2.2.2.2.2.2.1
    rw [q_ar_ne (show 6 + p ≠ 131 by omega), q_ar_eq] at h
    exact h
  have hmk : q_mk (fun p => decide (q_u (q_u (q_u I 81 2 0) 81 3 (-1)) 81 5 0 (6 + p) 9 = 1)) n = q_mk (fun p => decide (T p = 1)) n := q_mk_congr fun q hq => by
    have e : q_u (q_u (q_u I 81 2 0) 81 3 (-1)) 81 5 0 (6 + q) 9 = T q := by
      rw [q_u_ne (by omega), q_u_ne (by omega), q_u_ne (by omega)]
      exact h9 q hq
    simp only [e]
  have f0 : q_fpl I (q_u (q_u (q_u (q_u (q_u I 81 2 0) 81 3 (-1)) 81 5 0) 81 6 (q_mk (fun p => decide (T p = 1)) n)) 81 7 0) := q_fpu (q_fpu (q_fpu (q_fpu (q_fpu q_fpl_r))))
  have hs := q_fpl_st f0 hn h12 hv
  have hpc : q_pc (q_u (q_u (q_u (q_u (q_u I 81 2 0) 81 3 (-1)) 81 5 0) 81 6 (q_mk (fun p => decide (T p = 1)) n)) 81 7 0) n T [] [] := by
    refine ⟨hs.1, hs.2, ?_, fun i q hq => absurd hq (by simp), fun q hq => ?_, fun q hq => ?_, ?_, ?_⟩
    · rw [q_u_nk (by decide), q_u_nk (by decide), q_u_nk (by decide), q_u_nk (by decide), q_u_eq]; rfl
    · rw [q_u_nk (by decide), q_u_eq, q_bt_mk (by omega) (by omega), decide_eq_true hq, Bool.true_and]
      simp [q_rnn]
    · rw [q_u_eq, q_bt_0]
      simp
    · rw [q_u_nk (by decide), q_u_nk (by decide), q_u_eq]
    · rw [q_u_nk (by decide), q_u_nk (by decide), q_u_nk (by decide), q_u_eq]
  have hpp : q_pp n T [] [] := by
    refine ⟨rfl, ?_, fun b hb => absurd hb (by simp), fun z hz => absurd hz (by simp)⟩
    unfold q_ct
    rw [List.length_nil, q_cnt_0, q_any_false]
    intro q _ _
    simp
  obtain ⟨I', f1, p1, w1⟩ := c_bring h12 12 L (D + 30) J t _ p [] [] (by omega) hpc hpp hp (by simp [q_rnn, hT]) (by simp) rfl
  refine ⟨I', q_fpl_trans f0 f1, p1, fun {Q} => ?_⟩
  rw [List.length_nil, show nI 0 = 0 by decide] at w1
  rw [e_Plan_make, s_runningBits (by rw [q_u_ne (by decide), q_u_ne (by decide), q_u_ne (by decide)]; exact hn) h12, hmk, q_onI_i, g_Plan_make_23, w1, q_onI_i, g_Plan_make_37]
  simp only [q_bbok, true_and]
