/-! the class's plan is the pure one -/
theorem q_nTF {a : Prop} (h : true = false) : a := by cases h
theorem q_nFT {a : Prop} (h : false = true) : a := by cases h
def q_lnn (n : Nat) (st : List Nat) : Prop := st.length ≤ n ∧ ∀ p, p ∈ st → p < n
theorem q_pp_ln {n : Nat} {T : Nat → Int32} {B st : List Nat} (h : q_pp n T B st) : q_lnn n st := ⟨by
  have h1 : q_ct (q_rnn T st) n ≤ n := q_cnt_le n 0
  have h2 := h.1
  omega, h.2.2.2⟩
def q_pst (I : Nat → Nat → Int32) (n : Nat) (T : Nat → Int32) (B : List Nat) (b : Nat) (r : q_PR) : Prop := (r.1 = true → q_pc I n T B r.2.1 ∧ q_pp n T B r.2.1) ∧ (r.1 = false → q_pf I b r.2.1 r.2.2 ∧ q_lnn n r.2.1)
def q_cB (n : Nat) (T : Nat → Int32) (f : Nat) : Prop := ∀ (L D : Nat) (J : Nat → Nat → Int64) (t : Nat) (I : Nat → Nat → Int32) (p : Nat) (B st : List Nat), 2 * f + 6 ≤ D → q_pc I n T B st → q_pp n T B st → p < n → q_rnn T st p = false → B.contains p = false → f + B.length = 12 → ∃ I', q_fpl I I' ∧ q_pst I' n T B B.length (q_bring T n f p B st) ∧ ∀ {Q : Value → q_Mem → Prop}, q_W D 32 [.ref 81, .int (nI p), .int (nI B.length)] (q_mm L I J t) Q = Q (.int (q_bb (q_bring T n f p B st).1)) (q_mm L I' J t)
theorem q_smo_0 {I : Nat → Nat → Int32} {n s : Nat} {T : Nat → Int32} {m : Nat → Bool} {x : Int32} (h12 : n ≤ 12) (hv : ∀ p, p < n → v_plug q_bc (q_ar 131 I T) 6 131 p) (hx : ∀ q, q < n → q_bt x q = m q) : (q_mk (fun q => q_bt x q && q_bt (I (6 + q) 3) s) n = 0) = (q_smo T m n s = false) := by
  rw [q_mk_any (by omega)]
  unfold q_smo
  rw [q_any_congr n 0 fun q _ hq => ?_]
  have h := (hv q (by omega)).1.2.2.2.1
  rw [q_ar_ne (show 6 + q ≠ 131 by omega), q_ar_eq] at h
  rw [hx q (by omega), h]
theorem q_tk_so {T : Nat → Int32} {n p s q : Nat} (h : q_tk T n p s = some q) : q < n ∧ q_cIdl T p s q = true := by
  unfold q_tk at h
  exact ⟨q_pick_it_lt n 0 none (by omega) (fun b e => by injection e) q h, q_pick_it_so n 0 none (fun b e => by injection e) q h⟩
theorem q_smo_rn {T : Nat → Int32} {n p s q : Nat} {m : Nat → Bool} (h : q_tk T n p s = some q) (h2 : q_smo T m n s = false) : q < n ∧ m q = false ∧ ¬ q = p ∧ T q = 0 := by
  obtain ⟨h3, h4⟩ := q_tk_so h
  unfold q_smo at h2
  rw [q_any_false] at h2
  have h5 := h2 q (Nat.zero_le _) (by omega)
  unfold q_cIdl at h4
  simp only [Bool.and_eq_true, Bool.not_eq_true', decide_eq_false_iff_not, decide_eq_true_eq] at h4
  rw [h4.2.2, Bool.and_true] at h5
  exact ⟨h3, h5, h4.1, h4.2.1⟩
theorem c_offer {L D n f p s : Nat} {I : Nat → Nat → Int32} {J : Nat → Nat → Int64} {t : Nat} {T : Nat → Int32} {B st : List Nat} (h12 : n ≤ 12) (hrec : q_cB n T f) (hD : 2 * f + 6 ≤ D + 6) (hpc : q_pc I n T (p :: B) st) (hpp : q_pp n T (p :: B) st) (hp : p < n) (hs : s < 8) (hf : f + (p :: B).length = 12) : ∃ I', q_fpl I I' ∧ q_pst I' n T (p :: B) B.length (q_ofr (q_bring T n f) T n p (p :: B) s st) ∧ ∀ {Q : Value → q_Mem → Prop}, q_W (D + 7) 33 [.ref 81, .int (nI p), .int (nI s), .int (nI B.length)] (q_mm L I J t) Q = Q (.int (q_bb (q_ofr (q_bring T n f) T n p (p :: B) s st).1)) (q_mm L I' J t) := by
  obtain ⟨hn, hv, h2, h82, h6, h7, h5, h3⟩ := id hpc
  rw [List.length_cons] at hf
  have h0 := q_smo_0 (s := s) h12 hv h6
  unfold q_ofr
  cases hso : q_smo T (q_rnn T st) n s with
  | true =>
    dsimp only
    refine ⟨I, fun _ _ _ _ => rfl, ⟨fun _ => ⟨hpc, hpp⟩, fun z => q_nTF z⟩, fun {Q} => ?_⟩
    rw [e_Plan_bringOffer, s_offering hn h12 (show s < 31 by omega), q_onI_i, g_Plan_bringOffer_12, h0, hso, q_brn (by decide)]
    simp only [q_onI_i, q_onJ_j, q_onS_s, q_onB_t, true_and, and_true, true_or, or_true, eq_self, true_implies, not_true_eq_false, not_false_eq_true, false_implies, q_bb0, q_bbok, q_bbok2, Bool.true_eq_false, Bool.false_eq_true, reduceCtorEq]
    rfl
  | false =>
    rw [hso] at h0
    dsimp only
    cases htk : q_tk T n p s with
    | none =>
      dsimp only
      refine ⟨_, q_fl_fpl (b := B.length) (a := nI p) (y := 2) (z := nI s), ⟨fun z => q_nFT z, fun _ => ⟨q_pf_first (by omega) h2 h82 h5 h3, q_pp_ln hpp⟩⟩, fun {Q} => ?_⟩
      rw [e_Plan_bringOffer, s_offering hn h12 (show s < 31 by omega), q_onI_i, g_Plan_bringOffer_12, h0, q_br rfl, s_idleOffer hn h12 hv hp (show s < 31 by omega), htk, q_onI_i, show q_fst none = -1 from rfl, g_Plan_bringOffer_23, q_br rfl, s_fails (by omega), q_onI_i, g_Plan_bringOffer_39]
      simp only [q_onI_i, q_onJ_j, q_onS_s, q_onB_t, true_and, and_true, true_or, or_true, eq_self, true_implies, not_true_eq_false, not_false_eq_true, false_implies, q_bb0, q_bbok, q_bbok2, Bool.true_eq_false, Bool.false_eq_true, reduceCtorEq]
      rfl
    | some q =>
      obtain ⟨hq, hrq, hqp, hTq⟩ := q_smo_rn htk hso
      have hq1 : ¬ nI q = -1 := q_nIm1 (by omega)
      dsimp only
      cases hB : (p :: B).contains q with
      | true =>
        dsimp only
        refine ⟨_, q_fl_fpl (b := B.length) (a := nI p) (y := 3) (z := nI s), ⟨fun z => q_nFT z, fun _ => ⟨q_pf_first (by omega) h2 h82 h5 h3, q_pp_ln hpp⟩⟩, fun {Q} => ?_⟩
        rw [e_Plan_bringOffer, s_offering hn h12 (show s < 31 by omega), q_onI_i, g_Plan_bringOffer_12, h0, q_br rfl, s_idleOffer hn h12 hv hp (show s < 31 by omega), htk, q_onI_i, show q_fst (some q) = nI q from rfl, g_Plan_bringOffer_23, q_brn hq1, q_shr0 (show q < 31 by omega), h7 q hq, hB, q_brn (by decide), s_fails (by omega), q_onI_i, g_Plan_bringOffer_60]
        simp only [q_onI_i, q_onJ_j, q_onS_s, q_onB_t, true_and, and_true, true_or, or_true, eq_self, true_implies, not_true_eq_false, not_false_eq_true, false_implies, q_bb0, q_bbok, q_bbok2, Bool.true_eq_false, Bool.false_eq_true, reduceCtorEq]
        rfl
      | false =>
        dsimp only
        obtain ⟨I1, f1, p1, w1⟩ := hrec L (D + 6) J t I q (p :: B) st hD hpc hpp hq hrq hB (by rw [List.length_cons]; omega)
        rw [List.length_cons] at p1 w1
        have hcall : ∀ {Q : Value → q_Mem → Prop}, q_W (D + 7) 33 [.ref 81, .int (nI p), .int (nI s), .int (nI B.length)] (q_mm L I J t) Q = q_X (q_W (D + 6)) (fun v μ _ _ => Q v μ) 33 (70, [some (.ref 81), some (.int (nI p)), some (.int (nI s)), some (.int (nI B.length)), some (.int (nI q))], [.int (q_bb (q_bring T n f q (p :: B) st).1)], q_mm L I1 J t, 0, 0) := by
          intro Q
          rw [e_Plan_bringOffer, s_offering hn h12 (show s < 31 by omega), q_onI_i, g_Plan_bringOffer_12, h0, q_br rfl, s_idleOffer hn h12 hv hp (show s < 31 by omega), htk, q_onI_i, show q_fst (some q) = nI q from rfl, g_Plan_bringOffer_23, q_brn hq1, q_shr0 (show q < 31 by omega), h7 q hq, hB, q_br rfl, q_n1, w1, q_onI_i]
        revert p1 hcall
        cases hr : q_bring T n f q (p :: B) st with
        | mk ok r =>
          obtain ⟨st', cs⟩ := r
          intro p1 hcall
          cases ok with
          | true =>
            dsimp only
            refine ⟨I1, f1, ⟨fun _ => p1.1 rfl, fun z => q_nTF z⟩, fun {Q} => ?_⟩
            dsimp only at hcall
            rw [hcall, g_Plan_bringOffer_70, q_brn (by decide)]
            simp only [q_onI_i, q_onJ_j, q_onS_s, q_onB_t, true_and, and_true, true_or, or_true, eq_self, true_implies, not_true_eq_false, not_false_eq_true, false_implies, q_bb0, q_bbok, q_bbok2, Bool.true_eq_false, Bool.false_eq_true, reduceCtorEq]
            rfl
          | false =>
            dsimp only
            refine ⟨_, q_fpl_trans f1 (q_fl_fpl (b := B.length) (a := nI p) (y := 4) (z := nI s)), ⟨fun z => q_nFT z, fun _ => ⟨q_pf_next (p1.2 rfl).1, (p1.2 rfl).2⟩⟩, fun {Q} => ?_⟩
            dsimp only at hcall
            rw [hcall, g_Plan_bringOffer_70, q_br (show q_bb false = 0 from rfl), s_fails (by omega), q_onI_i, g_Plan_bringOffer_81]
            simp only [q_onI_i, q_onJ_j, q_onS_s, q_onB_t, true_and, and_true, true_or, or_true, eq_self, true_implies, not_true_eq_false, not_false_eq_true, false_implies, q_bb0, q_bbok, q_bbok2, Bool.true_eq_false, Bool.false_eq_true, reduceCtorEq]
            rfl
theorem l_cneed {L D n f p : Nat} {J : Nat → Nat → Int64} {t : Nat} {T : Nat → Int32} {B : List Nat} (h12 : n ≤ 12) (hrec : q_cB n T f) (hD : 2 * f + 6 ≤ D + 6) (hp : p < n) (hf : f + (p :: B).length = 12) : ∀ (k s : Nat) (I : Nat → Nat → Int32) (st : List Nat), s + k = 8 → q_pc I n T (p :: B) st → q_pp n T (p :: B) st → ∃ I', q_fpl I I' ∧ q_pst I' n T (p :: B) B.length (q_need (q_bring T n f) T n p (p :: B) k s st) ∧ ∀ (rt : Value → q_Mem → Nat → Nat → Prop), q_X (q_W (D + 7)) rt 32 (66, [some (.ref 81), some (.int (nI p)), some (.int (nI B.length)), some (.int (nI s))], [], (q_mm L I J t), 0, 0) = (match (q_need (q_bring T n f) T n p (p :: B) k s st).1 with
    | true => q_X (q_W (D + 7)) rt 32 (66, [some (.ref 81), some (.int (nI p)), some (.int (nI B.length)), some (.int (nI 8))], [], q_mm L I' J t, 0, 0)
    | false => rt (.int 0) (q_mm L I' J t) 0 0)
  | 0, s, I, st, h, hpc, hpp => by
    have : s = 8 := by omega
    subst this
    exact ⟨I, fun _ _ _ _ => rfl, ⟨fun _ => ⟨hpc, hpp⟩, fun z => q_nTF z⟩, fun rt => rfl⟩
  | k + 1, s, I, st, h, hpc, hpp => by
    have hp12 : p < 12 := by omega
    obtain ⟨hn, hv, h2, h82, h6, h7, h5, h3⟩ := id hpc
    have hnd : I (6 + p) 2 = T (36 + p) := by
      have h := (hv p hp).1.2.2.1
      rw [q_ar_ne (show 6 + p ≠ 131 by omega), q_ar_eq] at h
      exact h
    have hstep : ∀ (rt : Value → q_Mem → Nat → Nat → Prop), q_X (q_W (D + 7)) rt 32 (66, [some (.ref 81), some (.int (nI p)), some (.int (nI B.length)), some (.int (nI s))], [], (q_mm L I J t), 0, 0) = q_X (q_W (D + 7)) rt 32 (85, [some (.ref 81), some (.int (nI p)), some (.int (nI B.length)), some (.int (nI s))], [.int (q_bb (q_bt (T (36 + p)) s))], (q_mm L I J t), 0, 0) := by
      intro rt
      rw [g_Plan_bring_66, show (8 : Int32) = nI 8 by decide, q_leN (by decide) (by omega), q_brn (by omega)]
      simp only [q_clamp (show p < 2 ^ 31 by omega), q_bnd hp12 (by decide), r_plug hp12, i_plug hp12, q_onI_i, q_onJ_j, q_onS_s, q_onB_t, true_and, and_true, true_or, or_true, eq_self, true_implies, not_true_eq_false, not_false_eq_true, false_implies, q_bb0, q_bbok, q_bbok2, Bool.true_eq_false, Bool.false_eq_true, reduceCtorEq, s_needs (i_plug hp12) (show s < 31 by omega), hnd]
    unfold q_need
    cases hb : q_bt (T (36 + p)) s with
    | false =>
      obtain ⟨I', f1, p1, w1⟩ := l_cneed h12 hrec hD hp hf k (s + 1) I st (by omega) hpc hpp
      refine ⟨I', f1, p1, fun rt => ?_⟩
      rw [hstep, hb, g_Plan_bring_85, q_br (show q_bb false = 0 from rfl), q_n1]
      exact w1 rt
    | true =>
      obtain ⟨I1, f1, p1, w1⟩ := c_offer (L := L) (J := J) (t := t) (D := D) (s := s) h12 hrec hD hpc hpp hp (by omega) hf
      have hstep2 : ∀ (rt : Value → q_Mem → Nat → Nat → Prop), q_X (q_W (D + 7)) rt 32 (66, [some (.ref 81), some (.int (nI p)), some (.int (nI B.length)), some (.int (nI s))], [], (q_mm L I J t), 0, 0) = q_X (q_W (D + 7)) rt 32 (95, [some (.ref 81), some (.int (nI p)), some (.int (nI B.length)), some (.int (nI s))], [.int (q_bb (q_ofr (q_bring T n f) T n p (p :: B) s st).1)], q_mm L I1 J t, 0, 0) := by
        intro rt
        rw [hstep, hb, g_Plan_bring_85, q_brn (by decide), w1, q_onI_i]
      dsimp only
      revert p1 hstep2
      cases hr : q_ofr (q_bring T n f) T n p (p :: B) s st with
      | mk ok r =>
        obtain ⟨st', cs⟩ := r
        intro p1 hstep2
        cases ok with
        | false =>
          refine ⟨I1, f1, ⟨fun z => q_nFT z, p1.2⟩, fun rt => ?_⟩
          dsimp only at hstep2
          rw [hstep2, g_Plan_bring_95, q_br (show q_bb false = 0 from rfl)]
          simp only [q_onI_i, q_onJ_j, q_onS_s, q_onB_t, true_and, and_true, true_or, or_true, eq_self, true_implies, not_true_eq_false, not_false_eq_true, false_implies, q_bb0, q_bbok, q_bbok2, Bool.true_eq_false, Bool.false_eq_true, reduceCtorEq]
        | true =>
          obtain ⟨q1, q2⟩ := p1.1 rfl
          obtain ⟨I', f2, p2, w2⟩ := l_cneed h12 hrec hD hp hf k (s + 1) I1 st' (by omega) q1 q2
          refine ⟨I', q_fpl_trans f1 f2, p2, fun rt => ?_⟩
          dsimp only at hstep2
          rw [hstep2, g_Plan_bring_95, q_brn (by decide), q_n1]
          exact w2 rt
