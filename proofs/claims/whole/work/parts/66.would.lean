/-! would -/
theorem q_evs_t : ∀ (es : List (Nat × Nat)) (σ : q_Sg), (q_evs true es σ).2.2 = σ.2.2
  | [], _ => rfl
  | e :: es, σ => by
    rw [q_evs_cons, q_evs_t es]
    rfl
theorem v_hook_pt {I I' : Nat → Nat → Int32} {b a f i n : Nat} (h1 : I' (b + i) = I (b + i)) (h2 : ∀ k, k < 5 → I' a (f + 24 * k + i) = I a (f + 24 * k + i)) (h : v_hook I b a f i n) : v_hook I' b a f i n := by
  unfold v_hook at h ⊢
  rw [h1, show I' a (f + i) = I a (f + i) from h2 0 (by decide), show I' a (f + 24 + i) = I a (f + 24 + i) from h2 1 (by decide), show I' a (f + 48 + i) = I a (f + 48 + i) from h2 2 (by decide), show I' a (f + 72 + i) = I a (f + 72 + i) from h2 3 (by decide), show I' a (f + 96 + i) = I a (f + 96 + i) from h2 4 (by decide)]
  exact h
section WOULD
variable {L c : Nat} {I : Nat → Nat → Int32} {J : Nat → Nat → Int64} {t : Nat}
theorem t_would {x y : Int32} (hc : c < 512) (h : q_J c I J t) : q_SI 100 98 191 [.int x, .int y] (q_J (c + 1)) L I J t := by
  obtain ⟨n, hk, m, h2, h3, h4, h5, h6, h7, h8⟩ := id h
  obtain ⟨⟨a1, a2, a3, a4, a5, a6⟩, m2, m3, m4, m5⟩ := id m
  have m2' : ∀ k v, q_u I 113 k v 130 0 = nI n := fun k v => by rw [q_u_ne (by decide)]; exact m2
  unfold q_SI
  rw [e_C_would, s_hasPlug a1 a3, q_onI_i, g_C_would_8]
  cases hb : q_in x n with
  | false =>
    simp only [q_onI_i, q_onJ_j, q_onS_s, q_onB_t, true_and, and_true, true_or, or_true, eq_self, true_implies, not_true_eq_false, not_false_eq_true, false_implies, q_bb0, q_bbok, q_bbok2, Bool.true_eq_false, Bool.false_eq_true, reduceCtorEq, s_refuseT1, g_C_would_16]
    refine ⟨_, _, _, _, rfl, rfl, q_u_ne (by decide), ?_⟩
    rw [e_M_would, s_isPlug (m2' _ _) a3, hb, q_onI_i, g_M_would_5]
    simp only [q_onI_i, q_onJ_j, q_onS_s, q_onB_t, true_and, and_true, true_or, or_true, eq_self, true_implies, not_true_eq_false, not_false_eq_true, false_implies, q_bb0, q_bbok, q_bbok2, Bool.true_eq_false, Bool.false_eq_true, reduceCtorEq, s_noT1, g_M_would_13]
    exact ⟨_, _, _, rfl, q_J_refuse 1 h⟩
  | true =>
    obtain ⟨p, hp, rfl⟩ := q_in_get hb
    obtain ⟨b1, -⟩ := a5 p hp
    simp only [q_onI_i, q_onJ_j, q_onS_s, q_onB_t, true_and, and_true, true_or, or_true, eq_self, true_implies, not_true_eq_false, not_false_eq_true, false_implies, q_bb0, q_bbok, q_bbok2, Bool.true_eq_false, Bool.false_eq_true, reduceCtorEq, s_runs a1 a3, hb, q_clamp (show p < 2 ^ 31 by omega), g_C_would_25, Bool.true_and, b1.2.2.2.2.2.2.1]
    by_cases hr : I 131 p = 1
    · simp only [hr, decide_true, q_onI_i, q_onJ_j, q_onS_s, q_onB_t, true_and, and_true, true_or, or_true, eq_self, true_implies, not_true_eq_false, not_false_eq_true, false_implies, q_bb0, q_bbok, q_bbok2, Bool.true_eq_false, Bool.false_eq_true, reduceCtorEq, s_refuseT6, g_C_would_34]
      refine ⟨_, _, _, _, rfl, rfl, q_u_ne (by decide), ?_⟩
      rw [e_M_would, s_isPlug (m2' _ _) a3, hb, q_onI_i, g_M_would_5]
      simp only [q_onI_i, q_onJ_j, q_onS_s, q_onB_t, true_and, and_true, true_or, or_true, eq_self, true_implies, not_true_eq_false, not_false_eq_true, false_implies, q_bb0, q_bbok, q_bbok2, Bool.true_eq_false, Bool.false_eq_true, reduceCtorEq, s_state (show p < 108 by omega), g_M_would_19, q_u_ne (show 131 ≠ 113 by decide), hr, s_noT6, g_M_would_29]
      exact ⟨_, _, _, rfl, q_J_refuse 6 h⟩
    · obtain ⟨k, k1, k2, k3⟩ := q_J_rc m h
      obtain ⟨σ, hσ⟩ : ∃ σ : q_Sg, σ = (I 131, I 130 2, k, I 139) := ⟨_, rfl⟩
      have hs : q_rs I n σ (I 130 3) := by rw [hσ]; exact k2
      have hσ1 : σ.1 = I 131 := by rw [hσ]
      have hσk : σ.2.2.1 = k := by rw [hσ]
      have hT : ¬ σ.1 p = 1 := by rw [hσ1]; exact hr
      obtain ⟨I1, f1, p1, w1⟩ := s_make (L := L) (D := 68) (J := J) (t := t) a3 hs.1 hs.2.1 hp hT
      have hnm : ∀ q, q < n → q_nameok (σ.1 (72 + q)) := fun q hq => v_plug_name (hs.2.1 q hq)
      have f1o : ∀ o, o ≠ 81 → o ≠ 82 → o ≠ 83 → I1 o = I o := f1
      -- the model's side
      obtain ⟨F, F0, F1, F2, F3, F4, F5, F6, F7⟩ := s_keep7 (L := L) (d := 98) (J := J) (t := t) (I := I1)
      have e1 : ∀ o, o ≠ 81 → o ≠ 82 → o ≠ 83 → o ≠ 147 → F o = I o := fun o h1 h2 h3 h4 => by rw [F1 o h4, f1 o h1 h2 h3]
      have e130 : F 130 = I 130 := e1 130 (by decide) (by decide) (by decide) (by decide)
      have hrst : q_rst (q_u F 130 19 1) n σ (I 130 3) true := by
        obtain ⟨z1, z2, z3, z4, z5, z6, z7⟩ := k3 I (fun _ _ => rfl)
        rw [hσ]
        exact ⟨by rw [q_u_nk (by decide), e130]; exact z1, by rw [q_u_ne (by decide)]; exact e1 131 (by decide) (by decide) (by decide) (by decide), by rw [q_u_nk (by decide), e130], by rw [q_u_nk (by decide), e130], by rw [q_u_nk (by decide), e130]; exact z5, fun i hi => by rw [q_u_ne (by decide), e1 139 (by decide) (by decide) (by decide) (by decide)], q_u_eq⟩
      obtain ⟨I2, g1, g2, g3, g4, g5⟩ := m_begins (L := L) (D := 66) (J := J) (t := t) (th := true) a3 hrst hnm (by omega) hp hT
      obtain ⟨G, G0, G1, G2, G3, G4, G5, G6, G7, G8⟩ := s_again7 (L := L) (d := 98) (J := J) (t := t) (I := q_u I2 130 19 0)
      have x147 : q_u I2 130 19 0 147 = F 147 := by rw [q_u_ne (by decide), g1.1 147 (by decide) (by decide) (by decide) (by decide) (by decide), q_u_ne (by decide)]
      have hGo : ∀ o, o ≠ 81 → o ≠ 82 → o ≠ 83 → o ≠ 130 → o ≠ 131 → o ≠ 132 → o ≠ 137 → o ≠ 138 → o ≠ 139 → o ≠ 147 → G o = I o := fun o h1 h2 h3 h4 h5 h6 h7 h8 h9 h10 => by rw [G1 o h4 h5 h6, q_u_ne h4, g1.1 o h4 h5 h7 h8 h9, q_u_ne h4, e1 o h1 h2 h3 h10]
      have hGb : ∀ b, 4 < b → b ≠ 14 → b ≠ 16 → b ≠ 17 → b ≠ 19 → b ≠ 20 → G 130 b = I 130 b := fun b h0 h1 h2 h3 h4 h5 => by rw [G8 b h0, q_u_nk h4, g1.2 b (by omega) h1 h2 h3 h5, q_u_nk h4, e130]
      have hJ : q_J (c + 1) G J t := by
        have hrest := q_J_rest m h
        have f3 : G 3 = I 3 := hGo 3 (by decide) (by decide) (by decide) (by decide) (by decide) (by decide) (by decide) (by decide) (by decide) (by decide)
        have t0 : G 130 0 = I 130 0 := by rw [G4, x147, F4, f1o 130 (by decide) (by decide) (by decide)]
        have t4 : G 130 4 = I 130 4 := by rw [G5, x147, F5, f1o 130 (by decide) (by decide) (by decide)]
        have t2 : G 130 2 = I 130 2 := by rw [G6, x147, F6, f1o 130 (by decide) (by decide) (by decide)]
        have t3 : G 130 3 = I 130 3 := by rw [G7, x147, F7, f1o 130 (by decide) (by decide) (by decide)]
        have t131 : ∀ q, q < 108 → G 131 q = I 131 q := fun q hq => by rw [G2 q hq, x147, F2 q hq, f1o 131 (by decide) (by decide) (by decide)]
        have t132 : ∀ q, q < 120 → G 132 q = I 132 q := fun q hq => by rw [G3 q hq, x147, F3 q hq, f1o 132 (by decide) (by decide) (by decide)]
        have hev := q_evs_t (q_tse (q_bring σ.1 n 12 p [] [])) σ
        obtain ⟨z1, z2, z3, z4, z5, z6, z7⟩ := g2
        rw [hev] at z5 z6
        obtain ⟨-, ⟨cc, cc1, cc2, cc3, cc4⟩, -, -, -, -, -, w2⟩ := id hrest
        have t20 : G 130 20 = nI k := by rw [G8 20 (by decide), q_u_nk (by decide), z5, hσk]
        have t19 : G 130 19 = 0 := by rw [G8 19 (by decide), q_u_eq]
        have t139 : ∀ i, i < 40 → G 139 i = I 139 i := fun i hi => by rw [G1 139 (by decide) (by decide) (by decide), q_u_ne (by decide), z6 i hi, hσ]
        have hall : ∀ o, q_rel o = true → o ≠ 139 → G o = I o := fun o ho h139 => by
          obtain ⟨u1, u2, u3, u4, u5, u6, u7, u8, u9, u10, u11, u12⟩ := q_rel_out ho
          exact hGo o u3 u4 u5 u7 u8 (fun e => by rw [e] at ho; exact absurd ho (by decide)) u9 u10 h139 u12
        have v1 : G 1 = I 1 := hall 1 rfl (by decide)
        refine ⟨n, hk, ⟨⟨by rw [f3]; exact a1, by rw [f3]; exact a2, a3, a4, fun q hq => v_plug_else (hGo _ (by omega) (by omega) (by omega) (by omega) (by omega) (by omega) (by omega) (by omega) (by omega) (by omega)) (fun j hj => t131 _ (by omega)) (a5 q hq), fun i hi => v_hook_pt (hGo _ (by omega) (by omega) (by omega) (by omega) (by omega) (by omega) (by omega) (by omega) (by omega) (by omega)) (fun j hj => t132 _ (by omega)) (a6 i hi)⟩, by rw [t0]; exact m2, by rw [t4]; exact m3, by rw [f3, t2]; exact m4, by rw [f3, t3]; exact m5⟩, ?_⟩
        obtain ⟨kc, kr, k31, k32, kk, kR⟩ := k2
        exact v_rest_dyn (fun o ho _ _ _ _ _ h139 => hall o ho h139) (by rw [v1]; exact ⟨rfl, rfl⟩) ⟨hGb 9 (by decide) (by decide) (by decide) (by decide) (by decide) (by decide), by rw [t19, w2], hGb 30 (by decide) (by decide) (by decide) (by decide) (by decide) (by decide), hGb 32 (by decide) (by decide) (by decide) (by decide) (by decide) (by decide), hGb 34 (by decide) (by decide) (by decide) (by decide) (by decide) (by decide)⟩ ⟨cc, cc1, by rw [v1]; exact cc2, by rw [hGb 12 (by decide) (by decide) (by decide) (by decide) (by decide) (by decide)]; exact cc3, fun i hi w hw => by rw [hall 112 rfl (by decide), hall 136 rfl (by decide)]; exact cc4 i hi w hw⟩ ⟨k, by omega, by rw [hall 110 rfl (by decide)]; exact kk, t20, fun i hi => by rw [hall 111 rfl (by decide), t139 i hi]; exact kR i hi⟩ hrest
      have f10 : I1 0 = I 0 := f1o 0 (by decide) (by decide) (by decide)
      have hM : ∀ (Q : Value → q_Mem → Prop), q_W 100 191 [.ref 130, .int (nI p), .int y] (q_mm L I1 J t) Q = q_X (q_W 99) (fun v μ _ _ => Q v μ) 191 (62, [some (.ref 130), some (.int (nI p)), some (.int y), some (.int (q_bb (q_bring σ.1 n 12 p [] []).1)), none], [], q_mm L G J t, 0, 0) := by
        intro Q
        have e0 : I1 130 0 = nI n := by rw [f1o 130 (by decide) (by decide) (by decide)]; exact m2
        rw [e_M_would, s_isPlug e0 a3, hb, q_onI_i, g_M_would_5]
        simp only [q_onI_i, q_onJ_j, q_onS_s, q_onB_t, true_and, and_true, true_or, or_true, eq_self, true_implies, not_true_eq_false, not_false_eq_true, false_implies, q_bb0, q_bbok, q_bbok2, Bool.true_eq_false, Bool.false_eq_true, reduceCtorEq, s_state (show p < 108 by omega), g_M_would_19, f1o 131 (by decide) (by decide) (by decide), hr]
        rw [F0, g_M_would_38]
        simp only [q_onI_i, q_onJ_j, q_onS_s, q_onB_t, true_and, and_true, true_or, or_true, eq_self, true_implies, not_true_eq_false, not_false_eq_true, false_implies, q_bb0, q_bbok, q_bbok2, Bool.true_eq_false, Bool.false_eq_true, reduceCtorEq, g5, g_M_would_48, G0]
      have h17 : G 130 17 = I2 130 17 := by rw [G8 17 (by decide), q_u_nk (by decide)]
      have h138 : G 138 = I2 138 := by rw [G1 138 (by decide) (by decide) (by decide), q_u_ne (by decide)]
      rw [decide_eq_false hr]
      simp only [q_onI_i, q_onJ_j, q_onS_s, q_onB_t, true_and, and_true, true_or, or_true, eq_self, true_implies, not_true_eq_false, not_false_eq_true, false_implies, q_bb0, q_bbok, q_bbok2, Bool.true_eq_false, Bool.false_eq_true, reduceCtorEq, w1, g_C_would_43]
      cases hok : (q_bring σ.1 n 12 p [] []).1 with
      | false =>
        rw [hok] at hM
        rw [q_br (show false = false from rfl)]
        by_cases hy : y = -1
        · rw [q_br hy]
          refine ⟨_, _, _, _, rfl, rfl, f10, ?_⟩
          rw [hM, g_M_would_62, q_br (show q_bb false = 0 from rfl), q_br hy]
          exact ⟨rfl, _, _, _, rfl, hJ⟩
        · have hin : q_in y 0 = false := decide_eq_false (by omega)
          rw [q_brn hy, s_isBelow, show (0 : Int32).toInt = 0 by decide, hin, q_onI_i, g_C_would_70, q_br (show q_bb false = 0 from rfl)]
          refine ⟨_, _, _, _, rfl, rfl, f10, ?_⟩
          rw [hM, g_M_would_62, q_br (show q_bb false = 0 from rfl), q_brn hy, s_within0, show ((0 : Int32) - 1).toInt + 1 = 0 by decide, hin, q_onI_i, g_M_would_95, q_br (show q_bb false = 0 from rfl)]
          exact ⟨rfl, _, _, _, rfl, hJ⟩
      | true =>
        rw [hok] at hM
        obtain ⟨hpc, hpp⟩ := p1.1 hok
        have hl12 := (q_pp_ln hpp).1
        obtain ⟨i17, i138⟩ := g3 hok
        rw [q_brn (by decide), hpc.2.2.1]
        by_cases hy : y = -1
        · rw [q_br hy]
          refine ⟨_, _, _, _, rfl, rfl, f10, ?_⟩
          rw [hM, g_M_would_62, q_brn (by decide), q_br hy, h17, i17]
          exact ⟨rfl, _, _, _, rfl, hJ⟩
        · rw [q_brn hy, s_isBelow, nI_toInt (by omega), q_onI_i, g_C_would_70]
          cases hin : q_in y ((q_bring σ.1 n 12 p [] []).2.1.length : Int) with
          | false =>
            rw [q_br (show q_bb false = 0 from rfl)]
            refine ⟨_, _, _, _, rfl, rfl, f10, ?_⟩
            rw [hM, g_M_would_62, q_brn (by decide), q_brn hy, h17, i17, s_within0, q_pred (by omega), hin, q_onI_i, g_M_would_95, q_br (show q_bb false = 0 from rfl)]
            exact ⟨rfl, _, _, _, rfl, hJ⟩
          | true =>
            obtain ⟨j, hj, rfl⟩ := q_in_get hin
            obtain ⟨q, hq⟩ : ∃ q, (q_bring σ.1 n 12 p [] []).2.1[j]? = some q := ⟨_, List.getElem?_eq_getElem hj⟩
            rw [q_brn (by decide)]
            simp only [q_clamp (show j < 2 ^ 31 by omega), q_bnd (show j < 12 by omega) (by decide), true_and]
            rw [hpc.2.2.2.1 j q hq]
            refine ⟨_, _, _, _, rfl, rfl, f10, ?_⟩
            rw [hM, g_M_would_62, q_brn (by decide), q_brn hy, h17, i17, s_within0, q_pred (by omega), hin, q_onI_i, g_M_would_95, q_brn (by decide)]
            simp only [q_clamp (show j < 2 ^ 31 by omega), q_bnd (show j < 12 by omega) (by decide), true_and]
            rw [h138, i138 j q hq]
            exact ⟨rfl, _, _, _, rfl, hJ⟩
end WOULD
