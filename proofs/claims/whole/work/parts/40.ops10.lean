/-! hook -/
def q_hkC (I : Nat → Nat → Int32) (i : Nat) (x1 x2 x3 x4 x5 : Int32) : Nat → Nat → Int32 := (q_u (q_u (q_u (q_u (q_u I (18 + i) 0 x1) (18 + i) 1 x2) (18 + i) 2 x3) (18 + i) 3 x4) (18 + i) 4 x5)
def q_hkM (I : Nat → Nat → Int32) (i : Nat) (x1 x2 x3 x4 x5 : Int32) : Nat → Nat → Int32 := (q_u (q_u (q_u (q_u (q_u (q_u I 132 i x1) 132 (24 + i) x2) 132 (48 + i) x3) 132 (72 + i) x4) 132 (96 + i) x5) 130 4 (nI (i + 1)))
theorem s_hkbegin {L d : Nat} {Q : Value → q_Mem → Prop} {I : Nat → Nat → Int32} {J : Nat → Nat → Int64} {t : Nat} {i : Nat} {x1 x2 x3 x4 x5 : Int32} (hi : i < 24) : q_W (d + 1) 16 [.ref (18 + i), .int x1, .int x2, .int x3, .int x4, .int x5] (q_mm L I J t) Q = Q .null (q_mm L (q_hkC I i x1 x2 x3 x4 x5) J t) := by
  rw [e_Hook_begin]
  simp only [i_hook hi, q_onI_i, q_onJ_j, q_onS_s, q_onB_t, true_and, and_true, true_or, or_true, eq_self, true_implies, not_true_eq_false, not_false_eq_true, false_implies, q_bb0, q_bbok, q_bbok2, Bool.true_eq_false, Bool.false_eq_true, reduceCtorEq]
  rfl
theorem q_J_hook {c n hk p : Nat} {I : Nat → Nat → Int32} {J : Nat → Nat → Int64} {t : Nat} {x2 x3 x4 x5 : Int32} (m : v_main q_bc I n hk) (hh : hk < 24) (hp : p < n) (r2 : q_rng x2 0 3) (r3 : q_rng x3 (-9) 9) (r4 : q_rng x4 0 8) (r5 : q_rng x5 (-99) 99) (h : q_J c I J t) : q_J (c + 1) (q_hkM (q_u (q_hkC I hk (nI p) x2 x3 x4 x5) 3 3 (nI (hk + 1))) hk (nI p) x2 x3 x4 x5) J t := by
  have hrest := q_J_rest m h
  obtain ⟨⟨a1, a2, a3, a4, a5, a6⟩, m2, m3, m4, m5⟩ := id m
  obtain ⟨F, hF⟩ : ∃ F, F = q_hkM (q_u (q_hkC I hk (nI p) x2 x3 x4 x5) 3 3 (nI (hk + 1))) hk (nI p) x2 x3 x4 x5 := ⟨_, rfl⟩
  rw [← hF]
  unfold q_hkM q_hkC at hF
  have ho : ∀ o, o ≠ 18 + hk → o ≠ 3 → o ≠ 132 → o ≠ 130 → F o = I o := fun o h1 h2 h3 h4 => by
    rw [hF]
    repeat rw [q_u_ne (by assumption)]
  have c0 : F (18 + hk) 0 = nI p := by
    rw [hF]
    repeat (first | rw [q_u_eq] | rw [q_u_nk (by omega)] | rw [q_u_ne (by omega)])
  have c1 : F (18 + hk) 1 = x2 := by
    rw [hF]
    repeat (first | rw [q_u_eq] | rw [q_u_nk (by omega)] | rw [q_u_ne (by omega)])
  have c2 : F (18 + hk) 2 = x3 := by
    rw [hF]
    repeat (first | rw [q_u_eq] | rw [q_u_nk (by omega)] | rw [q_u_ne (by omega)])
  have c3 : F (18 + hk) 3 = x4 := by
    rw [hF]
    repeat (first | rw [q_u_eq] | rw [q_u_nk (by omega)] | rw [q_u_ne (by omega)])
  have c4 : F (18 + hk) 4 = x5 := by
    rw [hF]
    repeat (first | rw [q_u_eq] | rw [q_u_nk (by omega)] | rw [q_u_ne (by omega)])
  have d0 : F 132 hk = nI p := by
    rw [hF]
    repeat (first | rw [q_u_eq] | rw [q_u_nk (by omega)] | rw [q_u_ne (by omega)])
  have d1 : F 132 (24 + hk) = x2 := by
    rw [hF]
    repeat (first | rw [q_u_eq] | rw [q_u_nk (by omega)] | rw [q_u_ne (by omega)])
  have d2 : F 132 (48 + hk) = x3 := by
    rw [hF]
    repeat (first | rw [q_u_eq] | rw [q_u_nk (by omega)] | rw [q_u_ne (by omega)])
  have d3 : F 132 (72 + hk) = x4 := by
    rw [hF]
    repeat (first | rw [q_u_eq] | rw [q_u_nk (by omega)] | rw [q_u_ne (by omega)])
  have d4 : F 132 (96 + hk) = x5 := by
    rw [hF]
    repeat (first | rw [q_u_eq] | rw [q_u_nk (by omega)] | rw [q_u_ne (by omega)])
  have hq : ∀ q, q < hk → ∀ k, k < 5 → F 132 (24 * k + q) = I 132 (24 * k + q) := fun q hq k hk => by
    rw [hF]
    repeat (first | rw [q_u_eq] | rw [q_u_nk (by omega)] | rw [q_u_ne (by omega)])
  have h3 : ∀ k, k ≠ 3 → F 3 k = I 3 k := fun k hk => by
    rw [hF]
    repeat (first | rw [q_u_eq] | rw [q_u_nk (by omega)] | rw [q_u_ne (by omega)])
  have h33 : F 3 3 = nI (hk + 1) := by
    rw [hF]
    repeat (first | rw [q_u_eq] | rw [q_u_nk (by omega)] | rw [q_u_ne (by omega)])
  have h130 : ∀ k, k ≠ 4 → F 130 k = I 130 k := fun k hk => by
    rw [hF]
    repeat (first | rw [q_u_eq] | rw [q_u_nk (by omega)] | rw [q_u_ne (by omega)])
  have h1304 : F 130 4 = nI (hk + 1) := by
    rw [hF]
    repeat (first | rw [q_u_eq] | rw [q_u_nk (by omega)] | rw [q_u_ne (by omega)])
  refine ⟨n, hk + 1, ⟨⟨by rw [h3 2 (by decide)]; exact a1, h33, a3, by omega, fun q hqn => v_plug_congr (ho _ (by omega) (by omega) (by omega) (by omega)) (ho _ (by omega) (by decide) (by decide) (by decide)) (a5 q hqn), fun i hi => ?_⟩, by rw [h130 0 (by decide)]; exact m2, h1304, by rw [h130 2 (by decide), h3 4 (by decide)]; exact m4, by rw [h130 3 (by decide), h3 5 (by decide)]; exact m5⟩, v_rest_congr (Nat.le_refl n) (fun o hr => ?_) (by rw [h130 _ (by decide), h130 _ (by decide), h130 _ (by decide), h130 _ (by decide), h130 _ (by decide), h130 _ (by decide), h130 _ (by decide)]; exact ⟨rfl, rfl, rfl, rfl, rfl, rfl, rfl⟩) hrest⟩
  · by_cases e : i = hk
    · subst e
      unfold v_hook
      simp only [Nat.zero_add]
      rw [c0, c1, c2, c3, c4, d0, d1, d2, d3, d4]
      exact ⟨⟨rfl, rfl, rfl, rfl, rfl⟩, ⟨p, hp, rfl⟩, r2, r3, r4, r5⟩
    · have hv := a6 i (by omega)
      have e0 := hq i (by omega) 0 (by decide)
      have e1 := hq i (by omega) 1 (by decide)
      have e2 := hq i (by omega) 2 (by decide)
      have e3 := hq i (by omega) 3 (by decide)
      have e4 := hq i (by omega) 4 (by decide)
      unfold v_hook at hv ⊢
      simp only [Nat.zero_add, Nat.mul_zero, Nat.reduceMul] at hv e0 e1 e2 e3 e4 ⊢
      rw [ho (18 + i) (by omega) (by omega) (by omega) (by omega), e0, e1, e2, e3, e4]
      exact hv
  · have hall : ∀ p, p < 24 → q_rel (18 + p) = false := by decide
    refine ho o (fun e => ?_) (fun e => ?_) (fun e => ?_) (fun e => ?_)
    · rw [e, hall hk hh] at hr
      exact absurd hr (by decide)
    all_goals (rw [e] at hr; exact absurd hr (by decide))
section OPS10
variable {L c : Nat} {I : Nat → Nat → Int32} {J : Nat → Nat → Int64} {t : Nat}
theorem t_hook {x1 x2 x3 x4 x5 : Int32} (h : q_J c I J t) : q_SI 100 101 195 [.int x1, .int x2, .int x3, .int x4, .int x5] (q_J (c + 1)) L I J t := by
  obtain ⟨n, hk, m, h2, h3, h4, h5, h6, h7, h8⟩ := id h
  obtain ⟨⟨a1, a2, a3, a4, a5, a6⟩, m2, m3, m4, m5⟩ := id m
  have m9 : (-9 : Int32).toInt = -9 := by decide
  have k9 : (9 : Int32).toInt = 9 := by decide
  have m99 : (-99 : Int32).toInt = -99 := by decide
  have k99 : (99 : Int32).toInt = 99 := by decide
  have k8 : (8 : Int32).toInt + 1 = 9 := by decide
  have k4 : (4 : Int32).toInt = 4 := by decide
  have hz : ∀ k v o, o ≠ 113 → q_u I 113 k v o = I o := fun k v o ho => q_u_ne ho
  have m2' : ∀ k v, q_u I 113 k v 130 0 = nI n := fun k v => by rw [q_u_ne (by decide)]; exact m2
  unfold q_SI
  rw [e_C_hook, s_hasPlug a1 a3, q_onI_i, g_C_hook_8]
  cases hb : q_in x1 n with
  | false =>
    simp only [q_onI_i, q_onJ_j, q_onS_s, q_onB_t, true_and, and_true, true_or, or_true, eq_self, true_implies, not_true_eq_false, not_false_eq_true, false_implies, q_bb0, q_bbok, q_bbok2, Bool.true_eq_false, Bool.false_eq_true, reduceCtorEq, s_refuse1, g_C_hook_40]
    refine ⟨_, _, _, _, rfl, rfl, q_u_ne (by decide), ?_⟩
    rw [e_M_hook, s_isPlug (m2' _ _) a3, hb, q_onI_i, g_M_hook_5]
    simp only [q_onI_i, q_onJ_j, q_onS_s, q_onB_t, true_and, and_true, true_or, or_true, eq_self, true_implies, not_true_eq_false, not_false_eq_true, false_implies, q_bb0, q_bbok, q_bbok2, Bool.true_eq_false, Bool.false_eq_true, reduceCtorEq, s_no1, g_M_hook_29]
    exact ⟨_, _, _, rfl, q_J_refuse 1 h⟩
  | true =>
    obtain ⟨p, hp, rfl⟩ := q_in_get hb
    have hst := (a5 p hp).1.2.2.2.2.2.2.1
    simp only [q_onI_i, q_onJ_j, q_onS_s, q_onB_t, true_and, and_true, true_or, or_true, eq_self, true_implies, not_true_eq_false, not_false_eq_true, false_implies, q_bb0, q_bbok, q_bbok2, Bool.true_eq_false, Bool.false_eq_true, reduceCtorEq, q_clamp (show p < 2 ^ 31 by omega), q_bnd (show p < 12 by omega) (by decide), r_plug (show p < 12 by omega), i_plug (show p < 12 by omega), hst]
    by_cases hr : I 131 p = 3
    · rw [q_br hr]
      simp only [q_onI_i, q_onJ_j, q_onS_s, q_onB_t, true_and, and_true, true_or, or_true, eq_self, true_implies, not_true_eq_false, not_false_eq_true, false_implies, q_bb0, q_bbok, q_bbok2, Bool.true_eq_false, Bool.false_eq_true, reduceCtorEq, s_refuse1, g_C_hook_40]
      refine ⟨_, _, _, _, rfl, rfl, q_u_ne (by decide), ?_⟩
      rw [e_M_hook, s_isPlug (m2' _ _) a3, hb, q_onI_i, g_M_hook_5]
      simp only [q_onI_i, q_onJ_j, q_onS_s, q_onB_t, true_and, and_true, true_or, or_true, eq_self, true_implies, not_true_eq_false, not_false_eq_true, false_implies, q_bb0, q_bbok, q_bbok2, Bool.true_eq_false, Bool.false_eq_true, reduceCtorEq, s_state (show p < 108 by omega), g_M_hook_13, q_u_ne (show 131 ≠ 113 by decide), hr, s_no1, g_M_hook_29]
      exact ⟨_, _, _, rfl, q_J_refuse 1 h⟩
    · rw [q_brn hr, s_isBelow, k4, q_onI_i, g_C_hook_32]
      cases b2 : q_in x2 4 with
      | false =>
        simp only [q_onI_i, q_onJ_j, q_onS_s, q_onB_t, true_and, and_true, true_or, or_true, eq_self, true_implies, not_true_eq_false, not_false_eq_true, false_implies, q_bb0, q_bbok, q_bbok2, Bool.true_eq_false, Bool.false_eq_true, reduceCtorEq, s_refuse1, g_C_hook_40]
        refine ⟨_, _, _, _, rfl, rfl, q_u_ne (by decide), ?_⟩
        rw [e_M_hook, s_isPlug (m2' _ _) a3, hb, q_onI_i, g_M_hook_5]
        simp only [q_onI_i, q_onJ_j, q_onS_s, q_onB_t, true_and, and_true, true_or, or_true, eq_self, true_implies, not_true_eq_false, not_false_eq_true, false_implies, q_bb0, q_bbok, q_bbok2, Bool.true_eq_false, Bool.false_eq_true, reduceCtorEq, s_state (show p < 108 by omega), g_M_hook_13, q_u_ne (show 131 ≠ 113 by decide), hr, s_isPoint, b2, g_M_hook_21, s_no1, g_M_hook_29]
        exact ⟨_, _, _, rfl, q_J_refuse 1 h⟩
      | true =>
        have hM6 : (decide (-9 ≤ x3.toInt ∧ x3.toInt ≤ 9) && (q_in x4 9 && decide (-99 ≤ x5.toInt ∧ x5.toInt ≤ 99))) = false → ∀ {Q : Value → q_Mem → Prop}, q_W 100 195 [.ref 130, .int (nI p), .int x2, .int x3, .int x4, .int x5] (q_mm L (q_u I 113 6 (I 113 6 + 1)) J t) Q = Q (.int (-6)) (q_mm L (q_u (q_u I 113 6 (I 113 6 + 1)) 145 6 (q_u I 113 6 (I 113 6 + 1) 145 6 + 1)) J t) := by
          intro hf Q
          rw [e_M_hook, s_isPlug (m2' _ _) a3, hb, q_onI_i, g_M_hook_5]
          simp only [q_onI_i, q_onJ_j, q_onS_s, q_onB_t, true_and, and_true, true_or, or_true, eq_self, true_implies, not_true_eq_false, not_false_eq_true, false_implies, q_bb0, q_bbok, q_bbok2, Bool.true_eq_false, Bool.false_eq_true, reduceCtorEq, s_state (show p < 108 by omega), g_M_hook_13, q_u_ne (show 131 ≠ 113 by decide), hr, s_isPoint, b2, g_M_hook_21, s_within, m9, k9]
          rw [g_M_hook_38]
          cases b3 : decide (-9 ≤ x3.toInt ∧ x3.toInt ≤ 9) with
          | false => simp only [q_onI_i, q_onJ_j, q_onS_s, q_onB_t, true_and, and_true, true_or, or_true, eq_self, true_implies, not_true_eq_false, not_false_eq_true, false_implies, q_bb0, q_bbok, q_bbok2, Bool.true_eq_false, Bool.false_eq_true, reduceCtorEq, s_no6, g_M_hook_70]
          | true =>
            simp only [q_onI_i, q_onJ_j, q_onS_s, q_onB_t, true_and, and_true, true_or, or_true, eq_self, true_implies, not_true_eq_false, not_false_eq_true, false_implies, q_bb0, q_bbok, q_bbok2, Bool.true_eq_false, Bool.false_eq_true, reduceCtorEq]
            rw [s_within0, k8, q_onI_i, g_M_hook_49]
            cases b4 : q_in x4 9 with
            | false => simp only [q_onI_i, q_onJ_j, q_onS_s, q_onB_t, true_and, and_true, true_or, or_true, eq_self, true_implies, not_true_eq_false, not_false_eq_true, false_implies, q_bb0, q_bbok, q_bbok2, Bool.true_eq_false, Bool.false_eq_true, reduceCtorEq, s_no6, g_M_hook_70]
            | true =>
              simp only [q_onI_i, q_onJ_j, q_onS_s, q_onB_t, true_and, and_true, true_or, or_true, eq_self, true_implies, not_true_eq_false, not_false_eq_true, false_implies, q_bb0, q_bbok, q_bbok2, Bool.true_eq_false, Bool.false_eq_true, reduceCtorEq]
              rw [s_within, m99, k99, q_onI_i, g_M_hook_61]
              cases b5 : decide (-99 ≤ x5.toInt ∧ x5.toInt ≤ 99) with
              | false => simp only [q_onI_i, q_onJ_j, q_onS_s, q_onB_t, true_and, and_true, true_or, or_true, eq_self, true_implies, not_true_eq_false, not_false_eq_true, false_implies, q_bb0, q_bbok, q_bbok2, Bool.true_eq_false, Bool.false_eq_true, reduceCtorEq, s_no6, g_M_hook_70]
              | true => rw [b3, b4, b5] at hf; exact absurd hf (by decide)
        have hM7 : decide (-9 ≤ x3.toInt ∧ x3.toInt ≤ 9) = true → q_in x4 9 = true → decide (-99 ≤ x5.toInt ∧ x5.toInt ≤ 99) = true → ∀ {I1 : Nat → Nat → Int32} {Q : Value → q_Mem → Prop}, I1 130 0 = nI n → I1 131 = I 131 → q_W 100 195 [.ref 130, .int (nI p), .int x2, .int x3, .int x4, .int x5] (q_mm L I1 J t) Q = q_X (q_W 99) (fun v μ x x_1 => Q v μ) 195 (61, [some (.ref 130), some (.int (nI p)), some (.int x2), some (.int x3), some (.int x4), some (.int x5)], [.int 1], q_mm L I1 J t, 0, 0) := by
          intro b3 b4 b5 I1 Q z1 z2
          rw [e_M_hook, s_isPlug z1 a3, hb, q_onI_i, g_M_hook_5]
          simp only [q_onI_i, q_onJ_j, q_onS_s, q_onB_t, true_and, and_true, true_or, or_true, eq_self, true_implies, not_true_eq_false, not_false_eq_true, false_implies, q_bb0, q_bbok, q_bbok2, Bool.true_eq_false, Bool.false_eq_true, reduceCtorEq, s_state (show p < 108 by omega), g_M_hook_13, z2, hr, s_isPoint, b2, g_M_hook_21, s_within, m9, k9]
          rw [g_M_hook_38, b3]
          simp only [q_onI_i, q_onJ_j, q_onS_s, q_onB_t, true_and, and_true, true_or, or_true, eq_self, true_implies, not_true_eq_false, not_false_eq_true, false_implies, q_bb0, q_bbok, q_bbok2, Bool.true_eq_false, Bool.false_eq_true, reduceCtorEq]
          rw [s_within0, k8, q_onI_i, g_M_hook_49, b4]
          simp only [q_onI_i, q_onJ_j, q_onS_s, q_onB_t, true_and, and_true, true_or, or_true, eq_self, true_implies, not_true_eq_false, not_false_eq_true, false_implies, q_bb0, q_bbok, q_bbok2, Bool.true_eq_false, Bool.false_eq_true, reduceCtorEq]
          rw [s_within, m99, k99, q_onI_i, b5]
          rfl
        simp only [q_onI_i, q_onJ_j, q_onS_s, q_onB_t, true_and, and_true, true_or, or_true, eq_self, true_implies, not_true_eq_false, not_false_eq_true, false_implies, q_bb0, q_bbok, q_bbok2, Bool.true_eq_false, Bool.false_eq_true, reduceCtorEq]
        simp only [q_lt, m9, k9, m99, k99]
        by_cases l3 : x3.toInt < -9 ∨ 9 < x3.toInt
        · have e3 : decide (-9 ≤ x3.toInt ∧ x3.toInt ≤ 9) = false := decide_eq_false (by omega)
          by_cases z1 : x3.toInt < -9 <;> by_cases z2 : 9 < x3.toInt <;> by_cases z3 : x5.toInt < -99 <;> by_cases z4 : 99 < x5.toInt <;> simp only [z1, z2, z3, z4, false_implies, true_implies, not_false_eq_true, not_true_eq_false, true_and, and_true] <;> first | (exfalso; omega) | skip
          all_goals
            simp only [q_onI_i, q_onJ_j, q_onS_s, q_onB_t, true_and, and_true, true_or, or_true, eq_self, true_implies, not_true_eq_false, not_false_eq_true, false_implies, q_bb0, q_bbok, q_bbok2, Bool.true_eq_false, Bool.false_eq_true, reduceCtorEq, s_refuse6, g_C_hook_107]
            refine ⟨_, _, _, _, rfl, rfl, q_u_ne (by decide), ?_⟩
            rw [hM6 (by rw [e3]; rfl)]
            exact ⟨rfl, _, _, _, rfl, q_J_refuse 6 h⟩
        · have e3 : decide (-9 ≤ x3.toInt ∧ x3.toInt ≤ 9) = true := decide_eq_true (by omega)
          rw [q_brn (show ¬ x3.toInt < -9 by omega), q_brn (show ¬ 9 < x3.toInt by omega)]
          have hn10 : ¬ ((1 : Int32) = 0) := by decide
          simp only [hn10, false_implies, not_false_eq_true, true_implies, true_and]
          have k9b : (9 : Int32).toInt = 9 := k9
          simp only [s_isBelow, k9b, q_onI_i, g_C_hook_93]
          cases b4 : q_in x4 9 with
          | false =>
            by_cases z3 : x5.toInt < -99 <;> by_cases z4 : 99 < x5.toInt <;> simp only [z3, z4, false_implies, true_implies, not_false_eq_true, not_true_eq_false, true_and, and_true, hn10]
            all_goals
              simp only [q_onI_i, q_onJ_j, q_onS_s, q_onB_t, true_and, and_true, true_or, or_true, eq_self, true_implies, not_true_eq_false, not_false_eq_true, false_implies, q_bb0, q_bbok, q_bbok2, Bool.true_eq_false, Bool.false_eq_true, reduceCtorEq, s_refuse6, g_C_hook_107]
              refine ⟨_, _, _, _, rfl, rfl, q_u_ne (by decide), ?_⟩
              rw [hM6 (by rw [b4, Bool.false_and, Bool.and_false])]
              exact ⟨rfl, _, _, _, rfl, q_J_refuse 6 h⟩
          | true =>
            by_cases l5 : x5.toInt < -99 ∨ 99 < x5.toInt
            · have e5 : decide (-99 ≤ x5.toInt ∧ x5.toInt ≤ 99) = false := decide_eq_false (by omega)
              by_cases z3 : x5.toInt < -99 <;> by_cases z4 : 99 < x5.toInt <;> simp only [z3, z4, false_implies, true_implies, not_false_eq_true, not_true_eq_false, true_and, and_true, hn10] <;> first | (exfalso; omega) | skip
              all_goals
                simp only [q_onI_i, q_onJ_j, q_onS_s, q_onB_t, true_and, and_true, true_or, or_true, eq_self, true_implies, not_true_eq_false, not_false_eq_true, false_implies, q_bb0, q_bbok, q_bbok2, Bool.true_eq_false, Bool.false_eq_true, reduceCtorEq, s_refuse6, g_C_hook_107]
                refine ⟨_, _, _, _, rfl, rfl, q_u_ne (by decide), ?_⟩
                rw [hM6 (by rw [e5, Bool.and_false, Bool.and_false])]
                exact ⟨rfl, _, _, _, rfl, q_J_refuse 6 h⟩
            · have e5 : decide (-99 ≤ x5.toInt ∧ x5.toInt ≤ 99) = true := decide_eq_true (by omega)
              rw [q_brn (show ¬ x5.toInt < -99 by omega), q_brn (show ¬ 99 < x5.toInt by omega)]
              simp only [q_onI_i, q_onJ_j, q_onS_s, q_onB_t, true_and, and_true, true_or, or_true, eq_self, true_implies, not_true_eq_false, not_false_eq_true, false_implies, q_bb0, q_bbok, q_bbok2, Bool.true_eq_false, Bool.false_eq_true, reduceCtorEq, hn10, not_false_eq_true, true_implies, false_implies, true_and, a2]
              rw [show (24 : Int32) = nI 24 by decide, q_ltN (by omega) (by decide)]
              by_cases hh : hk < 24
              · rw [q_br hh]
                simp only [q_clamp (show hk < 2 ^ 31 by omega), q_bnd hh (by decide), r_hook hh, i_hook hh, q_onI_i, q_onJ_j, q_onS_s, q_onB_t, true_and, and_true, true_or, or_true, eq_self, true_implies, not_true_eq_false, not_false_eq_true, false_implies, q_bb0, q_bbok, q_bbok2, Bool.true_eq_false, Bool.false_eq_true, reduceCtorEq, s_hkbegin hh, g_C_hook_156]
                rw [show q_hkC I hk (nI p) x2 x3 x4 x5 3 = I 3 by unfold q_hkC; repeat rw [q_u_ne (by omega)], a2, q_n1]
                refine ⟨_, _, _, _, rfl, rfl, by unfold q_hkC; repeat rw [q_u_ne (by omega)], ?_⟩
                obtain ⟨I1, e1⟩ : ∃ I1, I1 = q_u (q_hkC I hk (nI p) x2 x3 x4 x5) 3 3 (nI (hk + 1)) := ⟨_, rfl⟩
                have z0 : I1 130 = I 130 := by rw [e1]; unfold q_hkC; repeat rw [q_u_ne (by omega)]
                have z1 : I1 131 = I 131 := by rw [e1]; unfold q_hkC; repeat rw [q_u_ne (by omega)]
                have z4 : I1 130 4 = nI hk := by rw [z0]; exact m3
                have hz : ∀ (I : Nat → Nat → Int32) (k : Nat) (v : Int32), q_u I 132 k v 130 = I 130 := fun I k v => q_u_ne (by decide)
                have w1 : (24 : Int32) + nI hk = nI (24 + hk) := by rw [show (24 : Int32) = nI 24 by decide, q_add]
                have w2 : (48 : Int32) + nI hk = nI (48 + hk) := by rw [show (48 : Int32) = nI 48 by decide, q_add]
                have w3 : (72 : Int32) + nI hk = nI (72 + hk) := by rw [show (72 : Int32) = nI 72 by decide, q_add]
                have w4 : (96 : Int32) + nI hk = nI (96 + hk) := by rw [show (96 : Int32) = nI 96 by decide, q_add]
                rw [← e1, hM7 e3 b4 e5 (by rw [z0]; exact m2) z1, g_M_hook_61, q_brn hn10, z4, show (24 : Int32) = nI 24 by decide, q_eqN (by omega) (by decide), q_brn (by omega), show nI 24 = (24 : Int32) by decide]
                simp only [hz, z4, w1, w2, q_clamp (show hk < 2 ^ 31 by omega), q_bnd (show hk < 120 by omega) (by decide), q_clamp (show 24 + hk < 2 ^ 31 by omega), q_bnd (show 24 + hk < 120 by omega) (by decide), q_clamp (show 48 + hk < 2 ^ 31 by omega), q_bnd (show 48 + hk < 120 by omega) (by decide), true_and, g_M_hook_123, w3, w4, q_clamp (show 72 + hk < 2 ^ 31 by omega), q_bnd (show 72 + hk < 120 by omega) (by decide), q_clamp (show 96 + hk < 2 ^ 31 by omega), q_bnd (show 96 + hk < 120 by omega) (by decide), q_n1]
                refine ⟨_, _, _, rfl, ?_⟩
                rw [e1]
                exact q_J_hook m hh hp ⟨(of_decide_eq_true b2).1, by have := (of_decide_eq_true b2).2; omega⟩ ⟨by omega, by omega⟩ ⟨(of_decide_eq_true b4).1, by have := (of_decide_eq_true b4).2; omega⟩ ⟨by omega, by omega⟩ h
              · rw [q_brn hh, s_refuse7, q_onI_i, g_C_hook_126]
                refine ⟨_, _, _, _, rfl, rfl, q_u_ne (by decide), ?_⟩
                have z4 : q_u I 113 7 (I 113 7 + 1) 130 4 = nI hk := by rw [q_u_ne (by decide)]; exact m3
                rw [hM7 e3 b4 e5 (m2' _ _) (q_u_ne (by decide)), g_M_hook_61, q_brn hn10, z4, show (24 : Int32) = nI 24 by decide, q_eqN (by omega) (by decide), q_br (by omega), s_no7, q_onI_i, g_M_hook_86]
                exact ⟨rfl, _, _, _, rfl, q_J_refuse 7 h⟩
end OPS10
