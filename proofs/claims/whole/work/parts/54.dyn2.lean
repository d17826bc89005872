/-! from both sides' moving parts to what holds between calls; stop, remove -/
theorem q_rc_off {I : Nat → Nat → Int32} {n k p : Nat} {T R : Nat → Int32} {ck sd x : Int32} (h12 : n ≤ 12) (hp : p < n) (hx : x ≠ 1) (hr : q_rng x 0 3) (h : q_rc I n T R ck sd k) : q_rc (q_u I (6 + p) 9 x) n (q_up T p x) R ck sd k := by
  obtain ⟨a, b, c, d, e, f⟩ := h
  refine ⟨by rw [q_u_ne (by omega)]; exact a, fun q hq => ?_, by rw [q_u_ne (by omega)]; exact c, by rw [q_u_ne (by omega)]; exact d, by rw [q_u_ne (by omega)]; exact e, fun i hi => by rw [q_u_ne (by omega)]; exact f i hi⟩
  by_cases e : q = p
  · subst e
    refine v_plug_st (I := I) (T := T) (by omega) ?_ (fun k hk => q_u_nk hk) (fun j h0 h9 => q_up_ne (by omega)) (Or.inr ?_) (b q hq)
    · rw [q_u_eq, q_up_eq]
    · rw [q_up_eq]
      exact ⟨hx, hr⟩
  · refine v_plug_st (I := I) (T := T) (by omega) ?_ (fun k hk => by rw [q_u_ne (by omega)]) (fun j h0 h9 => q_up_ne (by omega)) (Or.inl (q_up_ne e)) (b q hq)
    rw [q_u_ne (by omega), q_up_ne e]
    have := (b q hq).1.2.2.2.2.2.2.1
    rw [q_ar_ne (show 6 + q ≠ 131 by omega), q_ar_eq] at this
    exact this
theorem q_rmm_off {I : Nat → Nat → Int32} {n k p : Nat} {T R : Nat → Int32} {ck sd x : Int32} (h : q_rmm I n T R ck sd k) : q_rmm (q_u I 131 p x) n (q_up T p x) R ck sd k := by
  obtain ⟨a, b, c, d, e, f, g⟩ := h
  refine ⟨by rw [q_u_ne (by omega)]; exact a, ?_, by rw [q_u_ne (by omega)]; exact c, by rw [q_u_ne (by omega)]; exact d, by rw [q_u_ne (by omega)]; exact e, fun i hi => by rw [q_u_ne (by omega)]; exact f i hi, by rw [q_u_ne (by omega)]; exact g⟩
  funext b'
  unfold q_u q_up
  by_cases e : b' = p
  · rw [if_pos ⟨rfl, e⟩, if_pos e]
  · rw [if_neg (fun z => e z.2), if_neg e, b]
theorem q_fc_off {I : Nat → Nat → Int32} {p : Nat} {x : Int32} (hp : p < 12) : q_fc I (q_u I (6 + p) 9 x) := ⟨fun o h1 h2 h3 h4 h5 h6 h7 h8 => q_u_ne (by omega), by rw [q_u_ne (by omega)]⟩
theorem q_fm_off {I : Nat → Nat → Int32} {p : Nat} {x : Int32} : q_fm I (q_u I 131 p x) := ⟨fun o h1 h2 h3 h4 h5 h6 h7 => q_u_ne h2, by rw [q_u_ne (by decide)], by rw [q_u_ne (by decide)], by rw [q_u_ne (by decide)], by rw [q_u_ne (by decide)], by rw [q_u_ne (by decide)], by rw [q_u_ne (by decide)]⟩
theorem v_rest_dyn {bc : Int32 → Int32} {T T' : Nat} {I I' : Nat → Nat → Int32} {J : Nat → Nat → Int64} {n : Nat} (ho : ∀ o, q_rel o = true → o ≠ 1 → o ≠ 110 → o ≠ 111 → o ≠ 112 → o ≠ 136 → o ≠ 139 → I' o = I o) (h1 : I' 1 3 = I 1 3 ∧ I' 1 12 = I 1 12) (h130 : I' 130 9 = I 130 9 ∧ I' 130 19 = I 130 19 ∧ I' 130 30 = I 130 30 ∧ I' 130 32 = I 130 32 ∧ I' 130 34 = I 130 34) (hc : v_causes I') (hl : v_log I' T') (h : v_rest bc T I J n) : v_rest bc T' I' J n := by
  obtain ⟨h2, -, -, ⟨r, r1, r2, r3, r4, r5⟩, h6, ⟨g1, g2, g3⟩, ⟨w1, w2⟩⟩ := h
  obtain ⟨z9, z19, z30, z32, z34⟩ := h130
  have e42 : I' 42 = I 42 := ho 42 rfl (by decide) (by decide) (by decide) (by decide) (by decide) (by decide)
  have e146 : I' 146 = I 146 := ho 146 rfl (by decide) (by decide) (by decide) (by decide) (by decide) (by decide)
  have e86 : I' 86 = I 86 := ho 86 rfl (by decide) (by decide) (by decide) (by decide) (by decide) (by decide)
  have e88 : I' 88 = I 88 := ho 88 rfl (by decide) (by decide) (by decide) (by decide) (by decide) (by decide)
  have e144 : I' 144 = I 144 := ho 144 rfl (by decide) (by decide) (by decide) (by decide) (by decide) (by decide)
  have e113 : I' 113 = I 113 := ho 113 rfl (by decide) (by decide) (by decide) (by decide) (by decide) (by decide)
  have e145 : I' 145 = I 145 := ho 145 rfl (by decide) (by decide) (by decide) (by decide) (by decide) (by decide)
  have e133 : I' 133 = I 133 := ho 133 rfl (by decide) (by decide) (by decide) (by decide) (by decide) (by decide)
  have e134 : I' 134 = I 134 := ho 134 rfl (by decide) (by decide) (by decide) (by decide) (by decide) (by decide)
  refine ⟨fun s hs => v_shelf_congr (ho _ ?_ (by omega) (by omega) (by omega) (by omega) (by omega) (by omega)) e133 e134 rfl rfl (h2 s hs), hc, hl, ⟨r, r1, by rw [e86]; exact r2, by rw [z30]; exact r3, by rw [z32, e86]; exact r4, fun i hi hi2 => by rw [e88, e144]; exact r5 i hi hi2⟩, fun i hi => by rw [e113, e145]; exact h6 i hi, ⟨by rw [h1.1, z34]; exact g1, by rw [h1.1]; exact g2, fun hz => ?_⟩, by rw [h1.2, z9]; exact w1, by rw [z19]; exact w2⟩
  · have : Nat.ble 110 (114 + 2 * s) = true ∧ Nat.blt (114 + 2 * s) 130 = true := ⟨Nat.ble_eq.mpr (by omega), Nat.ble_eq.mpr (by omega)⟩
    simp [q_rel, this.1, this.2]
  · rw [h1.1] at hz
    obtain ⟨n', h', b1, b2, b3, b4, b5⟩ := g3 hz
    have hr : ∀ o, 42 ≤ o → o < 81 → I' o = I o := fun o a b => ho o (by
      have : Nat.ble 42 o = true ∧ Nat.blt o 81 = true := ⟨Nat.ble_eq.mpr (by omega), Nat.ble_eq.mpr (by omega)⟩
      simp [q_rel, this.1, this.2]) (by omega) (by omega) (by omega) (by omega) (by omega) (by omega)
    exact ⟨n', h', v_host_congr e42 (fun p hp => hr _ (by omega) (by omega)) (fun p hp => hr _ (by omega) (by omega)) e146 e146 b1, by rw [e146]; exact b2, by rw [e146]; exact b3, by rw [e42, e146]; exact b4, by rw [e42, e146]; exact b5⟩
theorem q_rel_out {o : Nat} (h : q_rel o = true) : (o < 6 ∨ 18 ≤ o) ∧ o ≠ 3 ∧ o ≠ 81 ∧ o ≠ 82 ∧ o ≠ 83 ∧ o ≠ 85 ∧ o ≠ 130 ∧ o ≠ 131 ∧ o ≠ 137 ∧ o ≠ 138 ∧ o ≠ 140 ∧ o ≠ 147 := by
  refine ⟨?_, ?_, ?_, ?_, ?_, ?_, ?_, ?_, ?_, ?_, ?_, ?_⟩
  · by_cases e : o < 6 ∨ 18 ≤ o
    · exact e
    · have hall : ∀ p, p < 12 → q_rel (6 + p) = false := by decide
      have := hall (o - 6) (by omega)
      rw [show 6 + (o - 6) = o by omega, h] at this
      exact absurd this (by decide)
  all_goals (intro e; rw [e] at h; exact absurd h (by decide))
theorem q_J_dyn {c n hk k : Nat} {I I1 I2 : Nat → Nat → Int32} {T R : Nat → Int32} {ck sd : Int32} {J : Nat → Nat → Int64} {t : Nat} (m : v_main q_bc I n hk) (h : q_J c I J t) (c1 : q_rc I1 n T R ck sd k) (f1 : q_fc I I1) (c2 : q_rmm I2 n T R ck sd k) (f2 : q_fm I1 I2) (hkk : k ≤ 4000 * (c + 1)) : q_J (c + 1) I2 J t := by
  have hrest := q_J_rest m h
  obtain ⟨⟨a1, a2, a3, a4, a5, a6⟩, m2, m3, m4, m5⟩ := id m
  have h21 : ∀ o, o < 130 → I2 o = I1 o := fun o ho => f2.1 o (by omega) (by omega) (by omega) (by omega) (by omega) (by omega) (by omega)
  have c3 := q_rc_congr (I' := I2) a3 (fun o ho _ _ _ _ _ _ _ => h21 o ho) c1
  obtain ⟨r1, r2, r3, r4, r5, r6⟩ := c3
  obtain ⟨s1, s2, s3, s4, s5, s6, s7⟩ := id c2
  have eT : q_ar 131 I2 T = I2 := by rw [← s2]; exact q_ar_self
  rw [eT] at r2
  have hall : ∀ o, q_rel o = true → o ≠ 110 → o ≠ 111 → o ≠ 139 → I2 o = I o := fun o ho x1 x2 x3 => by
    obtain ⟨y1, y2, y3, y4, y5, y6, y7, y8, y9, y10, y11, y12⟩ := q_rel_out ho
    rw [f2.1 o y7 y8 y9 y10 x3 y11 y12, f1.1 o y1 y2 x1 x2 y3 y4 y5 y6]
  obtain ⟨u4, u9, u12, u30, u32, u34⟩ := f2.2
  have v130 : ∀ b, I1 130 b = I 130 b := fun b => by rw [f1.1 130 (by decide) (by decide) (by decide) (by decide) (by decide) (by decide) (by decide) (by decide)]
  have v1 : I2 1 = I 1 := hall 1 rfl (by decide) (by decide) (by decide)
  have hh : ∀ i, i < 24 → I2 (18 + i) = I (18 + i) := fun i hi => by rw [h21 _ (by omega), f1.1 _ (by omega) (by omega) (by omega) (by omega) (by omega) (by omega) (by omega) (by omega)]
  have h132 : I2 132 = I 132 := by rw [f2.1 132 (by decide) (by decide) (by decide) (by decide) (by decide) (by decide) (by decide), f1.1 132 (by decide) (by decide) (by decide) (by decide) (by decide) (by decide) (by decide) (by decide)]
  obtain ⟨-, ⟨cc, cc1, cc2, cc3, cc4⟩, -, -, -, -, -, w2⟩ := id hrest
  refine ⟨n, hk, ⟨⟨r1, by rw [h21 3 (by decide), f1.2]; exact a2, a3, a4, fun p hp => r2 p hp, fun i hi => v_hook_congr (hh i (by omega)) h132 (a6 i hi)⟩, s1, by rw [u4, v130]; exact m3, by rw [r3, s3], by rw [r4, s4]⟩, ?_⟩
  refine v_rest_dyn (fun o ho _ x1 x2 _ _ x3 => hall o ho x1 x2 x3) (by rw [v1]; exact ⟨rfl, rfl⟩) ⟨by rw [u9, v130], by rw [s7, w2], by rw [u30, v130], by rw [u32, v130], by rw [u34, v130]⟩ ⟨cc, cc1, by rw [v1]; exact cc2, by rw [u12, v130]; exact cc3, fun i hi w hw => by rw [hall 112 rfl (by decide) (by decide) (by decide), hall 136 rfl (by decide) (by decide) (by decide)]; exact cc4 i hi w hw⟩ ⟨k, hkk, r5, s5, fun i hi => by rw [r6 i hi, s6 i hi]⟩ hrest
/-- at a call's begin -/
theorem q_J_rc {c n hk : Nat} {I : Nat → Nat → Int32} {J : Nat → Nat → Int64} {t : Nat} (m : v_main q_bc I n hk) (h : q_J c I J t) : ∃ k, k ≤ 4000 * c ∧ q_rc I n (I 131) (I 139) (I 130 2) (I 130 3) k ∧ ∀ I1, (∀ o, 130 ≤ o → I1 o = I o) → q_rmm I1 n (I 131) (I 139) (I 130 2) (I 130 3) k := by
  obtain ⟨n0, hk0, m0, h2, h3, ⟨k, k1, k2, k3, k4⟩, h5, h6, h7, ⟨w1, w2⟩⟩ := id h
  obtain ⟨⟨a1, a2, a3, a4, a5, a6⟩, m2, m3, m4, m5⟩ := id m
  refine ⟨k, k1, ⟨a1, fun p hp => by rw [q_ar_self]; exact a5 p hp, m4, m5, k2, k4⟩, fun I1 ho => ?_⟩
  have e130 := ho 130 (by decide)
  exact ⟨by rw [e130]; exact m2, ho 131 (by decide), by rw [e130], by rw [e130], by rw [e130]; exact k3, fun i hi => by rw [ho 139 (by decide)], by rw [e130]; exact w2⟩
theorem q_fc_130 {I I1 : Nat → Nat → Int32} (f : q_fc I I1) : ∀ o, 130 ≤ o → I1 o = I o := fun o ho => f.1 o (by omega) (by omega) (by omega) (by omega) (by omega) (by omega) (by omega) (by omega)
section DYN2
variable {L c : Nat} {I : Nat → Nat → Int32} {J : Nat → Nat → Int64} {t : Nat}
theorem t_stop {x : Int32} (hc : c < 512) (h : q_J c I J t) : q_SI 100 94 187 [.int x] (q_J (c + 1)) L I J t := by
  obtain ⟨n, hk, m, h2, h3, h4, h5, h6, h7, h8⟩ := id h
  obtain ⟨⟨a1, a2, a3, a4, a5, a6⟩, m2, m3, m4, m5⟩ := id m
  have m2' : ∀ k v, q_u I 113 k v 130 0 = nI n := fun k v => by rw [q_u_ne (by decide)]; exact m2
  unfold q_SI
  rw [e_C_stop, s_hasPlug a1 a3, q_onI_i, g_C_stop_8]
  cases hb : q_in x n with
  | false =>
    simp only [q_onI_i, q_onJ_j, q_onS_s, q_onB_t, true_and, and_true, true_or, or_true, eq_self, true_implies, not_true_eq_false, not_false_eq_true, false_implies, q_bb0, q_bbok, q_bbok2, Bool.true_eq_false, Bool.false_eq_true, reduceCtorEq, s_refuse1, g_C_stop_16]
    refine ⟨_, _, _, _, rfl, rfl, q_u_ne (by decide), ?_⟩
    rw [e_M_stop, s_isPlug (m2' _ _) a3, hb, q_onI_i, g_M_stop_5]
    simp only [q_onI_i, q_onJ_j, q_onS_s, q_onB_t, true_and, and_true, true_or, or_true, eq_self, true_implies, not_true_eq_false, not_false_eq_true, false_implies, q_bb0, q_bbok, q_bbok2, Bool.true_eq_false, Bool.false_eq_true, reduceCtorEq, s_no1, g_M_stop_13]
    exact ⟨_, _, _, rfl, q_J_refuse 1 h⟩
  | true =>
    obtain ⟨p, hp, rfl⟩ := q_in_get hb
    obtain ⟨b1, -⟩ := a5 p hp
    simp only [q_onI_i, q_onJ_j, q_onS_s, q_onB_t, true_and, and_true, true_or, or_true, eq_self, true_implies, not_true_eq_false, not_false_eq_true, false_implies, q_bb0, q_bbok, q_bbok2, Bool.true_eq_false, Bool.false_eq_true, reduceCtorEq, s_runs a1 a3, hb, q_clamp (show p < 2 ^ 31 by omega), g_C_stop_25, Bool.true_and, b1.2.2.2.2.2.2.1]
    by_cases hr : I 131 p = 1
    · obtain ⟨k, k1, k2, k3⟩ := q_J_rc m h
      obtain ⟨I1, c1, f1, c3⟩ := c_stop (L := L) (J := J) (t := t) (d := 93) a3 k2 hp hr (by omega)
      have r1 := k3 I1 (q_fc_130 f1)
      obtain ⟨I2, d1, f2, d3⟩ := m_stop (L := L) (J := J) (t := t) (d := 94) a3 r1 hp hr (by omega)
      simp only [hr, decide_true, q_onI_i, q_onJ_j, q_onS_s, q_onB_t, true_and, and_true, true_or, or_true, eq_self, true_implies, not_true_eq_false, not_false_eq_true, false_implies, q_bb0, q_bbok, q_bbok2, Bool.true_eq_false, Bool.false_eq_true, reduceCtorEq, c3, g_C_stop_40]
      refine ⟨_, _, _, _, rfl, rfl, f1.1 0 (by decide) (by decide) (by decide) (by decide) (by decide) (by decide) (by decide) (by decide), ?_⟩
      rw [e_M_stop, s_isPlug r1.1 a3, hb, q_onI_i, g_M_stop_5]
      simp only [q_onI_i, q_onJ_j, q_onS_s, q_onB_t, true_and, and_true, true_or, or_true, eq_self, true_implies, not_true_eq_false, not_false_eq_true, false_implies, q_bb0, q_bbok, q_bbok2, Bool.true_eq_false, Bool.false_eq_true, reduceCtorEq, s_state (show p < 108 by omega), g_M_stop_19, r1.2.1, hr, d3, g_M_stop_28, g_M_stop_37]
      refine ⟨_, _, _, rfl, q_J_dyn m h c1 f1 d1 f2 ?_⟩
      have := q_stp_k (T := I 131) (R := I 139) (n := n) (k := k) (x := p)
      omega
    · simp only [decide_eq_false hr, q_onI_i, q_onJ_j, q_onS_s, q_onB_t, true_and, and_true, true_or, or_true, eq_self, true_implies, not_true_eq_false, not_false_eq_true, false_implies, q_bb0, q_bbok, q_bbok2, Bool.true_eq_false, Bool.false_eq_true, reduceCtorEq, s_refuse6, g_C_stop_34]
      refine ⟨_, _, _, _, rfl, rfl, q_u_ne (by decide), ?_⟩
      rw [e_M_stop, s_isPlug (m2' _ _) a3, hb, q_onI_i, g_M_stop_5]
      simp only [q_onI_i, q_onJ_j, q_onS_s, q_onB_t, true_and, and_true, true_or, or_true, eq_self, true_implies, not_true_eq_false, not_false_eq_true, false_implies, q_bb0, q_bbok, q_bbok2, Bool.true_eq_false, Bool.false_eq_true, reduceCtorEq, s_state (show p < 108 by omega), g_M_stop_19, q_u_ne (show 131 ≠ 113 by decide), hr, s_no6, g_M_stop_37]
      exact ⟨_, _, _, rfl, q_J_refuse 6 h⟩
theorem t_remove {x : Int32} (hc : c < 512) (h : q_J c I J t) : q_SI 100 97 190 [.int x] (q_J (c + 1)) L I J t := by
  obtain ⟨n, hk, m, h2, h3, h4, h5, h6, h7, h8⟩ := id h
  obtain ⟨⟨a1, a2, a3, a4, a5, a6⟩, m2, m3, m4, m5⟩ := id m
  have m2' : ∀ k v, q_u I 113 k v 130 0 = nI n := fun k v => by rw [q_u_ne (by decide)]; exact m2
  unfold q_SI
  rw [e_C_remove, s_hasPlug a1 a3, q_onI_i, g_C_remove_8]
  cases hb : q_in x n with
  | false =>
    simp only [q_onI_i, q_onJ_j, q_onS_s, q_onB_t, true_and, and_true, true_or, or_true, eq_self, true_implies, not_true_eq_false, not_false_eq_true, false_implies, q_bb0, q_bbok, q_bbok2, Bool.true_eq_false, Bool.false_eq_true, reduceCtorEq, s_refuse1, g_C_remove_16]
    refine ⟨_, _, _, _, rfl, rfl, q_u_ne (by decide), ?_⟩
    rw [e_M_remove, s_isPlug (m2' _ _) a3, hb, q_onI_i, g_M_remove_5]
    simp only [q_onI_i, q_onJ_j, q_onS_s, q_onB_t, true_and, and_true, true_or, or_true, eq_self, true_implies, not_true_eq_false, not_false_eq_true, false_implies, q_bb0, q_bbok, q_bbok2, Bool.true_eq_false, Bool.false_eq_true, reduceCtorEq, s_no1, g_M_remove_13]
    exact ⟨_, _, _, rfl, q_J_refuse 1 h⟩
  | true =>
    obtain ⟨p, hp, rfl⟩ := q_in_get hb
    obtain ⟨b1, -⟩ := a5 p hp
    have hp12 : p < 12 := by omega
    simp only [q_onI_i, q_onJ_j, q_onS_s, q_onB_t, true_and, and_true, true_or, or_true, eq_self, true_implies, not_true_eq_false, not_false_eq_true, false_implies, q_bb0, q_bbok, q_bbok2, Bool.true_eq_false, Bool.false_eq_true, reduceCtorEq, q_clamp (show p < 2 ^ 31 by omega), q_bnd hp12 (by decide), r_plug hp12, i_plug hp12, b1.2.2.2.2.2.2.1]
    obtain ⟨k, k1, k2, k3⟩ := q_J_rc m h
    by_cases h3 : I 131 p = 3
    · rw [q_br h3]
      simp only [q_onI_i, q_onJ_j, q_onS_s, q_onB_t, true_and, and_true, true_or, or_true, eq_self, true_implies, not_true_eq_false, not_false_eq_true, false_implies, q_bb0, q_bbok, q_bbok2, Bool.true_eq_false, Bool.false_eq_true, reduceCtorEq, s_refuse6, g_C_remove_41]
      refine ⟨_, _, _, _, rfl, rfl, q_u_ne (by decide), ?_⟩
      rw [e_M_remove, s_isPlug (m2' _ _) a3, hb, q_onI_i, g_M_remove_5]
      simp only [q_onI_i, q_onJ_j, q_onS_s, q_onB_t, true_and, and_true, true_or, or_true, eq_self, true_implies, not_true_eq_false, not_false_eq_true, false_implies, q_bb0, q_bbok, q_bbok2, Bool.true_eq_false, Bool.false_eq_true, reduceCtorEq, s_state (show p < 108 by omega), g_M_remove_19, q_u_ne (show 131 ≠ 113 by decide), h3, s_no6, g_M_remove_29]
      exact ⟨_, _, _, rfl, q_J_refuse 6 h⟩
    · rw [q_brn h3]
      by_cases hr : I 131 p = 1
      · obtain ⟨I1, c1, f1, c3⟩ := c_stop (L := L) (J := J) (t := t) (d := 93) a3 k2 hp hr (by omega)
        have r1 := k3 I1 (q_fc_130 f1)
        have c4 := q_rc_off a3 hp (x := 3) (by decide) ⟨by decide, by decide⟩ c1
        have f4 : q_fc I (q_u I1 (6 + p) 9 3) := q_fc_trans f1 (q_fc_off hp12)
        have r4 := k3 _ (q_fc_130 f4)
        obtain ⟨I2, d1, f2, d3⟩ := m_stop (L := L) (J := J) (t := t) (d := 94) a3 r4 hp hr (by omega)
        have d4 := q_rmm_off (p := p) (x := 3) d1
        have f5 := q_fm_trans f2 (q_fm_off (I := I2) (p := p) (x := 3))
        rw [q_br hr, c3, q_onI_i, g_C_remove_55, i_plug hp12, q_onB_t]
        refine ⟨_, _, _, _, rfl, rfl, f4.1 0 (by decide) (by decide) (by decide) (by decide) (by decide) (by decide) (by decide) (by decide), ?_⟩
        rw [e_M_remove, s_isPlug r4.1 a3, hb, q_onI_i, g_M_remove_5]
        simp only [q_onI_i, q_onJ_j, q_onS_s, q_onB_t, true_and, and_true, true_or, or_true, eq_self, true_implies, not_true_eq_false, not_false_eq_true, false_implies, q_bb0, q_bbok, q_bbok2, Bool.true_eq_false, Bool.false_eq_true, reduceCtorEq, s_state (show p < 108 by omega), g_M_remove_19, r4.2.1]
        rw [q_brn h3]
        simp only [q_onI_i, q_onJ_j, q_onS_s, q_onB_t, true_and, and_true, true_or, or_true, eq_self, true_implies, not_true_eq_false, not_false_eq_true, false_implies, q_bb0, q_bbok, q_bbok2, Bool.true_eq_false, Bool.false_eq_true, reduceCtorEq, s_state (show p < 108 by omega), g_M_remove_35, r4.2.1]
        rw [q_br hr, d3, q_onI_i, g_M_remove_44, q_clamp (show p < 2 ^ 31 by omega)]
        refine ⟨q_bnd (show p < 108 by omega) (by decide) ▸ trivial, rfl, _, _, _, rfl, q_J_dyn m h c4 f4 d4 f5 ?_⟩
        have := q_stp_k (T := I 131) (R := I 139) (n := n) (k := k) (x := p)
        omega
      · have c4 := q_rc_off a3 hp (x := 3) (by decide) ⟨by decide, by decide⟩ k2
        have f4 : q_fc I (q_u I (6 + p) 9 3) := q_fc_off hp12
        have r4 := k3 _ (q_fc_130 f4)
        have d4 := q_rmm_off (p := p) (x := 3) r4
        rw [q_brn hr]
        refine ⟨_, _, _, _, rfl, rfl, f4.1 0 (by decide) (by decide) (by decide) (by decide) (by decide) (by decide) (by decide) (by decide), ?_⟩
        rw [e_M_remove, s_isPlug r4.1 a3, hb, q_onI_i, g_M_remove_5]
        simp only [q_onI_i, q_onJ_j, q_onS_s, q_onB_t, true_and, and_true, true_or, or_true, eq_self, true_implies, not_true_eq_false, not_false_eq_true, false_implies, q_bb0, q_bbok, q_bbok2, Bool.true_eq_false, Bool.false_eq_true, reduceCtorEq, s_state (show p < 108 by omega), g_M_remove_19, r4.2.1]
        rw [q_brn h3]
        simp only [q_onI_i, q_onJ_j, q_onS_s, q_onB_t, true_and, and_true, true_or, or_true, eq_self, true_implies, not_true_eq_false, not_false_eq_true, false_implies, q_bb0, q_bbok, q_bbok2, Bool.true_eq_false, Bool.false_eq_true, reduceCtorEq, s_state (show p < 108 by omega), g_M_remove_35, r4.2.1]
        rw [q_brn hr, q_clamp (show p < 2 ^ 31 by omega)]
        exact ⟨q_bnd (show p < 108 by omega) (by decide) ▸ trivial, _, _, _, rfl, q_J_dyn m h c4 f4 d4 (q_fm_off) (by omega)⟩
end DYN2
