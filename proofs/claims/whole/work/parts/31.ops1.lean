/-! calls that read, or write one place -/
def q_bc (x0 : Int32) : Int32 := ((((((((x0 - (((x0.toUInt32 >>> ((1 : Int32).toUInt32 &&& Int32.toUInt32 31)).toInt32) &&& (1431655765 : Int32))) &&& (858993459 : Int32)) + ((((x0 - (((x0.toUInt32 >>> ((1 : Int32).toUInt32 &&& Int32.toUInt32 31)).toInt32) &&& (1431655765 : Int32))).toUInt32 >>> ((2 : Int32).toUInt32 &&& Int32.toUInt32 31)).toInt32) &&& (858993459 : Int32))) + (((((x0 - (((x0.toUInt32 >>> ((1 : Int32).toUInt32 &&& Int32.toUInt32 31)).toInt32) &&& (1431655765 : Int32))) &&& (858993459 : Int32)) + ((((x0 - (((x0.toUInt32 >>> ((1 : Int32).toUInt32 &&& Int32.toUInt32 31)).toInt32) &&& (1431655765 : Int32))).toUInt32 >>> ((2 : Int32).toUInt32 &&& Int32.toUInt32 31)).toInt32) &&& (858993459 : Int32))).toUInt32 >>> ((4 : Int32).toUInt32 &&& Int32.toUInt32 31)).toInt32)) &&& (252645135 : Int32)) + (((((((x0 - (((x0.toUInt32 >>> ((1 : Int32).toUInt32 &&& Int32.toUInt32 31)).toInt32) &&& (1431655765 : Int32))) &&& (858993459 : Int32)) + ((((x0 - (((x0.toUInt32 >>> ((1 : Int32).toUInt32 &&& Int32.toUInt32 31)).toInt32) &&& (1431655765 : Int32))).toUInt32 >>> ((2 : Int32).toUInt32 &&& Int32.toUInt32 31)).toInt32) &&& (858993459 : Int32))) + (((((x0 - (((x0.toUInt32 >>> ((1 : Int32).toUInt32 &&& Int32.toUInt32 31)).toInt32) &&& (1431655765 : Int32))) &&& (858993459 : Int32)) + ((((x0 - (((x0.toUInt32 >>> ((1 : Int32).toUInt32 &&& Int32.toUInt32 31)).toInt32) &&& (1431655765 : Int32))).toUInt32 >>> ((2 : Int32).toUInt32 &&& Int32.toUInt32 31)).toInt32) &&& (858993459 : Int32))).toUInt32 >>> ((4 : Int32).toUInt32 &&& Int32.toUInt32 31)).toInt32)) &&& (252645135 : Int32)).toUInt32 >>> ((8 : Int32).toUInt32 &&& Int32.toUInt32 31)).toInt32)) + ((((((((x0 - (((x0.toUInt32 >>> ((1 : Int32).toUInt32 &&& Int32.toUInt32 31)).toInt32) &&& (1431655765 : Int32))) &&& (858993459 : Int32)) + ((((x0 - (((x0.toUInt32 >>> ((1 : Int32).toUInt32 &&& Int32.toUInt32 31)).toInt32) &&& (1431655765 : Int32))).toUInt32 >>> ((2 : Int32).toUInt32 &&& Int32.toUInt32 31)).toInt32) &&& (858993459 : Int32))) + (((((x0 - (((x0.toUInt32 >>> ((1 : Int32).toUInt32 &&& Int32.toUInt32 31)).toInt32) &&& (1431655765 : Int32))) &&& (858993459 : Int32)) + ((((x0 - (((x0.toUInt32 >>> ((1 : Int32).toUInt32 &&& Int32.toUInt32 31)).toInt32) &&& (1431655765 : Int32))).toUInt32 >>> ((2 : Int32).toUInt32 &&& Int32.toUInt32 31)).toInt32) &&& (858993459 : Int32))).toUInt32 >>> ((4 : Int32).toUInt32 &&& Int32.toUInt32 31)).toInt32)) &&& (252645135 : Int32)) + (((((((x0 - (((x0.toUInt32 >>> ((1 : Int32).toUInt32 &&& Int32.toUInt32 31)).toInt32) &&& (1431655765 : Int32))) &&& (858993459 : Int32)) + ((((x0 - (((x0.toUInt32 >>> ((1 : Int32).toUInt32 &&& Int32.toUInt32 31)).toInt32) &&& (1431655765 : Int32))).toUInt32 >>> ((2 : Int32).toUInt32 &&& Int32.toUInt32 31)).toInt32) &&& (858993459 : Int32))) + (((((x0 - (((x0.toUInt32 >>> ((1 : Int32).toUInt32 &&& Int32.toUInt32 31)).toInt32) &&& (1431655765 : Int32))) &&& (858993459 : Int32)) + ((((x0 - (((x0.toUInt32 >>> ((1 : Int32).toUInt32 &&& Int32.toUInt32 31)).toInt32) &&& (1431655765 : Int32))).toUInt32 >>> ((2 : Int32).toUInt32 &&& Int32.toUInt32 31)).toInt32) &&& (858993459 : Int32))).toUInt32 >>> ((4 : Int32).toUInt32 &&& Int32.toUInt32 31)).toInt32)) &&& (252645135 : Int32)).toUInt32 >>> ((8 : Int32).toUInt32 &&& Int32.toUInt32 31)).toInt32)).toUInt32 >>> ((16 : Int32).toUInt32 &&& Int32.toUInt32 31)).toInt32)) &&& (63 : Int32))
theorem s_bitCount {L d : Nat} {Q : Value → q_Mem → Prop} {I : Nat → Nat → Int32} {J : Nat → Nat → Int64} {t : Nat} {x : Int32} : q_W (d + 1) 222 [.int x] (q_mm L I J t) Q = Q (.int (q_bc x)) (q_mm L I J t) := e_Integer_bitCount
/-- what a call's two sides keep: c calls are behind -/
def q_J (c : Nat) (I : Nat → Nat → Int32) (J : Nat → Nat → Int64) (t : Nat) : Prop := v_Inv q_bc (4000 * c) I J t
theorem q_J_next {c : Nat} {I : Nat → Nat → Int32} {J : Nat → Nat → Int64} {t : Nat} (h : q_J c I J t) : q_J (c + 1) I J t := by
  obtain ⟨n, hk, m, h2, h3, ⟨k, k1, k2⟩, h5⟩ := h
  exact ⟨n, hk, m, h2, h3, ⟨k, by omega, k2⟩, h5⟩
theorem q_J_refuse {c : Nat} {I : Nat → Nat → Int32} {J : Nat → Nat → Int64} {t : Nat} (k : Nat) (h : q_J c I J t) : q_J (c + 1) (q_u (q_u I 113 k (I 113 k + 1)) 145 k (q_u I 113 k (I 113 k + 1) 145 k + 1)) J t := q_J_next (v_Inv_refuse k h)
/-- the objects that the rest of the invariant reads -/
def q_rel (o : Nat) : Bool := o == 1 || (Nat.ble 42 o && Nat.blt o 81) || o == 86 || o == 88 || (Nat.ble 110 o && Nat.blt o 130) || o == 133 || o == 134 || o == 136 || o == 139 || o == 144 || o == 145 || o == 146
def v_rest (bc : Int32 → Int32) (T : Nat) (I : Nat → Nat → Int32) (J : Nat → Nat → Int64) (n : Nat) : Prop := v_shelves I J n ∧ v_causes I ∧ v_log I T ∧ v_fired I ∧ v_ref I ∧ v_img bc I ∧ v_misc I
theorem v_shelf_le {I : Nat → Nat → Int32} {J : Nat → Nat → Int64} {n n' s : Nat} (hn : n ≤ n') (h : v_shelf I J n s) : v_shelf I J n' s := by
  rcases h with h | h | ⟨p, h1, h2⟩
  · exact Or.inl h
  · exact Or.inr (Or.inl h)
  · exact Or.inr (Or.inr ⟨p, by omega, h2⟩)
theorem v_rest_congr {bc : Int32 → Int32} {T : Nat} {I I' : Nat → Nat → Int32} {J : Nat → Nat → Int64} {n n' : Nat} (hn : n ≤ n') (ho : ∀ o, q_rel o = true → I' o = I o) (h130 : I' 130 9 = I 130 9 ∧ I' 130 12 = I 130 12 ∧ I' 130 19 = I 130 19 ∧ I' 130 20 = I 130 20 ∧ I' 130 30 = I 130 30 ∧ I' 130 32 = I 130 32 ∧ I' 130 34 = I 130 34) (h : v_rest bc T I J n) : v_rest bc T I' J n' := by
  obtain ⟨h2, ⟨c, c1, c2, c3, c4⟩, ⟨k, k1, k2, k3, k4⟩, ⟨r, r1, r2, r3, r4, r5⟩, h6, ⟨g1, g2, g3⟩, ⟨w1, w2⟩⟩ := h
  obtain ⟨z9, z12, z19, z20, z30, z32, z34⟩ := h130
  have e1 : I' 1 = I 1 := ho 1 rfl
  have e42 : I' 42 = I 42 := ho 42 rfl
  have e146 : I' 146 = I 146 := ho 146 rfl
  refine ⟨fun s hs => v_shelf_le hn (v_shelf_congr (ho _ ?_) (ho _ rfl) (ho _ rfl) rfl rfl (h2 s hs)), ⟨c, c1, by rw [e1]; exact c2, by rw [z12]; exact c3, fun i hi w hw => by rw [ho 112 rfl, ho 136 rfl]; exact c4 i hi w hw⟩, ⟨k, k1, by rw [ho 110 rfl]; exact k2, by rw [z20]; exact k3, fun i hi => by rw [ho 111 rfl, ho 139 rfl]; exact k4 i hi⟩, ⟨r, r1, by rw [ho 86 rfl]; exact r2, by rw [z30]; exact r3, by rw [z32, ho 86 rfl]; exact r4, fun i hi hi2 => by rw [ho 88 rfl, ho 144 rfl]; exact r5 i hi hi2⟩, fun i hi => by rw [ho 113 rfl, ho 145 rfl]; exact h6 i hi, ⟨by rw [e1, z34]; exact g1, by rw [e1]; exact g2, fun hz => ?_⟩, by rw [e1, z9]; exact w1, by rw [z19]; exact w2⟩
  · have : Nat.ble 110 (114 + 2 * s) = true ∧ Nat.blt (114 + 2 * s) 130 = true := ⟨Nat.ble_eq.mpr (by omega), Nat.ble_eq.mpr (by omega)⟩
    simp [q_rel, this.1, this.2]
  · rw [e1] at hz
    obtain ⟨n', h', b1, b2, b3, b4, b5⟩ := g3 hz
    have hr : ∀ o, 42 ≤ o → o < 81 → I' o = I o := fun o a b => ho o (by
      have : Nat.ble 42 o = true ∧ Nat.blt o 81 = true := ⟨Nat.ble_eq.mpr (by omega), Nat.ble_eq.mpr (by omega)⟩
      simp [q_rel, this.1, this.2])
    exact ⟨n', h', v_host_congr e42 (fun p hp => hr _ (by omega) (by omega)) (fun p hp => hr _ (by omega) (by omega)) e146 e146 b1, by rw [e146]; exact b2, by rw [e146]; exact b3, by rw [e42, e146]; exact b4, by rw [e42, e146]; exact b5⟩
section OPS1
variable {L c : Nat} {I : Nat → Nat → Int32} {J : Nat → Nat → Int64} {t : Nat}
theorem t_fault (h : q_J c I J t) : q_SI 100 87 167 [] (q_J (c + 1)) L I J t := by
  obtain ⟨n, hk, m, h2, h3, h4, h5, h6, h7, h8⟩ := id h
  unfold q_SI
  rw [e_C_fault]
  refine ⟨_, _, _, _, rfl, rfl, rfl, ?_⟩
  rw [e_M_fault]
  exact ⟨by rw [h8.1], _, _, _, rfl, q_J_next h⟩
theorem t_given (h : q_J c I J t) : q_SI 100 105 205 [] (q_J (c + 1)) L I J t := by
  obtain ⟨n, hk, m, h2, h3, h4, ⟨r, r1, r2, r3, r4, r5⟩, h6, h7, h8⟩ := id h
  unfold q_SI
  rw [e_C_given]
  refine ⟨_, _, _, _, rfl, rfl, rfl, ?_⟩
  rw [e_M_given]
  exact ⟨by rw [r4], _, _, _, rfl, q_J_next h⟩
theorem t_tally {x : Int32} (h : q_J c I J t) : q_SI 100 90 170 [.int x] (q_J (c + 1)) L I J t := by
  obtain ⟨n, hk, ⟨⟨a1, a2, a3, a4, a5, a6⟩, m2, m3, m4, m5⟩, h2, h3, h4, h5, h6, h7, h8⟩ := id h
  unfold q_SI
  rw [e_C_tally, s_hasPlug a1 a3, q_onI_i, g_C_tally_8]
  cases hb : q_in x n with
  | false =>
    simp only [q_onI_i, q_onJ_j, q_onS_s, q_onB_t, true_and, and_true, true_or, or_true, eq_self, true_implies, not_true_eq_false, not_false_eq_true, false_implies, q_bb0, q_bbok, q_bbok2, Bool.true_eq_false, Bool.false_eq_true, reduceCtorEq]
    refine ⟨_, _, _, _, rfl, rfl, rfl, ?_⟩
    rw [e_M_tally, s_isPlug m2 a3, hb, q_onI_i, g_M_tally_5]
    simp only [q_onI_i, q_onJ_j, q_onS_s, q_onB_t, true_and, and_true, true_or, or_true, eq_self, true_implies, not_true_eq_false, not_false_eq_true, false_implies, q_bb0, q_bbok, q_bbok2, Bool.true_eq_false, Bool.false_eq_true, reduceCtorEq]
    exact ⟨_, _, _, rfl, q_J_next h⟩
  | true =>
    obtain ⟨p, hp, rfl⟩ := q_in_get hb
    simp only [q_onI_i, q_onJ_j, q_onS_s, q_onB_t, true_and, and_true, true_or, or_true, eq_self, true_implies, not_true_eq_false, not_false_eq_true, false_implies, q_bb0, q_bbok, q_bbok2, Bool.true_eq_false, Bool.false_eq_true, reduceCtorEq, q_clamp (show p < 2 ^ 31 by omega), q_bnd (show p < 12 by omega) (by decide), r_plug (show p < 12 by omega), i_plug (show p < 12 by omega)]
    refine ⟨_, _, _, _, rfl, rfl, rfl, ?_⟩
    rw [e_M_tally, s_isPlug m2 a3, hb, q_onI_i, g_M_tally_5]
    simp only [q_onI_i, q_onJ_j, q_onS_s, q_onB_t, true_and, and_true, true_or, or_true, eq_self, true_implies, not_true_eq_false, not_false_eq_true, false_implies, q_bb0, q_bbok, q_bbok2, Bool.true_eq_false, Bool.false_eq_true, reduceCtorEq]
    rw [show (8 : Int32) = nI 8 by decide, s_of (by omega), q_onI_i, g_M_tally_15]
    exact ⟨by rw [(a5 p hp).1.2.2.2.2.2.2.2], _, _, _, rfl, q_J_next h⟩
theorem t_age {x : Int32} (h : q_J c I J t) : q_SI 100 89 169 [.int x] (q_J (c + 1)) L I J t := by
  obtain ⟨n, hk, ⟨⟨a1, a2, a3, a4, a5, a6⟩, m2, m3, m4, m5⟩, h2, h3, h4, h5, h6, h7, h8⟩ := id h
  unfold q_SI
  rw [e_C_age, s_hasPlug a1 a3, q_onI_i, g_C_age_8]
  cases hb : q_in x n with
  | false =>
    simp only [q_onI_i, q_onJ_j, q_onS_s, q_onB_t, true_and, and_true, true_or, or_true, eq_self, true_implies, not_true_eq_false, not_false_eq_true, false_implies, q_bb0, q_bbok, q_bbok2, Bool.true_eq_false, Bool.false_eq_true, reduceCtorEq, s_refuseT1, g_C_age_16]
    refine ⟨_, _, _, _, rfl, rfl, q_u_ne (by decide), ?_⟩
    rw [e_M_age, s_isPlug (by rw [q_u_ne (by decide)]; exact m2) a3, hb, q_onI_i, g_M_age_5]
    simp only [q_onI_i, q_onJ_j, q_onS_s, q_onB_t, true_and, and_true, true_or, or_true, eq_self, true_implies, not_true_eq_false, not_false_eq_true, false_implies, q_bb0, q_bbok, q_bbok2, Bool.true_eq_false, Bool.false_eq_true, reduceCtorEq, s_noT1, g_M_age_13]
    exact ⟨_, _, _, rfl, q_J_refuse 1 h⟩
  | true =>
    obtain ⟨p, hp, rfl⟩ := q_in_get hb
    obtain ⟨b1, b2, b3, b4, b5⟩ := a5 p hp
    simp only [q_onI_i, q_onJ_j, q_onS_s, q_onB_t, true_and, and_true, true_or, or_true, eq_self, true_implies, not_true_eq_false, not_false_eq_true, false_implies, q_bb0, q_bbok, q_bbok2, Bool.true_eq_false, Bool.false_eq_true, reduceCtorEq, s_runs a1 a3, hb, q_clamp (show p < 2 ^ 31 by omega), g_C_age_25, Bool.true_and, q_bnd (show p < 12 by omega) (by decide), r_plug (show p < 12 by omega), i_plug (show p < 12 by omega)]
    by_cases hr : I 131 p = 1
    · simp only [b1.2.2.2.2.2.2.1, hr, decide_true, q_onI_i, q_onJ_j, q_onS_s, q_onB_t, true_and, and_true, true_or, or_true, eq_self, true_implies, not_true_eq_false, not_false_eq_true, false_implies, q_bb0, q_bbok, q_bbok2, Bool.true_eq_false, Bool.false_eq_true, reduceCtorEq]
      refine ⟨_, _, _, _, rfl, rfl, rfl, ?_⟩
      rw [e_M_age, s_isPlug m2 a3, hb, q_onI_i, g_M_age_5]
      simp only [q_onI_i, q_onJ_j, q_onS_s, q_onB_t, true_and, and_true, true_or, or_true, eq_self, true_implies, not_true_eq_false, not_false_eq_true, false_implies, q_bb0, q_bbok, q_bbok2, Bool.true_eq_false, Bool.false_eq_true, reduceCtorEq, s_state (show p < 108 by omega), g_M_age_19, hr]
      rw [show (7 : Int32) = nI 7 by decide, s_of (by omega), q_onI_i, g_M_age_30]
      exact ⟨by rw [b2 hr], _, _, _, rfl, q_J_next h⟩
    · simp only [b1.2.2.2.2.2.2.1, hr, decide_false, q_onI_i, q_onJ_j, q_onS_s, q_onB_t, true_and, and_true, true_or, or_true, eq_self, true_implies, not_true_eq_false, not_false_eq_true, false_implies, q_bb0, q_bbok, q_bbok2, Bool.true_eq_false, Bool.false_eq_true, reduceCtorEq]
      refine ⟨_, _, _, _, rfl, rfl, rfl, ?_⟩
      rw [e_M_age, s_isPlug m2 a3, hb, q_onI_i, g_M_age_5]
      simp only [q_onI_i, q_onJ_j, q_onS_s, q_onB_t, true_and, and_true, true_or, or_true, eq_self, true_implies, not_true_eq_false, not_false_eq_true, false_implies, q_bb0, q_bbok, q_bbok2, Bool.true_eq_false, Bool.false_eq_true, reduceCtorEq, s_state (show p < 108 by omega), g_M_age_19, hr]
      exact ⟨_, _, _, rfl, q_J_next h⟩
end OPS1
