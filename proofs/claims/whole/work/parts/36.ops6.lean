/-! mend, offered, running, log, status -/
theorem q_sub {a b : Nat} (h : b ≤ a) : nI a - nI b = nI (a - b) := by
  conv => lhs; rw [show a = (a - b) + b by omega, ← q_add]
  rw [Int32.add_sub_cancel]
theorem q_divN {a b : Nat} (ha : a < 2 ^ 31) (hb : b < 2 ^ 31) : nI a / nI b = nI (a / b) := by
  apply Int32.toInt_inj.mp
  have hd : a / b ≤ a := Nat.div_le_self a b
  rw [Int32.toInt_div, nI_toInt ha, nI_toInt hb, nI_toInt (by omega), ← Int.ofNat_tdiv]
  generalize a / b = e at hd ⊢
  exact Int.bmod_eq_of_le (by omega) (by omega)
theorem q_mod40 {k : Nat} (h : k < 2 ^ 31) : nI k - nI k / 40 * 40 = nI (k % 40) := by
  rw [show (40 : Int32) = nI 40 by decide, q_divN h (by decide), q_mul, q_sub (by omega)]
  congr 1
  omega
theorem v_plug_else {bc : Int32 → Int32} {I I' : Nat → Nat → Int32} {b a p : Nat} (h1 : I' (b + p) = I (b + p)) (h2 : ∀ k, k < 9 → I' a (12 * k + p) = I a (12 * k + p)) (h : v_plug bc I b a p) : v_plug bc I' b a p := by
  unfold v_plug at h ⊢
  have e0 := h2 0 (by decide)
  rw [Nat.mul_zero, Nat.zero_add] at e0
  rw [h1, e0, show I' a (12 + p) = I a (12 + p) from h2 1 (by decide), show I' a (24 + p) = I a (24 + p) from h2 2 (by decide), show I' a (36 + p) = I a (36 + p) from h2 3 (by decide), show I' a (48 + p) = I a (48 + p) from h2 4 (by decide), show I' a (60 + p) = I a (60 + p) from h2 5 (by decide), show I' a (72 + p) = I a (72 + p) from h2 6 (by decide), show I' a (84 + p) = I a (84 + p) from h2 7 (by decide), show I' a (96 + p) = I a (96 + p) from h2 8 (by decide)]
  exact h
theorem v_plug_off {bc : Int32 → Int32} {I I' : Nat → Nat → Int32} {b a p : Nat} {x : Int32} (hx : x ≠ 1) (hr : q_rng x 0 3) (h1 : ∀ k, k ≠ 9 → I' (b + p) k = I (b + p) k) (h9 : I' (b + p) 9 = x) (h2 : ∀ k, 0 < k → k < 9 → I' a (12 * k + p) = I a (12 * k + p)) (h0 : I' a p = x) (h : v_plug bc I b a p) : v_plug bc I' b a p := by
  unfold v_plug at h ⊢
  rw [h9, h0, h1 0 (by decide), h1 1 (by decide), h1 2 (by decide), h1 3 (by decide), h1 4 (by decide), h1 5 (by decide), h1 6 (by decide), h1 7 (by decide), h1 8 (by decide), h1 10 (by decide), show I' a (12 + p) = I a (12 + p) from h2 1 (by decide) (by decide), show I' a (24 + p) = I a (24 + p) from h2 2 (by decide) (by decide), show I' a (36 + p) = I a (36 + p) from h2 3 (by decide) (by decide), show I' a (48 + p) = I a (48 + p) from h2 4 (by decide) (by decide), show I' a (60 + p) = I a (60 + p) from h2 5 (by decide) (by decide), show I' a (72 + p) = I a (72 + p) from h2 6 (by decide) (by decide), show I' a (84 + p) = I a (84 + p) from h2 7 (by decide) (by decide), show I' a (96 + p) = I a (96 + p) from h2 8 (by decide) (by decide)]
  obtain ⟨⟨a1, a2, a3, a4, a5, a6, a7, a8⟩, b, c, d, e1, e2, e3, e4, e5, e6, e7⟩ := h
  exact ⟨⟨a1, a2, a3, a4, a5, a6, rfl, a8⟩, fun z => absurd z hx, c, d, e1, e2, e3, e4, e5, e6, hr⟩
/-- the plugs changed, on both sides: the rest stays -/
theorem q_J_main {c n hk n' hk' : Nat} {I I' : Nat → Nat → Int32} {J : Nat → Nat → Int64} {t : Nat} (h1 : v_rest q_bc (4000 * (c + 1)) I' J n') (h2 : v_main q_bc I' n' hk') : q_J (c + 1) I' J t := ⟨n', hk', h2, h1⟩
theorem q_J_rest {c n hk : Nat} {I : Nat → Nat → Int32} {J : Nat → Nat → Int64} {t : Nat} (m : v_main q_bc I n hk) (h : q_J c I J t) : v_rest q_bc (4000 * (c + 1)) I J n := by
  obtain ⟨n0, hk0, m0, h2⟩ := q_J_next h
  obtain ⟨⟨a1, a2, a3, a4, a5, a6⟩, -⟩ := m
  obtain ⟨⟨b1, b2, b3, b4, b5, b6⟩, -⟩ := m0
  have : n = n0 := by
    have := a1.symm.trans b1
    rwa [q_eqN (by omega) (by omega)] at this
  subst this
  exact h2
/-- one plug's state, not to running -/
theorem q_J_off {c n hk p : Nat} {x : Int32} {I : Nat → Nat → Int32} {J : Nat → Nat → Int64} {t : Nat} (m : v_main q_bc I n hk) (hp : p < n) (hx : x ≠ 1) (hr : q_rng x 0 3) (h : q_J c I J t) : q_J (c + 1) (q_u (q_u I (6 + p) 9 x) 131 p x) J t := by
  have hrest := q_J_rest m h
  obtain ⟨⟨a1, a2, a3, a4, a5, a6⟩, m2, m3, m4, m5⟩ := id m
  have hn : ∀ o, o ≠ 6 + p → o ≠ 131 → q_u (q_u I (6 + p) 9 x) 131 p x o = I o := fun o h1 h2 => by rw [q_u_ne h2, q_u_ne h1]
  refine ⟨n, hk, ⟨⟨by rw [hn 3 (by omega) (by decide)]; exact a1, by rw [hn 3 (by omega) (by decide)]; exact a2, a3, a4, fun q hq => ?_, fun i hi => v_hook_congr (hn _ (by omega) (by omega)) (hn _ (by omega) (by decide)) (a6 i hi)⟩, by rw [hn 130 (by omega) (by decide)]; exact m2, by rw [hn 130 (by omega) (by decide)]; exact m3, by rw [hn 130 (by omega) (by decide), hn 3 (by omega) (by decide)]; exact m4, by rw [hn 130 (by omega) (by decide), hn 3 (by omega) (by decide)]; exact m5⟩, v_rest_congr (Nat.le_refl n) (fun o ho => hn o (fun e => ?_) (fun e => by subst e; exact absurd ho (by decide))) (by rw [hn 130 (by omega) (by decide)]; exact ⟨rfl, rfl, rfl, rfl, rfl, rfl, rfl⟩) hrest⟩
  · by_cases e : q = p
    · subst e
      refine v_plug_off hx hr (fun k hk => ?_) ?_ (fun k h0 h9 => ?_) q_u_eq (a5 q hq)
      · rw [q_u_ne (by omega), q_u_nk hk]
      · rw [q_u_ne (by omega), q_u_eq]
      · rw [q_u_nk (by omega), q_u_ne (by omega)]
    · refine v_plug_else (hn _ (by omega) (by omega)) (fun k hk => ?_) (a5 q hq)
      rw [q_u_nk (by omega), q_u_ne (by omega)]
  · have hb : p < 12 := by omega
    have hall : ∀ p, p < 12 → q_rel (6 + p) = false := by decide
    rw [e, hall p hb] at ho
    exact absurd ho (by decide)
section OPS6
variable {L c : Nat} {I : Nat → Nat → Int32} {J : Nat → Nat → Int64} {t : Nat}
theorem t_mend {x : Int32} (h : q_J c I J t) : q_SI 100 96 189 [.int x] (q_J (c + 1)) L I J t := by
  obtain ⟨n, hk, m, h2, h3, h4, h5, h6, h7, h8⟩ := id h
  obtain ⟨⟨a1, a2, a3, a4, a5, a6⟩, m2, m3, m4, m5⟩ := id m
  unfold q_SI
  rw [e_C_mend, s_hasPlug a1 a3, q_onI_i, g_C_mend_8]
  cases hb : q_in x n with
  | false =>
    simp only [q_onI_i, q_onJ_j, q_onS_s, q_onB_t, true_and, and_true, true_or, or_true, eq_self, true_implies, not_true_eq_false, not_false_eq_true, false_implies, q_bb0, q_bbok, q_bbok2, Bool.true_eq_false, Bool.false_eq_true, reduceCtorEq, s_refuse1, g_C_mend_16]
    refine ⟨_, _, _, _, rfl, rfl, q_u_ne (by decide), ?_⟩
    rw [e_M_mend, s_isPlug (by rw [q_u_ne (by decide)]; exact m2) a3, hb, q_onI_i, g_M_mend_5]
    simp only [q_onI_i, q_onJ_j, q_onS_s, q_onB_t, true_and, and_true, true_or, or_true, eq_self, true_implies, not_true_eq_false, not_false_eq_true, false_implies, q_bb0, q_bbok, q_bbok2, Bool.true_eq_false, Bool.false_eq_true, reduceCtorEq, s_no1, g_M_mend_13]
    exact ⟨_, _, _, rfl, q_J_refuse 1 h⟩
  | true =>
    obtain ⟨p, hp, rfl⟩ := q_in_get hb
    obtain ⟨b1, b2, b3, b4, b5⟩ := a5 p hp
    simp only [q_onI_i, q_onJ_j, q_onS_s, q_onB_t, true_and, and_true, true_or, or_true, eq_self, true_implies, not_true_eq_false, not_false_eq_true, false_implies, q_bb0, q_bbok, q_bbok2, Bool.true_eq_false, Bool.false_eq_true, reduceCtorEq, q_clamp (show p < 2 ^ 31 by omega), q_bnd (show p < 12 by omega) (by decide), r_plug (show p < 12 by omega), i_plug (show p < 12 by omega), b1.2.2.2.2.2.2.1]
    by_cases hr : I 131 p = 2
    · rw [q_br hr, q_u_nk (show (4 : Nat) ≠ 9 by decide)]
      refine ⟨_, _, _, _, rfl, rfl, q_u_ne (by omega), ?_⟩
      rw [e_M_mend, s_isPlug (by rw [q_u_ne (by omega)]; exact m2) a3, hb, q_onI_i, g_M_mend_5]
      simp only [q_onI_i, q_onJ_j, q_onS_s, q_onB_t, true_and, and_true, true_or, or_true, eq_self, true_implies, not_true_eq_false, not_false_eq_true, false_implies, q_bb0, q_bbok, q_bbok2, Bool.true_eq_false, Bool.false_eq_true, reduceCtorEq, s_state (show p < 108 by omega), g_M_mend_19, q_u_ne (show 131 ≠ 6 + p by omega), hr, q_clamp (show p < 2 ^ 31 by omega), q_bnd (show p < 108 by omega) (by decide)]
      rw [show (5 : Int32) = nI 5 by decide, s_of (by omega), q_onI_i, g_M_mend_43, q_u_nk (by omega), q_u_ne (by omega)]
      exact ⟨by rw [b1.2.2.2.2.1], _, _, _, rfl, q_J_off m hp (by decide) ⟨by decide, by decide⟩ h⟩
    · rw [q_brn hr]
      simp only [q_onI_i, q_onJ_j, q_onS_s, q_onB_t, true_and, and_true, true_or, or_true, eq_self, true_implies, not_true_eq_false, not_false_eq_true, false_implies, q_bb0, q_bbok, q_bbok2, Bool.true_eq_false, Bool.false_eq_true, reduceCtorEq, s_refuse6, g_C_mend_41]
      refine ⟨_, _, _, _, rfl, rfl, q_u_ne (by decide), ?_⟩
      rw [e_M_mend, s_isPlug (by rw [q_u_ne (by decide)]; exact m2) a3, hb, q_onI_i, g_M_mend_5]
      simp only [q_onI_i, q_onJ_j, q_onS_s, q_onB_t, true_and, and_true, true_or, or_true, eq_self, true_implies, not_true_eq_false, not_false_eq_true, false_implies, q_bb0, q_bbok, q_bbok2, Bool.true_eq_false, Bool.false_eq_true, reduceCtorEq, s_state (show p < 108 by omega), g_M_mend_19, q_u_ne (show 131 ≠ 113 by decide), hr, s_no6, g_M_mend_29]
      exact ⟨_, _, _, rfl, q_J_refuse 6 h⟩
theorem l_Moffered {L d : Nat} {rt : Value → q_Mem → Nat → Nat → Prop} {I : Nat → Nat → Int32} {J : Nat → Nat → Int64} {t : Nat} {n s : Nat} (hn : I 130 0 = nI n) (h12 : n ≤ 12) (hs : s < 8) : ∀ k i (b : Int32), i + k = n → q_X (q_W (d + 2)) rt 193 (17, [some (.ref 130), some (.int (nI s)), some (.int b), some (.int (nI i))], [], (q_mm L I J t), 0, 0) = rt (.int (q_it (q_orb fun p => decide (I 131 p = 1) && q_bt (I 131 (48 + p)) s) i k b)) (q_mm L I J t) 0 0
  | 0, i, b, h => by
    rw [g_M_offered_17, hn, q_leN (by omega) (by omega), q_br (by omega)]
    rfl
  | k + 1, i, b, h => by
    rw [g_M_offered_17, hn, q_leN (by omega) (by omega), q_brn (by omega), s_state (by omega), q_onI_i, g_M_offered_30]
    simp only [s_isOffered (show i < 12 by omega) (show s < 31 by omega), q_onI_i, q_onJ_j, q_onS_s, q_onB_t, true_and, and_true, true_or, or_true, eq_self, true_implies, not_true_eq_false, not_false_eq_true, false_implies, q_bb0, q_bbok, q_bbok2, Bool.true_eq_false, Bool.false_eq_true, reduceCtorEq, g_M_offered_40, q_n1, l_Moffered hn h12 hs k (i + 1) _ (show i + 1 + k = n by omega)]
    rw [q_it_s]
    by_cases h9 : I 131 i = 1
    · cases h5 : q_bt (I 131 (48 + i)) s <;> simp [h9, h5, q_orb]
    · simp [h9, q_orb]
theorem t_offered {x : Int32} (h : q_J c I J t) : q_SI 100 100 193 [.int x] (q_J (c + 1)) L I J t := by
  obtain ⟨n, hk, m, h2, h3, h4, h5, h6, h7, h8⟩ := id h
  obtain ⟨⟨a1, a2, a3, a4, a5, a6⟩, m2, m3, m4, m5⟩ := id m
  unfold q_SI
  rw [e_C_offered, s_isBelow, show (8 : Int32).toInt = 8 by decide, q_onI_i, g_C_offered_6]
  cases hb : q_in x 8 with
  | false =>
    simp only [q_onI_i, q_onJ_j, q_onS_s, q_onB_t, true_and, and_true, true_or, or_true, eq_self, true_implies, not_true_eq_false, not_false_eq_true, false_implies, q_bb0, q_bbok, q_bbok2, Bool.true_eq_false, Bool.false_eq_true, reduceCtorEq, s_refuse1, g_C_offered_14]
    refine ⟨_, _, _, _, rfl, rfl, q_u_ne (by decide), ?_⟩
    rw [e_M_offered, s_isService, hb, q_onI_i, g_M_offered_4]
    simp only [q_onI_i, q_onJ_j, q_onS_s, q_onB_t, true_and, and_true, true_or, or_true, eq_self, true_implies, not_true_eq_false, not_false_eq_true, false_implies, q_bb0, q_bbok, q_bbok2, Bool.true_eq_false, Bool.false_eq_true, reduceCtorEq, s_no1, g_M_offered_12]
    exact ⟨_, _, _, rfl, q_J_refuse 1 h⟩
  | true =>
    obtain ⟨s, hs, rfl⟩ := q_in_get (n := 8) hb
    simp only [q_onI_i, q_onJ_j, q_onS_s, q_onB_t, true_and, and_true, true_or, or_true, eq_self, true_implies, not_true_eq_false, not_false_eq_true, false_implies, q_bb0, q_bbok, q_bbok2, Bool.true_eq_false, Bool.false_eq_true, reduceCtorEq, s_runningBits a1 a3, g_C_offered_27, s_offering a1 a3 (show s < 31 by omega), g_C_offered_30]
    refine ⟨_, _, _, _, rfl, rfl, rfl, ?_⟩
    rw [e_M_offered, s_isService, hb, q_onI_i, g_M_offered_4]
    simp only [q_onI_i, q_onJ_j, q_onS_s, q_onB_t, true_and, and_true, true_or, or_true, eq_self, true_implies, not_true_eq_false, not_false_eq_true, false_implies, q_bb0, q_bbok, q_bbok2, Bool.true_eq_false, Bool.false_eq_true, reduceCtorEq]
    rw [show (0 : Int32) = nI 0 by decide, l_Moffered m2 a3 hs n 0 (nI 0) (by omega)]
    refine ⟨?_, _, _, _, rfl, q_J_next h⟩
    congr 1
    refine q_mk_congr fun p hp => ?_
    rw [q_bt_mk (by omega) (by omega), decide_eq_true hp, Bool.true_and, (a5 p hp).1.2.2.2.2.2.2.1, (a5 p hp).1.2.2.2.1]
theorem t_log {x : Int32} (hc : c < 512) (h : q_J c I J t) : q_SI 100 111 212 [.int x] (q_J (c + 1)) L I J t := by
  obtain ⟨n, hk, m, h2, h3, ⟨k, k1, k2, k3, k4⟩, h5, h6, h7, h8⟩ := id h
  unfold q_SI
  have hk : k < 2 ^ 30 := by omega
  obtain ⟨r, hr, hr2⟩ : ∃ r, r = (if 40 < k then 40 else k) ∧ r ≤ 40 := ⟨_, rfl, by split <;> omega⟩
  have ec : (if 40 < I 110 1 then (40 : Int32) else I 110 1) = nI r := by
    rw [k2, hr]
    by_cases e : 40 < k
    · rw [if_pos e, if_pos (by rw [show (40 : Int32) = nI 40 by decide, q_ltN (by decide) (by omega)]; exact e)]
      decide
    · rw [if_neg e, if_neg (by rw [show (40 : Int32) = nI 40 by decide, q_ltN (by decide) (by omega)]; exact e)]
  have em : (if I 130 20 < 40 then I 130 20 else (40 : Int32)) = nI r := by
    rw [k3]
    by_cases e : k < 40
    · have er : r = k := by rw [hr, if_neg (by omega)]
      rw [er, if_pos (by rw [show (40 : Int32) = nI 40 by decide, q_ltN (by omega) (by decide)]; exact e)]
    · have er : r = 40 := by
        rw [hr]
        split <;> omega
      rw [er, if_neg (by rw [show (40 : Int32) = nI 40 by decide, q_ltN (by omega) (by decide)]; exact e)]
      decide
  rw [e_C_log, e_EventLog_kept, ec, k2]
  cases hb : q_in x r with
  | false =>
    have hz : x < 0 ∨ nI r ≤ x := by
      have := of_decide_eq_false hb
      rw [q_lt0, q_le, nI_toInt (by omega)]
      omega
    have e : ∀ {A B : Prop}, ((x < 0 → A) ∧ (¬ x < 0 → ((nI r ≤ x → A) ∧ (¬ nI r ≤ x → B)))) = A := by
      intro A B
      apply propext
      rcases hz with hz | hz
      · simp [hz]
      · by_cases h0 : x < 0 <;> simp [hz, h0]
    simp only [e, q_onI_i, g_C_log_8]
    refine ⟨_, _, _, _, rfl, rfl, rfl, ?_⟩
    rw [e_M_log, em, s_within0, q_pred (by omega), hb, q_onI_i, g_M_log_16]
    simp only [q_onI_i, q_onJ_j, q_onS_s, q_onB_t, true_and, and_true, true_or, or_true, eq_self, true_implies, not_true_eq_false, not_false_eq_true, false_implies, q_bb0, q_bbok, q_bbok2, Bool.true_eq_false, Bool.false_eq_true, reduceCtorEq]
    exact ⟨_, _, _, rfl, q_J_next h⟩
  | true =>
    obtain ⟨p, hp, rfl⟩ := q_in_get hb
    have hpk : p < k := by
      rw [hr] at hp
      split at hp <;> omega
    rw [q_brn (nI_pos (by omega)), q_leN (by omega) (by omega), q_brn (by omega), q_sub (by rw [hr]; split <;> omega), q_add, q_mod40 (by omega)]
    simp only [q_clamp (show (k - r + p) % 40 < 2 ^ 31 by omega), q_bnd (show (k - r + p) % 40 < 40 by omega) (by decide), q_onI_i, q_onJ_j, q_onS_s, q_onB_t, true_and, and_true, true_or, or_true, eq_self, true_implies, not_true_eq_false, not_false_eq_true, false_implies, q_bb0, q_bbok, q_bbok2, Bool.true_eq_false, Bool.false_eq_true, reduceCtorEq, show ¬ (40 : Int32) = 0 by decide, not_false_eq_true, true_and]
    rw [g_C_log_8]
    refine ⟨_, _, _, _, rfl, rfl, rfl, ?_⟩
    rw [e_M_log, em, s_within0, q_pred (by omega), hb, q_onI_i, g_M_log_16]
    simp only [q_onI_i, q_onJ_j, q_onS_s, q_onB_t, true_and, and_true, true_or, or_true, eq_self, true_implies, not_true_eq_false, not_false_eq_true, false_implies, q_bb0, q_bbok, q_bbok2, Bool.true_eq_false, Bool.false_eq_true, reduceCtorEq, show ¬ (40 : Int32) = 0 by decide, not_false_eq_true, true_and]
    rw [k3, q_add, q_mod40 (show p < 2 ^ 31 by omega), q_mod40 (show k + p < 2 ^ 31 by omega)]
    simp only [q_clamp (show p % 40 < 2 ^ 31 by omega), q_bnd (show p % 40 < 40 by omega) (by decide), q_clamp (show (k + p) % 40 < 2 ^ 31 by omega), q_bnd (show (k + p) % 40 < 40 by omega) (by decide), true_and]
    rw [show (40 : Int32) = nI 40 by decide, q_leN (by omega) (by decide)]
    by_cases e : k ≤ 40
    · rw [q_br e]
      refine ⟨?_, _, _, _, rfl, q_J_next h⟩
      rw [k4 _ (by omega)]
      congr 3
      have : r = k := by rw [hr]; split <;> omega
      omega
    · rw [q_brn e]
      refine ⟨?_, _, _, _, rfl, q_J_next h⟩
      rw [k4 _ (by omega)]
      congr 2
      have : r = 40 := by rw [hr]; split <;> omega
      omega
end OPS6
