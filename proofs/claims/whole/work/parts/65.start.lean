/-! start, would -/
theorem v_rest_dyn2 {bc : Int32 → Int32} {T T' : Nat} {I I' : Nat → Nat → Int32} {J : Nat → Nat → Int64} {n : Nat} (ho : ∀ o, q_rel o = true → o ≠ 1 → o ≠ 110 → o ≠ 111 → o ≠ 112 → o ≠ 113 → o ≠ 136 → o ≠ 139 → o ≠ 145 → I' o = I o) (h1 : I' 1 3 = I 1 3 ∧ I' 1 12 = I 1 12) (h130 : I' 130 9 = I 130 9 ∧ I' 130 19 = I 130 19 ∧ I' 130 30 = I 130 30 ∧ I' 130 32 = I 130 32 ∧ I' 130 34 = I 130 34) (hc : v_causes I') (hl : v_log I' T') (hrf : v_ref I') (h : v_rest bc T I J n) : v_rest bc T' I' J n := by
  obtain ⟨h2, -, -, ⟨r, r1, r2, r3, r4, r5⟩, -, ⟨g1, g2, g3⟩, ⟨w1, w2⟩⟩ := h
  obtain ⟨z9, z19, z30, z32, z34⟩ := h130
  have e42 : I' 42 = I 42 := ho 42 rfl (by decide) (by decide) (by decide) (by decide) (by decide) (by decide) (by decide) (by decide)
  have e146 : I' 146 = I 146 := ho 146 rfl (by decide) (by decide) (by decide) (by decide) (by decide) (by decide) (by decide) (by decide)
  have e86 : I' 86 = I 86 := ho 86 rfl (by decide) (by decide) (by decide) (by decide) (by decide) (by decide) (by decide) (by decide)
  have e88 : I' 88 = I 88 := ho 88 rfl (by decide) (by decide) (by decide) (by decide) (by decide) (by decide) (by decide) (by decide)
  have e144 : I' 144 = I 144 := ho 144 rfl (by decide) (by decide) (by decide) (by decide) (by decide) (by decide) (by decide) (by decide)
  have e133 : I' 133 = I 133 := ho 133 rfl (by decide) (by decide) (by decide) (by decide) (by decide) (by decide) (by decide) (by decide)
  have e134 : I' 134 = I 134 := ho 134 rfl (by decide) (by decide) (by decide) (by decide) (by decide) (by decide) (by decide) (by decide)
  refine ⟨fun s hs => v_shelf_congr (ho _ ?_ (by omega) (by omega) (by omega) (by omega) (by omega) (by omega) (by omega) (by omega)) e133 e134 rfl rfl (h2 s hs), hc, hl, ⟨r, r1, by rw [e86]; exact r2, by rw [z30]; exact r3, by rw [z32, e86]; exact r4, fun i hi hi2 => by rw [e88, e144]; exact r5 i hi hi2⟩, hrf, ⟨by rw [h1.1, z34]; exact g1, by rw [h1.1]; exact g2, fun hz => ?_⟩, by rw [h1.2, z9]; exact w1, by rw [z19]; exact w2⟩
  · have : Nat.ble 110 (114 + 2 * s) = true ∧ Nat.blt (114 + 2 * s) 130 = true := ⟨Nat.ble_eq.mpr (by omega), Nat.ble_eq.mpr (by omega)⟩
    simp [q_rel, this.1, this.2]
  · rw [h1.1] at hz
    obtain ⟨n', h', b1, b2, b3, b4, b5⟩ := g3 hz
    have hr : ∀ o, 42 ≤ o → o < 81 → I' o = I o := fun o a b => ho o (by
      have : Nat.ble 42 o = true ∧ Nat.blt o 81 = true := ⟨Nat.ble_eq.mpr (by omega), Nat.ble_eq.mpr (by omega)⟩
      simp [q_rel, this.1, this.2]) (by omega) (by omega) (by omega) (by omega) (by omega) (by omega) (by omega) (by omega)
    exact ⟨n', h', v_host_congr e42 (fun p hp => hr _ (by omega) (by omega)) (fun p hp => hr _ (by omega) (by omega)) e146 e146 b1, by rw [e146]; exact b2, by rw [e146]; exact b3, by rw [e42, e146]; exact b4, by rw [e42, e146]; exact b5⟩
theorem q_J_dyn2 {c n hk k : Nat} {I F : Nat → Nat → Int32} {T R : Nat → Int32} {ck sd : Int32} {J : Nat → Nat → Int64} {t : Nat} (m : v_main q_bc I n hk) (h : q_J c I J t) (c1 : q_rc F n T R ck sd k) (c2 : q_rmm F n T R ck sd k) (h33 : F 3 3 = I 3 3) (h04 : F 130 4 = I 130 4) (hh : ∀ i, i < 24 → F (18 + i) = I (18 + i)) (h132 : F 132 = I 132) (ho : ∀ o, q_rel o = true → o ≠ 1 → o ≠ 110 → o ≠ 111 → o ≠ 112 → o ≠ 113 → o ≠ 136 → o ≠ 139 → o ≠ 145 → F o = I o) (h1 : F 1 3 = I 1 3 ∧ F 1 12 = I 1 12) (h130 : F 130 9 = I 130 9 ∧ F 130 30 = I 130 30 ∧ F 130 32 = I 130 32 ∧ F 130 34 = I 130 34) (hc : v_causes F) (hrf : v_ref F) (hkk : k ≤ 4000 * (c + 1)) : q_J (c + 1) F J t := by
  have hrest := q_J_rest m h
  obtain ⟨⟨a1, a2, a3, a4, a5, a6⟩, m2, m3, m4, m5⟩ := id m
  obtain ⟨r1, r2, r3, r4, r5, r6⟩ := c1
  obtain ⟨s1, s2, s3, s4, s5, s6, s7⟩ := id c2
  have eT : q_ar 131 F T = F := by rw [← s2]; exact q_ar_self
  rw [eT] at r2
  obtain ⟨-, -, -, -, -, -, -, w2⟩ := id hrest
  exact ⟨n, hk, ⟨⟨r1, by rw [h33]; exact a2, a3, a4, fun p hp => r2 p hp, fun i hi => v_hook_congr (hh i (by omega)) h132 (a6 i hi)⟩, s1, by rw [h04]; exact m3, by rw [r3, s3], by rw [r4, s4]⟩, v_rest_dyn2 ho h1 ⟨h130.1, by rw [s7, w2], h130.2.1, h130.2.2.1, h130.2.2.2⟩ hc ⟨k, hkk, r5, s5, fun i hi => by rw [r6 i hi, s6 i hi]⟩ hrf hrest⟩
section START
variable {L d : Nat} {J : Nat → Nat → Int64} {t : Nat}
theorem l_cc {n3 : Nat} {x1 : Int32} (h36 : n3 ≤ 36) : ∀ (k i : Nat) (I : Nat → Nat → Int32), (3 : Int32) * I 130 14 = nI n3 → i + k = n3 → ∃ F, (∀ a, a ≠ 136 → F a = I a) ∧ (∀ b, i ≤ b → b < n3 → F 136 b = I 137 b) ∧ (∀ b, b < i → F 136 b = I 136 b) ∧ ∀ (rt : Value → q_Mem → Nat → Nat → Prop), q_X (q_W d) rt 182 (53, [some (.ref 130), some (.int x1), some (.int (nI i))], [], (q_mm L I J t), 0, 0) = q_X (q_W d) rt 182 (53, [some (.ref 130), some (.int x1), some (.int (nI n3))], [], q_mm L F J t, 0, 0)
  | 0, i, I, h14, h => by
    have : i = n3 := by omega
    subst this
    exact ⟨I, fun _ _ => rfl, fun b h1 h2 => absurd h1 (by omega), fun _ _ => rfl, fun _ => rfl⟩
  | k + 1, i, I, h14, h => by
    obtain ⟨F, f1, f2, f3, f4⟩ := l_cc (x1 := x1) h36 k (i + 1) (q_u I 136 i (I 137 i)) (by rw [q_u_ne (by decide)]; exact h14) (by omega)
    refine ⟨F, fun a ha => by rw [f1 a ha, q_u_ne ha], fun b h1 h2 => ?_, fun b hb => by rw [f3 b (by omega), q_u_nk (by omega)], fun rt => ?_⟩
    · by_cases e : b = i
      · subst e
        rw [f3 b (by omega), q_u_eq]
      · rw [f2 b (by omega) h2, q_u_ne (by decide)]
    · rw [g_M_start_53, h14, q_leN (by omega) (by omega), q_brn (by omega)]
      simp only [q_clamp (show i < 2 ^ 31 by omega), q_bnd (show i < 36 by omega) (by decide), true_and, q_n1, f4]
end START
theorem v_plug_name {I : Nat → Nat → Int32} {T : Nat → Int32} {p : Nat} (h : v_plug q_bc (q_ar 131 I T) 6 131 p) : q_nameok (T (72 + p)) := by
  have := h.2.2.2.2.2.2.2.2.2.1
  rw [q_ar_eq] at this
  exact this
section START2
variable {L c : Nat} {I : Nat → Nat → Int32} {J : Nat → Nat → Int64} {t : Nat}
theorem t_start {x : Int32} (hc : c < 512) (h : q_J c I J t) : q_SI 100 92 182 [.int x] (q_J (c + 1)) L I J t := by
  obtain ⟨n, hk, m, h2, h3, h4, h5, h6, h7, h8⟩ := id h
  obtain ⟨⟨a1, a2, a3, a4, a5, a6⟩, m2, m3, m4, m5⟩ := id m
  have m2' : ∀ k v, q_u I 113 k v 130 0 = nI n := fun k v => by rw [q_u_ne (by decide)]; exact m2
  unfold q_SI
  rw [e_C_start, s_hasPlug a1 a3, q_onI_i, g_C_start_8]
  cases hb : q_in x n with
  | false =>
    simp only [q_onI_i, q_onJ_j, q_onS_s, q_onB_t, true_and, and_true, true_or, or_true, eq_self, true_implies, not_true_eq_false, not_false_eq_true, false_implies, q_bb0, q_bbok, q_bbok2, Bool.true_eq_false, Bool.false_eq_true, reduceCtorEq, s_refuse1, g_C_start_16]
    refine ⟨_, _, _, _, rfl, rfl, q_u_ne (by decide), ?_⟩
    rw [e_M_start, s_isPlug (m2' _ _) a3, hb, q_onI_i, g_M_start_5]
    simp only [q_onI_i, q_onJ_j, q_onS_s, q_onB_t, true_and, and_true, true_or, or_true, eq_self, true_implies, not_true_eq_false, not_false_eq_true, false_implies, q_bb0, q_bbok, q_bbok2, Bool.true_eq_false, Bool.false_eq_true, reduceCtorEq, s_no1, g_M_start_13]
    exact ⟨_, _, _, rfl, q_J_refuse 1 h⟩
  | true =>
    obtain ⟨p, hp, rfl⟩ := q_in_get hb
    obtain ⟨b1, -⟩ := a5 p hp
    simp only [q_onI_i, q_onJ_j, q_onS_s, q_onB_t, true_and, and_true, true_or, or_true, eq_self, true_implies, not_true_eq_false, not_false_eq_true, false_implies, q_bb0, q_bbok, q_bbok2, Bool.true_eq_false, Bool.false_eq_true, reduceCtorEq, s_runs a1 a3, hb, q_clamp (show p < 2 ^ 31 by omega), g_C_start_25, Bool.true_and, b1.2.2.2.2.2.2.1]
    by_cases hr : I 131 p = 1
    · simp only [hr, decide_true, q_onI_i, q_onJ_j, q_onS_s, q_onB_t, true_and, and_true, true_or, or_true, eq_self, true_implies, not_true_eq_false, not_false_eq_true, false_implies, q_bb0, q_bbok, q_bbok2, Bool.true_eq_false, Bool.false_eq_true, reduceCtorEq, s_refuse6, g_C_start_34]
      refine ⟨_, _, _, _, rfl, rfl, q_u_ne (by decide), ?_⟩
      rw [e_M_start, s_isPlug (m2' _ _) a3, hb, q_onI_i, g_M_start_5]
      simp only [q_onI_i, q_onJ_j, q_onS_s, q_onB_t, true_and, and_true, true_or, or_true, eq_self, true_implies, not_true_eq_false, not_false_eq_true, false_implies, q_bb0, q_bbok, q_bbok2, Bool.true_eq_false, Bool.false_eq_true, reduceCtorEq, s_state (show p < 108 by omega), g_M_start_19, q_u_ne (show 131 ≠ 113 by decide), hr, s_no6, g_M_start_29]
      exact ⟨_, _, _, rfl, q_J_refuse 6 h⟩
    · obtain ⟨k, k1, k2, k3⟩ := q_J_rc m h
      obtain ⟨σ, hσ⟩ : ∃ σ : q_Sg, σ = (I 131, I 130 2, k, I 139) := ⟨_, rfl⟩
      have hs : q_rs I n σ (I 130 3) := by rw [hσ]; exact k2
      have hσ1 : σ.1 = I 131 := by rw [hσ]
      have hσk : σ.2.2.1 = k := by rw [hσ]
      have hT : ¬ σ.1 p = 1 := by rw [hσ1]; exact hr
      obtain ⟨I1, c1, f1, c3, c4, c5, c6⟩ := c_try (L := L) (J := J) (t := t) (d := 67) a3 hs hp hT (by omega)
      have hnm : ∀ q, q < n → q_nameok (σ.1 (72 + q)) := fun q hq => v_plug_name (hs.2.1 q hq)
      have hst : ∀ I1', (∀ o, 130 ≤ o → I1' o = I o) → q_rst I1' n σ (I 130 3) false := fun I1' ho => by rw [hσ]; exact k3 I1' ho
      have hkk := q_evs_kle (th := false) (q_tse (q_bring σ.1 n 12 p [] [])) σ
      have hlen : (q_tse (q_bring σ.1 n 12 p [] [])).length ≤ 25 := by
        have h12 := c5.1
        unfold q_tse
        rw [List.length_append, List.length_map]
        cases (q_bring σ.1 n 12 p [] []).1 with
        | true => show _ + 0 ≤ 25; omega
        | false =>
          show _ + (q_bkE _ ++ List.map _ _).length ≤ 25
          have := q_bkE_le (cs := (q_bring σ.1 n 12 p [] []).2.2)
          rw [List.length_append, List.length_map, List.length_reverse]
          omega
      rw [decide_eq_false hr]
      simp only [q_onI_i, q_onJ_j, q_onS_s, q_onB_t, true_and, and_true, true_or, or_true, eq_self, true_implies, not_true_eq_false, not_false_eq_true, false_implies, q_bb0, q_bbok, q_bbok2, Bool.true_eq_false, Bool.false_eq_true, reduceCtorEq, c6, g_C_start_40]
      have f10 : I1 0 = I 0 := f1.1 0 (by decide) (by decide) (by decide) (by decide) (by decide) (by decide) (by decide) (by decide)
      have f1130 := q_fc_130 f1
      cases hok : (q_bring σ.1 n 12 p [] []).1 with
      | true =>
        obtain ⟨I2, g1, g2, g3, g4, g5⟩ := m_begins (L := L) (D := 66) (J := J) (t := t) (th := false) a3 (hst I1 f1130) hnm (by omega) hp hT
        rw [q_brn (by decide), (c3 hok).1]
        refine ⟨_, _, _, _, rfl, rfl, f10, ?_⟩
        rw [e_M_start, s_isPlug (hst I1 f1130).1 a3, hb, q_onI_i, g_M_start_5]
        simp only [q_onI_i, q_onJ_j, q_onS_s, q_onB_t, true_and, and_true, true_or, or_true, eq_self, true_implies, not_true_eq_false, not_false_eq_true, false_implies, q_bb0, q_bbok, q_bbok2, Bool.true_eq_false, Bool.false_eq_true, reduceCtorEq, s_state (show p < 108 by omega), g_M_start_19, f1130 131 (by decide), hr, g5, hok, g_M_start_35]
        rw [(g3 hok).1]
        exact ⟨rfl, _, _, _, rfl, q_J_dyn m h c1 f1 g2 (q_fms_fm g1) (by omega)⟩
      | false =>
        have hpf := c4 hok
        obtain ⟨st, hst'⟩ : ∃ st, st = (q_bring σ.1 n 12 p [] []).2.1 := ⟨_, rfl⟩
        obtain ⟨cs, hcs⟩ : ∃ cs, cs = (q_bring σ.1 n 12 p [] []).2.2 := ⟨_, rfl⟩
        rw [← hst', ← hcs] at hpf
        obtain ⟨p1, p2, p5, p6, p7, p8, p9⟩ := hpf
        rw [Nat.zero_add] at p5 p6
        rw [q_br (show false = false from rfl)]
        have hg : (¬ (0 : Int32) < 0 ∧ ¬ (0 : Int32) < 0 ∧ ¬ (36 : Int32) < 0 ∧ (0 : Int32).toNatClampNeg + (36 : Int32).toNatClampNeg ≤ 36 ∧ (0 : Int32).toNatClampNeg + (36 : Int32).toNatClampNeg ≤ 36) := by decide
        refine ⟨hg, ?_⟩
        have hcp : ∀ a, a ≠ 112 → q_cpI I1 83 112 0 0 36 a = I1 a := fun a ha => by
          funext b
          unfold q_cpI
          rw [if_neg ha]
        have hcp112 : ∀ b, b < 36 → q_cpI I1 83 112 0 0 36 112 b = I1 83 b := fun b hb => by
          unfold q_cpI va_cpy
          rw [if_pos rfl, if_pos ⟨Nat.zero_le _, by omega⟩, Nat.zero_add, Nat.sub_zero]
        rw [show (0 : Int32).toNatClampNeg = 0 by decide, show (36 : Int32).toNatClampNeg = 36 by decide, g_C_start_64, s_refuse6, q_onI_i, g_C_start_81]
        obtain ⟨X, hX⟩ : ∃ X, X = q_u (q_u (q_cpI I1 83 112 0 0 36) 1 11 (q_cpI I1 83 112 0 0 36 81 5)) 113 6 (q_u (q_cpI I1 83 112 0 0 36) 1 11 (q_cpI I1 83 112 0 0 36 81 5) 113 6 + 1) := ⟨_, rfl⟩
        rw [← hX]
        have hXo : ∀ a, a ≠ 1 → a ≠ 112 → a ≠ 113 → X a = I1 a := fun a h1 h2 h3 => by rw [hX, q_u_ne h3, q_u_ne h1, hcp a h2]
        have hX130 : ∀ o, 130 ≤ o → X o = I o := fun o ho => by rw [hXo o (by omega) (by omega) (by omega), f1130 o ho]
        obtain ⟨I2, g1, g2, g3, g4, g5⟩ := m_begins (L := L) (D := 66) (J := J) (t := t) (th := false) a3 (hst X hX130) hnm (by omega) hp hT
        have hmf := g4 hok
        rw [← hcs] at hmf
        obtain ⟨⟨q1, q2⟩, q3⟩ := hmf
        obtain ⟨F, u1, u2, u3, u4⟩ := l_cc (L := L) (d := 99) (J := J) (t := t) (x1 := nI p) (n3 := 3 * cs.length) (by omega) (3 * cs.length) 0 (q_u I2 130 12 (I2 130 14)) (by rw [q_u_nk (by decide), q1, show (3 : Int32) = nI 3 by decide, q_mul]) (by omega)
        have h14 : (3 : Int32) * F 130 14 = nI (3 * cs.length) := by rw [u1 130 (by decide), q_u_nk (by decide), q1, show (3 : Int32) = nI 3 by decide, q_mul]
        refine ⟨_, _, _, _, rfl, rfl, by rw [hXo 0 (by decide) (by decide) (by decide), f10], ?_⟩
        rw [e_M_start, s_isPlug (hst X hX130).1 a3, hb, q_onI_i, g_M_start_5]
        simp only [q_onI_i, q_onJ_j, q_onS_s, q_onB_t, true_and, and_true, true_or, or_true, eq_self, true_implies, not_true_eq_false, not_false_eq_true, false_implies, q_bb0, q_bbok, q_bbok2, Bool.true_eq_false, Bool.false_eq_true, reduceCtorEq, s_state (show p < 108 by omega), g_M_start_19, hX130 131 (by decide), hr, g5, hok, g_M_start_35]
        rw [show (0 : Int32) = nI 0 by decide, u4, g_M_start_53, h14, q_leN (by omega) (by omega), q_br (Nat.le_refl _), s_no6, q_onI_i, g_M_start_87]
        refine ⟨rfl, _, _, _, rfl, ?_⟩
        obtain ⟨Z, hZ⟩ : ∃ Z, Z = q_u F 145 6 (F 145 6 + 1) := ⟨_, rfl⟩
        rw [← hZ]
        have hZF : ∀ o, o ≠ 145 → Z o = F o := fun o ho => by rw [hZ, q_u_ne ho]
        have hZ2 : ∀ o, o ≠ 145 → o ≠ 136 → o ≠ 130 → Z o = I2 o := fun o h1 h2 h3 => by rw [hZF o h1, u1 o h2, q_u_ne h3]
        have hZ130 : ∀ b, b ≠ 12 → Z 130 b = I2 130 b := fun b hb => by rw [hZF 130 (by decide), u1 130 (by decide), q_u_nk hb]
        have hfm := q_fms_fm g1
        have hZX : ∀ o, o ≠ 145 → o ≠ 136 → o ≠ 130 → o ≠ 131 → o ≠ 137 → o ≠ 138 → o ≠ 139 → Z o = X o := fun o h1 h2 h3 h4 h5 h6 h7 => by rw [hZ2 o h1 h2 h3, g1.1 o h3 h4 h5 h6 h7]
        have hZ1 : Z 1 = X 1 := hZX 1 (by decide) (by decide) (by decide) (by decide) (by decide) (by decide) (by decide)
        have hX1 : ∀ b, b ≠ 11 → X 1 b = I 1 b := fun b hb => by rw [hX, q_u_ne (by decide), q_u_nk hb, hcp 1 (by decide), f1.1 1 (by decide) (by decide) (by decide) (by decide) (by decide) (by decide) (by decide) (by decide)]
        have hv130 : ∀ b, X 130 b = I 130 b := fun b => by rw [hX130 130 (by decide)]
        have hms : ∀ b, b ≠ 2 → b ≠ 14 → b ≠ 16 → b ≠ 17 → b ≠ 20 → b ≠ 12 → Z 130 b = I 130 b := fun b x1 x2 x3 x4 x5 x6 => by rw [hZ130 b x6, g1.2 b x1 x2 x3 x4 x5, hv130]
        refine q_J_dyn2 m h (q_rc_congr a3 (fun o ho _ _ _ _ h1 h112 h113 => ?_) c1) ?_ ?_ (hms 4 (by decide) (by decide) (by decide) (by decide) (by decide) (by decide)) (fun i hi => ?_) ?_ (fun o ho y1 y2 y3 y4 y5 y6 y7 y8 => ?_) ⟨by rw [hZ1]; exact hX1 3 (by decide), by rw [hZ1]; exact hX1 12 (by decide)⟩ ⟨hms 9 (by decide) (by decide) (by decide) (by decide) (by decide) (by decide), hms 30 (by decide) (by decide) (by decide) (by decide) (by decide) (by decide), hms 32 (by decide) (by decide) (by decide) (by decide) (by decide) (by decide), hms 34 (by decide) (by decide) (by decide) (by decide) (by decide) (by decide)⟩ ⟨cs.length, p6, ?_, ?_, fun i hi w hw => ?_⟩ (fun i hi => ?_) (by omega)
        · rw [hZX o (by omega) (by omega) (by omega) (by omega) (by omega) (by omega) (by omega), hXo o h1 h112 h113]
        · obtain ⟨t1, t2, t3, t4, t5, t6, t7⟩ := g2
          exact ⟨by rw [hZ130 0 (by decide)]; exact t1, by rw [hZ2 131 (by decide) (by decide) (by decide)]; exact t2, by rw [hZ130 2 (by decide)]; exact t3, by rw [hZ130 3 (by decide)]; exact t4, by rw [hZ130 20 (by decide)]; exact t5, fun i hi => by rw [hZ2 139 (by decide) (by decide) (by decide)]; exact t6 i hi, by rw [hZ130 19 (by decide)]; exact t7⟩
        · rw [hZX 3 (by decide) (by decide) (by decide) (by decide) (by decide) (by decide) (by decide), hXo 3 (by decide) (by decide) (by decide)]
          exact f1.2
        · rw [hZX _ (by omega) (by omega) (by omega) (by omega) (by omega) (by omega) (by omega), hXo _ (by omega) (by omega) (by omega), f1.1 _ (by omega) (by omega) (by omega) (by omega) (by omega) (by omega) (by omega) (by omega)]
        · rw [hZX 132 (by decide) (by decide) (by decide) (by decide) (by decide) (by decide) (by decide), hX130 132 (by decide)]
        · obtain ⟨z1, z2, z3, z4, z5, z6, z7, z8, z9, z10, z11, z12⟩ := q_rel_out ho
          rw [hZX o y8 y6 z7 z8 z9 z10 y7, hXo o y1 y4 y5, f1.1 o z1 z2 y2 y3 z3 z4 z5 z6]
        · rw [hZ1, hX, q_u_ne (by decide), q_u_eq, hcp 81 (by decide), p5]
        · rw [hZF 130 (by decide), u1 130 (by decide), q_u_eq, q1]
        · have hZ112 : Z 112 = X 112 := hZX 112 (by decide) (by decide) (by decide) (by decide) (by decide) (by decide) (by decide)
          rw [hZ112, hX, q_u_ne (by decide), q_u_ne (by decide), hcp112 _ (by omega), hZF 136 (by decide), u2 _ (by omega) (by omega), q_u_ne (by decide)]
          have hj : cs.length - 1 - i < cs.length := by omega
          obtain ⟨y, hy⟩ : ∃ y, cs[cs.length - 1 - i]? = some y := ⟨_, List.getElem?_eq_getElem hj⟩
          obtain ⟨y0, y1, y2⟩ := y
          have d1 := p8 _ _ _ _ hy
          have d2 := q2 _ _ _ _ hy
          rw [Nat.zero_add, show cs.length - 1 - (cs.length - 1 - i) = i by omega] at d1
          match w, hw with
          | 0, _ => rw [Nat.add_zero, Nat.add_zero, d1.1, d2.1]
          | 1, _ => rw [d1.2.1, d2.2.1]
          | 2, _ => rw [d1.2.2, d2.2.2]
        · have hZ113 : Z 113 = X 113 := hZX 113 (by decide) (by decide) (by decide) (by decide) (by decide) (by decide) (by decide)
          have hI113 : I1 113 = I 113 := f1.1 113 (by decide) (by decide) (by decide) (by decide) (by decide) (by decide) (by decide) (by decide)
          have hF145 : F 145 = I 145 := by rw [u1 145 (by decide), q_u_ne (by decide), g1.1 145 (by decide) (by decide) (by decide) (by decide) (by decide), hX130 145 (by decide)]
          have e113 : q_u (q_cpI I1 83 112 0 0 36) 1 11 (q_cpI I1 83 112 0 0 36 81 5) 113 = I 113 := by rw [q_u_ne (by decide), hcp 113 (by decide), hI113]
          rw [hZ113, hX, hZ, e113, hF145]
          by_cases e : i = 6
          · subst e
            rw [q_u_eq, q_u_eq, h6 6 hi]
          · rw [q_u_nk e, q_u_nk e, hF145, e113]
            exact h6 i hi
end START2
