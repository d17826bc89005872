/-! days -/
def q_dr (x : Int32) : Nat := (x.toUInt32 >>> (16 : UInt32)).toNat
theorem q_dr_lt {x : Int32} : q_dr x < 65536 := by
  unfold q_dr
  rw [UInt32.toNat_shiftRight]
  have h := x.toUInt32.toNat_lt
  rw [show (16 : UInt32).toNat % 32 = 16 by decide, Nat.shiftRight_eq_div_pow]
  omega
theorem q_dr_eq {x : Int32} : (x.toUInt32 >>> ((16 : Int32).toUInt32 &&& Int32.toUInt32 31)).toInt32 = nI (q_dr x) := by
  rw [show (16 : Int32).toUInt32 &&& Int32.toUInt32 31 = (16 : UInt32) by decide]
  apply Int32.toBitVec_inj.mp
  unfold q_dr nI
  show (x.toUInt32 >>> (16 : UInt32)).toBitVec = BitVec.ofNat 32 (x.toUInt32 >>> (16 : UInt32)).toBitVec.toNat
  rw [BitVec.ofNat_toNat, BitVec.setWidth_eq]
theorem q_mod_n {m n : Nat} (hm : m < 2 ^ 31) (hn : n < 2 ^ 31) : nI m - nI m / nI n * nI n = nI (m % n) := by
  rw [q_divN hm hn, q_mul, q_sub (by exact Nat.div_mul_le_self m n)]
  congr 1
  have := Nat.div_add_mod m n
  rw [Nat.mul_comm] at this
  omega
def q_sd (x : Int32) : Int32 := x * 1103515245 + 12345
def q_dyS (n : Nat) (σ : q_Sg) (p e : Nat) : q_Sg := if e = 0 then (if σ.1 p = 1 then σ else q_evs false (q_tse (q_bring σ.1 n 12 p [] [])) σ) else if e = 1 then (if σ.1 p = 1 then ((q_stp n σ.1 σ.2.2.2 σ.2.2.1 p).1, σ.2.1, (q_stp n σ.1 σ.2.2.2 σ.2.2.1 p).2.1, (q_stp n σ.1 σ.2.2.2 σ.2.2.1 p).2.2) else σ) else (if σ.1 p = 2 then (q_up σ.1 p 0, σ.2) else σ)
def q_dy (n : Nat) (s : q_Sg × Int32) : q_Sg × Int32 := (q_dyS n s.1 (q_dr (q_sd s.2) % n) (q_dr (q_sd (q_sd s.2)) % 3), q_sd (q_sd s.2))
def q_rep {α : Type} (f : α → α) : Nat → α → α
  | 0, a => a
  | k + 1, a => q_rep f k (f a)
theorem q_rep_s {α : Type} {f : α → α} {k : Nat} {a : α} : q_rep f (k + 1) a = q_rep f k (f a) := rfl
theorem q_rc_sd {I : Nat → Nat → Int32} {n k : Nat} {T R : Nat → Int32} {ck sd v : Int32} (h12 : n ≤ 12) (h : q_rc I n T R ck sd k) : q_rc (q_u I 3 5 v) n T R ck v k := by
  obtain ⟨a, b, c, d, e, f⟩ := h
  exact ⟨by rw [q_u_nk (by decide)]; exact a, fun p hp => v_plug_same (by omega) (q_u_ne (by omega)) (fun _ _ => rfl) (b p hp), by rw [q_u_nk (by decide)]; exact c, q_u_eq, by rw [q_u_ne (by decide)]; exact e, fun i hi => by rw [q_u_ne (by decide)]; exact f i hi⟩
theorem q_fc_sd {I : Nat → Nat → Int32} {v : Int32} : q_fc I (q_u I 3 5 v) := ⟨fun o _ h _ _ _ _ _ _ => q_u_ne h, by rw [q_u_nk (by decide)]⟩
theorem q_tse_len {n : Nat} {r : q_PR} (h12 : n ≤ 12) (h : q_lnn n r.2.1) : (q_tse r).length ≤ 25 := by
  have h1 := h.1
  unfold q_tse
  rw [List.length_append, List.length_map]
  cases r.1 with
  | true => show _ + 0 ≤ 25; omega
  | false =>
    show _ + (q_bkE _ ++ List.map _ _).length ≤ 25
    have := q_bkE_le (cs := r.2.2)
    rw [List.length_append, List.length_map, List.length_reverse]
    omega
section DAYS
variable {L d : Nat} {J : Nat → Nat → Int64} {t : Nat}
theorem s_draw {Q : Value → q_Mem → Prop} {I : Nat → Nat → Int32} {b : Nat} (h0 : 0 < b) (hb : b < 2 ^ 31) : q_W (d + 1) 29 [.ref 3, .int (nI b)] (q_mm L I J t) Q = Q (.int (nI (q_dr (q_sd (I 3 5)) % b))) (q_mm L (q_u I 3 5 (q_sd (I 3 5))) J t) := by
  have hz : ¬ nI b = 0 := by
    rw [q_eq0 hb]
    omega
  rw [e_Host_draw, q_le0 hb, q_brn (by omega), q_u_eq, q_dr_eq, q_mod_n (by have := q_dr_lt (x := q_sd (I 3 5)); unfold q_sd at this; omega) hb]
  simp only [hz, not_false_eq_true, true_and]
  rfl
theorem s_Mdraw {Q : Value → q_Mem → Prop} {I : Nat → Nat → Int32} {b : Nat} (h0 : 0 < b) (hb : b < 2 ^ 31) : q_W (d + 1) 213 [.ref 130, .int (nI b)] (q_mm L I J t) Q = Q (.int (nI (q_dr (q_sd (I 130 3)) % b))) (q_mm L (q_u I 130 3 (q_sd (I 130 3))) J t) := by
  have hz : ¬ nI b = 0 := by
    rw [q_eq0 hb]
    omega
  rw [e_M_draw, q_u_eq, q_dr_eq, q_mod_n (by have := q_dr_lt (x := q_sd (I 130 3)); unfold q_sd at this; omega) hb]
  simp only [hz, not_false_eq_true, true_and]
  rfl
theorem c_day {I : Nat → Nat → Int32} {n : Nat} {s : q_Sg × Int32} (h12 : n ≤ 12) (hn0 : 0 < n) (h : q_rs I n s.1 s.2) (hk : s.1.2.2.1 < 2 ^ 28) : ∃ I', q_rs I' n (q_dy n s).1 (q_dy n s).2 ∧ q_fc I I' ∧ (q_dy n s).1.2.2.1 ≤ s.1.2.2.1 + 25 ∧ ∀ {Q : Value → q_Mem → Prop}, q_W (d + 40) 131 [.ref 1] (q_mm L I J t) Q = Q .null (q_mm L I' J t) := by
  obtain ⟨σ, sd⟩ := s
  dsimp only at h hk
  obtain ⟨p, hp⟩ : ∃ p, p = q_dr (q_sd sd) % n := ⟨_, rfl⟩
  obtain ⟨e, he⟩ : ∃ e, e = q_dr (q_sd (q_sd sd)) % 3 := ⟨_, rfl⟩
  have hpn : p < n := by rw [hp]; exact Nat.mod_lt _ hn0
  have he3 : e < 3 := by rw [he]; exact Nat.mod_lt _ (by decide)
  have hp12 : p < 12 := by omega
  obtain ⟨X, hX⟩ : ∃ X, X = q_u (q_u I 3 5 (q_sd sd)) 3 5 (q_sd (q_sd sd)) := ⟨_, rfl⟩
  have hXr : q_rs X n σ (q_sd (q_sd sd)) := by rw [hX]; exact q_rc_sd h12 (q_rc_sd h12 h)
  have hXf : q_fc I X := by rw [hX]; exact q_fc_trans q_fc_sd q_fc_sd
  have h9 : X (6 + p) 9 = σ.1 p := by
    have := (hXr.2.1 p hpn).1.2.2.2.2.2.2.1
    rw [q_ar_ne (show 6 + p ≠ 131 by omega), q_ar_eq] at this
    exact this
  have hcall : ∀ {Q : Value → q_Mem → Prop}, q_W (d + 40) 131 [.ref 1] (q_mm L I J t) Q = q_X (q_W (d + 39)) (fun v μ _ _ => Q v μ) 131 (32, [some (.ref 1), some (.int (nI p)), some (.int (nI e)), none], [.int 1], q_mm L X J t, 0, 0) := by
    intro Q
    have h35 : I 3 5 = sd := h.2.2.2.1
    rw [e_C_liveDay, h.1, s_draw hn0 (by omega), q_onI_i, g_C_liveDay_14, show (3 : Int32) = nI 3 by decide, s_draw (by decide) (by decide), q_onI_i, g_C_liveDay_23, q_u_eq, h35, ← hX, ← hp, ← he, s_hasPlug hXr.1 h12, q_in_nI (by omega), decide_eq_true hpn, q_onI_i]
    rfl
  have hdy : q_dy n (σ, sd) = (q_dyS n σ p e, q_sd (q_sd sd)) := by
    unfold q_dy
    rw [hp, he]
  rw [hdy]
  dsimp only
  unfold q_dyS
  match e, he3 with
  | 0, _ =>
    rw [if_pos rfl]
    by_cases hT : σ.1 p = 1
    · rw [if_pos hT]
      refine ⟨X, hXr, hXf, Nat.le_add_right _ _, fun {Q} => ?_⟩
      rw [hcall, g_C_liveDay_32, q_brn (by decide)]
      simp only [q_clamp (show p < 2 ^ 31 by omega), q_bnd hp12 (by decide), r_plug hp12, i_plug hp12, q_onI_i, q_onJ_j, q_onS_s, q_onB_t, true_and, and_true, true_or, or_true, eq_self, true_implies, not_true_eq_false, not_false_eq_true, false_implies, q_bb0, q_bbok, q_bbok2, Bool.true_eq_false, Bool.false_eq_true, reduceCtorEq, h9]
      rw [q_br (show nI 0 = 0 by decide), q_br hT, q_brn (by decide), q_brn (by decide)]
    · rw [if_neg hT]
      obtain ⟨I1, c1, f1, -, -, hln, c6⟩ := c_try (L := L) (J := J) (t := t) (d := d + 7) h12 hXr hpn hT hk
      have hkk := q_evs_kle (th := false) (q_tse (q_bring σ.1 n 12 p [] [])) σ
      have hl := q_tse_len h12 hln
      refine ⟨I1, c1, q_fc_trans hXf f1, by omega, fun {Q} => ?_⟩
      rw [hcall, g_C_liveDay_32, q_brn (by decide)]
      simp only [q_clamp (show p < 2 ^ 31 by omega), q_bnd hp12 (by decide), r_plug hp12, i_plug hp12, q_onI_i, q_onJ_j, q_onS_s, q_onB_t, true_and, and_true, true_or, or_true, eq_self, true_implies, not_true_eq_false, not_false_eq_true, false_implies, q_bb0, q_bbok, q_bbok2, Bool.true_eq_false, Bool.false_eq_true, reduceCtorEq, h9]
      rw [q_br (show nI 0 = 0 by decide), q_brn hT, c6, q_onI_i, g_C_liveDay_63]
  | 1, _ =>
    rw [if_neg (by decide), if_pos rfl]
    by_cases hT : σ.1 p = 1
    · rw [if_pos hT]
      obtain ⟨I1, c1, f1, c6⟩ := c_stop (L := L) (J := J) (t := t) (d := d + 33) h12 hXr hpn hT (by omega)
      have hkk := q_stp_k (T := σ.1) (R := σ.2.2.2) (n := n) (k := σ.2.2.1) (x := p)
      refine ⟨I1, c1, q_fc_trans hXf f1, by show (q_stp n σ.1 σ.2.2.2 σ.2.2.1 p).2.1 ≤ _; omega, fun {Q} => ?_⟩
      rw [hcall, g_C_liveDay_32, q_brn (by decide)]
      simp only [q_clamp (show p < 2 ^ 31 by omega), q_bnd hp12 (by decide), r_plug hp12, i_plug hp12, q_onI_i, q_onJ_j, q_onS_s, q_onB_t, true_and, and_true, true_or, or_true, eq_self, true_implies, not_true_eq_false, not_false_eq_true, false_implies, q_bb0, q_bbok, q_bbok2, Bool.true_eq_false, Bool.false_eq_true, reduceCtorEq, h9]
      rw [q_brn (by decide), q_br (show nI 1 = 1 by decide), q_br hT, c6, q_onI_i, g_C_liveDay_82]
    · rw [if_neg hT]
      refine ⟨X, hXr, hXf, Nat.le_add_right _ _, fun {Q} => ?_⟩
      rw [hcall, g_C_liveDay_32, q_brn (by decide)]
      simp only [q_clamp (show p < 2 ^ 31 by omega), q_bnd hp12 (by decide), r_plug hp12, i_plug hp12, q_onI_i, q_onJ_j, q_onS_s, q_onB_t, true_and, and_true, true_or, or_true, eq_self, true_implies, not_true_eq_false, not_false_eq_true, false_implies, q_bb0, q_bbok, q_bbok2, Bool.true_eq_false, Bool.false_eq_true, reduceCtorEq, h9]
      rw [q_brn (by decide), q_br (show nI 1 = 1 by decide), q_brn hT, q_brn (by decide)]
  | 2, _ =>
    rw [if_neg (by decide), if_neg (by decide)]
    by_cases hT : σ.1 p = 2
    · rw [if_pos hT]
      refine ⟨_, q_rc_off (x := 0) h12 hpn (by decide) ⟨by decide, by decide⟩ hXr, q_fc_trans hXf (q_fc_off hp12), Nat.le_add_right _ _, fun {Q} => ?_⟩
      rw [hcall, g_C_liveDay_32, q_brn (by decide)]
      simp only [q_clamp (show p < 2 ^ 31 by omega), q_bnd hp12 (by decide), r_plug hp12, i_plug hp12, q_onI_i, q_onJ_j, q_onS_s, q_onB_t, true_and, and_true, true_or, or_true, eq_self, true_implies, not_true_eq_false, not_false_eq_true, false_implies, q_bb0, q_bbok, q_bbok2, Bool.true_eq_false, Bool.false_eq_true, reduceCtorEq, h9]
      rw [q_brn (by decide), q_brn (by decide), q_br (show nI 2 = 2 by decide), q_br hT]
    · rw [if_neg hT]
      refine ⟨X, hXr, hXf, Nat.le_add_right _ _, fun {Q} => ?_⟩
      rw [hcall, g_C_liveDay_32, q_brn (by decide)]
      simp only [q_clamp (show p < 2 ^ 31 by omega), q_bnd hp12 (by decide), r_plug hp12, i_plug hp12, q_onI_i, q_onJ_j, q_onS_s, q_onB_t, true_and, and_true, true_or, or_true, eq_self, true_implies, not_true_eq_false, not_false_eq_true, false_implies, q_bb0, q_bbok, q_bbok2, Bool.true_eq_false, Bool.false_eq_true, reduceCtorEq, h9]
      rw [q_brn (by decide), q_brn (by decide), q_br (show nI 2 = 2 by decide), q_brn hT]
theorem l_Cdays {n N B : Nat} (h12 : n ≤ 12) (hn0 : 0 < n) (hN : N ≤ 40) (hB : B < 2 ^ 28) : ∀ (k i : Nat) (I : Nat → Nat → Int32) (s : q_Sg × Int32), i + k = N → q_rs I n s.1 s.2 → s.1.2.2.1 + 25 * k ≤ B → ∃ I', q_rs I' n (q_rep (q_dy n) k s).1 (q_rep (q_dy n) k s).2 ∧ q_fc I I' ∧ (q_rep (q_dy n) k s).1.2.2.1 ≤ s.1.2.2.1 + 25 * k ∧ ∀ (rt : Value → q_Mem → Nat → Nat → Prop), q_X (q_W (d + 40)) rt 112 (37, [some (.ref 1), some (.int (nI N)), some (.int (nI i))], [], (q_mm L I J t), 0, 0) = q_X (q_W (d + 40)) rt 112 (37, [some (.ref 1), some (.int (nI N)), some (.int (nI N))], [], q_mm L I' J t, 0, 0) := by
  intro k
  induction k with
  | zero =>
    intro i I s h hr hk
    have : i = N := by omega
    subst this
    exact ⟨I, hr, q_fc_refl, Nat.le_refl _, fun _ => rfl⟩
  | succ k ih =>
    intro i I s h hr hk
    obtain ⟨I1, r1, f1, k1, w1⟩ := c_day (L := L) (d := d) (J := J) (t := t) h12 hn0 hr (by omega)
    rw [q_rep_s]
    revert r1 k1
    generalize q_dy n s = s1
    intro r1 k1
    obtain ⟨I', r2, f2, k2, w2⟩ := ih (i + 1) I1 s1 (by omega) r1 (by omega)
    refine ⟨I', r2, q_fc_trans f1 f2, ?_, fun rt => ?_⟩
    · revert k2
      generalize q_rep (q_dy n) k s1 = s2
      intro k2
      omega
    · rw [g_C_days_37, q_leN (by omega) (by omega), q_brn (by omega), w1, g_C_days_46, q_n1, w2]
def q_rsm (I : Nat → Nat → Int32) (n : Nat) (s : q_Sg × Int32) : Prop := q_rst I n s.1 s.2 false
theorem m_day {I : Nat → Nat → Int32} {n N i : Nat} {s : q_Sg × Int32} (h12 : n ≤ 12) (hn0 : 0 < n) (hN : N ≤ 40) (hi : i < N) (hnm : ∀ q, q < n → q_nameok (s.1.1 (72 + q))) (h : q_rsm I n s) (hk : s.1.2.2.1 < 2 ^ 28) : ∃ I', q_rsm I' n (q_dy n s) ∧ q_fm I I' ∧ ∀ (rt : Value → q_Mem → Nat → Nat → Prop) (w3 w4 : Option Value), ∃ w3' w4', q_X (q_W (d + 40)) rt 215 (33, [some (.ref 130), some (.int (nI N)), some (.int (nI i)), w3, w4], [], (q_mm L I J t), 0, 0) = q_X (q_W (d + 40)) rt 215 (33, [some (.ref 130), some (.int (nI N)), some (.int (nI (i + 1))), w3', w4'], [], q_mm L I' J t, 0, 0) := by
  obtain ⟨σ, sd⟩ := s
  dsimp only at hnm hk
  obtain ⟨p, hp⟩ : ∃ p, p = q_dr (q_sd sd) % n := ⟨_, rfl⟩
  obtain ⟨e, he⟩ : ∃ e, e = q_dr (q_sd (q_sd sd)) % 3 := ⟨_, rfl⟩
  have hpn : p < n := by rw [hp]; exact Nat.mod_lt _ hn0
  have he3 : e < 3 := by rw [he]; exact Nat.mod_lt _ (by decide)
  have hp12 : p < 12 := by omega
  obtain ⟨X, hX⟩ : ∃ X, X = q_u (q_u I 130 3 (q_sd sd)) 130 3 (q_sd (q_sd sd)) := ⟨_, rfl⟩
  have h' : q_rst I n σ sd false := h
  obtain ⟨z1, z2, z3, z4, z5, z6, z7⟩ := id h'
  have hXr : q_rst X n σ (q_sd (q_sd sd)) false := by
    rw [hX]
    exact ⟨by rw [q_u_nk (by decide), q_u_nk (by decide)]; exact z1, by rw [q_u_ne (by decide), q_u_ne (by decide)]; exact z2, by rw [q_u_nk (by decide), q_u_nk (by decide)]; exact z3, q_u_eq, by rw [q_u_nk (by decide), q_u_nk (by decide)]; exact z5, fun i hi => by rw [q_u_ne (by decide), q_u_ne (by decide)]; exact z6 i hi, by rw [q_u_nk (by decide), q_u_nk (by decide)]; exact z7⟩
  have hXf : q_fm I X := by
    rw [hX]
    exact ⟨fun o h1 _ _ _ _ _ _ => by rw [q_u_ne h1, q_u_ne h1], by rw [q_u_nk (by decide), q_u_nk (by decide)], by rw [q_u_nk (by decide), q_u_nk (by decide)], by rw [q_u_nk (by decide), q_u_nk (by decide)], by rw [q_u_nk (by decide), q_u_nk (by decide)], by rw [q_u_nk (by decide), q_u_nk (by decide)], by rw [q_u_nk (by decide), q_u_nk (by decide)]⟩
  have hXT : X 131 p = σ.1 p := by rw [hXr.2.1]
  have hcall : ∀ (rt : Value → q_Mem → Nat → Nat → Prop) (w3 w4 : Option Value), q_X (q_W (d + 40)) rt 215 (33, [some (.ref 130), some (.int (nI N)), some (.int (nI i)), w3, w4], [], (q_mm L I J t), 0, 0) = q_X (q_W (d + 40)) rt 215 (52, [some (.ref 130), some (.int (nI N)), some (.int (nI i)), some (.int (nI p)), w4], [.int (nI e)], q_mm L X J t, 0, 0) := by
    intro rt w3 w4
    rw [g_M_days_33, q_leN (by omega) (by omega), q_brn (by omega), z1, s_Mdraw hn0 (by omega), q_onI_i, g_M_days_46, show (3 : Int32) = nI 3 by decide, s_Mdraw (by decide) (by decide), q_onI_i, q_u_eq, z4, ← hX, ← hp, ← he]
  have hdy : q_dy n (σ, sd) = (q_dyS n σ p e, q_sd (q_sd sd)) := by
    unfold q_dy
    rw [hp, he]
  rw [hdy]
  unfold q_dyS
  match e, he3 with
  | 0, _ =>
    rw [if_pos rfl]
    by_cases hT : σ.1 p = 1
    · rw [if_pos hT]
      refine ⟨X, hXr, hXf, fun rt w3 w4 => ⟨some (.int (nI p)), some (.int (nI 0)), ?_⟩⟩
      rw [hcall, g_M_days_52, q_br (show nI 0 = 0 by decide), s_state (by omega), q_onI_i, hXT, g_M_days_64, q_br hT, q_brn (by decide), q_brn (by decide), q_n1]
    · rw [if_neg hT]
      obtain ⟨I1, f1, c1, -, -, c6⟩ := m_begins (L := L) (J := J) (t := t) (D := d + 7) (th := false) h12 hXr hnm hk hpn hT
      refine ⟨I1, c1, q_fm_trans hXf (q_fms_fm f1), fun rt w3 w4 => ⟨some (.int (nI p)), some (.int (nI 0)), ?_⟩⟩
      rw [hcall, g_M_days_52, q_br (show nI 0 = 0 by decide), s_state (by omega), q_onI_i, hXT, g_M_days_64, q_brn hT, c6, q_onI_i, g_M_days_73, q_brn (by decide), q_brn (by decide), q_n1]
  | 1, _ =>
    rw [if_neg (by decide), if_pos rfl]
    by_cases hT : σ.1 p = 1
    · rw [if_pos hT]
      obtain ⟨I1, c1, f1, c6⟩ := m_stop (L := L) (J := J) (t := t) (d := d + 35) h12 hXr hpn hT (by omega)
      refine ⟨I1, c1, q_fm_trans hXf f1, fun rt w3 w4 => ⟨some (.int (nI p)), some (.int (nI 1)), ?_⟩⟩
      rw [hcall, g_M_days_52, q_brn (by decide), q_br (show nI 1 = 1 by decide), s_state (by omega), q_onI_i, hXT, g_M_days_85, q_br hT, c6, q_onI_i, g_M_days_94, q_brn (by decide), q_n1]
    · rw [if_neg hT]
      refine ⟨X, hXr, hXf, fun rt w3 w4 => ⟨some (.int (nI p)), some (.int (nI 1)), ?_⟩⟩
      rw [hcall, g_M_days_52, q_brn (by decide), q_br (show nI 1 = 1 by decide), s_state (by omega), q_onI_i, hXT, g_M_days_85, q_brn hT, q_brn (by decide), q_n1]
  | 2, _ =>
    rw [if_neg (by decide), if_neg (by decide)]
    by_cases hT : σ.1 p = 2
    · rw [if_pos hT]
      refine ⟨_, q_rmm_off (p := p) (x := 0) hXr, q_fm_trans hXf q_fm_off, fun rt w3 w4 => ⟨some (.int (nI p)), some (.int (nI 2)), ?_⟩⟩
      rw [hcall, g_M_days_52, q_brn (by decide), q_brn (by decide), q_br (show nI 2 = 2 by decide), s_state (by omega), q_onI_i, hXT, g_M_days_106, q_br hT, q_clamp (by omega), q_n1]
      simp only [q_bnd (show p < 108 by omega) (by decide), true_and]
    · rw [if_neg hT]
      refine ⟨X, hXr, hXf, fun rt w3 w4 => ⟨some (.int (nI p)), some (.int (nI 2)), ?_⟩⟩
      rw [hcall, g_M_days_52, q_brn (by decide), q_brn (by decide), q_br (show nI 2 = 2 by decide), s_state (by omega), q_onI_i, hXT, g_M_days_106, q_brn hT, q_n1]
theorem q_dy_nm {n q : Nat} {s : q_Sg × Int32} (h12 : n ≤ 12) (hn0 : 0 < n) (hq : q < n) {I : Nat → Nat → Int32} (h : q_rs I n s.1 s.2) : q_nameok (s.1.1 (72 + q)) := v_plug_name (h.2.1 q hq)
theorem l_Mdays {n N B : Nat} (h12 : n ≤ 12) (hn0 : 0 < n) (hN : N ≤ 40) (hB : B < 2 ^ 28) : ∀ (k i : Nat) (I C : Nat → Nat → Int32) (s : q_Sg × Int32), i + k = N → q_rsm I n s → q_rs C n s.1 s.2 → s.1.2.2.1 + 25 * k ≤ B → ∃ I', q_rsm I' n (q_rep (q_dy n) k s) ∧ q_fm I I' ∧ ∀ (rt : Value → q_Mem → Nat → Nat → Prop) (w3 w4 : Option Value), ∃ w3' w4', q_X (q_W (d + 40)) rt 215 (33, [some (.ref 130), some (.int (nI N)), some (.int (nI i)), w3, w4], [], (q_mm L I J t), 0, 0) = q_X (q_W (d + 40)) rt 215 (33, [some (.ref 130), some (.int (nI N)), some (.int (nI N)), w3', w4'], [], q_mm L I' J t, 0, 0) := by
  intro k
  induction k with
  | zero =>
    intro i I C s h hr hC hk
    have : i = N := by omega
    subst this
    exact ⟨I, hr, q_fm_refl, fun _ w3 w4 => ⟨w3, w4, rfl⟩⟩
  | succ k ih =>
    intro i I C s h hr hC hk
    obtain ⟨C1, rC, fC, kC, wC⟩ := c_day (L := L) (d := d) (J := J) (t := t) h12 hn0 hC (by omega)
    obtain ⟨I1, r1, f1, w1⟩ := m_day (L := L) (d := d) (J := J) (t := t) (i := i) h12 hn0 hN (by omega) (fun q hq => q_dy_nm h12 hn0 hq hC) hr (by omega)
    rw [q_rep_s]
    revert rC kC r1
    generalize q_dy n s = s1
    intro rC kC r1
    obtain ⟨I', r2, f2, w2⟩ := ih (i + 1) I1 C1 s1 (by omega) r1 rC (by omega)
    refine ⟨I', r2, q_fm_trans f1 f2, fun rt w3 w4 => ?_⟩
    obtain ⟨u3, u4, hu⟩ := w1 rt w3 w4
    obtain ⟨v3, v4, hv⟩ := w2 rt u3 u4
    exact ⟨v3, v4, hu.trans hv⟩
end DAYS
section DAYS2
variable {L c : Nat} {I : Nat → Nat → Int32} {J : Nat → Nat → Int64} {t : Nat}
theorem t_days {x : Int32} (hc : c < 512) (h : q_J c I J t) : q_SI 100 112 215 [.int x] (q_J (c + 1)) L I J t := by
  obtain ⟨n, hk, m, h2, h3, h4, h5, h6, h7, h8⟩ := id h
  obtain ⟨⟨a1, a2, a3, a4, a5, a6⟩, m2, m3, m4, m5⟩ := id m
  have m2' : ∀ k v, q_u I 113 k v 130 0 = nI n := fun k v => by rw [q_u_ne (by decide)]; exact m2
  unfold q_SI
  rw [e_C_days, a1, q_eq0 (by omega), q_lt, q_le, show (1 : Int32).toInt = 1 by decide, show (40 : Int32).toInt = 40 by decide]
  by_cases hn : n = 0
  · rw [q_br hn, s_refuse5, q_onI_i, g_C_days_16]
    refine ⟨_, _, _, _, rfl, rfl, q_u_ne (by decide), ?_⟩
    rw [e_M_days, m2', q_eq0 (by omega), q_br hn, s_no5, q_onI_i, g_M_days_13]
    exact ⟨rfl, _, _, _, rfl, q_J_refuse 5 h⟩
  · rw [q_brn hn]
    by_cases hx : 1 ≤ x.toInt ∧ x.toInt ≤ 40
    · obtain ⟨N, hN, rfl⟩ := q_in_get (n := 41) (x := x) (decide_eq_true (by omega))
      rw [nI_toInt (by omega)] at hx
      rw [nI_toInt (by omega), q_brn (by omega), q_br (by omega)]
      obtain ⟨k, k1, k2, k3⟩ := q_J_rc m h
      obtain ⟨s, hs⟩ : ∃ s : q_Sg × Int32, s = ((I 131, I 130 2, k, I 139), I 130 3) := ⟨_, rfl⟩
      have hsr : q_rs I n s.1 s.2 := by rw [hs]; exact k2
      have hsk : s.1.2.2.1 = k := by rw [hs]
      obtain ⟨I1, r1, f1, kk, w1⟩ := l_Cdays (L := L) (d := 59) (J := J) (t := t) (N := N) (B := k + 1000) a3 (by omega) (by omega) (by omega) N 0 I s (by omega) hsr (by omega)
      have hm : q_rsm I1 n s := by rw [hs]; exact k3 I1 (q_fc_130 f1)
      obtain ⟨I2, r2, f2, w2⟩ := l_Mdays (L := L) (d := 59) (J := J) (t := t) (N := N) (B := k + 1000) a3 (by omega) (by omega) (by omega) N 0 I1 I s (by omega) hm hsr (by omega)
      revert r1 kk r2
      generalize q_rep (q_dy n) N s = s2
      intro r1 kk r2
      rw [show (0 : Int32) = nI 0 by decide, w1, g_C_days_37, q_leN (by omega) (by omega), q_br (Nat.le_refl _), s_countIn r1.1 a3, q_onI_i, g_C_days_60]
      refine ⟨_, _, _, _, rfl, rfl, f1.1 0 (by decide) (by decide) (by decide) (by decide) (by decide) (by decide) (by decide) (by decide), ?_⟩
      obtain ⟨u3, u4, hu⟩ := w2 (fun v' μ2 _ _ => v' = Value.int (q_it (fun p c => if I1 (6 + p) 9 = 1 then c + 1 else c) 0 n 0) ∧ ∃ (I2 : Nat → Nat → Int32) (J2 : Nat → Nat → Int64) (t2 : Nat), μ2 = q_mm L I2 J2 t2 ∧ q_J (c + 1) I2 J2 t2) none none
      rw [show nI 0 = (0 : Int32) by decide] at hu
      rw [e_M_days, hm.1, q_eq0 (by omega), q_brn hn, s_within, nI_toInt (by omega), show (1 : Int32).toInt = 1 by decide, show (40 : Int32).toInt = 40 by decide, decide_eq_true hx, q_onI_i, g_M_days_21, q_brn (by decide), hu, g_M_days_33, q_leN (by omega) (by omega), q_br (Nat.le_refl _), s_inState r2.1 a3, q_onI_i, g_M_days_128]
      refine ⟨?_, _, _, _, rfl, q_J_dyn m h r1 f1 r2 f2 (by omega)⟩
      congr 1
      refine q_it_congr n 0 _ fun p a _ hp => ?_
      have h9 := (r1.2.1 p (by omega)).1.2.2.2.2.2.2.1
      rw [q_ar_ne (show 6 + p ≠ 131 by omega), q_ar_eq] at h9
      rw [h9, r2.2.1]
    · have hC : ∀ (A B : Prop), ((x.toInt < 1 → A) ∧ (¬ x.toInt < 1 → ((x.toInt ≤ 40 → B) ∧ (¬ x.toInt ≤ 40 → A)))) = A := fun A B => by
        by_cases h1 : x.toInt < 1
        · rw [q_br h1]
        · rw [q_brn h1, q_brn (by omega)]
      rw [hC, s_refuse6, q_onI_i, g_C_days_34]
      refine ⟨_, _, _, _, rfl, rfl, q_u_ne (by decide), ?_⟩
      rw [e_M_days, m2', q_eq0 (by omega), q_brn hn, s_within, show (1 : Int32).toInt = 1 by decide, show (40 : Int32).toInt = 40 by decide, decide_eq_false hx, q_onI_i, g_M_days_21, q_br (by decide), s_no6, q_onI_i, g_M_days_30]
      exact ⟨rfl, _, _, _, rfl, q_J_refuse 6 h⟩
end DAYS2
