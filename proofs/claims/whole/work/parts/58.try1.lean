/-! what happens, one by one: 0 started, 1 stopped, 2 broken; the class's part -/
abbrev q_Sg : Type := (Nat → Int32) × Int32 × Nat × (Nat → Int32)
def q_evk (th : Bool) (k : Nat) : Nat := match th with
  | true => k
  | false => k + 1
def q_evR (th : Bool) (k : Nat) (R : Nat → Int32) (e : Nat) : Nat → Int32 := match th with
  | true => R
  | false => q_up R (k % 40) (nI e)
def q_evt (th : Bool) (σ : q_Sg) (e : Nat × Nat) : q_Sg := ((match e.1 with
  | 0 => q_up (q_up σ.1 e.2 1) (84 + e.2) σ.2.1
  | 1 => q_up σ.1 e.2 0
  | _ => q_up (q_up σ.1 (60 + e.2) (σ.1 (60 + e.2) - 1)) e.2 2), (match e.1 with
  | 0 => σ.2.1 + 1
  | _ => σ.2.1), q_evk th σ.2.2.1, q_evR th σ.2.2.1 σ.2.2.2 (100 * (e.1 + 1) + e.2))
def q_evs (th : Bool) (es : List (Nat × Nat)) (σ : q_Sg) : q_Sg := es.foldl (q_evt th) σ
theorem q_evs_cons {th : Bool} {e : Nat × Nat} {es : List (Nat × Nat)} {σ : q_Sg} : q_evs th (e :: es) σ = q_evs th es (q_evt th σ e) := rfl
theorem q_evs_app {th : Bool} {es fs : List (Nat × Nat)} {σ : q_Sg} : q_evs th (es ++ fs) σ = q_evs th fs (q_evs th es σ) := by
  unfold q_evs
  rw [List.foldl_append]
theorem q_evs_k : ∀ (es : List (Nat × Nat)) (σ : q_Sg), (q_evs false es σ).2.2.1 = σ.2.2.1 + es.length
  | [], _ => rfl
  | e :: es, σ => by
    rw [q_evs_cons, q_evs_k es, List.length_cons]
    show σ.2.2.1 + 1 + es.length = _
    omega
def q_rs (I : Nat → Nat → Int32) (n : Nat) (σ : q_Sg) (sd : Int32) : Prop := q_rc I n σ.1 σ.2.2.2 σ.2.1 sd σ.2.2.1
def q_fcs (I I' : Nat → Nat → Int32) : Prop := (∀ o, (o < 6 ∨ 18 ≤ o) → o ≠ 3 → o ≠ 110 → o ≠ 111 → I' o = I o) ∧ I' 3 3 = I 3 3
theorem q_fcs_refl {I : Nat → Nat → Int32} : q_fcs I I := ⟨fun _ _ _ _ _ => rfl, rfl⟩
theorem q_fcs_trans {I I1 I2 : Nat → Nat → Int32} (h1 : q_fcs I I1) (h2 : q_fcs I1 I2) : q_fcs I I2 := ⟨fun o a b c d => (h2.1 o a b c d).trans (h1.1 o a b c d), h2.2.trans h1.2⟩
theorem q_fcs_fc {I I' : Nat → Nat → Int32} (h : q_fcs I I') : q_fc I I' := ⟨fun o a b c d _ _ _ _ => h.1 o a b c d, h.2⟩
theorem q_fpl_fc {I I' : Nat → Nat → Int32} (h : q_fpl I I') : q_fc I I' := ⟨fun o a b c d e f g _ => h o e f g, by rw [h 3 (by decide) (by decide) (by decide)]⟩
theorem v_plug_gen {I I' : Nat → Nat → Int32} {T T' : Nat → Int32} {p : Nat} (hp : p < 12) (hk : ∀ k, k ≠ 4 → k ≠ 9 → k ≠ 10 → I' (6 + p) k = I (6 + p) k) (hT : ∀ j, j < 9 → j ≠ 0 → j ≠ 5 → j ≠ 7 → T' (12 * j + p) = T (12 * j + p)) (h9 : I' (6 + p) 9 = T' p) (h10 : T' p = 1 → I' (6 + p) 10 = T' (84 + p)) (h4 : I' (6 + p) 4 = T' (60 + p)) (r5 : q_rng (T' (60 + p)) 0 9) (r0 : q_rng (T' p) 0 3) (h : v_plug q_bc (q_ar 131 I T) 6 131 p) : v_plug q_bc (q_ar 131 I' T') 6 131 p := by
  have z1 : q_ar 131 I' T' (6 + p) = I' (6 + p) := q_ar_ne (by omega)
  have z2 : q_ar 131 I T (6 + p) = I (6 + p) := q_ar_ne (by omega)
  unfold v_plug at h ⊢
  rw [z1]
  rw [z2] at h
  simp only [q_ar_eq] at h ⊢
  obtain ⟨⟨a1, a2, a3, a4, a5, a6, a7, a8⟩, b, c, d, e1, e2, e3, e4, e5, e6, e7⟩ := h
  have k0 := hk 0 (by decide) (by decide) (by decide)
  have k1 := hk 1 (by decide) (by decide) (by decide)
  have k2 := hk 2 (by decide) (by decide) (by decide)
  have k3 := hk 3 (by decide) (by decide) (by decide)
  have k5 := hk 5 (by decide) (by decide) (by decide)
  have k6 := hk 6 (by decide) (by decide) (by decide)
  have k7 := hk 7 (by decide) (by decide) (by decide)
  have k8 := hk 8 (by decide) (by decide) (by decide)
  have t1 : T' (12 + p) = T (12 + p) := hT 1 (by decide) (by decide) (by decide) (by decide)
  have t2 : T' (24 + p) = T (24 + p) := hT 2 (by decide) (by decide) (by decide) (by decide)
  have t3 : T' (36 + p) = T (36 + p) := hT 3 (by decide) (by decide) (by decide) (by decide)
  have t4 : T' (48 + p) = T (48 + p) := hT 4 (by decide) (by decide) (by decide) (by decide)
  have t6 : T' (72 + p) = T (72 + p) := hT 6 (by decide) (by decide) (by decide) (by decide)
  have t8 : T' (96 + p) = T (96 + p) := hT 8 (by decide) (by decide) (by decide) (by decide)
  rw [k0, k1, k2, k3, k5, k6, k7, k8, t1, t2, t3, t4, t6, t8]
  exact ⟨⟨a1, a2, a3, a4, h4, a6, h9, a8⟩, h10, c, d, e1, e2, e3, e4, r5, e6, r0⟩
theorem v_plug_same {I I' : Nat → Nat → Int32} {T T' : Nat → Int32} {p : Nat} (hp : p < 12) (h1 : I' (6 + p) = I (6 + p)) (hT : ∀ j, j < 9 → T' (12 * j + p) = T (12 * j + p)) (h : v_plug q_bc (q_ar 131 I T) 6 131 p) : v_plug q_bc (q_ar 131 I' T') 6 131 p := by
  refine v_plug_else ?_ (fun k hk => ?_) h
  · rw [q_ar_ne (by omega), q_ar_ne (by omega), h1]
  · rw [q_ar_eq, q_ar_eq, hT k hk]
theorem q_rc_plug {I X : Nat → Nat → Int32} {n k p : Nat} {T T' R : Nat → Int32} {ck ck' sd : Int32} (h12 : n ≤ 12) (h3 : X 3 2 = I 3 2 ∧ X 3 5 = I 3 5) (hck : X 3 4 = ck') (ho : ∀ q, q < 12 → q ≠ p → X (6 + q) = I (6 + q)) (hT : ∀ q, q < 12 → q ≠ p → ∀ j, j < 9 → T' (12 * j + q) = T (12 * j + q)) (hX : p < n → v_plug q_bc (q_ar 131 X T') 6 131 p) (hl : X 110 = I 110 ∧ X 111 = I 111) (h : q_rc I n T R ck sd k) : q_rc X n T' R ck' sd k := by
  obtain ⟨a, b, c, d, e, f⟩ := h
  refine ⟨by rw [h3.1]; exact a, fun q hq => ?_, hck, by rw [h3.2]; exact d, by rw [hl.1]; exact e, fun i hi => by rw [hl.2]; exact f i hi⟩
  by_cases z : q = p
  · subst z
    exact hX hq
  · exact v_plug_same (by omega) (ho q (by omega) z) (hT q (by omega) z) (b q hq)
theorem q_rc_log {I : Nat → Nat → Int32} {n k : Nat} {T R : Nat → Int32} {ck sd v : Int32} (h12 : n ≤ 12) (h : q_rc I n T R ck sd k) : q_rc (q_u (q_u I 111 (k % 40) v) 110 1 (nI (k + 1))) n T (q_up R (k % 40) v) ck sd (k + 1) := by
  obtain ⟨a, b, c, d, e, f⟩ := h
  have ho : ∀ o, o ≠ 110 → o ≠ 111 → q_u (q_u I 111 (k % 40) v) 110 1 (nI (k + 1)) o = I o := fun o h1 h2 => by rw [q_u_ne h1, q_u_ne h2]
  refine ⟨by rw [ho 3 (by decide) (by decide)]; exact a, fun q hq => v_plug_same (by omega) (ho _ (by omega) (by omega)) (fun _ _ => rfl) (b q hq), by rw [ho 3 (by decide) (by decide)]; exact c, by rw [ho 3 (by decide) (by decide)]; exact d, q_u_eq, fun i hi => ?_⟩
  rw [q_u_ne (by decide)]
  by_cases z : i = k % 40
  · subst z
    rw [q_u_eq, q_up_eq]
  · rw [q_u_nk z, q_up_ne z]
    exact f i hi
theorem q_fcs_log {I X : Nat → Nat → Int32} {j : Nat} {v w : Int32} (h : q_fcs I X) : q_fcs I (q_u (q_u X 111 j v) 110 1 w) := ⟨fun o a b c d => by rw [q_u_ne c, q_u_ne d]; exact h.1 o a b c d, by rw [q_u_ne (by decide), q_u_ne (by decide)]; exact h.2⟩
section TRY1
variable {L d : Nat} {I : Nat → Nat → Int32} {J : Nat → Nat → Int64} {t : Nat}
theorem s_logadd2 {Q : Value → q_Mem → Prop} {k : Nat} {v : Int32} (hI : I 110 1 = nI k) (hk : k < 2 ^ 30) : q_W (d + 1) 1 [.ref 110, .int v] (q_mm L I J t) Q = Q .null (q_mm L (q_u (q_u I 111 (k % 40) v) 110 1 (nI (k + 1))) J t) := by
  rw [e_EventLog_add, hI, q_mod40 (by omega)]
  simp only [q_clamp (show k % 40 < 2 ^ 31 by omega), q_bnd (show k % 40 < 40 by omega) (by decide), true_and, show ¬ (40 : Int32) = 0 by decide, not_false_eq_true]
  rw [q_u_ne (show (110 : Nat) ≠ 111 by decide), hI, q_n1]
theorem c_run {n p : Nat} {σ : q_Sg} {sd : Int32} (h12 : n ≤ 12) (h : q_rs I n σ sd) (hp : p < n) (hk : σ.2.2.1 < 2 ^ 29) : ∃ I', q_rs I' n (q_evt false σ (0, p)) sd ∧ q_fcs I I' ∧ ∀ {Q : Value → q_Mem → Prop}, q_W (d + 2) 127 [.ref 1, .int (nI p)] (q_mm L I J t) Q = Q .null (q_mm L I' J t) := by
  obtain ⟨a, b, c, e, f, g⟩ := id h
  have hp12 : p < 12 := by omega
  have hb := b p hp
  have hx : q_rc (q_u (q_u (q_u I (6 + p) 9 1) (6 + p) 10 (I 3 4)) 3 4 (I 3 4 + 1)) n (q_up (q_up σ.1 p 1) (84 + p) σ.2.1) σ.2.2.2 (σ.2.1 + 1) sd σ.2.2.1 := by
    refine q_rc_plug (p := p) h12 ⟨by rw [q_u_nk (by decide), q_u_ne (by omega), q_u_ne (by omega)], by rw [q_u_nk (by decide), q_u_ne (by omega), q_u_ne (by omega)]⟩ (by rw [q_u_eq, c]) (fun q hq hqp => by rw [q_u_ne (by omega), q_u_ne (by omega), q_u_ne (by omega)]) (fun q hq hqp j hj => by rw [q_up_ne (by omega), q_up_ne (by omega)]) (fun _ => ?_) ⟨by rw [q_u_ne (by omega), q_u_ne (by omega), q_u_ne (by omega)], by rw [q_u_ne (by omega), q_u_ne (by omega), q_u_ne (by omega)]⟩ h
    have h4 := hb.1.2.2.2.2.1
    have r5 := hb.2.2.2.2.2.2.2.2.1
    rw [q_ar_ne (show 6 + p ≠ 131 by omega), q_ar_eq] at h4
    rw [q_ar_eq] at r5
    refine v_plug_gen hp12 (fun k h4 h9 h10 => by rw [q_u_ne (by omega), q_u_nk h10, q_u_nk h9]) (fun j hj h0 h5 h7 => by rw [q_up_ne (by omega), q_up_ne (by omega)]) ?_ (fun _ => ?_) ?_ ?_ ?_ hb
    · rw [q_u_ne (by omega), q_u_nk (by decide), q_u_eq, q_up_ne (by omega), q_up_eq]
    · rw [q_u_ne (by omega), q_u_eq, q_up_eq, c]
    · rw [q_u_ne (by omega), q_u_nk (by decide), q_u_nk (by decide), q_up_ne (by omega), q_up_ne (by omega)]; exact h4
    · rw [q_up_ne (by omega), q_up_ne (by omega)]; exact r5
    · rw [q_up_ne (by omega), q_up_eq]; exact ⟨by decide, by decide⟩
  refine ⟨_, q_rc_log (v := nI (100 + p)) h12 hx, q_fcs_log ⟨fun o h1 h2 h3 h4 => by rw [q_u_ne h2, q_u_ne (by omega), q_u_ne (by omega)], by rw [q_u_nk (by decide), q_u_ne (by omega), q_u_ne (by omega)]⟩, fun {Q} => ?_⟩
  rw [e_C_run, s_hasPlug a h12, q_onI_i, g_C_run_8, q_in_nI (by omega), decide_eq_true hp, q_brn (by decide)]
  simp only [q_clamp (show p < 2 ^ 31 by omega), q_bnd hp12 (by decide), r_plug hp12, i_plug hp12, q_onI_i, q_onJ_j, q_onS_s, q_onB_t, true_and, and_true, true_or, or_true, eq_self, true_implies, not_true_eq_false, not_false_eq_true, false_implies, q_bb0, q_bbok, q_bbok2, Bool.true_eq_false, Bool.false_eq_true, reduceCtorEq]
  rw [q_u_ne (show 3 ≠ 6 + p by omega), q_u_ne (show 3 ≠ 6 + p by omega), q_u_ne (show 3 ≠ 6 + p by omega), show (100 : Int32) = nI 100 by decide, q_add, s_logadd2 hx.2.2.2.2.1 (by omega), g_C_run_67]
theorem c_idl {n p : Nat} {σ : q_Sg} {sd : Int32} (h12 : n ≤ 12) (h : q_rs I n σ sd) (hp : p < n) (hk : σ.2.2.1 < 2 ^ 29) : ∃ I', q_rs I' n (q_evt false σ (1, p)) sd ∧ q_fcs I I' ∧ ∀ {Q : Value → q_Mem → Prop}, q_W (d + 2) 128 [.ref 1, .int (nI p)] (q_mm L I J t) Q = Q .null (q_mm L I' J t) := by
  obtain ⟨a, b, c, e, f, g⟩ := id h
  have hp12 : p < 12 := by omega
  have hx := q_rc_off (x := 0) h12 hp (by decide) ⟨by decide, by decide⟩ h
  refine ⟨_, q_rc_log (v := nI (200 + p)) h12 hx, q_fcs_log ⟨fun o h1 h2 h3 h4 => q_u_ne (by omega), by rw [q_u_ne (by omega)]⟩, fun {Q} => ?_⟩
  rw [e_C_idle, s_hasPlug a h12, q_onI_i, g_C_idle_8, q_in_nI (by omega), decide_eq_true hp, q_brn (by decide)]
  simp only [q_clamp (show p < 2 ^ 31 by omega), q_bnd hp12 (by decide), r_plug hp12, i_plug hp12, q_onI_i, q_onJ_j, q_onS_s, q_onB_t, true_and, and_true, true_or, or_true, eq_self, true_implies, not_true_eq_false, not_false_eq_true, false_implies, q_bb0, q_bbok, q_bbok2, Bool.true_eq_false, Bool.false_eq_true, reduceCtorEq]
  rw [show (200 : Int32) = nI 200 by decide, q_add, s_logadd2 hx.2.2.2.2.1 (by omega), g_C_idle_36]
theorem c_brk {n p : Nat} {σ : q_Sg} {sd : Int32} (h12 : n ≤ 12) (h : q_rs I n σ sd) (hp : p < n) (hF : ¬ σ.1 (60 + p) ≤ 0) (hk : σ.2.2.1 < 2 ^ 29) : ∃ I', q_rs I' n (q_evt false σ (2, p)) sd ∧ q_fcs I I' ∧ ∀ {Q : Value → q_Mem → Prop}, q_W (d + 2) 129 [.ref 1, .int (nI p)] (q_mm L I J t) Q = Q .null (q_mm L I' J t) := by
  obtain ⟨a, b, c, e, f, g⟩ := id h
  have hp12 : p < 12 := by omega
  have hb := b p hp
  have h4 := hb.1.2.2.2.2.1
  have r5 := hb.2.2.2.2.2.2.2.2.1
  rw [q_ar_ne (show 6 + p ≠ 131 by omega), q_ar_eq] at h4
  rw [q_ar_eq] at r5
  have r6 : q_rng (σ.1 (60 + p) - 1) 0 9 := by
    obtain ⟨v, hv, ev⟩ := q_in_get (n := 10) (x := σ.1 (60 + p)) (decide_eq_true ⟨r5.1, by have := r5.2; omega⟩)
    rw [ev, q_le0 (by omega)] at hF
    rw [ev]
    have hall : ∀ v, v < 10 → ¬ v = 0 → 0 ≤ (nI v - 1).toInt ∧ (nI v - 1).toInt ≤ 9 := by decide +kernel
    exact hall v hv hF
  have hx : q_rc (q_u (q_u I (6 + p) 4 (I (6 + p) 4 - 1)) (6 + p) 9 2) n (q_up (q_up σ.1 (60 + p) (σ.1 (60 + p) - 1)) p 2) σ.2.2.2 σ.2.1 sd σ.2.2.1 := by
    refine q_rc_plug (p := p) h12 ⟨by rw [q_u_ne (by omega), q_u_ne (by omega)], by rw [q_u_ne (by omega), q_u_ne (by omega)]⟩ (by rw [q_u_ne (by omega), q_u_ne (by omega)]; exact c) (fun q hq hqp => by rw [q_u_ne (by omega), q_u_ne (by omega)]) (fun q hq hqp j hj => by rw [q_up_ne (by omega), q_up_ne (by omega)]) (fun _ => ?_) ⟨by rw [q_u_ne (by omega), q_u_ne (by omega)], by rw [q_u_ne (by omega), q_u_ne (by omega)]⟩ h
    refine v_plug_gen hp12 (fun k h4 h9 h10 => by rw [q_u_nk h9, q_u_nk h4]) (fun j hj h0 h5 h7 => by rw [q_up_ne (by omega), q_up_ne (by omega)]) ?_ (fun hz => ?_) ?_ ?_ ?_ hb
    · rw [q_u_eq, q_up_eq]
    · rw [q_up_eq] at hz
      exact absurd hz (by decide)
    · rw [q_u_nk (by decide), q_u_eq, q_up_ne (by omega), q_up_eq, h4]
    · rw [q_up_ne (by omega), q_up_eq]; exact r6
    · rw [q_up_eq]; exact ⟨by decide, by decide⟩
  refine ⟨_, q_rc_log (v := nI (300 + p)) h12 hx, q_fcs_log ⟨fun o h1 h2 h3 h4 => by rw [q_u_ne (by omega), q_u_ne (by omega)], by rw [q_u_ne (by omega), q_u_ne (by omega)]⟩, fun {Q} => ?_⟩
  rw [e_C_breakDown, s_hasPlug a h12, q_onI_i, g_C_breakDown_8, q_in_nI (by omega), decide_eq_true hp, q_brn (by decide)]
  simp only [q_clamp (show p < 2 ^ 31 by omega), q_bnd hp12 (by decide), r_plug hp12, i_plug hp12, q_onI_i, q_onJ_j, q_onS_s, q_onB_t, true_and, and_true, true_or, or_true, eq_self, true_implies, not_true_eq_false, not_false_eq_true, false_implies, q_bb0, q_bbok, q_bbok2, Bool.true_eq_false, Bool.false_eq_true, reduceCtorEq]
  rw [show (300 : Int32) = nI 300 by decide, q_add, s_logadd2 hx.2.2.2.2.1 (by omega), g_C_breakDown_54]
end TRY1
