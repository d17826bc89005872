/-! the model's starts, whole -/
section MST3
variable {L d : Nat} {I : Nat → Nat → Int32} {J : Nat → Nat → Int64} {t : Nat}
theorem m_runs_ok {n p len : Nat} {σ : q_Sg} {sd : Int32} {th : Bool} (hp : p < 12) (h : q_rst I n σ sd th) (hF : σ.1 (60 + p) ≤ 0) (h17 : I 130 17 = nI len) (hlen : len < 12) (hk : σ.2.2.1 < 2 ^ 30) : ∃ I', q_rst I' n (q_evt th σ (0, p)) sd th ∧ I' 130 17 = nI (len + 1) ∧ I' 138 = q_up (I 138) len (nI p) ∧ I' 130 16 = I 130 16 ∧ I' 130 14 = I 130 14 ∧ q_fms I I' ∧ ∀ {Q : Value → q_Mem → Prop}, q_W (d + 3) 179 [.ref 130, .int (nI p)] (q_mm L I J t) Q = Q (.int 1) (q_mm L I' J t) := by
  obtain ⟨a, b, c, e, f, g, g19⟩ := id h
  obtain ⟨X, hX⟩ : ∃ X, X = q_u (q_u (q_u (q_u (q_u I 131 p 1) 131 (84 + p) (I 130 2)) 130 2 (I 130 2 + 1)) 138 len (nI p)) 130 17 (nI (len + 1)) := ⟨_, rfl⟩
  have hr : q_rst X n (q_up (q_up σ.1 p 1) (84 + p) σ.2.1, σ.2.1 + 1, σ.2.2.1, σ.2.2.2) sd th := by
    rw [hX]
    refine ⟨?_, ?_, ?_, ?_, ?_, fun i hi => ?_, ?_⟩
    · rw [q_u_nk (by decide), q_u_ne (by decide), q_u_nk (by decide), q_u_ne (by decide), q_u_ne (by decide)]; exact a
    · rw [q_u_ne (by decide), q_u_ne (by decide), q_u_ne (by decide), q_u_up, q_u_up, b, c]
    · rw [q_u_nk (by decide), q_u_ne (by decide), q_u_eq, c]
    · rw [q_u_nk (by decide), q_u_ne (by decide), q_u_nk (by decide), q_u_ne (by decide), q_u_ne (by decide)]; exact e
    · rw [q_u_nk (by decide), q_u_ne (by decide), q_u_nk (by decide), q_u_ne (by decide), q_u_ne (by decide)]; exact f
    · rw [q_u_ne (by decide), q_u_ne (by decide), q_u_ne (by decide), q_u_ne (by decide), q_u_ne (by decide)]; exact g i hi
    · rw [q_u_nk (by decide), q_u_ne (by decide), q_u_nk (by decide), q_u_ne (by decide), q_u_ne (by decide)]; exact g19
  have hl := q_rst_log (e := 100 * (0 + 1) + p) hr
  refine ⟨_, hl, ?_, ?_, ?_, ?_, ⟨fun o h1 h2 h3 h4 h5 => ?_, fun x h1 h2 h3 h4 h5 => ?_⟩, fun {Q} => ?_⟩
  · rw [q_lgm_b (by decide), hX, q_u_eq]
  · rw [q_lgm_o (by decide) (by decide), hX, q_u_ne (by decide), q_u_up, q_u_ne (by decide), q_u_ne (by decide), q_u_ne (by decide)]
  · rw [q_lgm_b (by decide), hX, q_u_nk (by decide), q_u_ne (by decide), q_u_nk (by decide), q_u_ne (by decide), q_u_ne (by decide)]
  · rw [q_lgm_b (by decide), hX, q_u_nk (by decide), q_u_ne (by decide), q_u_nk (by decide), q_u_ne (by decide), q_u_ne (by decide)]
  · rw [q_lgm_o h1 h5, hX, q_u_ne h1, q_u_ne h4, q_u_ne h1, q_u_ne h2, q_u_ne h2]
  · rw [q_lgm_b h5, hX, q_u_nk h4, q_u_ne (by decide), q_u_nk h1, q_u_ne (by decide), q_u_ne (by decide)]
  · rw [e_M_runs, show (5 : Int32) = nI 5 by decide, s_of (show 12 * 5 + p < 108 by omega), q_onI_i, g_M_runs_6, b, show 12 * 5 + p = 60 + p by omega, q_br hF, show (84 : Int32) = nI 84 by decide, q_add]
    simp only [q_clamp (show p < 2 ^ 31 by omega), q_clamp (show 84 + p < 2 ^ 31 by omega), q_bnd (show p < 108 by omega) (by decide), q_bnd (show 84 + p < 108 by omega) (by decide), true_and]
    have z1 : q_u I 131 p 1 130 2 = I 130 2 := by rw [q_u_ne (by decide)]
    have z2 : q_u (q_u I 131 p 1) 131 (84 + p) (I 130 2) 130 2 = I 130 2 := by rw [q_u_ne (by decide), q_u_ne (by decide)]
    rw [z1, z2, g_M_runs_76]
    have z3 : q_u (q_u (q_u I 131 p 1) 131 (84 + p) (I 130 2)) 130 2 (I 130 2 + 1) 130 17 = nI len := by rw [q_u_nk (by decide), q_u_ne (by decide), q_u_ne (by decide)]; exact h17
    rw [z3]
    simp only [q_clamp (show len < 2 ^ 31 by omega), q_bnd hlen (by decide), true_and]
    rw [q_u_ne (show (130 : Nat) ≠ 138 by decide), z3, q_n1, ← hX, show (100 : Int32) = nI 100 by decide, q_add, s_logs2 hr.2.2.2.2.2.2 hr.2.2.2.2.1 hk, g_M_runs_104]
    simp only [q_onI_i, q_onJ_j, q_onS_s, q_onB_t, true_and, and_true, true_or, or_true, eq_self, true_implies, not_true_eq_false, not_false_eq_true, false_implies, q_bb0, q_bbok, q_bbok2, Bool.true_eq_false, Bool.false_eq_true, reduceCtorEq]
theorem m_runs_no {n p : Nat} {σ : q_Sg} {sd : Int32} {th : Bool} (hp : p < 12) (h : q_rst I n σ sd th) (hF : ¬ σ.1 (60 + p) ≤ 0) (h14 : I 130 14 = 0) (hk : σ.2.2.1 < 2 ^ 30) : ∃ I', q_rst I' n (q_evt th σ (2, p)) sd th ∧ I' 130 17 = I 130 17 ∧ I' 138 = I 138 ∧ q_mfl I' [(p, 5, -1)] ∧ q_fms I I' ∧ ∀ {Q : Value → q_Mem → Prop}, q_W (d + 3) 179 [.ref 130, .int (nI p)] (q_mm L I J t) Q = Q (.int 0) (q_mm L I' J t) := by
  obtain ⟨a, b, c, e, f, g, g19⟩ := id h
  obtain ⟨X, hX⟩ : ∃ X, X = q_u (q_u I 131 (60 + p) (I 131 (60 + p) - 1)) 131 p 2 := ⟨_, rfl⟩
  have hr : q_rst X n (q_up (q_up σ.1 (60 + p) (σ.1 (60 + p) - 1)) p 2, σ.2.1, σ.2.2.1, σ.2.2.2) sd th := by
    rw [hX]
    refine ⟨?_, ?_, ?_, ?_, ?_, fun i hi => ?_, ?_⟩
    · rw [q_u_ne (by decide), q_u_ne (by decide)]; exact a
    · rw [q_u_up, q_u_up, b]
    · rw [q_u_ne (by decide), q_u_ne (by decide)]; exact c
    · rw [q_u_ne (by decide), q_u_ne (by decide)]; exact e
    · rw [q_u_ne (by decide), q_u_ne (by decide)]; exact f
    · rw [q_u_ne (by decide), q_u_ne (by decide)]; exact g i hi
    · rw [q_u_ne (by decide), q_u_ne (by decide)]; exact g19
  have hl := q_rst_log (e := 100 * (2 + 1) + p) hr
  have h14' : q_lgm th X σ.2.2.1 (nI (100 * (2 + 1) + p)) 130 14 = nI 0 := by
    rw [q_lgm_b (by decide), hX, q_u_ne (by decide), q_u_ne (by decide), h14]; rfl
  refine ⟨_, q_mfs_rst (j := 0) (a := nI p) (y := 5) (z := -1) hl, ?_, ?_, ?_, q_fms_trans ⟨fun o h1 h2 h3 h4 h5 => ?_, fun x h1 h2 h3 h4 h5 => ?_⟩ q_mfs_fms, fun {Q} => ?_⟩
  · rw [q_mfs_b (by decide), q_lgm_b (by decide), hX, q_u_ne (by decide), q_u_ne (by decide)]
  · rw [q_mfs_o (by decide) (by decide), q_lgm_o (by decide) (by decide), hX, q_u_ne (by decide), q_u_ne (by decide)]
  · exact q_mfl_add (cs := []) ⟨h14', fun i p y z hq => absurd hq (by simp)⟩
  · rw [q_lgm_o h1 h5, hX, q_u_ne h2, q_u_ne h2]
  · rw [q_lgm_b h5, hX, q_u_ne (by decide), q_u_ne (by decide)]
  · rw [e_M_runs, show (5 : Int32) = nI 5 by decide, s_of (show 12 * 5 + p < 108 by omega), q_onI_i, g_M_runs_6, b, show 12 * 5 + p = 60 + p by omega, q_brn hF, show (60 : Int32) = nI 60 by decide, q_add]
    simp only [q_clamp (show p < 2 ^ 31 by omega), q_clamp (show 60 + p < 2 ^ 31 by omega), q_bnd (show p < 108 by omega) (by decide), q_bnd (show 60 + p < 108 by omega) (by decide), true_and]
    rw [← b, ← hX, show (300 : Int32) = nI 300 by decide, q_add, s_logs2 hr.2.2.2.2.2.2 hr.2.2.2.2.1 hk, g_M_runs_38, show (5 : Int32) = nI 5 by decide, s_Mfails h14' (by decide), q_onI_i, g_M_runs_45]
    simp only [eq_self, true_or, true_and]
theorem l_pop {n w : Nat} {sd : Int32} {th : Bool} {x1 : Int32} : ∀ (m : Nat) (st : List Nat) (I : Nat → Nat → Int32) (σ : q_Sg), st.length = m → w + m ≤ 12 → (∀ i q, st[i]? = some q → I 138 (w + i) = nI q) → (∀ q, q ∈ st → q < 12) → q_rst I n σ sd th → I 130 17 = nI (w + m) → σ.2.2.1 + m < 2 ^ 30 → ∃ I', q_rst I' n (q_evs th (st.reverse.map (fun p => (1, p))) σ) sd th ∧ I' 130 17 = nI w ∧ I' 138 = I 138 ∧ I' 137 = I 137 ∧ I' 130 14 = I 130 14 ∧ q_fms I I' ∧ ∀ (rt : Value → q_Mem → Nat → Nat → Prop), q_X (q_W (d + 1)) rt 180 (69, [some (.ref 130), some (.int x1), some (.int (nI w)), some (.int 0)], [], (q_mm L I J t), 0, 0) = rt (.int 0) (q_mm L I' J t) 0 0
  | 0, st, I, σ, h, hw, h138, hlt, hr, h17, hk => by
    rw [List.length_eq_zero_iff] at h
    subst h
    refine ⟨I, hr, h17, rfl, rfl, rfl, q_fms_refl, fun rt => ?_⟩
    rw [g_M_starts_69, q_br rfl, h17, Nat.add_zero, q_leN (by omega) (by omega), q_br (Nat.le_refl _)]
    simp only [eq_self, true_or, true_and]
  | m + 1, st, I, σ, h, hw, h138, hlt, hr, h17, hk => by
    rcases List.eq_nil_or_concat st with e | ⟨w', p, e⟩
    · rw [e] at h
      exact absurd h (by simp)
    · rw [List.concat_eq_append] at e
      subst e
      rw [List.length_append, List.length_singleton] at h
      have hp := hlt p (by simp)
      have h0 : I 138 (w + m) = nI p := h138 m p (by rw [List.getElem?_append, if_neg (by omega), show m - w'.length = 0 by omega]; rfl)
      obtain ⟨a, b, c, e, f, g, g19⟩ := id hr
      obtain ⟨X, hX⟩ : ∃ X, X = q_u (q_u I 130 17 (nI (w + m))) 131 p 0 := ⟨_, rfl⟩
      have hr1 : q_rst X n (q_up σ.1 p 0, σ.2.1, σ.2.2.1, σ.2.2.2) sd th := by
        rw [hX]
        refine ⟨?_, ?_, ?_, ?_, ?_, fun i hi => ?_, ?_⟩
        · rw [q_u_ne (by decide), q_u_nk (by decide)]; exact a
        · rw [q_u_up, q_u_ne (by decide), b]
        · rw [q_u_ne (by decide), q_u_nk (by decide)]; exact c
        · rw [q_u_ne (by decide), q_u_nk (by decide)]; exact e
        · rw [q_u_ne (by decide), q_u_nk (by decide)]; exact f
        · rw [q_u_ne (by decide), q_u_ne (by decide)]; exact g i hi
        · rw [q_u_ne (by decide), q_u_nk (by decide)]; exact g19
      have hl := q_rst_log (e := 100 * (1 + 1) + p) hr1
      obtain ⟨X2, hX2⟩ : ∃ X2, X2 = q_lgm th X σ.2.2.1 (nI (100 * (1 + 1) + p)) := ⟨_, rfl⟩
      have x138 : X2 138 = I 138 := by rw [hX2, q_lgm_o (by decide) (by decide), hX, q_u_ne (by decide), q_u_ne (by decide)]
      have x17 : X2 130 17 = nI (w + m) := by rw [hX2, q_lgm_b (by decide), hX, q_u_ne (by decide), q_u_eq]
      have x137 : X2 137 = I 137 := by rw [hX2, q_lgm_o (by decide) (by decide), hX, q_u_ne (by decide), q_u_ne (by decide)]
      have x14 : X2 130 14 = I 130 14 := by rw [hX2, q_lgm_b (by decide), hX, q_u_ne (by decide), q_u_nk (by decide)]
      have xf : q_fms I X2 := ⟨fun o h1 h2 h3 h4 h5 => by rw [hX2, q_lgm_o h1 h5, hX, q_u_ne h2, q_u_ne h1], fun x h1 h2 h3 h4 h5 => by rw [hX2, q_lgm_b h5, hX, q_u_ne (by decide), q_u_nk h4]⟩
      rw [← hX2] at hl
      have hkk : q_evk th σ.2.2.1 ≤ σ.2.2.1 + 1 := by
        cases th
        · exact Nat.le_refl _
        · exact Nat.le_succ _
      obtain ⟨I', r2, i17, i138, i137, i14, f2, w2⟩ := l_pop m w' X2 (q_evt th σ (1, p)) (by omega) (by omega) (fun i q hq => by
        rw [x138]
        have hi : i < w'.length := (List.getElem?_eq_some_iff.mp hq).1
        exact h138 i q (by rw [List.getElem?_append, if_pos hi]; exact hq)) (fun q hq => hlt q (List.mem_append_left _ hq)) hl x17 (by show q_evk th σ.2.2.1 + m < _; omega)
      refine ⟨I', ?_, i17, i138.trans x138, i137.trans x137, i14.trans x14, q_fms_trans xf f2, fun rt => ?_⟩
      · rw [List.reverse_append, List.reverse_singleton, List.singleton_append, List.map_cons, q_evs_cons]
        exact r2
      · rw [g_M_starts_69, q_br rfl, h17, q_leN (by omega) (by omega), q_brn (by omega), show w + (m + 1) = w + m + 1 by omega, nI_pred]
        have z1 : q_u I 130 17 (nI (w + m)) 130 17 = nI (w + m) := q_u_eq
        have z2 : q_u I 130 17 (nI (w + m)) 138 (w + m) = nI p := by rw [q_u_ne (by decide)]; exact h0
        rw [z1]
        simp only [q_clamp (show w + m < 2 ^ 31 by omega), q_bnd (show w + m < 12 by omega) (by decide), true_and, z2, q_clamp (show p < 2 ^ 31 by omega), q_bnd (show p < 108 by omega) (by decide)]
        rw [← hX]
        have z3 : X 130 17 = nI (w + m) := by rw [hX, q_u_ne (by decide), q_u_eq]
        have z4 : X 138 (w + m) = nI p := by rw [hX, q_u_ne (by decide), q_u_ne (by decide)]; exact h0
        simp only [z3, q_clamp (show w + m < 2 ^ 31 by omega), q_bnd (show w + m < 12 by omega) (by decide), true_and, z4]
        rw [show (200 : Int32) = nI 200 by decide, q_add, s_logs2 hr1.2.2.2.2.2.2 hr1.2.2.2.2.1 (show σ.2.2.1 < 2 ^ 30 by omega), g_M_starts_123]
        rw [show nI (200 + p) = nI (100 * (1 + 1) + p) from rfl, ← hX2]
        exact w2 rt
end MST3
