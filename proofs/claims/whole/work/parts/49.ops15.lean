/-! wave -/
/-- a change that nobody looks at between calls -/
theorem q_J_idle {c : Nat} {I F : Nat → Nat → Int32} {J : Nat → Nat → Int64} {t : Nat} (ho : ∀ o, o ≠ 82 → o ≠ 83 → o ≠ 81 → o ≠ 85 → o ≠ 140 → o ≠ 141 → F o = I o) (h : q_J c I J t) : q_J (c + 1) F J t := by
  obtain ⟨n, hk, m, h2⟩ := id h
  have hrest := q_J_rest m h
  obtain ⟨m1, m2, m3, m4, m5⟩ := m
  have e3 : F 3 = I 3 := ho 3 (by decide) (by decide) (by decide) (by decide) (by decide) (by decide)
  have e130 : F 130 = I 130 := ho 130 (by decide) (by decide) (by decide) (by decide) (by decide) (by decide)
  have hb : ∀ o, q_rel o = true → o ≠ 82 ∧ o ≠ 83 ∧ o ≠ 81 ∧ o ≠ 85 ∧ o ≠ 140 ∧ o ≠ 141 := fun o hr => by
    refine ⟨?_, ?_, ?_, ?_, ?_, ?_⟩ <;> (intro e; rw [e] at hr; exact absurd hr (by decide))
  exact ⟨n, hk, ⟨v_host_congr e3 (fun p hp => ho _ (by omega) (by omega) (by omega) (by omega) (by omega) (by omega)) (fun p hp => ho _ (by omega) (by omega) (by omega) (by omega) (by omega) (by omega)) (ho 131 (by decide) (by decide) (by decide) (by decide) (by decide) (by decide)) (ho 132 (by decide) (by decide) (by decide) (by decide) (by decide) (by decide)) m1, by rw [e130]; exact m2, by rw [e130]; exact m3, by rw [e130, e3]; exact m4, by rw [e130, e3]; exact m5⟩, v_rest_congr (Nat.le_refl n) (fun o hr => ho o (hb o hr).1 (hb o hr).2.1 (hb o hr).2.2.1 (hb o hr).2.2.2.1 (hb o hr).2.2.2.2.1 (hb o hr).2.2.2.2.2) (by rw [e130]; exact ⟨rfl, rfl, rfl, rfl, rfl, rfl, rfl⟩) hrest⟩
theorem q_wrun_ar {I : Nat → Nat → Int32} {V : Nat → Int32} {n o : Nat} (ho : 131 ≠ o) : ∀ (f w : Nat) (W : Nat → Int32), q_wrun (q_ar o I V) n f w W = q_wrun I n f w W
  | 0, _, _ => rfl
  | f + 1, w, W => by
    cases hb : q_any (q_tkM I n W) 0 n with
    | false => rw [q_wrun_n hb, q_wrun_n (by rw [q_tkM_ar ho]; exact hb)]
    | true => rw [q_wrun_y hb, q_wrun_y (by rw [q_tkM_ar ho]; exact hb), q_tkM_ar ho, q_wrun_ar ho f (w + 1)]
section OPS15
variable {L c : Nat} {I : Nat → Nat → Int32} {J : Nat → Nat → Int64} {t : Nat}
theorem t_wave {x y : Int32} (h : q_J c I J t) : q_SI 100 95 188 [.int x, .int y] (q_J (c + 1)) L I J t := by
  obtain ⟨n, hk, m, h2, h3, h4, h5, h6, h7, h8⟩ := id h
  obtain ⟨⟨a1, a2, a3, a4, a5, a6⟩, m2, m3, m4, m5⟩ := id m
  have m2' : ∀ k v, q_u I 113 k v 130 0 = nI n := fun k v => by rw [q_u_ne (by decide)]; exact m2
  unfold q_SI
  rw [e_C_wave, s_hasPlug a1 a3, q_onI_i, g_C_wave_8]
  cases hb : q_in x n with
  | false =>
    simp only [q_onI_i, q_onJ_j, q_onS_s, q_onB_t, true_and, and_true, true_or, or_true, eq_self, true_implies, not_true_eq_false, not_false_eq_true, false_implies, q_bb0, q_bbok, q_bbok2, Bool.true_eq_false, Bool.false_eq_true, reduceCtorEq, s_refuseT1, g_C_wave_27]
    refine ⟨_, _, _, _, rfl, rfl, q_u_ne (by decide), ?_⟩
    rw [e_M_wave, s_isPlug (m2' _ _) a3, hb, q_onI_i, g_M_wave_5]
    simp only [q_onI_i, q_onJ_j, q_onS_s, q_onB_t, true_and, and_true, true_or, or_true, eq_self, true_implies, not_true_eq_false, not_false_eq_true, false_implies, q_bb0, q_bbok, q_bbok2, Bool.true_eq_false, Bool.false_eq_true, reduceCtorEq, s_noT1, g_M_wave_21]
    exact ⟨_, _, _, rfl, q_J_refuse 1 h⟩
  | true =>
    obtain ⟨p, hp, rfl⟩ := q_in_get hb
    simp only [q_onI_i, q_onJ_j, q_onS_s, q_onB_t, true_and, and_true, true_or, or_true, eq_self, true_implies, not_true_eq_false, not_false_eq_true, false_implies, q_bb0, q_bbok, q_bbok2, Bool.true_eq_false, Bool.false_eq_true, reduceCtorEq]
    rw [s_hasPlug a1 a3, q_onI_i, g_C_wave_19]
    cases hy : q_in y n with
    | false =>
      simp only [q_onI_i, q_onJ_j, q_onS_s, q_onB_t, true_and, and_true, true_or, or_true, eq_self, true_implies, not_true_eq_false, not_false_eq_true, false_implies, q_bb0, q_bbok, q_bbok2, Bool.true_eq_false, Bool.false_eq_true, reduceCtorEq, s_refuseT1, g_C_wave_27]
      refine ⟨_, _, _, _, rfl, rfl, q_u_ne (by decide), ?_⟩
      rw [e_M_wave, s_isPlug (m2' _ _) a3, hb, q_onI_i, g_M_wave_5]
      simp only [q_onI_i, q_onJ_j, q_onS_s, q_onB_t, true_and, and_true, true_or, or_true, eq_self, true_implies, not_true_eq_false, not_false_eq_true, false_implies, q_bb0, q_bbok, q_bbok2, Bool.true_eq_false, Bool.false_eq_true, reduceCtorEq, s_isPlug (m2' _ _) a3, hy, g_M_wave_13, s_noT1, g_M_wave_21]
      exact ⟨_, _, _, rfl, q_J_refuse 1 h⟩
    | true =>
      obtain ⟨q, hq, rfl⟩ := q_in_get hy
      obtain ⟨b1, -⟩ := a5 p hp
      simp only [q_onI_i, q_onJ_j, q_onS_s, q_onB_t, true_and, and_true, true_or, or_true, eq_self, true_implies, not_true_eq_false, not_false_eq_true, false_implies, q_bb0, q_bbok, q_bbok2, Bool.true_eq_false, Bool.false_eq_true, reduceCtorEq, s_runs a1 a3, hb, q_clamp (show p < 2 ^ 31 by omega), g_C_wave_36, Bool.true_and, b1.2.2.2.2.2.2.1]
      by_cases hr : I 131 p = 1
      · simp only [hr, decide_true, q_onI_i, q_onJ_j, q_onS_s, q_onB_t, true_and, and_true, true_or, or_true, eq_self, true_implies, not_true_eq_false, not_false_eq_true, false_implies, q_bb0, q_bbok, q_bbok2, Bool.true_eq_false, Bool.false_eq_true, reduceCtorEq]
        rw [s_spread a1 a3 a5 hp hr, q_onI_i, g_C_wave_54]
        simp only [q_clamp (show q < 2 ^ 31 by omega), q_bnd (show q < 12 by omega) (by decide), true_and, q_ar_eq]
        refine ⟨_, _, _, _, rfl, rfl, q_ar_ne (by decide), ?_⟩
        have z130 : q_ar 85 I (q_wrun I n 12 1 (q_w0 (I 85) p)) 130 0 = nI n := by rw [q_ar_ne (by decide)]; exact m2
        rw [e_M_wave, s_isPlug z130 a3, hb, q_onI_i, g_M_wave_5]
        simp only [q_onI_i, q_onJ_j, q_onS_s, q_onB_t, true_and, and_true, true_or, or_true, eq_self, true_implies, not_true_eq_false, not_false_eq_true, false_implies, q_bb0, q_bbok, q_bbok2, Bool.true_eq_false, Bool.false_eq_true, reduceCtorEq, s_isPlug z130 a3, hy, g_M_wave_13, s_state (show p < 108 by omega), g_M_wave_27, q_ar_ne (show 131 ≠ 85 by decide), hr]
        rw [s_waves z130 a3 hp, g_M_wave_43]
        simp only [q_clamp (show q < 2 ^ 31 by omega), q_bnd (show q < 12 by omega) (by decide), true_and, q_ar_eq]
        refine ⟨?_, _, _, _, rfl, ?_⟩
        · rw [q_wrun_ar (by decide), q_ar_ne (show 140 ≠ 85 by decide)]
          congr 1
          exact q_wrun_congr a3 12 1 _ _ (fun r hr => by
            unfold q_w0 q_up
            by_cases e : r = p
            · rw [if_pos e, if_pos e]
            · rw [if_neg e, if_neg e]
              dsimp only
              rw [if_pos hr, if_pos hr]) q (by omega)
        · exact q_J_idle (fun o _ _ _ h85 h140 _ => by rw [q_ar_ne h140, q_ar_ne h85]) h
      · simp only [decide_eq_false hr, q_onI_i, q_onJ_j, q_onS_s, q_onB_t, true_and, and_true, true_or, or_true, eq_self, true_implies, not_true_eq_false, not_false_eq_true, false_implies, q_bb0, q_bbok, q_bbok2, Bool.true_eq_false, Bool.false_eq_true, reduceCtorEq, s_refuseT6, g_C_wave_45]
        refine ⟨_, _, _, _, rfl, rfl, q_u_ne (by decide), ?_⟩
        rw [e_M_wave, s_isPlug (m2' _ _) a3, hb, q_onI_i, g_M_wave_5]
        simp only [q_onI_i, q_onJ_j, q_onS_s, q_onB_t, true_and, and_true, true_or, or_true, eq_self, true_implies, not_true_eq_false, not_false_eq_true, false_implies, q_bb0, q_bbok, q_bbok2, Bool.true_eq_false, Bool.false_eq_true, reduceCtorEq, s_isPlug (m2' _ _) a3, hy, g_M_wave_13, s_state (show p < 108 by omega), g_M_wave_27, q_u_ne (show 131 ≠ 113 by decide), hr, s_noT6, g_M_wave_37]
        exact ⟨_, _, _, rfl, q_J_refuse 6 h⟩
end OPS15
