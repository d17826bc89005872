/-! the whole loop runs -/
theorem q_I00_ne {xs : Nat → Int32} {o : Nat} (h : o ≠ 0) : q_I00 xs o = q_I0 o := by
  funext k
  unfold q_I00
  rw [if_neg h]
theorem q_I0_sh : ∀ s, s < 8 → q_I0 (114 + 2 * s) 1 = -1 ∧ q_I0 (114 + 2 * s) 3 = -1 ∧ q_I0 133 s = -1 := by decide +kernel
theorem q_I0_log : ∀ i, i < 40 → q_I0 111 i = q_I0 139 i := by decide +kernel
theorem q_I0_ref : ∀ i, i < 8 → q_I0 113 i = q_I0 145 i := by decide +kernel
theorem q_I0_one : (q_I0 3 2 = 0 ∧ q_I0 3 3 = 0 ∧ q_I0 130 0 = 0 ∧ q_I0 130 4 = 0 ∧ q_I0 3 4 = q_I0 130 2 ∧ q_I0 3 5 = q_I0 130 3) ∧ (q_I0 1 11 = 0 ∧ q_I0 130 12 = 0 ∧ q_I0 110 1 = 0 ∧ q_I0 130 20 = 0) ∧ (q_I0 86 5 = 0 ∧ q_I0 130 30 = 0 ∧ q_I0 86 4 = q_I0 130 32) ∧ (q_I0 1 3 = q_I0 130 34 ∧ q_I0 1 3 = 0) ∧ q_I0 1 12 = q_I0 130 9 ∧ q_I0 130 19 = 0 := by decide +kernel
theorem q_J_0 {xs : Nat → Int32} : q_J 0 (q_I00 xs) (fun _ _ => 0) 96 := by
  obtain ⟨⟨z1, z2, z3, z4, z5, z6⟩, ⟨y1, y2, y3, y4⟩, ⟨x1, x2, x3⟩, ⟨w1, w2⟩, u1, u2⟩ := q_I0_one
  have e1 : q_I00 xs 1 = q_I0 1 := q_I00_ne (by decide)
  have e3 : q_I00 xs 3 = q_I0 3 := q_I00_ne (by decide)
  have e130 : q_I00 xs 130 = q_I0 130 := q_I00_ne (by decide)
  have e86 : q_I00 xs 86 = q_I0 86 := q_I00_ne (by decide)
  refine ⟨0, 0, ⟨⟨by rw [e3]; exact z1, by rw [e3]; exact z2, by decide, by decide, fun p hp => absurd hp (by omega), fun i hi => absurd hi (by omega)⟩, by rw [e130]; exact z3, by rw [e130]; exact z4, by rw [e3, e130]; exact z5, by rw [e3, e130]; exact z6⟩, fun s hs => Or.inl ?_, ⟨0, by decide, by rw [e1]; exact y1, by rw [e130]; exact y2, fun i hi => absurd hi (by omega)⟩, ⟨0, Nat.zero_le _, by rw [q_I00_ne (by decide)]; exact y3, by rw [e130]; exact y4, fun i hi => by rw [q_I00_ne (by decide), q_I00_ne (by decide)]; exact q_I0_log i hi⟩, ⟨0, by decide, by rw [e86]; exact x1, by rw [e130]; exact x2, by rw [e86, e130]; exact x3, fun i _ hi => absurd hi (by omega)⟩, fun i hi => by rw [q_I00_ne (by decide), q_I00_ne (by decide)]; exact q_I0_ref i hi, ⟨by rw [e1, e130]; exact w1, Or.inl (by rw [e1]; exact w2), fun hz => ?_⟩, by rw [e1, e130]; exact u1, by rw [e130]; exact u2⟩
  · rw [q_I00_ne (by omega), q_I00_ne (by decide)]
    exact q_I0_sh s hs
  · rw [e1, w2] at hz
    exact absurd hz (by decide)
theorem q_loop_runs (L : Nat) (xs : Nat → Int32) (hL : L ≤ 3584) : q_X (q_W 100) (fun v _ _ _ => v = .int 1) 226 (18, [some (.ref 0), some (.ref 1), some (.ref 130), some (.int 0)], [], q_mm L (q_I00 xs) (fun _ _ => 0) 96, 147, 4805) :=
  q_loop (L := L) (Inv := fun c => q_J c) hL
    (fun c _ I J t _ _ _ h => t_row h) (fun c _ I J t _ _ _ h => tt_set h) (fun c _ I J t _ _ _ _ _ h => t_copy h) (fun c _ I J t _ _ h => t_element h) (fun c _ I J t _ _ h => t_show h) (fun c _ I J t _ h => t_holds h) (fun c _ I J t _ _ h => t_says h) (fun c _ I J t _ _ _ _ _ _ h => t_plug h) (fun c _ I J t _ h => t_read h) (fun c _ I J t h => t_fault h) (fun c _ I J t _ _ h => t_plugOf h) (fun c _ I J t _ h => t_age h) (fun c _ I J t _ h => t_tally h) (fun c _ I J t _ _ h => t_provider h) (fun c hc I J t _ h => t_start hc h) (fun c _ I J t _ _ h => t_cause h) (fun c hc I J t _ h => t_stop hc h) (fun c _ I J t _ _ h => t_wave h) (fun c _ I J t _ h => t_mend h) (fun c hc I J t _ h => t_remove hc h) (fun c hc I J t _ _ h => t_would hc h) (fun c _ I J t _ h => t_running h) (fun c _ I J t _ h => t_offered h) (fun c _ I J t _ _ _ _ _ h => t_hook h) (fun c _ I J t _ _ h => t_hookOf h) (fun c _ I J t _ _ h => t_chain h) (fun c _ I J t _ _ h => t_fire h) (fun c _ I J t h => t_given h) (fun c _ I J t _ _ _ h => t_pure h) (fun c _ I J t _ _ h => t_matter h) (fun c _ I J t _ _ _ _ h => t_source h) (fun c _ I J t _ _ _ h => t_judge h) (fun c _ I J t _ h => t_trace h) (fun c hc I J t _ h => t_log hc h) (fun c hc I J t _ h => t_days hc h) (fun c _ I J t _ h => t_seed h) (fun c _ I J t h => t_image h) (fun c _ I J t h => t_restore h) (fun c _ I J t _ h => t_status h)
    (fun c _ I J t h => q_J_next h) 512 0 (q_I00 xs) (fun _ _ => 0) 96 (by decide) q_J_0
