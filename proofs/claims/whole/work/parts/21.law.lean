/-! the law's loop: both sides answer alike, call by call -/
def q_SI (d c m : Nat) (as : List Value) (Nx : (Nat → Nat → Int32) → (Nat → Nat → Int64) → Nat → Prop) (L : Nat) (I : Nat → Nat → Int32) (J : Nat → Nat → Int64) (t : Nat) : Prop := q_W d c (.ref 1 :: as) (q_mm L I J t) fun v μ1 => ∃ (x : Int32) (I1 : Nat → Nat → Int32) (J1 : Nat → Nat → Int64) (t1 : Nat), v = .int x ∧ μ1 = q_mm L I1 J1 t1 ∧ I1 0 = I 0 ∧ q_W d m (.ref 130 :: as) (q_mm L I1 J1 t1) fun v' μ2 => v' = .int x ∧ ∃ (I2 : Nat → Nat → Int32) (J2 : Nat → Nat → Int64) (t2 : Nat), μ2 = q_mm L I2 J2 t2 ∧ Nx I2 J2 t2
def q_SL (d c m : Nat) (as : List Value) (Nx : (Nat → Nat → Int32) → (Nat → Nat → Int64) → Nat → Prop) (L : Nat) (I : Nat → Nat → Int32) (J : Nat → Nat → Int64) (t : Nat) : Prop := q_W d c (.ref 1 :: as) (q_mm L I J t) fun v μ1 => ∃ (x : Int64) (I1 : Nat → Nat → Int32) (J1 : Nat → Nat → Int64) (t1 : Nat), v = .long x ∧ μ1 = q_mm L I1 J1 t1 ∧ I1 0 = I 0 ∧ q_W d m (.ref 130 :: as) (q_mm L I1 J1 t1) fun v' μ2 => v' = .long x ∧ ∃ (I2 : Nat → Nat → Int32) (J2 : Nat → Nat → Int64) (t2 : Nat), μ2 = q_mm L I2 J2 t2 ∧ Nx I2 J2 t2
theorem q_lcmp0 {x : Int64} : (lg_cmp x x = 0) = True := by simp [lg_cmp]
section LAW
variable {L : Nat} {Inv : Nat → (Nat → Nat → Int32) → (Nat → Nat → Int64) → Nat → Prop}
set_option maxHeartbeats 8000000 in
theorem q_loop (hL : L ≤ 3584) (h_row : ∀ c, c < 512 → ∀ (I : Nat → Nat → Int32) (J : Nat → Nat → Int64) (t : Nat) (a0 : Int32) (a1 : Int32) (a2 : Int32), Inv c I J t → q_SI 100 78 145 [.int a0, .int a1, .int a2] (Inv (c + 1)) L I J t)
  (h_set : ∀ c, c < 512 → ∀ (I : Nat → Nat → Int32) (J : Nat → Nat → Int64) (t : Nat) (a0 : Int32) (a1 : Int32) (a2 : Int64), Inv c I J t → q_SI 100 79 147 [.int a0, .int a1, .long a2] (Inv (c + 1)) L I J t)
  (h_copy : ∀ c, c < 512 → ∀ (I : Nat → Nat → Int32) (J : Nat → Nat → Int64) (t : Nat) (a0 : Int32) (a1 : Int32) (a2 : Int32) (a3 : Int32) (a4 : Int32), Inv c I J t → q_SI 100 80 148 [.int a0, .int a1, .int a2, .int a3, .int a4] (Inv (c + 1)) L I J t)
  (h_element : ∀ c, c < 512 → ∀ (I : Nat → Nat → Int32) (J : Nat → Nat → Int64) (t : Nat) (a0 : Int32) (a1 : Int32), Inv c I J t → q_SL 100 81 149 [.int a0, .int a1] (Inv (c + 1)) L I J t)
  (h_show : ∀ c, c < 512 → ∀ (I : Nat → Nat → Int32) (J : Nat → Nat → Int64) (t : Nat) (a0 : Int32) (a1 : Int32), Inv c I J t → q_SI 100 82 150 [.int a0, .int a1] (Inv (c + 1)) L I J t)
  (h_holds : ∀ c, c < 512 → ∀ (I : Nat → Nat → Int32) (J : Nat → Nat → Int64) (t : Nat) (a0 : Int32), Inv c I J t → q_SI 100 83 151 [.int a0] (Inv (c + 1)) L I J t)
  (h_says : ∀ c, c < 512 → ∀ (I : Nat → Nat → Int32) (J : Nat → Nat → Int64) (t : Nat) (a0 : Int32) (a1 : Int32), Inv c I J t → q_SI 100 84 155 [.int a0, .int a1] (Inv (c + 1)) L I J t)
  (h_plug : ∀ c, c < 512 → ∀ (I : Nat → Nat → Int32) (J : Nat → Nat → Int64) (t : Nat) (a0 : Int32) (a1 : Int32) (a2 : Int32) (a3 : Int32) (a4 : Int32) (a5 : Int32), Inv c I J t → q_SI 100 85 159 [.int a0, .int a1, .int a2, .int a3, .int a4, .int a5] (Inv (c + 1)) L I J t)
  (h_read : ∀ c, c < 512 → ∀ (I : Nat → Nat → Int32) (J : Nat → Nat → Int64) (t : Nat) (a0 : Int32), Inv c I J t → q_SI 100 86 166 [.int a0] (Inv (c + 1)) L I J t)
  (h_fault : ∀ c, c < 512 → ∀ (I : Nat → Nat → Int32) (J : Nat → Nat → Int64) (t : Nat), Inv c I J t → q_SI 100 87 167 [] (Inv (c + 1)) L I J t)
  (h_plugOf : ∀ c, c < 512 → ∀ (I : Nat → Nat → Int32) (J : Nat → Nat → Int64) (t : Nat) (a0 : Int32) (a1 : Int32), Inv c I J t → q_SI 100 88 168 [.int a0, .int a1] (Inv (c + 1)) L I J t)
  (h_age : ∀ c, c < 512 → ∀ (I : Nat → Nat → Int32) (J : Nat → Nat → Int64) (t : Nat) (a0 : Int32), Inv c I J t → q_SI 100 89 169 [.int a0] (Inv (c + 1)) L I J t)
  (h_tally : ∀ c, c < 512 → ∀ (I : Nat → Nat → Int32) (J : Nat → Nat → Int64) (t : Nat) (a0 : Int32), Inv c I J t → q_SI 100 90 170 [.int a0] (Inv (c + 1)) L I J t)
  (h_provider : ∀ c, c < 512 → ∀ (I : Nat → Nat → Int32) (J : Nat → Nat → Int64) (t : Nat) (a0 : Int32) (a1 : Int32), Inv c I J t → q_SI 100 91 172 [.int a0, .int a1] (Inv (c + 1)) L I J t)
  (h_start : ∀ c, c < 512 → ∀ (I : Nat → Nat → Int32) (J : Nat → Nat → Int64) (t : Nat) (a0 : Int32), Inv c I J t → q_SI 100 92 182 [.int a0] (Inv (c + 1)) L I J t)
  (h_cause : ∀ c, c < 512 → ∀ (I : Nat → Nat → Int32) (J : Nat → Nat → Int64) (t : Nat) (a0 : Int32) (a1 : Int32), Inv c I J t → q_SI 100 93 183 [.int a0, .int a1] (Inv (c + 1)) L I J t)
  (h_stop : ∀ c, c < 512 → ∀ (I : Nat → Nat → Int32) (J : Nat → Nat → Int64) (t : Nat) (a0 : Int32), Inv c I J t → q_SI 100 94 187 [.int a0] (Inv (c + 1)) L I J t)
  (h_wave : ∀ c, c < 512 → ∀ (I : Nat → Nat → Int32) (J : Nat → Nat → Int64) (t : Nat) (a0 : Int32) (a1 : Int32), Inv c I J t → q_SI 100 95 188 [.int a0, .int a1] (Inv (c + 1)) L I J t)
  (h_mend : ∀ c, c < 512 → ∀ (I : Nat → Nat → Int32) (J : Nat → Nat → Int64) (t : Nat) (a0 : Int32), Inv c I J t → q_SI 100 96 189 [.int a0] (Inv (c + 1)) L I J t)
  (h_remove : ∀ c, c < 512 → ∀ (I : Nat → Nat → Int32) (J : Nat → Nat → Int64) (t : Nat) (a0 : Int32), Inv c I J t → q_SI 100 97 190 [.int a0] (Inv (c + 1)) L I J t)
  (h_would : ∀ c, c < 512 → ∀ (I : Nat → Nat → Int32) (J : Nat → Nat → Int64) (t : Nat) (a0 : Int32) (a1 : Int32), Inv c I J t → q_SI 100 98 191 [.int a0, .int a1] (Inv (c + 1)) L I J t)
  (h_running : ∀ c, c < 512 → ∀ (I : Nat → Nat → Int32) (J : Nat → Nat → Int64) (t : Nat) (a0 : Int32), Inv c I J t → q_SI 100 99 192 [.int a0] (Inv (c + 1)) L I J t)
  (h_offered : ∀ c, c < 512 → ∀ (I : Nat → Nat → Int32) (J : Nat → Nat → Int64) (t : Nat) (a0 : Int32), Inv c I J t → q_SI 100 100 193 [.int a0] (Inv (c + 1)) L I J t)
  (h_hook : ∀ c, c < 512 → ∀ (I : Nat → Nat → Int32) (J : Nat → Nat → Int64) (t : Nat) (a0 : Int32) (a1 : Int32) (a2 : Int32) (a3 : Int32) (a4 : Int32), Inv c I J t → q_SI 100 101 195 [.int a0, .int a1, .int a2, .int a3, .int a4] (Inv (c + 1)) L I J t)
  (h_hookOf : ∀ c, c < 512 → ∀ (I : Nat → Nat → Int32) (J : Nat → Nat → Int64) (t : Nat) (a0 : Int32) (a1 : Int32), Inv c I J t → q_SI 100 102 196 [.int a0, .int a1] (Inv (c + 1)) L I J t)
  (h_chain : ∀ c, c < 512 → ∀ (I : Nat → Nat → Int32) (J : Nat → Nat → Int64) (t : Nat) (a0 : Int32) (a1 : Int32), Inv c I J t → q_SI 100 103 199 [.int a0, .int a1] (Inv (c + 1)) L I J t)
  (h_fire : ∀ c, c < 512 → ∀ (I : Nat → Nat → Int32) (J : Nat → Nat → Int64) (t : Nat) (a0 : Int32) (a1 : Int32), Inv c I J t → q_SI 100 104 204 [.int a0, .int a1] (Inv (c + 1)) L I J t)
  (h_given : ∀ c, c < 512 → ∀ (I : Nat → Nat → Int32) (J : Nat → Nat → Int64) (t : Nat), Inv c I J t → q_SI 100 105 205 [] (Inv (c + 1)) L I J t)
  (h_pure : ∀ c, c < 512 → ∀ (I : Nat → Nat → Int32) (J : Nat → Nat → Int64) (t : Nat) (a0 : Int32) (a1 : Int32) (a2 : Int32), Inv c I J t → q_SL 100 106 206 [.int a0, .int a1, .int a2] (Inv (c + 1)) L I J t)
  (h_matter : ∀ c, c < 512 → ∀ (I : Nat → Nat → Int32) (J : Nat → Nat → Int64) (t : Nat) (a0 : Int32) (a1 : Int32), Inv c I J t → q_SI 100 107 207 [.int a0, .int a1] (Inv (c + 1)) L I J t)
  (h_source : ∀ c, c < 512 → ∀ (I : Nat → Nat → Int32) (J : Nat → Nat → Int64) (t : Nat) (a0 : Int32) (a1 : Int32) (a2 : Int32) (a3 : Int32), Inv c I J t → q_SL 100 108 208 [.int a0, .int a1, .int a2, .int a3] (Inv (c + 1)) L I J t)
  (h_judge : ∀ c, c < 512 → ∀ (I : Nat → Nat → Int32) (J : Nat → Nat → Int64) (t : Nat) (a0 : Int32) (a1 : Int32) (a2 : Int32), Inv c I J t → q_SI 100 109 210 [.int a0, .int a1, .int a2] (Inv (c + 1)) L I J t)
  (h_trace : ∀ c, c < 512 → ∀ (I : Nat → Nat → Int32) (J : Nat → Nat → Int64) (t : Nat) (a0 : Int32), Inv c I J t → q_SI 100 110 211 [.int a0] (Inv (c + 1)) L I J t)
  (h_log : ∀ c, c < 512 → ∀ (I : Nat → Nat → Int32) (J : Nat → Nat → Int64) (t : Nat) (a0 : Int32), Inv c I J t → q_SI 100 111 212 [.int a0] (Inv (c + 1)) L I J t)
  (h_days : ∀ c, c < 512 → ∀ (I : Nat → Nat → Int32) (J : Nat → Nat → Int64) (t : Nat) (a0 : Int32), Inv c I J t → q_SI 100 112 215 [.int a0] (Inv (c + 1)) L I J t)
  (h_seed : ∀ c, c < 512 → ∀ (I : Nat → Nat → Int32) (J : Nat → Nat → Int64) (t : Nat) (a0 : Int32), Inv c I J t → q_SI 100 113 216 [.int a0] (Inv (c + 1)) L I J t)
  (h_image : ∀ c, c < 512 → ∀ (I : Nat → Nat → Int32) (J : Nat → Nat → Int64) (t : Nat), Inv c I J t → q_SI 100 114 219 [] (Inv (c + 1)) L I J t)
  (h_restore : ∀ c, c < 512 → ∀ (I : Nat → Nat → Int32) (J : Nat → Nat → Int64) (t : Nat), Inv c I J t → q_SI 100 115 220 [] (Inv (c + 1)) L I J t)
  (h_status : ∀ c, c < 512 → ∀ (I : Nat → Nat → Int32) (J : Nat → Nat → Int64) (t : Nat) (a0 : Int32), Inv c I J t → q_SI 100 116 221 [.int a0] (Inv (c + 1)) L I J t)
  (hskip : ∀ c, c < 512 → ∀ (I : Nat → Nat → Int32) (J : Nat → Nat → Int64) (t : Nat), Inv c I J t → Inv (c + 1) I J t) : ∀ (k c : Nat) (I : Nat → Nat → Int32) (J : Nat → Nat → Int64) (t : Nat), c + k = 512 → Inv c I J t → q_X (q_W 100) (fun v _ _ _ => v = .int 1) 226 (18, [some (.ref 0), some (.ref 1), some (.ref 130), some (.int (nI (7 * c)))], [], (q_mm L I J t), 147, 4805) := by
  have hcond : ∀ c, c ≤ 600 → ((Int32.ofNat L - (7 : Int32)) < nI (7 * c)) = (L < 7 * c + 7) := by
    intro c hc
    have e1 : (Int32.ofNat L - (7 : Int32)).toInt = (L : Int) - 7 := by
      rw [Int32.toInt_sub, show (Int32.ofNat L).toInt = (L : Int) from nI_toInt (by omega), show (7 : Int32).toInt = 7 by decide]
      exact Int.bmod_eq_of_le (by omega) (by omega)
    rw [q_lt, e1, nI_toInt (by omega)]
    apply propext
    omega
  intro k
  induction k with
  | zero =>
    intro c I J t hk hI
    rw [g_law_18, hcond c (by omega), q_br (by omega)]
    simp
  | succ k ih =>
    intro c I J t hk hI
    have hc : c < 512 := by omega
    by_cases hend : L < 7 * c + 7
    · rw [g_law_18, hcond c (by omega), q_br hend]
      simp
    · have hg : ∀ r : Nat, r < 7 → (¬ ((nI (7 * c) + nI r) < 0 ∨ L ≤ (nI (7 * c) + nI r).toNatClampNeg)) = True := by
        intro r hr
        rw [q_add, q_clamp (by omega)]
        exact q_bnd (by omega) (by omega)
      have hg1 := hg 1 (by decide)
      have hg2 := hg 2 (by decide)
      have hg3 := hg 3 (by decide)
      have hg4 := hg 4 (by decide)
      have hg5 := hg 5 (by decide)
      have hg6 := hg 6 (by decide)
      rw [show nI 1 = (1 : Int32) by decide] at hg1
      rw [show nI 2 = (2 : Int32) by decide] at hg2
      rw [show nI 3 = (3 : Int32) by decide] at hg3
      rw [show nI 4 = (4 : Int32) by decide] at hg4
      rw [show nI 5 = (5 : Int32) by decide] at hg5
      rw [show nI 6 = (6 : Int32) by decide] at hg6
      have e7 : nI (7 * c) + (7 : Int32) = nI (7 * (c + 1)) := by
        rw [show (7 : Int32) = nI 7 by decide, q_add]
        rfl
      rw [g_law_18, hcond c (by omega), q_brn hend]
      refine ⟨by rw [q_clamp (by omega)]; exact of_eq_true (q_bnd (by omega) (by omega)), ?_⟩
      refine ⟨fun _ => ?_, fun _ => ?_⟩
      · rw [g_law_204]
        try simp only [hg1, hg2, hg3, hg4, hg5, hg6, true_and]
        refine q_W_mono 100 _ _ _ _ _ (fun v μ1 h => ?_) (h_row c hc I J t _ _ _ hI)
        obtain ⟨x, I1, J1, t1, rfl, rfl, e0, h⟩ := h
        rw [q_onI_i, g_law_223]
        try simp only [hg1, hg2, hg3, hg4, hg5, hg6, true_and, e0]
        refine q_W_mono 100 _ _ _ _ _ (fun v μ2 h => ?_) h
        obtain ⟨rfl, I2, J2, t2, rfl, hI2⟩ := h
        rw [q_onI_i, g_law_242, q_br rfl, g_law_1456, e7]
        exact ih (c + 1) I2 J2 t2 (by omega) hI2
      refine ⟨fun _ => ?_, fun _ => ?_⟩
      · rw [g_law_247]
        try simp only [hg1, hg2, hg3, hg4, hg5, hg6, true_and]
        refine q_W_mono 100 _ _ _ _ _ (fun v μ1 h => ?_) (h_set c hc I J t _ _ _ hI)
        obtain ⟨x, I1, J1, t1, rfl, rfl, e0, h⟩ := h
        rw [q_onI_i, g_law_281]
        try simp only [hg1, hg2, hg3, hg4, hg5, hg6, true_and, e0]
        refine q_W_mono 100 _ _ _ _ _ (fun v μ2 h => ?_) h
        obtain ⟨rfl, I2, J2, t2, rfl, hI2⟩ := h
        rw [q_onI_i, g_law_315, q_br rfl, g_law_1456, e7]
        exact ih (c + 1) I2 J2 t2 (by omega) hI2
      refine ⟨fun _ => ?_, fun _ => ?_⟩
      · rw [g_law_320]
        try simp only [hg1, hg2, hg3, hg4, hg5, hg6, true_and]
        refine q_W_mono 100 _ _ _ _ _ (fun v μ1 h => ?_) (h_copy c hc I J t _ _ _ _ _ hI)
        obtain ⟨x, I1, J1, t1, rfl, rfl, e0, h⟩ := h
        rw [q_onI_i, g_law_349]
        try simp only [hg1, hg2, hg3, hg4, hg5, hg6, true_and, e0]
        refine q_W_mono 100 _ _ _ _ _ (fun v μ2 h => ?_) h
        obtain ⟨rfl, I2, J2, t2, rfl, hI2⟩ := h
        rw [q_onI_i, g_law_378, q_br rfl, g_law_1456, e7]
        exact ih (c + 1) I2 J2 t2 (by omega) hI2
      refine ⟨fun _ => ?_, fun _ => ?_⟩
      · rw [g_law_383]
        try simp only [hg1, hg2, hg3, hg4, hg5, hg6, true_and]
        refine q_W_mono 100 _ _ _ _ _ (fun v μ1 h => ?_) (h_element c hc I J t _ _ hI)
        obtain ⟨x, I1, J1, t1, rfl, rfl, e0, h⟩ := h
        rw [q_onJ_j, g_law_397]
        try simp only [hg1, hg2, hg3, hg4, hg5, hg6, true_and, e0]
        refine q_W_mono 100 _ _ _ _ _ (fun v μ2 h => ?_) h
        obtain ⟨rfl, I2, J2, t2, rfl, hI2⟩ := h
        rw [q_onJ_j, g_law_411, q_br (q_lcmp0 ▸ trivial), g_law_1456, e7]
        exact ih (c + 1) I2 J2 t2 (by omega) hI2
      refine ⟨fun _ => ?_, fun _ => ?_⟩
      · rw [g_law_417]
        try simp only [hg1, hg2, hg3, hg4, hg5, hg6, true_and]
        refine q_W_mono 100 _ _ _ _ _ (fun v μ1 h => ?_) (h_show c hc I J t _ _ hI)
        obtain ⟨x, I1, J1, t1, rfl, rfl, e0, h⟩ := h
        rw [q_onI_i, g_law_431]
        try simp only [hg1, hg2, hg3, hg4, hg5, hg6, true_and, e0]
        refine q_W_mono 100 _ _ _ _ _ (fun v μ2 h => ?_) h
        obtain ⟨rfl, I2, J2, t2, rfl, hI2⟩ := h
        rw [q_onI_i, g_law_445, q_br rfl, g_law_1456, e7]
        exact ih (c + 1) I2 J2 t2 (by omega) hI2
      refine ⟨fun _ => ?_, fun _ => ?_⟩
      · rw [g_law_450]
        try simp only [hg1, hg2, hg3, hg4, hg5, hg6, true_and]
        refine q_W_mono 100 _ _ _ _ _ (fun v μ1 h => ?_) (h_holds c hc I J t _ hI)
        obtain ⟨x, I1, J1, t1, rfl, rfl, e0, h⟩ := h
        rw [q_onI_i, g_law_459]
        try simp only [hg1, hg2, hg3, hg4, hg5, hg6, true_and, e0]
        refine q_W_mono 100 _ _ _ _ _ (fun v μ2 h => ?_) h
        obtain ⟨rfl, I2, J2, t2, rfl, hI2⟩ := h
        rw [q_onI_i, g_law_468, q_br rfl, g_law_1456, e7]
        exact ih (c + 1) I2 J2 t2 (by omega) hI2
      refine ⟨fun _ => ?_, fun _ => ?_⟩
      · rw [g_law_473]
        try simp only [hg1, hg2, hg3, hg4, hg5, hg6, true_and]
        refine q_W_mono 100 _ _ _ _ _ (fun v μ1 h => ?_) (h_says c hc I J t _ _ hI)
        obtain ⟨x, I1, J1, t1, rfl, rfl, e0, h⟩ := h
        rw [q_onI_i, g_law_487]
        try simp only [hg1, hg2, hg3, hg4, hg5, hg6, true_and, e0]
        refine q_W_mono 100 _ _ _ _ _ (fun v μ2 h => ?_) h
        obtain ⟨rfl, I2, J2, t2, rfl, hI2⟩ := h
        rw [q_onI_i, g_law_501, q_br rfl, g_law_1456, e7]
        exact ih (c + 1) I2 J2 t2 (by omega) hI2
      refine ⟨fun _ => ?_, fun _ => ?_⟩
      · rw [g_law_506]
        try simp only [hg1, hg2, hg3, hg4, hg5, hg6, true_and]
        refine q_W_mono 100 _ _ _ _ _ (fun v μ1 h => ?_) (h_plug c hc I J t _ _ _ _ _ _ hI)
        obtain ⟨x, I1, J1, t1, rfl, rfl, e0, h⟩ := h
        rw [q_onI_i, g_law_541]
        try simp only [hg1, hg2, hg3, hg4, hg5, hg6, true_and, e0]
        refine q_W_mono 100 _ _ _ _ _ (fun v μ2 h => ?_) h
        obtain ⟨rfl, I2, J2, t2, rfl, hI2⟩ := h
        rw [q_onI_i, g_law_576, q_br rfl, g_law_1456, e7]
        exact ih (c + 1) I2 J2 t2 (by omega) hI2
      refine ⟨fun _ => ?_, fun _ => ?_⟩
      · rw [g_law_581]
        try simp only [hg1, hg2, hg3, hg4, hg5, hg6, true_and]
        refine q_W_mono 100 _ _ _ _ _ (fun v μ1 h => ?_) (h_read c hc I J t _ hI)
        obtain ⟨x, I1, J1, t1, rfl, rfl, e0, h⟩ := h
        rw [q_onI_i, g_law_590]
        try simp only [hg1, hg2, hg3, hg4, hg5, hg6, true_and, e0]
        refine q_W_mono 100 _ _ _ _ _ (fun v μ2 h => ?_) h
        obtain ⟨rfl, I2, J2, t2, rfl, hI2⟩ := h
        rw [q_onI_i, g_law_599, q_br rfl, g_law_1456, e7]
        exact ih (c + 1) I2 J2 t2 (by omega) hI2
      refine ⟨fun _ => ?_, fun _ => ?_⟩
      · rw [g_law_604]
        try simp only [hg1, hg2, hg3, hg4, hg5, hg6, true_and]
        refine q_W_mono 100 _ _ _ _ _ (fun v μ1 h => ?_) (h_fault c hc I J t hI)
        obtain ⟨x, I1, J1, t1, rfl, rfl, e0, h⟩ := h
        rw [q_onI_i, g_law_608]
        try simp only [hg1, hg2, hg3, hg4, hg5, hg6, true_and, e0]
        refine q_W_mono 100 _ _ _ _ _ (fun v μ2 h => ?_) h
        obtain ⟨rfl, I2, J2, t2, rfl, hI2⟩ := h
        rw [q_onI_i, g_law_612, q_br rfl, g_law_1456, e7]
        exact ih (c + 1) I2 J2 t2 (by omega) hI2
      refine ⟨fun _ => ?_, fun _ => ?_⟩
      · rw [g_law_617]
        try simp only [hg1, hg2, hg3, hg4, hg5, hg6, true_and]
        refine q_W_mono 100 _ _ _ _ _ (fun v μ1 h => ?_) (h_plugOf c hc I J t _ _ hI)
        obtain ⟨x, I1, J1, t1, rfl, rfl, e0, h⟩ := h
        rw [q_onI_i, g_law_631]
        try simp only [hg1, hg2, hg3, hg4, hg5, hg6, true_and, e0]
        refine q_W_mono 100 _ _ _ _ _ (fun v μ2 h => ?_) h
        obtain ⟨rfl, I2, J2, t2, rfl, hI2⟩ := h
        rw [q_onI_i, g_law_645, q_br rfl, g_law_1456, e7]
        exact ih (c + 1) I2 J2 t2 (by omega) hI2
      refine ⟨fun _ => ?_, fun _ => ?_⟩
      · rw [g_law_650]
        try simp only [hg1, hg2, hg3, hg4, hg5, hg6, true_and]
        refine q_W_mono 100 _ _ _ _ _ (fun v μ1 h => ?_) (h_age c hc I J t _ hI)
        obtain ⟨x, I1, J1, t1, rfl, rfl, e0, h⟩ := h
        rw [q_onI_i, g_law_659]
        try simp only [hg1, hg2, hg3, hg4, hg5, hg6, true_and, e0]
        refine q_W_mono 100 _ _ _ _ _ (fun v μ2 h => ?_) h
        obtain ⟨rfl, I2, J2, t2, rfl, hI2⟩ := h
        rw [q_onI_i, g_law_668, q_br rfl, g_law_1456, e7]
        exact ih (c + 1) I2 J2 t2 (by omega) hI2
      refine ⟨fun _ => ?_, fun _ => ?_⟩
      · rw [g_law_673]
        try simp only [hg1, hg2, hg3, hg4, hg5, hg6, true_and]
        refine q_W_mono 100 _ _ _ _ _ (fun v μ1 h => ?_) (h_tally c hc I J t _ hI)
        obtain ⟨x, I1, J1, t1, rfl, rfl, e0, h⟩ := h
        rw [q_onI_i, g_law_682]
        try simp only [hg1, hg2, hg3, hg4, hg5, hg6, true_and, e0]
        refine q_W_mono 100 _ _ _ _ _ (fun v μ2 h => ?_) h
        obtain ⟨rfl, I2, J2, t2, rfl, hI2⟩ := h
        rw [q_onI_i, g_law_691, q_br rfl, g_law_1456, e7]
        exact ih (c + 1) I2 J2 t2 (by omega) hI2
      refine ⟨fun _ => ?_, fun _ => ?_⟩
      · rw [g_law_696]
        try simp only [hg1, hg2, hg3, hg4, hg5, hg6, true_and]
        refine q_W_mono 100 _ _ _ _ _ (fun v μ1 h => ?_) (h_provider c hc I J t _ _ hI)
        obtain ⟨x, I1, J1, t1, rfl, rfl, e0, h⟩ := h
        rw [q_onI_i, g_law_710]
        try simp only [hg1, hg2, hg3, hg4, hg5, hg6, true_and, e0]
        refine q_W_mono 100 _ _ _ _ _ (fun v μ2 h => ?_) h
        obtain ⟨rfl, I2, J2, t2, rfl, hI2⟩ := h
        rw [q_onI_i, g_law_724, q_br rfl, g_law_1456, e7]
        exact ih (c + 1) I2 J2 t2 (by omega) hI2
      refine ⟨fun _ => ?_, fun _ => ?_⟩
      · rw [g_law_729]
        try simp only [hg1, hg2, hg3, hg4, hg5, hg6, true_and]
        refine q_W_mono 100 _ _ _ _ _ (fun v μ1 h => ?_) (h_start c hc I J t _ hI)
        obtain ⟨x, I1, J1, t1, rfl, rfl, e0, h⟩ := h
        rw [q_onI_i, g_law_738]
        try simp only [hg1, hg2, hg3, hg4, hg5, hg6, true_and, e0]
        refine q_W_mono 100 _ _ _ _ _ (fun v μ2 h => ?_) h
        obtain ⟨rfl, I2, J2, t2, rfl, hI2⟩ := h
        rw [q_onI_i, g_law_747, q_br rfl, g_law_1456, e7]
        exact ih (c + 1) I2 J2 t2 (by omega) hI2
      refine ⟨fun _ => ?_, fun _ => ?_⟩
      · rw [g_law_752]
        try simp only [hg1, hg2, hg3, hg4, hg5, hg6, true_and]
        refine q_W_mono 100 _ _ _ _ _ (fun v μ1 h => ?_) (h_cause c hc I J t _ _ hI)
        obtain ⟨x, I1, J1, t1, rfl, rfl, e0, h⟩ := h
        rw [q_onI_i, g_law_766]
        try simp only [hg1, hg2, hg3, hg4, hg5, hg6, true_and, e0]
        refine q_W_mono 100 _ _ _ _ _ (fun v μ2 h => ?_) h
        obtain ⟨rfl, I2, J2, t2, rfl, hI2⟩ := h
        rw [q_onI_i, g_law_780, q_br rfl, g_law_1456, e7]
        exact ih (c + 1) I2 J2 t2 (by omega) hI2
      refine ⟨fun _ => ?_, fun _ => ?_⟩
      · rw [g_law_785]
        try simp only [hg1, hg2, hg3, hg4, hg5, hg6, true_and]
        refine q_W_mono 100 _ _ _ _ _ (fun v μ1 h => ?_) (h_stop c hc I J t _ hI)
        obtain ⟨x, I1, J1, t1, rfl, rfl, e0, h⟩ := h
        rw [q_onI_i, g_law_794]
        try simp only [hg1, hg2, hg3, hg4, hg5, hg6, true_and, e0]
        refine q_W_mono 100 _ _ _ _ _ (fun v μ2 h => ?_) h
        obtain ⟨rfl, I2, J2, t2, rfl, hI2⟩ := h
        rw [q_onI_i, g_law_803, q_br rfl, g_law_1456, e7]
        exact ih (c + 1) I2 J2 t2 (by omega) hI2
      refine ⟨fun _ => ?_, fun _ => ?_⟩
      · rw [g_law_808]
        try simp only [hg1, hg2, hg3, hg4, hg5, hg6, true_and]
        refine q_W_mono 100 _ _ _ _ _ (fun v μ1 h => ?_) (h_wave c hc I J t _ _ hI)
        obtain ⟨x, I1, J1, t1, rfl, rfl, e0, h⟩ := h
        rw [q_onI_i, g_law_822]
        try simp only [hg1, hg2, hg3, hg4, hg5, hg6, true_and, e0]
        refine q_W_mono 100 _ _ _ _ _ (fun v μ2 h => ?_) h
        obtain ⟨rfl, I2, J2, t2, rfl, hI2⟩ := h
        rw [q_onI_i, g_law_836, q_br rfl, g_law_1456, e7]
        exact ih (c + 1) I2 J2 t2 (by omega) hI2
      refine ⟨fun _ => ?_, fun _ => ?_⟩
      · rw [g_law_841]
        try simp only [hg1, hg2, hg3, hg4, hg5, hg6, true_and]
        refine q_W_mono 100 _ _ _ _ _ (fun v μ1 h => ?_) (h_mend c hc I J t _ hI)
        obtain ⟨x, I1, J1, t1, rfl, rfl, e0, h⟩ := h
        rw [q_onI_i, g_law_850]
        try simp only [hg1, hg2, hg3, hg4, hg5, hg6, true_and, e0]
        refine q_W_mono 100 _ _ _ _ _ (fun v μ2 h => ?_) h
        obtain ⟨rfl, I2, J2, t2, rfl, hI2⟩ := h
        rw [q_onI_i, g_law_859, q_br rfl, g_law_1456, e7]
        exact ih (c + 1) I2 J2 t2 (by omega) hI2
      refine ⟨fun _ => ?_, fun _ => ?_⟩
      · rw [g_law_864]
        try simp only [hg1, hg2, hg3, hg4, hg5, hg6, true_and]
        refine q_W_mono 100 _ _ _ _ _ (fun v μ1 h => ?_) (h_remove c hc I J t _ hI)
        obtain ⟨x, I1, J1, t1, rfl, rfl, e0, h⟩ := h
        rw [q_onI_i, g_law_873]
        try simp only [hg1, hg2, hg3, hg4, hg5, hg6, true_and, e0]
        refine q_W_mono 100 _ _ _ _ _ (fun v μ2 h => ?_) h
        obtain ⟨rfl, I2, J2, t2, rfl, hI2⟩ := h
        rw [q_onI_i, g_law_882, q_br rfl, g_law_1456, e7]
        exact ih (c + 1) I2 J2 t2 (by omega) hI2
      refine ⟨fun _ => ?_, fun _ => ?_⟩
      · rw [g_law_887]
        try simp only [hg1, hg2, hg3, hg4, hg5, hg6, true_and]
        refine q_W_mono 100 _ _ _ _ _ (fun v μ1 h => ?_) (h_would c hc I J t _ _ hI)
        obtain ⟨x, I1, J1, t1, rfl, rfl, e0, h⟩ := h
        rw [q_onI_i, g_law_901]
        try simp only [hg1, hg2, hg3, hg4, hg5, hg6, true_and, e0]
        refine q_W_mono 100 _ _ _ _ _ (fun v μ2 h => ?_) h
        obtain ⟨rfl, I2, J2, t2, rfl, hI2⟩ := h
        rw [q_onI_i, g_law_915, q_br rfl, g_law_1456, e7]
        exact ih (c + 1) I2 J2 t2 (by omega) hI2
      refine ⟨fun _ => ?_, fun _ => ?_⟩
      · rw [g_law_920]
        try simp only [hg1, hg2, hg3, hg4, hg5, hg6, true_and]
        refine q_W_mono 100 _ _ _ _ _ (fun v μ1 h => ?_) (h_running c hc I J t _ hI)
        obtain ⟨x, I1, J1, t1, rfl, rfl, e0, h⟩ := h
        rw [q_onI_i, g_law_929]
        try simp only [hg1, hg2, hg3, hg4, hg5, hg6, true_and, e0]
        refine q_W_mono 100 _ _ _ _ _ (fun v μ2 h => ?_) h
        obtain ⟨rfl, I2, J2, t2, rfl, hI2⟩ := h
        rw [q_onI_i, g_law_938, q_br rfl, g_law_1456, e7]
        exact ih (c + 1) I2 J2 t2 (by omega) hI2
      refine ⟨fun _ => ?_, fun _ => ?_⟩
      · rw [g_law_943]
        try simp only [hg1, hg2, hg3, hg4, hg5, hg6, true_and]
        refine q_W_mono 100 _ _ _ _ _ (fun v μ1 h => ?_) (h_offered c hc I J t _ hI)
        obtain ⟨x, I1, J1, t1, rfl, rfl, e0, h⟩ := h
        rw [q_onI_i, g_law_952]
        try simp only [hg1, hg2, hg3, hg4, hg5, hg6, true_and, e0]
        refine q_W_mono 100 _ _ _ _ _ (fun v μ2 h => ?_) h
        obtain ⟨rfl, I2, J2, t2, rfl, hI2⟩ := h
        rw [q_onI_i, g_law_961, q_br rfl, g_law_1456, e7]
        exact ih (c + 1) I2 J2 t2 (by omega) hI2
      refine ⟨fun _ => ?_, fun _ => ?_⟩
      · rw [g_law_966]
        try simp only [hg1, hg2, hg3, hg4, hg5, hg6, true_and]
        refine q_W_mono 100 _ _ _ _ _ (fun v μ1 h => ?_) (h_hook c hc I J t _ _ _ _ _ hI)
        obtain ⟨x, I1, J1, t1, rfl, rfl, e0, h⟩ := h
        rw [q_onI_i, g_law_995]
        try simp only [hg1, hg2, hg3, hg4, hg5, hg6, true_and, e0]
        refine q_W_mono 100 _ _ _ _ _ (fun v μ2 h => ?_) h
        obtain ⟨rfl, I2, J2, t2, rfl, hI2⟩ := h
        rw [q_onI_i, g_law_1024, q_br rfl, g_law_1456, e7]
        exact ih (c + 1) I2 J2 t2 (by omega) hI2
      refine ⟨fun _ => ?_, fun _ => ?_⟩
      · rw [g_law_1029]
        try simp only [hg1, hg2, hg3, hg4, hg5, hg6, true_and]
        refine q_W_mono 100 _ _ _ _ _ (fun v μ1 h => ?_) (h_hookOf c hc I J t _ _ hI)
        obtain ⟨x, I1, J1, t1, rfl, rfl, e0, h⟩ := h
        rw [q_onI_i, g_law_1043]
        try simp only [hg1, hg2, hg3, hg4, hg5, hg6, true_and, e0]
        refine q_W_mono 100 _ _ _ _ _ (fun v μ2 h => ?_) h
        obtain ⟨rfl, I2, J2, t2, rfl, hI2⟩ := h
        rw [q_onI_i, g_law_1057, q_br rfl, g_law_1456, e7]
        exact ih (c + 1) I2 J2 t2 (by omega) hI2
      refine ⟨fun _ => ?_, fun _ => ?_⟩
      · rw [g_law_1062]
        try simp only [hg1, hg2, hg3, hg4, hg5, hg6, true_and]
        refine q_W_mono 100 _ _ _ _ _ (fun v μ1 h => ?_) (h_chain c hc I J t _ _ hI)
        obtain ⟨x, I1, J1, t1, rfl, rfl, e0, h⟩ := h
        rw [q_onI_i, g_law_1076]
        try simp only [hg1, hg2, hg3, hg4, hg5, hg6, true_and, e0]
        refine q_W_mono 100 _ _ _ _ _ (fun v μ2 h => ?_) h
        obtain ⟨rfl, I2, J2, t2, rfl, hI2⟩ := h
        rw [q_onI_i, g_law_1090, q_br rfl, g_law_1456, e7]
        exact ih (c + 1) I2 J2 t2 (by omega) hI2
      refine ⟨fun _ => ?_, fun _ => ?_⟩
      · rw [g_law_1095]
        try simp only [hg1, hg2, hg3, hg4, hg5, hg6, true_and]
        refine q_W_mono 100 _ _ _ _ _ (fun v μ1 h => ?_) (h_fire c hc I J t _ _ hI)
        obtain ⟨x, I1, J1, t1, rfl, rfl, e0, h⟩ := h
        rw [q_onI_i, g_law_1109]
        try simp only [hg1, hg2, hg3, hg4, hg5, hg6, true_and, e0]
        refine q_W_mono 100 _ _ _ _ _ (fun v μ2 h => ?_) h
        obtain ⟨rfl, I2, J2, t2, rfl, hI2⟩ := h
        rw [q_onI_i, g_law_1123, q_br rfl, g_law_1456, e7]
        exact ih (c + 1) I2 J2 t2 (by omega) hI2
      refine ⟨fun _ => ?_, fun _ => ?_⟩
      · rw [g_law_1128]
        try simp only [hg1, hg2, hg3, hg4, hg5, hg6, true_and]
        refine q_W_mono 100 _ _ _ _ _ (fun v μ1 h => ?_) (h_given c hc I J t hI)
        obtain ⟨x, I1, J1, t1, rfl, rfl, e0, h⟩ := h
        rw [q_onI_i, g_law_1132]
        try simp only [hg1, hg2, hg3, hg4, hg5, hg6, true_and, e0]
        refine q_W_mono 100 _ _ _ _ _ (fun v μ2 h => ?_) h
        obtain ⟨rfl, I2, J2, t2, rfl, hI2⟩ := h
        rw [q_onI_i, g_law_1136, q_br rfl, g_law_1456, e7]
        exact ih (c + 1) I2 J2 t2 (by omega) hI2
      refine ⟨fun _ => ?_, fun _ => ?_⟩
      · rw [g_law_1141]
        try simp only [hg1, hg2, hg3, hg4, hg5, hg6, true_and]
        refine q_W_mono 100 _ _ _ _ _ (fun v μ1 h => ?_) (h_pure c hc I J t _ _ _ hI)
        obtain ⟨x, I1, J1, t1, rfl, rfl, e0, h⟩ := h
        rw [q_onJ_j, g_law_1160]
        try simp only [hg1, hg2, hg3, hg4, hg5, hg6, true_and, e0]
        refine q_W_mono 100 _ _ _ _ _ (fun v μ2 h => ?_) h
        obtain ⟨rfl, I2, J2, t2, rfl, hI2⟩ := h
        rw [q_onJ_j, g_law_1179, q_br (q_lcmp0 ▸ trivial), g_law_1456, e7]
        exact ih (c + 1) I2 J2 t2 (by omega) hI2
      refine ⟨fun _ => ?_, fun _ => ?_⟩
      · rw [g_law_1185]
        try simp only [hg1, hg2, hg3, hg4, hg5, hg6, true_and]
        refine q_W_mono 100 _ _ _ _ _ (fun v μ1 h => ?_) (h_matter c hc I J t _ _ hI)
        obtain ⟨x, I1, J1, t1, rfl, rfl, e0, h⟩ := h
        rw [q_onI_i, g_law_1199]
        try simp only [hg1, hg2, hg3, hg4, hg5, hg6, true_and, e0]
        refine q_W_mono 100 _ _ _ _ _ (fun v μ2 h => ?_) h
        obtain ⟨rfl, I2, J2, t2, rfl, hI2⟩ := h
        rw [q_onI_i, g_law_1213, q_br rfl, g_law_1456, e7]
        exact ih (c + 1) I2 J2 t2 (by omega) hI2
      refine ⟨fun _ => ?_, fun _ => ?_⟩
      · rw [g_law_1218]
        try simp only [hg1, hg2, hg3, hg4, hg5, hg6, true_and]
        refine q_W_mono 100 _ _ _ _ _ (fun v μ1 h => ?_) (h_source c hc I J t _ _ _ _ hI)
        obtain ⟨x, I1, J1, t1, rfl, rfl, e0, h⟩ := h
        rw [q_onJ_j, g_law_1242]
        try simp only [hg1, hg2, hg3, hg4, hg5, hg6, true_and, e0]
        refine q_W_mono 100 _ _ _ _ _ (fun v μ2 h => ?_) h
        obtain ⟨rfl, I2, J2, t2, rfl, hI2⟩ := h
        rw [q_onJ_j, g_law_1266, q_br (q_lcmp0 ▸ trivial), g_law_1456, e7]
        exact ih (c + 1) I2 J2 t2 (by omega) hI2
      refine ⟨fun _ => ?_, fun _ => ?_⟩
      · rw [g_law_1272]
        try simp only [hg1, hg2, hg3, hg4, hg5, hg6, true_and]
        refine q_W_mono 100 _ _ _ _ _ (fun v μ1 h => ?_) (h_judge c hc I J t _ _ _ hI)
        obtain ⟨x, I1, J1, t1, rfl, rfl, e0, h⟩ := h
        rw [q_onI_i, g_law_1291]
        try simp only [hg1, hg2, hg3, hg4, hg5, hg6, true_and, e0]
        refine q_W_mono 100 _ _ _ _ _ (fun v μ2 h => ?_) h
        obtain ⟨rfl, I2, J2, t2, rfl, hI2⟩ := h
        rw [q_onI_i, g_law_1310, q_br rfl, g_law_1456, e7]
        exact ih (c + 1) I2 J2 t2 (by omega) hI2
      refine ⟨fun _ => ?_, fun _ => ?_⟩
      · rw [g_law_1315]
        try simp only [hg1, hg2, hg3, hg4, hg5, hg6, true_and]
        refine q_W_mono 100 _ _ _ _ _ (fun v μ1 h => ?_) (h_trace c hc I J t _ hI)
        obtain ⟨x, I1, J1, t1, rfl, rfl, e0, h⟩ := h
        rw [q_onI_i, g_law_1324]
        try simp only [hg1, hg2, hg3, hg4, hg5, hg6, true_and, e0]
        refine q_W_mono 100 _ _ _ _ _ (fun v μ2 h => ?_) h
        obtain ⟨rfl, I2, J2, t2, rfl, hI2⟩ := h
        rw [q_onI_i, g_law_1333, q_br rfl, g_law_1456, e7]
        exact ih (c + 1) I2 J2 t2 (by omega) hI2
      refine ⟨fun _ => ?_, fun _ => ?_⟩
      · rw [g_law_1338]
        try simp only [hg1, hg2, hg3, hg4, hg5, hg6, true_and]
        refine q_W_mono 100 _ _ _ _ _ (fun v μ1 h => ?_) (h_log c hc I J t _ hI)
        obtain ⟨x, I1, J1, t1, rfl, rfl, e0, h⟩ := h
        rw [q_onI_i, g_law_1347]
        try simp only [hg1, hg2, hg3, hg4, hg5, hg6, true_and, e0]
        refine q_W_mono 100 _ _ _ _ _ (fun v μ2 h => ?_) h
        obtain ⟨rfl, I2, J2, t2, rfl, hI2⟩ := h
        rw [q_onI_i, g_law_1356, q_br rfl, g_law_1456, e7]
        exact ih (c + 1) I2 J2 t2 (by omega) hI2
      refine ⟨fun _ => ?_, fun _ => ?_⟩
      · rw [g_law_1361]
        try simp only [hg1, hg2, hg3, hg4, hg5, hg6, true_and]
        refine q_W_mono 100 _ _ _ _ _ (fun v μ1 h => ?_) (h_days c hc I J t _ hI)
        obtain ⟨x, I1, J1, t1, rfl, rfl, e0, h⟩ := h
        rw [q_onI_i, g_law_1370]
        try simp only [hg1, hg2, hg3, hg4, hg5, hg6, true_and, e0]
        refine q_W_mono 100 _ _ _ _ _ (fun v μ2 h => ?_) h
        obtain ⟨rfl, I2, J2, t2, rfl, hI2⟩ := h
        rw [q_onI_i, g_law_1379, q_br rfl, g_law_1456, e7]
        exact ih (c + 1) I2 J2 t2 (by omega) hI2
      refine ⟨fun _ => ?_, fun _ => ?_⟩
      · rw [g_law_1384]
        try simp only [hg1, hg2, hg3, hg4, hg5, hg6, true_and]
        refine q_W_mono 100 _ _ _ _ _ (fun v μ1 h => ?_) (h_seed c hc I J t _ hI)
        obtain ⟨x, I1, J1, t1, rfl, rfl, e0, h⟩ := h
        rw [q_onI_i, g_law_1393]
        try simp only [hg1, hg2, hg3, hg4, hg5, hg6, true_and, e0]
        refine q_W_mono 100 _ _ _ _ _ (fun v μ2 h => ?_) h
        obtain ⟨rfl, I2, J2, t2, rfl, hI2⟩ := h
        rw [q_onI_i, g_law_1402, q_br rfl, g_law_1456, e7]
        exact ih (c + 1) I2 J2 t2 (by omega) hI2
      refine ⟨fun _ => ?_, fun _ => ?_⟩
      · rw [g_law_1407]
        try simp only [hg1, hg2, hg3, hg4, hg5, hg6, true_and]
        refine q_W_mono 100 _ _ _ _ _ (fun v μ1 h => ?_) (h_image c hc I J t hI)
        obtain ⟨x, I1, J1, t1, rfl, rfl, e0, h⟩ := h
        rw [q_onI_i, g_law_1411]
        try simp only [hg1, hg2, hg3, hg4, hg5, hg6, true_and, e0]
        refine q_W_mono 100 _ _ _ _ _ (fun v μ2 h => ?_) h
        obtain ⟨rfl, I2, J2, t2, rfl, hI2⟩ := h
        rw [q_onI_i, g_law_1415, q_br rfl, g_law_1456, e7]
        exact ih (c + 1) I2 J2 t2 (by omega) hI2
      refine ⟨fun _ => ?_, fun _ => ?_⟩
      · rw [g_law_1420]
        try simp only [hg1, hg2, hg3, hg4, hg5, hg6, true_and]
        refine q_W_mono 100 _ _ _ _ _ (fun v μ1 h => ?_) (h_restore c hc I J t hI)
        obtain ⟨x, I1, J1, t1, rfl, rfl, e0, h⟩ := h
        rw [q_onI_i, g_law_1424]
        try simp only [hg1, hg2, hg3, hg4, hg5, hg6, true_and, e0]
        refine q_W_mono 100 _ _ _ _ _ (fun v μ2 h => ?_) h
        obtain ⟨rfl, I2, J2, t2, rfl, hI2⟩ := h
        rw [q_onI_i, g_law_1428, q_br rfl, g_law_1456, e7]
        exact ih (c + 1) I2 J2 t2 (by omega) hI2
      refine ⟨fun _ => ?_, fun _ => ?_⟩
      · rw [g_law_1433]
        try simp only [hg1, hg2, hg3, hg4, hg5, hg6, true_and]
        refine q_W_mono 100 _ _ _ _ _ (fun v μ1 h => ?_) (h_status c hc I J t _ hI)
        obtain ⟨x, I1, J1, t1, rfl, rfl, e0, h⟩ := h
        rw [q_onI_i, g_law_1442]
        try simp only [hg1, hg2, hg3, hg4, hg5, hg6, true_and, e0]
        refine q_W_mono 100 _ _ _ _ _ (fun v μ2 h => ?_) h
        obtain ⟨rfl, I2, J2, t2, rfl, hI2⟩ := h
        rw [q_onI_i, g_law_1451, q_br rfl, g_law_1456, e7]
        exact ih (c + 1) I2 J2 t2 (by omega) hI2
      rw [g_law_1456, e7]
      exact ih (c + 1) I J t (by omega) (hskip c hc I J t hI)
end LAW
