/-! status, running -/
theorem l_inState {L d : Nat} {rt : Value → q_Mem → Nat → Nat → Prop} {I : Nat → Nat → Int32} {J : Nat → Nat → Int64} {t : Nat} {n : Nat} {x : Int32} (hn : I 130 0 = nI n) (h12 : n ≤ 12) : ∀ k i (c : Int32), i + k = n → q_X (q_W (d + 1)) rt 214 (4, [some (.ref 130), some (.int x), some (.int c), some (.int (nI i))], [], (q_mm L I J t), 0, 0) = rt (.int (q_it (fun p c => if I 131 p = x then c + 1 else c) i k c)) (q_mm L I J t) 0 0
  | 0, i, c, h => by
    rw [g_M_inState_4, hn, q_leN (by omega) (by omega), q_br (by omega)]
    rfl
  | k + 1, i, c, h => by
    rw [g_M_inState_4, hn, q_leN (by omega) (by omega), q_brn (by omega), s_state (by omega), q_onI_i, g_M_inState_17, q_n1, l_inState hn h12 k (i + 1) _ (show i + 1 + k = n by omega), l_inState hn h12 k (i + 1) _ (show i + 1 + k = n by omega), q_it_s]
    by_cases h9 : I 131 i = x <;> simp [h9]
theorem s_inState {L d : Nat} {Q : Value → q_Mem → Prop} {I : Nat → Nat → Int32} {J : Nat → Nat → Int64} {t : Nat} {n : Nat} {x : Int32} (hn : I 130 0 = nI n) (h12 : n ≤ 12) : q_W (d + 2) 214 [.ref 130, .int x] (q_mm L I J t) Q = Q (.int (q_it (fun p c => if I 131 p = x then c + 1 else c) 0 n 0)) (q_mm L I J t) := by
  rw [e_M_inState]
  exact l_inState hn h12 n 0 0 (by omega)
theorem q_two {c e : Prop} {A B : Prop} : ((c → A) ∧ (¬ c → ((e → A) ∧ (¬ e → B)))) = ((c ∨ e → A) ∧ (¬ (c ∨ e) → B)) := by
  apply propext
  by_cases h1 : c <;> by_cases h2 : e <;> simp [h1, h2]
section OPS7
variable {L c : Nat} {I : Nat → Nat → Int32} {J : Nat → Nat → Int64} {t : Nat}
theorem t_status {x : Int32} (h : q_J c I J t) : q_SI 100 116 221 [.int x] (q_J (c + 1)) L I J t := by
  obtain ⟨n, hk, m, h2, ⟨cc, c1, c2, c3, c4⟩, ⟨k, k1, k2, k3, k4⟩, ⟨r, r1, r2, r3, r4, r5⟩, h6, h7, h8⟩ := id h
  obtain ⟨⟨a1, a2, a3, a4, a5, a6⟩, m2, m3, m4, m5⟩ := id m
  have hct : ∀ y : Int32, q_it (fun p c => if I (6 + p) 9 = y then c + 1 else c) 0 n (0 : Int32) = q_it (fun p c => if I 131 p = y then c + 1 else c) 0 n 0 := fun y => q_it_congr n 0 0 fun p a _ hp => by
    rw [(a5 p (by omega)).1.2.2.2.2.2.2.1]
  unfold q_SI
  rw [e_C_status, q_two]
  by_cases hx : x ≤ 10 ∨ 17 < x
  · have hx' := hx
    rw [q_le, q_lt, show (10 : Int32).toInt = 10 by decide, show (17 : Int32).toInt = 17 by decide] at hx'
    rw [q_br hx]
    have hm : ∀ {Q : Value → q_Mem → Prop}, q_W 99 135 [.int x, .int 11, .int 17] (q_mm L I J t) Q = Q (.int 0) (q_mm L I J t) := by
      intro Q
      rw [s_within, decide_eq_false (by rw [show (11 : Int32).toInt = 11 by decide, show (17 : Int32).toInt = 17 by decide]; omega)]
      rfl
    have hs : ∀ y : Int32, q_X (q_W 99) (fun v μ' _ _ => v = .int y ∧ ∃ (I2 : Nat → Nat → Int32) (J2 : Nat → Nat → Int64) (t2 : Nat), μ' = q_mm L I2 J2 t2 ∧ q_J (c + 1) I2 J2 t2) 221 (8, [some (.ref 130), some (.int x)], [.int 0], q_mm L I J t, 0, 0) → ∃ (x1 : Int32) (I1 : Nat → Nat → Int32) (J1 : Nat → Nat → Int64) (t1 : Nat), Value.int y = .int x1 ∧ q_mm L I J t = q_mm L I1 J1 t1 ∧ I1 0 = I 0 ∧ q_W 100 221 [.ref 130, .int x] (q_mm L I1 J1 t1) fun v' μ2 => v' = .int x1 ∧ ∃ (I2 : Nat → Nat → Int32) (J2 : Nat → Nat → Int64) (t2 : Nat), μ2 = q_mm L I2 J2 t2 ∧ q_J (c + 1) I2 J2 t2 := by
      intro y hy
      refine ⟨y, I, J, t, rfl, rfl, rfl, ?_⟩
      rw [e_M_status, hm, q_onI_i]
      exact hy
    by_cases e0 : x.toInt = 0
    · rw [q_br e0]
      refine hs _ ?_
      rw [g_M_status_8, q_br rfl, q_br e0]
      exact ⟨by rw [a1, m2], _, _, _, rfl, q_J_next h⟩
    rw [q_brn e0]
    by_cases e1 : x.toInt = 1
    · rw [q_br e1]
      simp only [s_countIn a1 a3, q_onI_i, g_C_status_92]
      refine hs _ ?_
      rw [g_M_status_8, q_br rfl, q_brn e0, q_br e1, s_inState m2 a3, q_onI_i, g_M_status_86]
      exact ⟨by rw [hct], _, _, _, rfl, q_J_next h⟩
    rw [q_brn e1]
    by_cases e2 : x.toInt = 2
    · rw [q_br e2]
      simp only [s_countIn a1 a3, q_onI_i, g_C_status_101]
      refine hs _ ?_
      rw [g_M_status_8, q_br rfl, q_brn e0, q_brn e1, q_br e2, s_inState m2 a3, q_onI_i, g_M_status_92]
      exact ⟨by rw [hct], _, _, _, rfl, q_J_next h⟩
    rw [q_brn e2]
    by_cases e3 : x.toInt = 3
    · rw [q_br e3]
      simp only [s_countIn a1 a3, q_onI_i, g_C_status_110]
      refine hs _ ?_
      rw [g_M_status_8, q_br rfl, q_brn e0, q_brn e1, q_brn e2, q_br e3, s_inState m2 a3, q_onI_i, g_M_status_98]
      exact ⟨by rw [hct], _, _, _, rfl, q_J_next h⟩
    rw [q_brn e3]
    by_cases e4 : x.toInt = 4
    · rw [q_br e4]
      refine hs _ ?_
      rw [g_M_status_8, q_br rfl, q_brn e0, q_brn e1, q_brn e2, q_brn e3, q_br e4]
      exact ⟨by rw [a2, m3], _, _, _, rfl, q_J_next h⟩
    rw [q_brn e4]
    by_cases e5 : x.toInt = 5
    · rw [q_br e5]
      refine hs _ ?_
      rw [g_M_status_8, q_br rfl, q_brn e0, q_brn e1, q_brn e2, q_brn e3, q_brn e4, q_br e5]
      exact ⟨by rw [m4], _, _, _, rfl, q_J_next h⟩
    rw [q_brn e5]
    by_cases e6 : x.toInt = 6
    · rw [q_br e6]
      refine hs _ ?_
      rw [g_M_status_8, q_br rfl, q_brn e0, q_brn e1, q_brn e2, q_brn e3, q_brn e4, q_brn e5, q_br e6]
      exact ⟨by rw [m5], _, _, _, rfl, q_J_next h⟩
    rw [q_brn e6]
    by_cases e7 : x.toInt = 7
    · rw [q_br e7]
      refine hs _ ?_
      rw [g_M_status_8, q_br rfl, q_brn e0, q_brn e1, q_brn e2, q_brn e3, q_brn e4, q_brn e5, q_brn e6, q_br e7]
      exact ⟨by rw [c2, c3], _, _, _, rfl, q_J_next h⟩
    rw [q_brn e7]
    by_cases e8 : x.toInt = 8
    · rw [q_br e8]
      refine hs _ ?_
      rw [g_M_status_8, q_br rfl, q_brn e0, q_brn e1, q_brn e2, q_brn e3, q_brn e4, q_brn e5, q_brn e6, q_brn e7, q_br e8]
      exact ⟨by rw [r2, r3], _, _, _, rfl, q_J_next h⟩
    rw [q_brn e8]
    by_cases e9 : x.toInt = 9
    · rw [q_br e9]
      refine hs _ ?_
      rw [g_M_status_8, q_br rfl, q_brn e0, q_brn e1, q_brn e2, q_brn e3, q_brn e4, q_brn e5, q_brn e6, q_brn e7, q_brn e8, q_br e9]
      exact ⟨by rw [k2, k3], _, _, _, rfl, q_J_next h⟩
    rw [q_brn e9]
    refine hs _ ?_
    rw [g_M_status_8, q_br rfl, q_brn e0, q_brn e1, q_brn e2, q_brn e3, q_brn e4, q_brn e5, q_brn e6, q_brn e7, q_brn e8, q_brn e9]
    exact ⟨rfl, _, _, _, rfl, q_J_next h⟩
  · have hx' := hx
    rw [q_le, q_lt, show (10 : Int32).toInt = 10 by decide, show (17 : Int32).toInt = 17 by decide] at hx'
    obtain ⟨p, hp, rfl⟩ := q_in_get (n := 18) (x := x) (decide_eq_true (by omega))
    rw [nI_toInt (by omega)] at hx'
    rw [q_brn hx, show (10 : Int32) = nI 10 by decide, q_sub (by omega)]
    simp only [q_clamp (show p - 10 < 2 ^ 31 by omega), q_bnd (show p - 10 < 8 by omega) (by decide), true_and]
    refine ⟨_, _, _, _, rfl, rfl, rfl, ?_⟩
    rw [e_M_status, s_within, decide_eq_true (by rw [show (11 : Int32).toInt = 11 by decide, show (17 : Int32).toInt = 17 by decide, nI_toInt (by omega)]; omega), q_onI_i, g_M_status_8, q_brn (by decide), show (10 : Int32) = nI 10 by decide, q_sub (by omega)]
    simp only [q_clamp (show p - 10 < 2 ^ 31 by omega), q_bnd (show p - 10 < 8 by omega) (by decide), true_and]
    exact ⟨by rw [h6 _ (by omega)], _, _, _, rfl, q_J_next h⟩
end OPS7
theorem q_bc_or : ∀ k, k < 12 → ∀ b, b < 2 ^ k → q_bc (nI b ||| ((1 : Int32) <<< (nI k &&& 31))) = q_bc (nI b) + 1 ∧ nI b ||| ((1 : Int32) <<< (nI k &&& 31)) = nI (b + 2 ^ k) := by decide +kernel
theorem q_bc_it {f : Nat → Bool} : ∀ (k i : Nat) (b : Nat), i + k ≤ 12 → b < 2 ^ i → q_bc (q_it (q_orb f) i k (nI b)) = q_it (fun p c => if f p = true then c + 1 else c) i k (q_bc (nI b))
  | 0, i, b, _, _ => rfl
  | k + 1, i, b, h, hb => by
    rw [q_it_s, q_it_s]
    have hp : 2 ^ (i + 1) = 2 ^ i + 2 ^ i := by rw [Nat.pow_succ]; omega
    cases hf : f i with
    | false =>
      have e : q_orb f i (nI b) = nI b := by
        unfold q_orb
        rw [hf]
      rw [e, q_bc_it k (i + 1) b (by omega) (by omega)]
      simp [hf]
    | true =>
      have e : q_orb f i (nI b) = nI (b + 2 ^ i) := by
        unfold q_orb
        rw [hf]
        exact (q_bc_or i (by omega) b hb).2
      rw [e, q_bc_it k (i + 1) (b + 2 ^ i) (by omega) (by omega), ← (q_bc_or i (by omega) b hb).2, (q_bc_or i (by omega) b hb).1]
      simp [hf]
theorem q_bc_mk {f : Nat → Bool} {n : Nat} (hn : n ≤ 12) : q_bc (q_mk f n) = q_it (fun p c => if f p = true then c + 1 else c) 0 n 0 := by
  have := q_bc_it (f := f) n 0 0 (by omega) (by decide)
  rw [show q_bc (nI 0) = 0 by decide] at this
  exact this
section OPS7B
variable {L c : Nat} {I : Nat → Nat → Int32} {J : Nat → Nat → Int64} {t : Nat}
def q_old (I : Nat → Nat → Int32) (p : Nat) : Nat → Int32 → Int32 := fun q c => if (decide (I 131 q = 1) && decide (I 131 (84 + q) < I 131 (84 + p))) = true then c + 1 else c
theorem l_Mrunin {L d : Nat} {rt : Value → q_Mem → Nat → Nat → Prop} {I : Nat → Nat → Int32} {J : Nat → Nat → Int64} {t : Nat} {n p : Nat} {x : Int32} (hn : I 130 0 = nI n) (h12 : n ≤ 12) (hp : p < n) : ∀ k i (c : Int32), i + k = n → q_X (q_W (d + 2)) rt 192 (27, [some (.ref 130), some (.int x), some (.int (nI p)), some (.int c), some (.int (nI i))], [], (q_mm L I J t), 0, 0) = ((q_it (q_old I p) i k c = x → rt (.int (nI p)) (q_mm L I J t) 0 0) ∧ (¬ q_it (q_old I p) i k c = x → q_X (q_W (d + 2)) rt 192 (2, [some (.ref 130), some (.int x), some (.int (nI (p + 1))), some (.int (q_it (q_old I p) i k c)), some (.int (nI n))], [], (q_mm L I J t), 0, 0)))
  | 0, i, c, h => by
    have : i = n := by omega
    subst this
    rw [g_M_running_27, hn, q_leN (by omega) (by omega), q_br (by omega), q_n1]
    rfl
  | k + 1, i, c, h => by
    rw [g_M_running_27, hn, q_leN (by omega) (by omega), q_brn (by omega), s_state (by omega), q_onI_i, g_M_running_42, s_isOlder (by omega) (by omega), q_onI_i, g_M_running_53]
    simp only [q_n1, l_Mrunin hn h12 hp k (i + 1) _ (show i + 1 + k = n by omega)]
    rw [q_it_s]
    by_cases h9 : I 131 i = 1
    · by_cases h5 : I 131 (84 + i) < I 131 (84 + p) <;> simp [h9, h5, q_old, q_bb]
    · simp [h9, q_old]
def q_runk (I : Nat → Nat → Int32) (n : Nat) (x : Int32) (p : Nat) : Bool := decide (I 131 p = 1) && decide (q_it (q_old I p) 0 n 0 = x)
def q_fst (o : Option Nat) : Int32 := match o with
  | some p => nI p
  | none => -1
theorem l_Mrunning {L d : Nat} {rt : Value → q_Mem → Nat → Nat → Prop} {I : Nat → Nat → Int32} {J : Nat → Nat → Int64} {t : Nat} {n : Nat} {x : Int32} (hn : I 130 0 = nI n) (h12 : n ≤ 12) : ∀ k i (w3 w4 : Option Value), i + k = n → q_X (q_W (d + 2)) rt 192 (2, [some (.ref 130), some (.int x), some (.int (nI i)), w3, w4], [], (q_mm L I J t), 0, 0) = rt (.int (q_fst (q_first (q_runk I n x) i k))) (q_mm L I J t) 0 0
  | 0, i, w3, w4, h => by
    rw [g_M_running_2, hn, q_leN (by omega) (by omega), q_br (by omega)]
    rfl
  | k + 1, i, w3, w4, h => by
    rw [g_M_running_2, hn, q_leN (by omega) (by omega), q_brn (by omega), s_state (by omega), q_onI_i, g_M_running_15]
    unfold q_first
    by_cases h9 : I 131 i = 1
    · rw [q_br h9, show (0 : Int32) = nI 0 by decide, l_Mrunin hn h12 (by omega) n 0 _ (by omega), l_Mrunning hn h12 k (i + 1) _ _ (by omega)]
      by_cases h5 : q_it (q_old I i) 0 n (nI 0) = x
      · rw [q_br h5, show q_runk I n x i = true by rw [q_runk, decide_eq_true h9, Bool.true_and]; exact decide_eq_true h5]
        rfl
      · rw [q_brn h5, show q_runk I n x i = false by rw [q_runk, decide_eq_true h9, Bool.true_and]; exact decide_eq_false h5]
    · rw [q_brn h9, q_n1, l_Mrunning hn h12 k (i + 1) _ _ (by omega), show q_runk I n x i = false by rw [q_runk, decide_eq_false h9, Bool.false_and]]
theorem l_Crunning {L d : Nat} {rt : Value → q_Mem → Nat → Nat → Prop} {I : Nat → Nat → Int32} {J : Nat → Nat → Int64} {t : Nat} {n : Nat} {x : Int32} (hn : I 3 2 = nI n) (h12 : n ≤ 12) : ∀ k i, i + k = n → q_X (q_W (d + 2)) rt 99 (2, [some (.ref 1), some (.int x), some (.int (nI i))], [], (q_mm L I J t), 0, 0) = rt (.int (q_fst (q_first (fun p => decide (I (6 + p) 9 = 1) && decide (q_bc (q_mk (fun q => decide (I (6 + q) 9 = 1) && decide (I (6 + q) 10 < I (6 + p) 10)) n) = x)) i k))) (q_mm L I J t) 0 0
  | 0, i, h => by
    rw [g_C_running_2, hn, q_leN (by omega) (by omega), q_br (by omega)]
    rfl
  | k + 1, i, h => by
    rw [g_C_running_2, hn, q_leN (by omega) (by omega), q_brn (by omega), s_runs hn h12, q_onI_i, g_C_running_21, q_in_nI (by omega), decide_eq_true (show i < n by omega), Bool.true_and, q_clamp (by omega)]
    unfold q_first
    by_cases h9 : I (6 + i) 9 = 1
    · simp only [decide_eq_true h9, q_onI_i, q_onJ_j, q_onS_s, q_onB_t, true_and, and_true, true_or, or_true, eq_self, true_implies, not_true_eq_false, not_false_eq_true, false_implies, q_bb0, q_bbok, q_bbok2, Bool.true_eq_false, Bool.false_eq_true, reduceCtorEq, s_olderThan hn h12 (show i < n by omega), g_C_running_32, s_bitCount, g_C_running_35, Bool.true_and]
      by_cases h5 : q_bc (q_mk (fun q => decide (I (6 + q) 9 = 1) && decide (I (6 + q) 10 < I (6 + i) 10)) n) = x
      · rw [q_br h5, decide_eq_true h5]
        rfl
      · rw [q_brn h5, decide_eq_false h5, q_n1, l_Crunning hn h12 k (i + 1) (by omega)]
    · simp only [decide_eq_false h9, q_onI_i, q_onJ_j, q_onS_s, q_onB_t, true_and, and_true, true_or, or_true, eq_self, true_implies, not_true_eq_false, not_false_eq_true, false_implies, q_bb0, q_bbok, q_bbok2, Bool.true_eq_false, Bool.false_eq_true, reduceCtorEq, Bool.false_and, q_n1, l_Crunning hn h12 k (i + 1) (show i + 1 + k = n by omega)]
theorem t_running {x : Int32} (h : q_J c I J t) : q_SI 100 99 192 [.int x] (q_J (c + 1)) L I J t := by
  obtain ⟨n, hk, m, h2, h3, h4, h5, h6, h7, h8⟩ := id h
  obtain ⟨⟨a1, a2, a3, a4, a5, a6⟩, m2, m3, m4, m5⟩ := id m
  unfold q_SI
  rw [e_C_running, show (0 : Int32) = nI 0 by decide, l_Crunning a1 a3 n 0 (by omega)]
  refine ⟨_, _, _, _, rfl, rfl, rfl, ?_⟩
  rw [e_M_running, show (0 : Int32) = nI 0 by decide, l_Mrunning m2 a3 n 0 _ _ (by omega)]
  refine ⟨?_, _, _, _, rfl, q_J_next h⟩
  congr 2
  refine q_first_congr n 0 fun p _ hp => ?_
  obtain ⟨b1, b2, -⟩ := a5 p (by omega)
  unfold q_runk
  rw [b1.2.2.2.2.2.2.1]
  by_cases h9 : I 131 p = 1
  · rw [decide_eq_true h9, Bool.true_and, Bool.true_and, q_bc_mk a3]
    congr 2
    refine q_it_congr n 0 0 fun q a _ hq => ?_
    obtain ⟨d1, d2, -⟩ := a5 q (by omega)
    unfold q_old
    rw [d1.2.2.2.2.2.2.1]
    by_cases h10 : I 131 q = 1
    · rw [decide_eq_true h10, Bool.true_and, Bool.true_and, d2 h10, b2 h9]
    · rw [decide_eq_false h10, Bool.false_and, Bool.false_and]
  · rw [decide_eq_false h9, Bool.false_and, Bool.false_and]
end OPS7B
