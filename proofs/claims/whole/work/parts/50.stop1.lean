/-! stopping: the class's part -/
def q_cm (I : Nat → Nat → Int32) (S : Nat → Int32) (k : Nat) (R : Nat → Int32) : Nat → Nat → Int32 := fun a b => if (6 ≤ a ∧ a < 18) ∧ b = 9 then S (a - 6) else if a = 111 then R b else if a = 110 ∧ b = 1 then nI k else I a b
theorem q_cm_o {I : Nat → Nat → Int32} {S : Nat → Int32} {k : Nat} {R : Nat → Int32} {a : Nat} (h : ¬ (6 ≤ a ∧ a < 18)) (h1 : a ≠ 110) (h2 : a ≠ 111) : q_cm I S k R a = I a := by
  funext b
  unfold q_cm
  rw [if_neg (fun z => h z.1), if_neg h2, if_neg (fun z => h1 z.1)]
theorem q_cm_9 {I : Nat → Nat → Int32} {S : Nat → Int32} {k : Nat} {R : Nat → Int32} {p : Nat} (hp : p < 12) : q_cm I S k R (6 + p) 9 = S p := by
  unfold q_cm
  rw [if_pos ⟨⟨by omega, by omega⟩, rfl⟩]
  congr 1
  omega
theorem q_cm_f {I : Nat → Nat → Int32} {S : Nat → Int32} {k : Nat} {R : Nat → Int32} {p b : Nat} (hp : p < 12) (hb : b ≠ 9) : q_cm I S k R (6 + p) b = I (6 + p) b := by
  unfold q_cm
  rw [if_neg (fun z => hb z.2), if_neg (by omega), if_neg (by omega)]
theorem q_cm_k {I : Nat → Nat → Int32} {S : Nat → Int32} {k : Nat} {R : Nat → Int32} : q_cm I S k R 110 1 = nI k := by
  unfold q_cm
  rw [if_neg (by omega), if_neg (by decide), if_pos ⟨rfl, rfl⟩]
theorem q_cm_u9 {I : Nat → Nat → Int32} {S : Nat → Int32} {k : Nat} {R : Nat → Int32} {p : Nat} {v : Int32} (hp : p < 12) : q_u (q_cm I S k R) (6 + p) 9 v = q_cm I (q_up S p v) k R := by
  funext a b
  unfold q_u q_cm q_up
  by_cases h1 : a = 6 + p ∧ b = 9
  · rw [if_pos h1, if_pos ⟨⟨by omega, by omega⟩, h1.2⟩, if_pos (by omega)]
  · rw [if_neg h1]
    by_cases h2 : (6 ≤ a ∧ a < 18) ∧ b = 9
    · rw [if_pos h2, if_pos h2, if_neg (by omega)]
    · rw [if_neg h2, if_neg h2]
theorem q_cm_uR {I : Nat → Nat → Int32} {S : Nat → Int32} {k j : Nat} {R : Nat → Int32} {v : Int32} : q_u (q_cm I S k R) 111 j v = q_cm I S k (q_up R j v) := by
  funext a b
  unfold q_u q_cm q_up
  by_cases h1 : a = 111
  · by_cases h2 : b = j
    · rw [if_pos ⟨h1, h2⟩, if_neg (by omega), if_pos h1, if_pos h2]
    · rw [if_neg (fun z => h2 z.2), if_neg (by omega), if_pos h1, if_neg (by omega), if_pos h1, if_neg h2]
  · rw [if_neg (fun z => h1 z.1), if_neg h1, if_neg h1]
theorem q_cm_uk {I : Nat → Nat → Int32} {S : Nat → Int32} {k k' : Nat} {R : Nat → Int32} : q_u (q_cm I S k R) 110 1 (nI k') = q_cm I S k' R := by
  funext a b
  unfold q_u q_cm
  by_cases h1 : a = 110 ∧ b = 1
  · rw [if_pos h1, if_neg (by omega), if_neg (by omega), if_pos h1]
  · rw [if_neg h1, if_neg h1, if_neg h1]
def q_can (W S : Nat → Int32) (q : Nat) : Bool := decide (S q = 1) && !decide (W q = -1)
def q_yng (g : Nat → Int32) (n : Nat) (W S : Nat → Int32) : Option Nat := q_it (q_pick (q_can W S) (fun q b => decide (g b < g q))) 0 n none
theorem q_pick_it_lt {cand : Nat → Bool} {better : Nat → Nat → Bool} {n : Nat} : ∀ (k i : Nat) (o : Option Nat), i + k ≤ n → (∀ b, o = some b → b < n) → ∀ b, q_it (q_pick cand better) i k o = some b → b < n
  | 0, _, o, _, ho => ho
  | k + 1, i, o, h, ho => q_pick_it_lt k (i + 1) _ (by omega) (q_pick_lt (by omega) ho)
theorem q_pick_it_so {cand : Nat → Bool} {better : Nat → Nat → Bool} : ∀ (k i : Nat) (o : Option Nat), (∀ b, o = some b → cand b = true) → ∀ b, q_it (q_pick cand better) i k o = some b → cand b = true
  | 0, _, o, ho => ho
  | k + 1, i, o, ho => q_pick_it_so k (i + 1) _ (q_pick_so ho)
theorem q_pick_it_none {cand : Nat → Bool} {better : Nat → Nat → Bool} : ∀ (k i : Nat) (o : Option Nat), (q_it (q_pick cand better) i k o = none) = (o = none ∧ q_any cand i k = false)
  | 0, i, o => by simp [q_it, q_any]
  | k + 1, i, o => by
    rw [q_it_s, q_pick_it_none k (i + 1), q_any_s]
    unfold q_pick
    cases hc : cand i with
    | false => simp
    | true =>
      cases o with
      | none => simp
      | some b =>
        dsimp only
        cases better i b <;> simp
def q_sl (g : Nat → Int32) (n : Nat) (W : Nat → Int32) : Nat → (Nat → Int32) × Nat × (Nat → Int32) → (Nat → Int32) × Nat × (Nat → Int32)
  | 0, s => s
  | f + 1, s => match q_yng g n W s.1 with
    | none => s
    | some y => q_sl g n W f (q_up s.1 y 0, s.2.1 + 1, q_up s.2.2 (s.2.1 % 40) (nI (200 + y)))
theorem q_sl_y {g : Nat → Int32} {n f k y : Nat} {W S R : Nat → Int32} (h : q_yng g n W S = some y) : q_sl g n W (f + 1) (S, k, R) = q_sl g n W f (q_up S y 0, k + 1, q_up R (k % 40) (nI (200 + y))) := by
  conv => lhs; unfold q_sl
  rw [show (S, k, R).1 = S from rfl, h]
section STOP
variable {L d : Nat} {I : Nat → Nat → Int32} {J : Nat → Nat → Int64} {t : Nat}
theorem s_logadd {Q : Value → q_Mem → Prop} {k : Nat} {S R : Nat → Int32} {v : Int32} (hk : k < 2 ^ 30) : q_W (d + 1) 1 [.ref 110, .int v] (q_mm L (q_cm I S k R) J t) Q = Q .null (q_mm L (q_cm I S (k + 1) (q_up R (k % 40) v)) J t) := by
  rw [e_EventLog_add, q_cm_k, q_mod40 (by omega)]
  simp only [q_clamp (show k % 40 < 2 ^ 31 by omega), q_bnd (show k % 40 < 40 by omega) (by decide), true_and, show ¬ (40 : Int32) = 0 by decide, not_false_eq_true, q_cm_uR, q_cm_k, q_n1, q_cm_uk]
theorem s_idle {Q : Value → q_Mem → Prop} {n k y : Nat} {S R : Nat → Int32} (hn : I 3 2 = nI n) (h12 : n ≤ 12) (hy : y < n) (hk : k < 2 ^ 30) : q_W (d + 2) 128 [.ref 1, .int (nI y)] (q_mm L (q_cm I S k R) J t) Q = Q .null (q_mm L (q_cm I (q_up S y 0) (k + 1) (q_up R (k % 40) (nI (200 + y)))) J t) := by
  rw [e_C_idle, s_hasPlug (by rw [q_cm_o (by omega) (by decide) (by decide)]; exact hn) h12, q_onI_i, g_C_idle_8, q_in_nI (by omega), decide_eq_true hy]
  simp only [q_bb0, q_onI_i, q_onJ_j, q_onS_s, q_onB_t, true_and, and_true, true_or, or_true, eq_self, true_implies, not_true_eq_false, not_false_eq_true, false_implies, q_bb0, q_bbok, q_bbok2, Bool.true_eq_false, Bool.false_eq_true, reduceCtorEq, q_clamp (show y < 2 ^ 31 by omega), q_bnd (show y < 12 by omega) (by decide), r_plug (show y < 12 by omega), i_plug (show y < 12 by omega), q_cm_u9 (show y < 12 by omega)]
  rw [show (200 : Int32) = nI 200 by decide, q_add, s_logadd hk, g_C_idle_36]
theorem l_young {rt : Value → q_Mem → Nat → Nat → Prop} {n k : Nat} {W S R : Nat → Int32} (hn : I 3 2 = nI n) (h12 : n ≤ 12) (hW : I 85 = W) : ∀ m i (o : Option Nat), i + m = n → (∀ b, o = some b → b < n) → q_X (q_W (d + 2)) rt 76 (4, [some (.ref 84), some (.int (q_fst o)), some (.int (nI i))], [], (q_mm L (q_cm I S k R) J t), 0, 0) = rt (.int (q_fst (q_it (q_pick (q_can W S) (fun q b => decide (I (6 + b) 10 < I (6 + q) 10))) i m o))) (q_mm L (q_cm I S k R) J t) 0 0
  | 0, i, o, h, ho => by
    rw [g_Waves_youngestRunning_4, q_cm_o (by omega) (by decide) (by decide), hn, q_leN (by omega) (by omega), q_br (by omega)]
    rfl
  | m + 1, i, o, h, ho => by
    have hi : i < n := by omega
    have hi12 : i < 12 := by omega
    have ho' : ∀ b, o = some b → b < 12 := fun b hb => Nat.lt_of_lt_of_le (ho b hb) h12
    have hn' : q_cm I S k R 3 2 = nI n := by rw [q_cm_o (by omega) (by decide) (by decide)]; exact hn
    have h85 : q_cm I S k R 85 = W := by rw [q_cm_o (by omega) (by decide) (by decide)]; exact hW
    have hskip := l_young (rt := rt) (k := k) (S := S) (R := R) hn h12 hW m (i + 1) o (by omega) ho
    have htake := l_young (rt := rt) (k := k) (S := S) (R := R) hn h12 hW m (i + 1) (some i) (by omega) (fun b e => by injection e with e; omega)
    rw [show q_fst (some i) = nI i from rfl] at htake
    rw [g_Waves_youngestRunning_4, hn', q_leN (by omega) (by omega), q_brn (by omega), s_runs hn' h12, q_onI_i, g_Waves_youngestRunning_23, q_in_nI (by omega), decide_eq_true hi, Bool.true_and, q_clamp (by omega), q_cm_9 hi12, q_it_s]
    simp only [q_clamp (show i < 2 ^ 31 by omega), q_bnd hi12 (by decide), true_and, h85, q_n1, q_bb0]
    rw [hskip, htake]
    by_cases e1 : S i = 1
    · rw [decide_eq_true e1, q_brn (by decide)]
      by_cases e2 : W i = -1
      · have hc : q_can W S i = false := by simp [q_can, e2]
        rw [q_br e2, q_pick_f hc]
      · have hc : q_can W S i = true := by simp [q_can, e1, e2]
        rw [q_brn e2, q_fst_no ho']
        cases o with
        | none => rw [q_br rfl, q_pick_n hc]
        | some b =>
          have hb := ho' b rfl
          rw [q_brn (by simp)]
          simp only [show q_fst (some b) = nI b from rfl, q_clamp (show b < 2 ^ 31 by omega), q_bnd hb (by decide), r_plug hb, i_plug hb, r_plug hi12, i_plug hi12, q_onI_i, q_onJ_j, q_onS_s, q_onB_t, true_and, and_true, true_or, or_true, eq_self, true_implies, not_true_eq_false, not_false_eq_true, false_implies, q_bb0, q_bbok, q_bbok2, Bool.true_eq_false, Bool.false_eq_true, reduceCtorEq, q_cm_f hi12 (show (10 : Nat) ≠ 9 by decide), q_cm_f hb (show (10 : Nat) ≠ 9 by decide)]
          rw [q_pick_y hc]
          by_cases e3 : I (6 + b) 10 < I (6 + i) 10
          · rw [q_brn (Int32.not_le.mpr e3), decide_eq_true e3]
          · rw [q_br (Int32.not_lt.mp e3), decide_eq_false e3]
    · have hc : q_can W S i = false := by simp [q_can, e1]
      rw [decide_eq_false e1, q_br rfl, q_pick_f hc]
theorem s_young {Q : Value → q_Mem → Prop} {n k : Nat} {W S R : Nat → Int32} (hn : I 3 2 = nI n) (h12 : n ≤ 12) (hW : I 85 = W) : q_W (d + 3) 76 [.ref 84] (q_mm L (q_cm I S k R) J t) Q = Q (.int (q_fst (q_yng (fun q => I (6 + q) 10) n W S))) (q_mm L (q_cm I S k R) J t) := by
  rw [e_Waves_youngestRunning]
  exact l_young hn h12 hW n 0 none (by omega) (fun b e => by injection e)
end STOP
