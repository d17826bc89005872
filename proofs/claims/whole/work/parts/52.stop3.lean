/-! stopping: the model's part -/
def q_mf (I : Nat → Nat → Int32) (S : Nat → Int32) (k : Nat) (R : Nat → Int32) : Nat → Nat → Int32 := fun a b => if a = 131 ∧ b < 12 then S b else if a = 139 then R b else if a = 130 ∧ b = 20 then nI k else I a b
theorem q_mf_o {I : Nat → Nat → Int32} {S : Nat → Int32} {k : Nat} {R : Nat → Int32} {a : Nat} (h : a ≠ 131) (h1 : a ≠ 130) (h2 : a ≠ 139) : q_mf I S k R a = I a := by
  funext b
  unfold q_mf
  rw [if_neg (fun z => h z.1), if_neg h2, if_neg (fun z => h1 z.1)]
theorem q_mf_s {I : Nat → Nat → Int32} {S : Nat → Int32} {k : Nat} {R : Nat → Int32} {p : Nat} (hp : p < 12) : q_mf I S k R 131 p = S p := by
  unfold q_mf
  rw [if_pos ⟨rfl, hp⟩]
theorem q_mf_a {I : Nat → Nat → Int32} {S : Nat → Int32} {k : Nat} {R : Nat → Int32} {b : Nat} (hb : 12 ≤ b) : q_mf I S k R 131 b = I 131 b := by
  unfold q_mf
  rw [if_neg (by omega), if_neg (by omega), if_neg (by omega)]
theorem q_mf_m {I : Nat → Nat → Int32} {S : Nat → Int32} {k : Nat} {R : Nat → Int32} {b : Nat} (hb : b ≠ 20) : q_mf I S k R 130 b = I 130 b := by
  unfold q_mf
  rw [if_neg (by omega), if_neg (by omega), if_neg (by omega)]
theorem q_mf_k {I : Nat → Nat → Int32} {S : Nat → Int32} {k : Nat} {R : Nat → Int32} : q_mf I S k R 130 20 = nI k := by
  unfold q_mf
  rw [if_neg (by omega), if_neg (by omega), if_pos ⟨rfl, rfl⟩]
theorem q_mf_us {I : Nat → Nat → Int32} {S : Nat → Int32} {k : Nat} {R : Nat → Int32} {p : Nat} {v : Int32} (hp : p < 12) : q_u (q_mf I S k R) 131 p v = q_mf I (q_up S p v) k R := by
  funext a b
  unfold q_u q_mf q_up
  by_cases h1 : a = 131 ∧ b = p
  · rw [if_pos h1, if_pos ⟨h1.1, by omega⟩, if_pos h1.2]
  · rw [if_neg h1]
    by_cases h2 : a = 131 ∧ b < 12
    · rw [if_pos h2, if_pos h2, if_neg (fun z => h1 ⟨h2.1, z⟩)]
    · rw [if_neg h2, if_neg h2]
theorem q_mf_uR {I : Nat → Nat → Int32} {S : Nat → Int32} {k j : Nat} {R : Nat → Int32} {v : Int32} : q_u (q_mf I S k R) 139 j v = q_mf I S k (q_up R j v) := by
  funext a b
  unfold q_u q_mf q_up
  by_cases h1 : a = 139
  · by_cases h2 : b = j
    · rw [if_pos ⟨h1, h2⟩, if_neg (by omega), if_pos h1, if_pos h2]
    · rw [if_neg (fun z => h2 z.2), if_neg (by omega), if_pos h1, if_neg (by omega), if_pos h1, if_neg h2]
  · rw [if_neg (fun z => h1 z.1), if_neg h1, if_neg h1]
theorem q_mf_uk {I : Nat → Nat → Int32} {S : Nat → Int32} {k k' : Nat} {R : Nat → Int32} : q_u (q_mf I S k R) 130 20 (nI k') = q_mf I S k' R := by
  funext a b
  unfold q_u q_mf
  by_cases h1 : a = 130 ∧ b = 20
  · rw [if_pos h1, if_neg (by omega), if_neg (by omega), if_pos h1]
  · rw [if_neg h1, if_neg h1, if_neg h1]
theorem q_mf_self {I : Nat → Nat → Int32} {k : Nat} (h : I 130 20 = nI k) : q_mf I (I 131) k (I 139) = I := by
  funext a b
  unfold q_mf
  by_cases h1 : a = 131 ∧ b < 12
  · rw [if_pos h1, h1.1]
  · rw [if_neg h1]
    by_cases h2 : a = 139
    · rw [if_pos h2, h2]
    · rw [if_neg h2]
      by_cases h3 : a = 130 ∧ b = 20
      · rw [if_pos h3, h3.1, h3.2, h]
      · rw [if_neg h3]
section STOPM
variable {L d : Nat} {I : Nat → Nat → Int32} {J : Nat → Nat → Int64} {t : Nat}
theorem s_logs {Q : Value → q_Mem → Prop} {k : Nat} {S R : Nat → Int32} {v : Int32} (h19 : I 130 19 = 0) (hk : k < 2 ^ 30) : q_W (d + 1) 173 [.ref 130, .int v] (q_mm L (q_mf I S k R) J t) Q = Q .null (q_mm L (q_mf I S (k + 1) (q_up R (k % 40) v)) J t) := by
  rw [e_M_logs, q_mf_m (by decide), q_br h19, q_mf_k, q_mod40 (by omega)]
  simp only [q_clamp (show k % 40 < 2 ^ 31 by omega), q_bnd (show k % 40 < 40 by omega) (by decide), true_and, show ¬ (40 : Int32) = 0 by decide, not_false_eq_true, q_mf_uR, q_mf_k, q_n1, q_mf_uk]
theorem l_scan {rt : Value → q_Mem → Nat → Nat → Prop} {n k : Nat} {x1 x2 : Int32} {W S R : Nat → Int32} (hn : I 130 0 = nI n) (h12 : n ≤ 12) (hW : I 140 = W) : ∀ m i (o : Option Nat), i + m = n → (∀ b, o = some b → b < n) → q_X (q_W (d + 2)) rt 186 (19, [some (.ref 130), some (.int x1), some (.int x2), some (.int (q_fst o)), some (.int (nI i))], [], (q_mm L (q_mf I S k R) J t), 0, 0) = q_X (q_W (d + 2)) rt 186 (19, [some (.ref 130), some (.int x1), some (.int x2), some (.int (q_fst (q_it (q_pick (q_can W S) (fun q b => decide (I 131 (84 + b) < I 131 (84 + q)))) i m o))), some (.int (nI n))], [], (q_mm L (q_mf I S k R) J t), 0, 0)
  | 0, i, o, h, ho => by
    have : i = n := by omega
    subst this
    rfl
  | m + 1, i, o, h, ho => by
    have hi : i < n := by omega
    have hi12 : i < 12 := by omega
    have ho' : ∀ b, o = some b → b < 12 := fun b hb => Nat.lt_of_lt_of_le (ho b hb) h12
    have hn' : q_mf I S k R 130 0 = nI n := by rw [q_mf_m (by decide)]; exact hn
    have h140 : q_mf I S k R 140 = W := by rw [q_mf_o (by decide) (by decide) (by decide)]; exact hW
    have hskip := l_scan (rt := rt) (k := k) (x1 := x1) (x2 := x2) (S := S) (R := R) hn h12 hW m (i + 1) o (by omega) ho
    have htake := l_scan (rt := rt) (k := k) (x1 := x1) (x2 := x2) (S := S) (R := R) hn h12 hW m (i + 1) (some i) (by omega) (fun b e => by injection e with e; omega)
    rw [show q_fst (some i) = nI i from rfl] at htake
    refine Eq.trans (g_M_stops_19 ..) ?_
    rw [hn', q_leN (by omega) (by omega), q_brn (by omega), s_state (by omega), q_onI_i, g_M_stops_34, q_mf_s hi12, q_it_s]
    simp only [q_clamp (show i < 2 ^ 31 by omega), q_bnd hi12 (by decide), true_and, h140, q_n1]
    rw [hskip, htake]
    by_cases e1 : S i = 1
    · rw [q_br e1]
      by_cases e2 : W i = -1
      · have hc : q_can W S i = false := by simp [q_can, e2]
        rw [q_br e2, q_pick_f hc]
      · have hc : q_can W S i = true := by simp [q_can, e1, e2]
        rw [q_brn e2, q_fst_no ho']
        cases o with
        | none => rw [q_br rfl, q_pick_n hc]
        | some b =>
          have hb := ho' b rfl
          rw [show q_fst (some b) = nI b from rfl] at hskip
          rw [q_brn (by simp), show q_fst (some b) = nI b from rfl, s_isOlder hb hi12, q_onI_i, g_M_stops_61, q_mf_a (by omega), q_mf_a (by omega), q_n1, hskip, htake, q_pick_y hc, q_bb0]
          by_cases e3 : I 131 (84 + b) < I 131 (84 + i)
          · rw [decide_eq_true e3, q_brn (by decide)]
          · rw [decide_eq_false e3, q_br rfl]
    · have hc : q_can W S i = false := by simp [q_can, e1]
      rw [q_brn e1, q_pick_f hc]
theorem l_stops {rt : Value → q_Mem → Nat → Nat → Prop} {n : Nat} {x1 : Int32} {W : Nat → Int32} (hn : I 130 0 = nI n) (h12 : n ≤ 12) (hW : I 140 = W) (h19 : I 130 19 = 0) : ∀ (f c k : Nat) (S R : Nat → Int32) (x3 : Int32) (w4 : Option Value), q_ct (q_can W S) n = f → k + f < 2 ^ 30 → ¬ x3 = -1 → q_X (q_W (d + 2)) rt 186 (9, [some (.ref 130), some (.int x1), some (.int (nI c)), some (.int x3), w4], [], (q_mm L (q_mf I S k R) J t), 0, 0) = rt (.int (nI (c + f))) (q_mm L (q_mf I (q_sl (fun q => I 131 (84 + q)) n W f (S, k, R)).1 (q_sl (fun q => I 131 (84 + q)) n W f (S, k, R)).2.1 (q_sl (fun q => I 131 (84 + q)) n W f (S, k, R)).2.2) J t) 0 0
  | 0, c, k, S, R, x3, w4, hc, hk, hx3 => by
    have hs := l_scan (L := L) (d := d) (J := J) (t := t) (rt := rt) (k := k) (x1 := x1) (x2 := nI c) (S := S) (R := R) hn h12 hW n 0 none (by omega) (fun b e => by injection e)
    rw [show q_it (q_pick (q_can W S) (fun q b => decide (I 131 (84 + b) < I 131 (84 + q)))) 0 n none = none from q_yng_none (g := fun q => I 131 (84 + q)) hc, show q_fst none = -1 from rfl, show nI 0 = (0 : Int32) by decide] at hs
    have hn' : q_mf I S k R 130 0 = nI n := by rw [q_mf_m (by decide)]; exact hn
    rw [g_M_stops_9, q_brn hx3, hs, g_M_stops_19, hn', q_leN (by omega) (by omega), q_br (Nat.le_refl n), q_br rfl, g_M_stops_9, q_br rfl]
    rfl
  | f + 1, c, k, S, R, x3, w4, hc, hk, hx3 => by
    obtain ⟨y, hy, hcy, ey⟩ := q_yng_some (g := fun q => I 131 (84 + q)) (n := n) (W := W) (S := S) (by omega)
    have hoff := q_can_off hy hcy
    have hs := l_scan (L := L) (d := d) (J := J) (t := t) (rt := rt) (k := k) (x1 := x1) (x2 := nI c) (S := S) (R := R) hn h12 hW n 0 none (by omega) (fun b e => by injection e)
    rw [show q_it (q_pick (q_can W S) (fun q b => decide (I 131 (84 + b) < I 131 (84 + q)))) 0 n none = some y from ey, show q_fst (some y) = nI y from rfl, show q_fst none = -1 from rfl, show nI 0 = (0 : Int32) by decide] at hs
    have hn' : q_mf I S k R 130 0 = nI n := by rw [q_mf_m (by decide)]; exact hn
    have hym : ¬ nI y = -1 := q_nIm1 (by omega)
    rw [g_M_stops_9, q_brn hx3, hs, g_M_stops_19, hn', q_leN (by omega) (by omega), q_br (Nat.le_refl n), q_brn hym]
    simp only [q_clamp (show y < 2 ^ 31 by omega), q_bnd (show y < 108 by omega) (by decide), true_and, q_mf_us (show y < 12 by omega)]
    rw [show (200 : Int32) = nI 200 by decide, q_add, s_logs h19 (by omega), g_M_stops_97, q_n1, l_stops hn h12 hW h19 f (c + 1) (k + 1) _ _ (nI y) _ (by omega) (by omega) hym, q_sl_y ey, show c + 1 + f = c + (f + 1) by omega]
end STOPM
