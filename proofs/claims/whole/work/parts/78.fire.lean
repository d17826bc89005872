/-! fire -/
section FIRE
variable {L d : Nat} {J : Nat → Nat → Int64} {t : Nat}
theorem l_kn {n : Nat} (h12 : n ≤ 12) : ∀ (k i : Nat) (I : Nat → Nat → Int32), i + k = n → I 3 2 = nI n → ∃ F, (∀ o, (o < 6 ∨ 18 ≤ o) → F o = I o) ∧ (∀ p, p < 12 → ∀ b, F (6 + p) b = if b = 8 ∧ i ≤ p ∧ p < n then I (6 + p) 8 + I 89 p else I (6 + p) b) ∧ ∀ (rt : Value → q_Mem → Nat → Nat → Prop), q_X (q_W d) rt 9 (2, [some (.ref 86), some (.int (nI i))], [], (q_mm L I J t), 0, 0) = rt .null (q_mm L F J t) 0 0
  | 0, i, I, h, hn => by
    refine ⟨I, fun _ _ => rfl, fun p hp b => by rw [if_neg (by omega)], fun rt => ?_⟩
    rw [g_Firing_keepNotes_86_2, hn, q_leN (by omega) (by omega), q_br (by omega)]
  | k + 1, i, I, h, hn => by
    have hi : i < 12 := by omega
    obtain ⟨F, f1, f2, f3⟩ := l_kn h12 k (i + 1) (q_u I (6 + i) 8 (I (6 + i) 8 + I 89 i)) (by omega) (by rw [q_u_ne (by omega)]; exact hn)
    refine ⟨F, fun o ho => by rw [f1 o ho, q_u_ne (by omega)], fun p hp b => ?_, fun rt => ?_⟩
    · rw [f2 p hp b, q_u_ne (show 89 ≠ 6 + i by omega)]
      by_cases e : p = i
      · subst e
        rw [if_neg (by omega)]
        by_cases e8 : b = 8
        · subst e8
          rw [q_u_eq, if_pos ⟨rfl, by omega, by omega⟩]
        · rw [q_u_nk e8, if_neg (by omega)]
      · rw [q_u_ne (show 6 + p ≠ 6 + i by omega)]
        by_cases e2 : b = 8 ∧ i + 1 ≤ p ∧ p < n
        · rw [if_pos e2, if_pos ⟨e2.1, by omega, e2.2.2⟩]
        · rw [if_neg e2, if_neg (by omega)]
    · rw [g_Firing_keepNotes_86_2, hn, q_leN (by omega) (by omega), q_brn (by omega)]
      simp only [q_clamp (show i < 2 ^ 31 by omega), q_bnd hi (by decide), r_plug hi, i_plug hi, q_onI_i, q_onJ_j, q_onS_s, q_onB_t, true_and, and_true, true_or, or_true, eq_self, true_implies, not_true_eq_false, not_false_eq_true, false_implies, q_bb0, q_bbok, q_bbok2, Bool.true_eq_false, Bool.false_eq_true, reduceCtorEq, q_n1, f3]
theorem l_tr {r : Nat} {x1 x2 : Int32} (hr : r ≤ 200) : ∀ (k i : Nat) (I : Nat → Nat → Int32), i + k = 30 → I 130 27 = nI r → ∃ F, (∀ o, o ≠ 144 → F o = I o) ∧ (∀ j, i ≤ j → j < 30 → j < r → F 144 j = I 142 j) ∧ (∀ j, j < i → F 144 j = I 144 j) ∧ ∀ (rt : Value → q_Mem → Nat → Nat → Prop), q_X (q_W d) rt 204 (38, [some (.ref 130), some (.int x1), some (.int x2), some (.int (nI i))], [], (q_mm L I J t), 0, 0) = q_X (q_W d) rt 204 (72, [some (.ref 130), some (.int x1), some (.int x2), some (.int 0)], [], q_mm L F J t, 0, 0)
  | 0, i, I, h, h27 => by
    refine ⟨I, fun _ _ => rfl, fun j a b => absurd a (by omega), fun _ _ => rfl, fun rt => ?_⟩
    rw [g_M_fire_38, show (30 : Int32) = nI 30 by decide, q_leN (by decide) (by omega), q_br (by omega)]
  | k + 1, i, I, h, h27 => by
    by_cases hir : r ≤ i
    · refine ⟨I, fun _ _ => rfl, fun j a b => fun z => absurd z (by omega), fun _ _ => rfl, fun rt => ?_⟩
      rw [g_M_fire_38, show (30 : Int32) = nI 30 by decide, q_leN (by decide) (by omega), q_brn (by omega), h27, q_leN (by omega) (by omega), q_br hir]
    · obtain ⟨F, f1, f2, f3, f4⟩ := l_tr (x1 := x1) (x2 := x2) hr k (i + 1) (q_u I 144 i (I 142 i)) (by omega) (by rw [q_u_ne (by decide)]; exact h27)
      refine ⟨F, fun o ho => by rw [f1 o ho, q_u_ne ho], fun j a b e => ?_, fun j a => by rw [f3 j (by omega), q_u_nk (by omega)], fun rt => ?_⟩
      · by_cases z : j = i
        · subst z
          rw [f3 j (by omega), q_u_eq]
        · rw [f2 j (by omega) b e, q_u_ne (by decide)]
      · rw [g_M_fire_38, show (30 : Int32) = nI 30 by decide, q_leN (by decide) (by omega), q_brn (by omega), h27, q_leN (by omega) (by omega), q_brn hir]
        simp only [q_clamp (show i < 2 ^ 31 by omega), q_bnd (show i < 30 by omega) (by decide), true_and, q_n1, f4]
theorem l_tal {n : Nat} {x1 x2 : Int32} (h12 : n ≤ 12) : ∀ (k i : Nat) (I : Nat → Nat → Int32), i + k = n → I 130 0 = nI n → I 130 25 = 0 → ∃ F, (∀ o, o ≠ 131 → F o = I o) ∧ (∀ b, F 131 b = if 96 + i ≤ b ∧ b < 96 + n then I 131 b + I 143 (b - 96) else I 131 b) ∧ ∀ (rt : Value → q_Mem → Nat → Nat → Prop), q_X (q_W d) rt 204 (72, [some (.ref 130), some (.int x1), some (.int x2), some (.int (nI i))], [], (q_mm L I J t), 0, 0) = rt (.int 0) (q_mm L F J t) 0 0
  | 0, i, I, h, hn, h25 => by
    refine ⟨I, fun _ _ => rfl, fun b => by rw [if_neg (by omega)], fun rt => ?_⟩
    rw [g_M_fire_72, hn, q_leN (by omega) (by omega), q_br (by omega), h25]
  | k + 1, i, I, h, hn, h25 => by
    have hi : i < 12 := by omega
    obtain ⟨F, f1, f2, f3⟩ := l_tal (x1 := x1) (x2 := x2) h12 k (i + 1) (q_u I 131 (96 + i) (I 131 (96 + i) + I 143 i)) (by omega) (by rw [q_u_ne (by decide)]; exact hn) (by rw [q_u_ne (by decide)]; exact h25)
    refine ⟨F, fun o ho => by rw [f1 o ho, q_u_ne ho], fun b => ?_, fun rt => ?_⟩
    · rw [f2 b, q_u_ne (show 143 ≠ 131 by decide)]
      by_cases e : b = 96 + i
      · subst e
        rw [if_neg (by omega), q_u_eq, if_pos (by omega), show 96 + i - 96 = i by omega]
      · rw [q_u_nk e]
        by_cases e2 : 96 + (i + 1) ≤ b ∧ b < 96 + n
        · rw [if_pos e2, if_pos (by omega)]
        · rw [if_neg e2, if_neg (by omega)]
    · rw [g_M_fire_72, hn, q_leN (by omega) (by omega), q_brn (by omega), h25, q_br rfl, show (96 : Int32) = nI 96 by decide, q_add]
      simp only [q_clamp (show i < 2 ^ 31 by omega), q_bnd hi (by decide), q_clamp (show 96 + i < 2 ^ 31 by omega), q_bnd (show 96 + i < 108 by omega) (by decide), true_and, q_n1, f3]
end FIRE
theorem v_plug_tal {I I' : Nat → Nat → Int32} {p : Nat} (hk : ∀ k, k ≠ 8 → I' (6 + p) k = I (6 + p) k) (hT : ∀ j, j < 8 → I' 131 (12 * j + p) = I 131 (12 * j + p)) (h8 : I' (6 + p) 8 = I' 131 (96 + p)) (h : v_plug q_bc I 6 131 p) : v_plug q_bc I' 6 131 p := by
  unfold v_plug at h ⊢
  obtain ⟨⟨a1, a2, a3, a4, a5, a6, a7, a8⟩, b, c, d, e1, e2, e3, e4, e5, e6, e7⟩ := h
  have t0 : I' 131 p = I 131 p := by have := hT 0 (by decide); rw [Nat.mul_zero, Nat.zero_add] at this; exact this
  rw [hk 0 (by decide), hk 1 (by decide), hk 2 (by decide), hk 3 (by decide), hk 4 (by decide), hk 5 (by decide), hk 6 (by decide), hk 7 (by decide), hk 9 (by decide), hk 10 (by decide), t0, show I' 131 (12 + p) = I 131 (12 + p) from hT 1 (by decide), show I' 131 (24 + p) = I 131 (24 + p) from hT 2 (by decide), show I' 131 (36 + p) = I 131 (36 + p) from hT 3 (by decide), show I' 131 (48 + p) = I 131 (48 + p) from hT 4 (by decide), show I' 131 (60 + p) = I 131 (60 + p) from hT 5 (by decide), show I' 131 (72 + p) = I 131 (72 + p) from hT 6 (by decide), show I' 131 (84 + p) = I 131 (84 + p) from hT 7 (by decide)]
  exact ⟨⟨a1, a2, a3, a4, a5, a6, a7, h8⟩, b, c, d, e1, e2, e3, e4, e5, e6, e7⟩
theorem v_rest_fire {bc : Int32 → Int32} {T : Nat} {I I' : Nat → Nat → Int32} {J : Nat → Nat → Int64} {n : Nat} (ho : ∀ o, q_rel o = true → o ≠ 86 → o ≠ 88 → o ≠ 144 → I' o = I o) (h130 : I' 130 9 = I 130 9 ∧ I' 130 12 = I 130 12 ∧ I' 130 19 = I 130 19 ∧ I' 130 20 = I 130 20 ∧ I' 130 34 = I 130 34) (hf : v_fired I') (h : v_rest bc T I J n) : v_rest bc T I' J n := by
  obtain ⟨h2, ⟨c, c1, c2, c3, c4⟩, ⟨k, k1, k2, k3, k4⟩, -, h6, ⟨g1, g2, g3⟩, ⟨w1, w2⟩⟩ := h
  obtain ⟨z9, z12, z19, z20, z34⟩ := h130
  have e1 : I' 1 = I 1 := ho 1 rfl (by decide) (by decide) (by decide)
  have e42 : I' 42 = I 42 := ho 42 rfl (by decide) (by decide) (by decide)
  have e146 : I' 146 = I 146 := ho 146 rfl (by decide) (by decide) (by decide)
  have e113 : I' 113 = I 113 := ho 113 rfl (by decide) (by decide) (by decide)
  have e145 : I' 145 = I 145 := ho 145 rfl (by decide) (by decide) (by decide)
  have e112 : I' 112 = I 112 := ho 112 rfl (by decide) (by decide) (by decide)
  have e136 : I' 136 = I 136 := ho 136 rfl (by decide) (by decide) (by decide)
  have e110 : I' 110 = I 110 := ho 110 rfl (by decide) (by decide) (by decide)
  have e111 : I' 111 = I 111 := ho 111 rfl (by decide) (by decide) (by decide)
  have e139 : I' 139 = I 139 := ho 139 rfl (by decide) (by decide) (by decide)
  have e133 : I' 133 = I 133 := ho 133 rfl (by decide) (by decide) (by decide)
  have e134 : I' 134 = I 134 := ho 134 rfl (by decide) (by decide) (by decide)
  refine ⟨fun s hs => v_shelf_congr (ho _ ?_ (by omega) (by omega) (by omega)) e133 e134 rfl rfl (h2 s hs), ⟨c, c1, by rw [e1]; exact c2, by rw [z12]; exact c3, fun i hi w hw => by rw [e112, e136]; exact c4 i hi w hw⟩, ⟨k, k1, by rw [e110]; exact k2, by rw [z20]; exact k3, fun i hi => by rw [e111, e139]; exact k4 i hi⟩, hf, fun i hi => by rw [e113, e145]; exact h6 i hi, ⟨by rw [e1, z34]; exact g1, by rw [e1]; exact g2, fun hz => ?_⟩, by rw [e1, z9]; exact w1, by rw [z19]; exact w2⟩
  · have : Nat.ble 110 (114 + 2 * s) = true ∧ Nat.blt (114 + 2 * s) 130 = true := ⟨Nat.ble_eq.mpr (by omega), Nat.ble_eq.mpr (by omega)⟩
    simp [q_rel, this.1, this.2]
  · rw [e1] at hz
    obtain ⟨n', h', b1, b2, b3, b4, b5⟩ := g3 hz
    have hr : ∀ o, 42 ≤ o → o < 81 → I' o = I o := fun o a b => ho o (by
      have : Nat.ble 42 o = true ∧ Nat.blt o 81 = true := ⟨Nat.ble_eq.mpr (by omega), Nat.ble_eq.mpr (by omega)⟩
      simp [q_rel, this.1, this.2]) (by omega) (by omega) (by omega)
    exact ⟨n', h', v_host_congr e42 (fun p hp => hr _ (by omega) (by omega)) (fun p hp => hr _ (by omega) (by omega)) e146 e146 b1, by rw [e146]; exact b2, by rw [e146]; exact b3, by rw [e42, e146]; exact b4, by rw [e42, e146]; exact b5⟩
section FIRE2
variable {L c : Nat} {I : Nat → Nat → Int32} {J : Nat → Nat → Int64} {t : Nat}
theorem t_fire {x y : Int32} (h : q_J c I J t) : q_SI 100 104 204 [.int x, .int y] (q_J (c + 1)) L I J t := by
  obtain ⟨n, hk, m, hr0⟩ := id h
  obtain ⟨hc, hm⟩ := q_J_ch m
  have hok := q_ch_hok hc
  have h12 := hok.1
  have hrest := q_J_rest m h
  unfold q_SI
  rw [e_C_fire, s_isBelow, show (4 : Int32).toInt = 4 by decide, q_onI_i, g_C_fire_5]
  cases hb : q_in x 4 with
  | false =>
    rw [q_br (show q_bb false = 0 from rfl), s_refuse1, q_onI_i, g_C_fire_13]
    refine ⟨_, _, _, _, rfl, rfl, q_u_ne (by decide), ?_⟩
    rw [e_M_fire, s_isPoint, hb, q_onI_i, g_M_fire_4, q_br (show q_bb false = 0 from rfl), s_no1, q_onI_i, g_M_fire_12]
    exact ⟨rfl, _, _, _, rfl, q_J_refuse 1 h⟩
  | true =>
    obtain ⟨F1, f1, f2, f3, f4⟩ := c_gath86 (L := L) (d := 93) (J := J) (t := t) (pt := x) (w := -1) hc
    obtain ⟨F2, p1, p2, p3, p4, p5, p6⟩ := c_frun86 (L := L) (d := 45) (J := J) (t := t) (x := y) f3
    revert p2 p3 p4 p5
    have hMall : ∀ (F3 : Nat → Nat → Int32), (∀ o, 130 ≤ o → F3 o = I o) → ∃ G2 G3, (∀ o, o ≠ 130 → o ≠ 141 → o ≠ 142 → o ≠ 143 → G2 o = F3 o) ∧ (∀ b, b ≠ 23 → b ≠ 25 → b ≠ 26 → b ≠ 27 → b ≠ 30 → b ≠ 32 → G2 130 b = F3 130 b) ∧ q_fsm G2 (q_ak (I 132) (q_gth (I 132) (I 131) x (-1) hk).1 (q_gth (I 132) (I 131) x (-1) hk).2 (q_gth (I 132) (I 131) x (-1) hk).2 y (0, fun _ => 0, fun _ => 0)).2 ∧ G2 130 25 = nI (q_ak (I 132) (q_gth (I 132) (I 131) x (-1) hk).1 (q_gth (I 132) (I 131) x (-1) hk).2 (q_gth (I 132) (I 131) x (-1) hk).2 y (0, fun _ => 0, fun _ => 0)).1.1 ∧ G2 130 32 = (q_ak (I 132) (q_gth (I 132) (I 131) x (-1) hk).1 (q_gth (I 132) (I 131) x (-1) hk).2 (q_gth (I 132) (I 131) x (-1) hk).2 y (0, fun _ => 0, fun _ => 0)).1.2 ∧ G2 130 30 = nI (q_ak (I 132) (q_gth (I 132) (I 131) x (-1) hk).1 (q_gth (I 132) (I 131) x (-1) hk).2 (q_gth (I 132) (I 131) x (-1) hk).2 y (0, fun _ => 0, fun _ => 0)).2.1 ∧ (∀ o, o ≠ 144 → G3 o = G2 o) ∧ (∀ j, j < 30 → j < (q_ak (I 132) (q_gth (I 132) (I 131) x (-1) hk).1 (q_gth (I 132) (I 131) x (-1) hk).2 (q_gth (I 132) (I 131) x (-1) hk).2 y (0, fun _ => 0, fun _ => 0)).2.1 → G3 144 j = G2 142 j) ∧ ∀ (Q : Value → q_Mem → Prop), q_W 100 204 [.ref 130, .int x, .int y] (q_mm L F3 J t) Q = q_X (q_W 99) (fun v μ _ _ => Q v μ) 204 (72, [some (.ref 130), some (.int x), some (.int y), some (.int 0)], [], q_mm L G3 J t, 0, 0) := by
      intro F3 ho
      have hm3 : q_mh F3 (I 132) (I 131) n hk := ⟨by rw [ho 130 (by decide)]; exact hm.1, by rw [ho 130 (by decide)]; exact hm.2.1, ho 131 (by decide), ho 132 (by decide)⟩
      obtain ⟨G, g1, g2, g3, g4⟩ := m_gath (L := L) (d := 95) (J := J) (t := t) (pt := x) (w := -1) hok hm3
      obtain ⟨G1, k1, k2, k3, k4, k5⟩ := m_fires (L := L) (d := 69) (J := J) (t := t) (x := y) hok g3
      obtain ⟨r, hr⟩ : ∃ r, r = q_ak (I 132) (q_gth (I 132) (I 131) x (-1) hk).1 (q_gth (I 132) (I 131) x (-1) hk).2 (q_gth (I 132) (I 131) x (-1) hk).2 y (0, fun _ => 0, fun _ => 0) := ⟨_, rfl⟩
      rw [← hr] at k2 k3 k4 k5 ⊢
      obtain ⟨G2, hG2⟩ : ∃ G2, G2 = q_u (q_u G1 130 32 r.1.2) 130 30 (q_u G1 130 32 r.1.2 130 27) := ⟨_, rfl⟩
      have e27 : G2 130 27 = nI r.2.1 := by rw [hG2, q_u_nk (by decide), q_u_nk (by decide)]; exact k2.1
      obtain ⟨G3, t1, t2, t3, t4⟩ := l_tr (L := L) (d := 99) (J := J) (t := t) (x1 := x) (x2 := y) k2.2.1 30 0 G2 (by decide) e27
      refine ⟨G2, G3, fun o a b e f => by rw [hG2, q_u_ne a, q_u_ne a, k1.1 o a e f, g1 o a b], fun b a1 a2 a3 a4 a5 a6 => by rw [hG2, q_u_nk a5, q_u_nk a6, k1.2 b a2 a3 a4, g2 b a1], ⟨e27, k2.2.1, fun i a b => by rw [hG2, q_u_ne (by decide), q_u_ne (by decide)]; exact k2.2.2.1 i a b, fun p hp => by rw [hG2, q_u_ne (by decide), q_u_ne (by decide)]; exact k2.2.2.2 p hp⟩, by rw [hG2, q_u_nk (by decide), q_u_nk (by decide)]; exact k3, by rw [hG2, q_u_nk (by decide), q_u_eq], by rw [hG2, q_u_eq, q_u_nk (by decide)]; exact k2.1, t1, fun j a b => t2 j (Nat.zero_le _) a b, fun Q => ?_⟩
      rw [show nI 0 = (0 : Int32) by decide] at t4
      rw [e_M_fire, s_isPoint, hb, q_onI_i, g_M_fire_4, q_brn (by decide), g4, g_M_fire_19, k5, q_onI_i, g_M_fire_25, ← hG2, t4]
    revert hMall
    generalize q_ak (I 132) (q_gth (I 132) (I 131) x (-1) hk).1 (q_gth (I 132) (I 131) x (-1) hk).2 (q_gth (I 132) (I 131) x (-1) hk).2 y (0, fun _ => 0, fun _ => 0) = r
    intro hMall p2 p3 p4 p5
    obtain ⟨⟨o, v⟩, s⟩ := r
    dsimp only at hMall p2 p3 p4 p5
    have e2 : ∀ z, z ≠ 86 → z ≠ 87 → z ≠ 88 → z ≠ 89 → F2 z = I z := fun z a b e f => by rw [p1.1 z a e f, f1 z a b]
    have hn2 : F2 3 2 = nI n := by rw [e2 3 (by decide) (by decide) (by decide) (by decide)]; exact hc.1
    obtain ⟨⟨a1, a2, a3, a4, a5, a6⟩, m2, m3, m4, m5⟩ := id m
    rw [q_brn (by decide), f4, g_C_fire_23, p6, g_C_fire_31, p3, q_eq0 (by omega)]
    -- the end: from the two sides' memories to what holds
    have hend : ∀ (F3 G4 : Nat → Nat → Int32), (∀ o, (o < 6 ∨ 18 ≤ o) → F3 o = F2 o) → (∀ o, o ≠ 130 → o ≠ 131 → o ≠ 141 → o ≠ 142 → o ≠ 143 → o ≠ 144 → G4 o = F3 o) → (∀ b, b ≠ 23 → b ≠ 25 → b ≠ 26 → b ≠ 27 → b ≠ 30 → b ≠ 32 → G4 130 b = I 130 b) → G4 130 30 = nI s.1 → G4 130 32 = v → (∀ j, j < 30 → j < s.1 → G4 144 j = s.2.1 j) → (∀ p, p < n → (∀ k, k ≠ 8 → F3 (6 + p) k = I (6 + p) k) ∧ (∀ j, j < 8 → G4 131 (12 * j + p) = I 131 (12 * j + p)) ∧ F3 (6 + p) 8 = G4 131 (96 + p)) → q_J (c + 1) G4 J t := by
      intro F3 G4 q1 q2 q3 q4 q5 q6 q7
      have eo : ∀ z, (z < 6 ∨ 18 ≤ z) → z ≠ 86 → z ≠ 87 → z ≠ 88 → z ≠ 89 → z ≠ 130 → z ≠ 131 → z ≠ 141 → z ≠ 142 → z ≠ 143 → z ≠ 144 → G4 z = I z := fun z x0 x1 x2 x3 x4 x5 x6 x7 x8 x9 x10 => by rw [q2 z x5 x6 x7 x8 x9 x10, q1 z x0, e2 z x1 x2 x3 x4]
      have e3 : G4 3 = I 3 := eo 3 (by decide) (by decide) (by decide) (by decide) (by decide) (by decide) (by decide) (by decide) (by decide) (by decide) (by decide)
      have e132 : G4 132 = I 132 := eo 132 (by decide) (by decide) (by decide) (by decide) (by decide) (by decide) (by decide) (by decide) (by decide) (by decide) (by decide)
      have eb : ∀ b, b ≠ 23 → b ≠ 25 → b ≠ 26 → b ≠ 27 → b ≠ 30 → b ≠ 32 → G4 130 b = I 130 b := q3
      have e86 : G4 86 = F2 86 := by rw [q2 86 (by decide) (by decide) (by decide) (by decide) (by decide) (by decide), q1 86 (by decide)]
      have e88 : G4 88 = F2 88 := by rw [q2 88 (by decide) (by decide) (by decide) (by decide) (by decide) (by decide), q1 88 (by decide)]
      refine ⟨n, hk, ⟨⟨by rw [e3]; exact a1, by rw [e3]; exact a2, a3, a4, fun p hp => ?_, fun i hi => v_hook_congr (eo _ (by omega) (by omega) (by omega) (by omega) (by omega) (by omega) (by omega) (by omega) (by omega) (by omega) (by omega)) e132 (a6 i hi)⟩, by rw [eb 0 (by decide) (by decide) (by decide) (by decide) (by decide) (by decide)]; exact m2, by rw [eb 4 (by decide) (by decide) (by decide) (by decide) (by decide) (by decide)]; exact m3, by rw [e3, eb 2 (by decide) (by decide) (by decide) (by decide) (by decide) (by decide)]; exact m4, by rw [e3, eb 3 (by decide) (by decide) (by decide) (by decide) (by decide) (by decide)]; exact m5⟩, ?_⟩
      · obtain ⟨w1, w2, w3⟩ := q7 p hp
        have ep : G4 (6 + p) = F3 (6 + p) := q2 _ (by omega) (by omega) (by omega) (by omega) (by omega) (by omega)
        exact v_plug_tal (I := I) (fun k hk => by rw [ep]; exact w1 k hk) w2 (by rw [ep]; exact w3) (a5 p hp)
      · refine v_rest_fire (fun o hr x1 x2 x3 => ?_) ⟨eb 9 (by decide) (by decide) (by decide) (by decide) (by decide) (by decide), eb 12 (by decide) (by decide) (by decide) (by decide) (by decide) (by decide), eb 19 (by decide) (by decide) (by decide) (by decide) (by decide) (by decide), eb 20 (by decide) (by decide) (by decide) (by decide) (by decide) (by decide), eb 34 (by decide) (by decide) (by decide) (by decide) (by decide) (by decide)⟩ ⟨s.1, p2.2.1, by rw [e86]; exact p2.1, q4, by rw [e86, p5, q5], fun i hi hi2 => by rw [e88, p2.2.2.1 i hi hi2, q6 i hi hi2]⟩ hrest
        have hne : ∀ z, q_rel z = false → o ≠ z := fun z hz e => by rw [e, hz] at hr; exact absurd hr (by decide)
        obtain ⟨y1, -⟩ := q_rel_out hr
        exact eo o y1 x1 (hne 87 rfl) x2 (hne 89 rfl) (hne 130 rfl) (hne 131 rfl) (hne 141 rfl) (hne 142 rfl) (hne 143 rfl) x3
    by_cases ho : o = 0
    · subst ho
      obtain ⟨F3, q1, q2, q3⟩ := l_kn (L := L) (d := 98) (J := J) (t := t) h12 n 0 F2 (by omega) hn2
      obtain ⟨G2, G3, u1, u2, u3, u4, u5, u6, u7, u8, u9⟩ := hMall F3 (fun z hz => by rw [q1 z (by omega), e2 z (by omega) (by omega) (by omega) (by omega)])
      obtain ⟨G4, w1, w2, w3⟩ := l_tal (L := L) (d := 99) (J := J) (t := t) (x1 := x) (x2 := y) h12 n 0 G3 (by omega) (by rw [u7 130 (by decide), u2 0 (by decide) (by decide) (by decide) (by decide) (by decide) (by decide), q1 130 (by decide), e2 130 (by decide) (by decide) (by decide) (by decide)]; exact m2) (by rw [u7 130 (by decide), u4]; rfl)
      rw [show nI 0 = (0 : Int32) by decide] at q3 w3
      have e131 : ∀ b, G3 131 b = I 131 b := fun b => by rw [u7 131 (by decide), u1 131 (by decide) (by decide) (by decide) (by decide), q1 131 (by decide), e2 131 (by decide) (by decide) (by decide) (by decide)]
      rw [q_br rfl, e_Firing_keepNotes_86, q3, g_C_fire_48, q1 86 (by decide), p3]
      refine ⟨_, _, _, _, rfl, rfl, by rw [q1 0 (by decide), e2 0 (by decide) (by decide) (by decide) (by decide)], ?_⟩
      rw [u9, w3]
      refine ⟨rfl, _, _, _, rfl, hend F3 G4 q1 (fun z x1 x2 x3 x4 x5 x6 => by rw [w1 z x2, u7 z x6, u1 z x1 x3 x4 x5]) (fun b x1 x2 x3 x4 x5 x6 => by rw [w1 130 (by decide), u7 130 (by decide), u2 b x1 x2 x3 x4 x5 x6, q1 130 (by decide), e2 130 (by decide) (by decide) (by decide) (by decide)]) (by rw [w1 130 (by decide), u7 130 (by decide)]; exact u6) (by rw [w1 130 (by decide), u7 130 (by decide)]; exact u5) (fun j x1 x2 => by rw [w1 144 (by decide), u8 j x1 x2]; exact u3.2.2.1 j x1 x2) (fun p hp => ⟨fun k hk => ?_, fun j hj => ?_, ?_⟩)⟩
      · rw [q2 p (by omega) k, if_neg (fun z => hk z.1), e2 _ (by omega) (by omega) (by omega) (by omega)]
      · rw [w2, if_neg (by omega), e131]
      · rw [q2 p (by omega) 8, if_pos ⟨rfl, Nat.zero_le _, hp⟩, w2, if_pos (by omega), e131, show 96 + p - 96 = p by omega, u7 143 (by decide), u3.2.2.2 p (by omega), p2.2.2.2 p (by omega), e2 _ (by omega) (by omega) (by omega) (by omega)]
        congr 1
        exact (a5 p hp).1.2.2.2.2.2.2.2
    · obtain ⟨G2, G3, u1, u2, u3, u4, u5, u6, u7, u8, u9⟩ := hMall F2 (fun z hz => e2 z (by omega) (by omega) (by omega) (by omega))
      have e131 : ∀ b, G3 131 b = I 131 b := fun b => by rw [u7 131 (by decide), u1 131 (by decide) (by decide) (by decide) (by decide), e2 131 (by decide) (by decide) (by decide) (by decide)]
      have h25 : ¬ G3 130 25 = 0 := by
        rw [u7 130 (by decide), u4, q_eq0 (by omega)]
        exact ho
      have hC : ∀ A B : Prop, (((G3 130 0 ≤ 0) → A) ∧ (¬ (G3 130 0 ≤ 0) → ((G3 130 25 = 0 → B) ∧ (¬ G3 130 25 = 0 → A)))) = A := fun A B => by
        by_cases e : G3 130 0 ≤ 0
        · rw [q_br e]
        · rw [q_brn e, q_brn h25]
      rw [q_brn ho, g_C_fire_48, p3]
      refine ⟨_, _, _, _, rfl, rfl, e2 0 (by decide) (by decide) (by decide) (by decide), ?_⟩
      rw [u9, g_M_fire_72, hC, u7 130 (by decide), u4]
      exact ⟨rfl, _, _, _, rfl, hend F2 G3 (fun _ _ => rfl) (fun z x1 x2 x3 x4 x5 x6 => by rw [u7 z x6, u1 z x1 x3 x4 x5]) (fun b x1 x2 x3 x4 x5 x6 => by rw [u7 130 (by decide), u2 b x1 x2 x3 x4 x5 x6, e2 130 (by decide) (by decide) (by decide) (by decide)]) (by rw [u7 130 (by decide)]; exact u6) (by rw [u7 130 (by decide)]; exact u5) (fun j x1 x2 => by rw [u8 j x1 x2]; exact u3.2.2.1 j x1 x2) (fun p hp => ⟨fun k hk => by rw [e2 _ (by omega) (by omega) (by omega) (by omega)], fun j hj => e131 _, by rw [e2 _ (by omega) (by omega) (by omega) (by omega), e131]; exact (a5 p hp).1.2.2.2.2.2.2.2⟩)⟩
end FIRE2
