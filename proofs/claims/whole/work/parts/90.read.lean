/-! read -/
theorem v_rest_txt {bc : Int32 → Int32} {T : Nat} {I I' : Nat → Nat → Int32} {J : Nat → Nat → Int64} {n n' : Nat} (hn : n ≤ n') (ho : ∀ o, q_rel o = true → o ≠ 1 → o ≠ 113 → o ≠ 145 → I' o = I o) (h1 : I' 1 3 = I 1 3 ∧ I' 1 11 = I 1 11) (h9 : I' 1 12 = I' 130 9) (h130 : I' 130 12 = I 130 12 ∧ I' 130 19 = I 130 19 ∧ I' 130 20 = I 130 20 ∧ I' 130 30 = I 130 30 ∧ I' 130 32 = I 130 32 ∧ I' 130 34 = I 130 34) (hrf : v_ref I') (h : v_rest bc T I J n) : v_rest bc T I' J n' := by
  obtain ⟨h2, ⟨c, c1, c2, c3, c4⟩, ⟨k, k1, k2, k3, k4⟩, ⟨r, r1, r2, r3, r4, r5⟩, -, ⟨g1, g2, g3⟩, ⟨w1, w2⟩⟩ := h
  obtain ⟨z12, z19, z20, z30, z32, z34⟩ := h130
  have hx : ∀ o, q_rel o = true → o ≠ 1 ∧ o ≠ 113 ∧ o ≠ 145 → I' o = I o := fun o a b => ho o a b.1 b.2.1 b.2.2
  have e42 : I' 42 = I 42 := hx 42 rfl (by decide)
  have e146 : I' 146 = I 146 := hx 146 rfl (by decide)
  refine ⟨fun s hs => v_shelf_le hn (v_shelf_congr (hx _ ?_ ⟨by omega, by omega, by omega⟩) (hx _ rfl (by decide)) (hx _ rfl (by decide)) rfl rfl (h2 s hs)), ⟨c, c1, by rw [h1.2]; exact c2, by rw [z12]; exact c3, fun i hi w hw => by rw [hx 112 rfl (by decide), hx 136 rfl (by decide)]; exact c4 i hi w hw⟩, ⟨k, k1, by rw [hx 110 rfl (by decide)]; exact k2, by rw [z20]; exact k3, fun i hi => by rw [hx 111 rfl (by decide), hx 139 rfl (by decide)]; exact k4 i hi⟩, ⟨r, r1, by rw [hx 86 rfl (by decide)]; exact r2, by rw [z30]; exact r3, by rw [z32, hx 86 rfl (by decide)]; exact r4, fun i hi hi2 => by rw [hx 88 rfl (by decide), hx 144 rfl (by decide)]; exact r5 i hi hi2⟩, hrf, ⟨by rw [h1.1, z34]; exact g1, by rw [h1.1]; exact g2, fun hz => ?_⟩, h9, by rw [z19]; exact w2⟩
  · have : Nat.ble 110 (114 + 2 * s) = true ∧ Nat.blt (114 + 2 * s) 130 = true := ⟨Nat.ble_eq.mpr (by omega), Nat.ble_eq.mpr (by omega)⟩
    simp [q_rel, this.1, this.2]
  · rw [h1.1] at hz
    obtain ⟨n', h', b1, b2, b3, b4, b5⟩ := g3 hz
    have hr : ∀ o, 42 ≤ o → o < 81 → I' o = I o := fun o a b => hx o (by
      have : Nat.ble 42 o = true ∧ Nat.blt o 81 = true := ⟨Nat.ble_eq.mpr (by omega), Nat.ble_eq.mpr (by omega)⟩
      simp [q_rel, this.1, this.2]) ⟨by omega, by omega, by omega⟩
    exact ⟨n', h', v_host_congr e42 (fun p hp => hr _ (by omega) (by omega)) (fun p hp => hr _ (by omega) (by omega)) e146 e146 b1, by rw [e146]; exact b2, by rw [e146]; exact b3, by rw [e42, e146]; exact b4, by rw [e42, e146]; exact b5⟩
theorem q_rel_txt : ∀ o, o < 147 → q_rel o = true → o ≠ 3 ∧ ¬ (6 ≤ o ∧ o < 18) ∧ o ≠ 94 ∧ ¬ (98 ≤ o ∧ o < 110) ∧ o ≠ 130 ∧ o ≠ 131 := by decide
theorem q_rel_lt {o : Nat} (h : q_rel o = true) : o < 147 := by
  refine Classical.byContradiction fun z => ?_
  have h1 : Nat.blt o 81 = false := by
    cases e : Nat.blt o 81 with
    | false => rfl
    | true => exact absurd (Nat.le_of_ble_eq_true e) (by omega)
  have h2 : Nat.blt o 130 = false := by
    cases e : Nat.blt o 130 with
    | false => rfl
    | true => exact absurd (Nat.le_of_ble_eq_true e) (by omega)
  unfold q_rel at h
  rw [h1, h2] at h
  simp at h
  omega
/-- refused: what it leaves -/
theorem q_J_txF {c n hk pos : Nat} {I F0 K F : Nat → Nat → Int32} {J : Nat → Nat → Int64} {t t' : Nat} {x y : Int32} (m : v_main q_bc I n hk) (h : q_J c I J t) (h0 : q_fsc I F0) (hK : K = q_u (q_u (q_u (q_u F0 1 12 (nI pos)) 113 6 (q_u F0 1 12 (nI pos) 113 6 + 1)) 130 10 x) 130 11 y) (hF : q_mrF K F n pos) : q_J (c + 1) F J t' := by
  have hrest := q_J_rest m h
  obtain ⟨⟨a1, a2, a3, a4, a5, a6⟩, m2, m3, m4, m5⟩ := id m
  obtain ⟨f1, f2, f3, f4, f5, f6⟩ := hF
  have k0 : ∀ a, a ≠ 130 → a ≠ 113 → a ≠ 1 → a ≠ 94 → ¬ (98 ≤ a ∧ a < 110) → K a = I a := fun a x1 x2 x3 x4 x5 => by
    rw [hK, q_u_ne x1, q_u_ne x1, q_u_ne x2, q_u_ne x3, h0 a x4 x5]
  have k130 : ∀ k, k ≠ 10 → k ≠ 11 → K 130 k = I 130 k := fun k x1 x2 => by
    rw [hK, q_u_nk x2, q_u_nk x1, q_u_ne (by decide), q_u_ne (by decide), h0 130 (by decide) (by decide)]
  have k1 : ∀ k, k ≠ 12 → K 1 k = I 1 k := fun k x1 => by
    rw [hK, q_u_ne (by decide), q_u_ne (by decide), q_u_ne (by decide), q_u_nk x1, h0 1 (by decide) (by decide)]
  have k112 : K 1 12 = nI pos := by
    rw [hK, q_u_ne (by decide), q_u_ne (by decide), q_u_ne (by decide), q_u_eq]
  have hz : F0 113 = I 113 := h0 113 (by decide) (by decide)
  have k113 : K 113 = q_u I 113 6 (I 113 6 + 1) 113 := by
    rw [hK, q_u_ne (by decide), q_u_ne (by decide)]
    funext k
    by_cases e : k = 6
    · subst e
      rw [q_u_eq, q_u_eq, q_u_ne (by decide), hz]
    · rw [q_u_nk e, q_u_nk e, q_u_ne (by decide), hz]
  have hI : ∀ a, a ≠ 130 → a ≠ 131 → a ≠ 145 → a ≠ 113 → a ≠ 1 → a ≠ 94 → ¬ (98 ≤ a ∧ a < 110) → F a = I a := fun a x1 x2 x3 x4 x5 x6 x7 => (f1 a x1 x2 x3).trans (k0 a x1 x4 x5 x6 x7)
  have h3 : F 3 = I 3 := hI 3 (by decide) (by decide) (by decide) (by decide) (by decide) (by decide) (by decide)
  have h132 : F 132 = I 132 := hI 132 (by decide) (by decide) (by decide) (by decide) (by decide) (by decide) (by decide)
  have hb : ∀ k, k ≠ 0 → k ≠ 9 → k ≠ 11 → k ≠ 10 → F 130 k = I 130 k := fun k x1 x2 x3 x4 => (f2 k x1 x2 x3).trans (k130 k x4 x3)
  have hF1 : F 1 = K 1 := f1 1 (by decide) (by decide) (by decide)
  refine ⟨n, hk, ⟨⟨by rw [h3]; exact a1, by rw [h3]; exact a2, a3, a4, fun p hp => v_plug_else (hI _ (by omega) (by omega) (by omega) (by omega) (by omega) (by omega) (by omega)) (fun k hk => (f5 k hk p hp).trans (by rw [k0 131 (by decide) (by decide) (by decide) (by decide) (by decide)])) (a5 p hp), fun i hi => v_hook_congr (hI _ (by omega) (by omega) (by omega) (by omega) (by omega) (by omega) (by omega)) h132 (a6 i hi)⟩, f4, by rw [hb 4 (by decide) (by decide) (by decide) (by decide)]; exact m3, by rw [h3, hb 2 (by decide) (by decide) (by decide) (by decide)]; exact m4, by rw [h3, hb 3 (by decide) (by decide) (by decide) (by decide)]; exact m5⟩, v_rest_txt (Nat.le_refl n) (fun o ho x1 x2 x3 => ?_) ⟨by rw [hF1, k1 3 (by decide)], by rw [hF1, k1 11 (by decide)]⟩ (by rw [hF1, k112, f3]) ⟨hb 12 (by decide) (by decide) (by decide) (by decide), hb 19 (by decide) (by decide) (by decide) (by decide), hb 20 (by decide) (by decide) (by decide) (by decide), hb 30 (by decide) (by decide) (by decide) (by decide), hb 32 (by decide) (by decide) (by decide) (by decide), hb 34 (by decide) (by decide) (by decide) (by decide)⟩ (fun i hi => ?_) hrest⟩
  · obtain ⟨y1, y2, y3, y4, y5, y6⟩ := q_rel_txt o (q_rel_lt ho) ho
    exact hI o y5 y6 x3 x2 x1 y3 y4
  · have h145 : K 145 = I 145 := k0 145 (by decide) (by decide) (by decide) (by decide) (by decide)
    have h6 : I 113 i = I 145 i := hrest.2.2.2.2.1 i hi
    have h66 : I 113 6 = I 145 6 := hrest.2.2.2.2.1 6 (by decide)
    rw [f1 113 (by decide) (by decide) (by decide), k113, f6, h145]
    by_cases e : i = 6
    · subst e
      rw [q_u_eq, q_u_eq, h66]
    · rw [q_u_nk e, q_u_nk e, h145, h6]
