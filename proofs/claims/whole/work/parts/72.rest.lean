/-! a value fired: the model's -/
def q_fsm (I : Nat → Nat → Int32) (s : q_FS) : Prop := I 130 27 = nI s.1 ∧ s.1 ≤ 200 ∧ (∀ i, i < 30 → i < s.1 → I 142 i = s.2.1 i) ∧ ∀ p, p < 12 → I 143 p = s.2.2 p
def q_ffm (I F : Nat → Nat → Int32) : Prop := (∀ o, o ≠ 130 → o ≠ 142 → o ≠ 143 → F o = I o) ∧ ∀ b, b ≠ 25 → b ≠ 26 → b ≠ 27 → F 130 b = I 130 b
theorem q_ffm_refl {I : Nat → Nat → Int32} : q_ffm I I := ⟨fun _ _ _ _ => rfl, fun _ _ _ _ => rfl⟩
theorem q_ffm_trans {I I1 I2 : Nat → Nat → Int32} (h1 : q_ffm I I1) (h2 : q_ffm I1 I2) : q_ffm I I2 := ⟨fun o a b c => (h2.1 o a b c).trans (h1.1 o a b c), fun x a b c => (h2.2 x a b c).trans (h1.2 x a b c)⟩
/-- the hooks' numbers stand -/
def q_hok (H : Nat → Int32) (n hk : Nat) : Prop := n ≤ 12 ∧ hk ≤ 24 ∧ ∀ h, h < hk → H h = nI (q_hp H h) ∧ q_hp H h < n ∧ ∃ f, f < 9 ∧ H (72 + h) = nI f
theorem q_ch_hok {I : Nat → Nat → Int32} {H T : Nat → Int32} {n hk : Nat} (h : q_ch I H T n hk) : q_hok H n hk := ⟨h.2.2.1, h.2.2.2.1, fun i hi => by
  obtain ⟨g0, g0', gn, g1, g2, g3, g4, f, hf, ef⟩ := q_ch_hook h hi
  exact ⟨g0', gn, f, hf, ef⟩⟩
def q_fxm (I : Nat → Nat → Int32) (H T C : Nat → Int32) (n hk len : Nat) : Prop := q_mh I H T n hk ∧ I 130 23 = nI len ∧ len ≤ 24 ∧ ∀ i, i < len → I 141 i = C i ∧ ∃ h, h < hk ∧ C i = nI h
theorem q_mh_ff {I F : Nat → Nat → Int32} {H T : Nat → Int32} {n hk : Nat} (f : q_ffm I F) (h : q_mh I H T n hk) : q_mh F H T n hk := by
  obtain ⟨a, b, c, d⟩ := h
  exact ⟨by rw [f.2 0 (by decide) (by decide) (by decide)]; exact a, by rw [f.2 4 (by decide) (by decide) (by decide)]; exact b, by rw [f.1 131 (by decide) (by decide) (by decide)]; exact c, by rw [f.1 132 (by decide) (by decide) (by decide)]; exact d⟩
theorem q_fxm_ff {I F : Nat → Nat → Int32} {H T C : Nat → Int32} {n hk len : Nat} (f : q_ffm I F) (h : q_fxm I H T C n hk len) : q_fxm F H T C n hk len := by
  obtain ⟨a, b, c, d⟩ := h
  exact ⟨q_mh_ff f a, by rw [f.2 23 (by decide) (by decide) (by decide)]; exact b, c, fun i hi => by rw [f.1 141 (by decide) (by decide) (by decide)]; exact d i hi⟩
def q_rB (H T C : Nat → Int32) (n hk len m : Nat) : Prop := ∀ (L D : Nat) (J : Nat → Nat → Int64) (t : Nat) (I : Nat → Nat → Int32) (at' : Nat) (x : Int32) (s : q_FS), at' + m = len → m + 3 ≤ D → q_fxm I H T C n hk len → q_fsm I s → I 130 25 = 0 → ∃ F y, q_ffm I F ∧ q_fsm F (q_ak H C len m x s).2 ∧ F 130 25 = nI (q_ak H C len m x s).1.1 ∧ (q_ak H C len m x s).1.1 < 3 ∧ ((q_ak H C len m x s).1.1 = 1 → F 130 26 = (q_ak H C len m x s).1.2) ∧ ((q_ak H C len m x s).1.1 = 0 → y = (q_ak H C len m x s).1.2) ∧ ∀ {Q : Value → q_Mem → Prop}, q_W D 202 [.ref 130, .int (nI at'), .int x] (q_mm L I J t) Q = Q (.int y) (q_mm L F J t)
theorem q_fsm_25 {I : Nat → Nat → Int32} {s : q_FS} {b : Nat} {v : Int32} (hb : b ≠ 27) (h : q_fsm I s) : q_fsm (q_u I 130 b v) s := ⟨by rw [q_u_nk (Ne.symm hb)]; exact h.1, h.2.1, fun i a c => by rw [q_u_ne (by decide)]; exact h.2.2.1 i a c, fun p hp => by rw [q_u_ne (by decide)]; exact h.2.2.2 p hp⟩
theorem q_thn_post {F : Nat → Nat → Int32} {y : Int32} {r : q_FR} {op : Int32 → q_FS → Int32} (h2 : q_fsm F r.2) (h3 : F 130 25 = nI r.1.1) (h4 : r.1.1 < 3) (h5 : r.1.1 = 1 → F 130 26 = r.1.2) (h6 : r.1.1 = 0 → y = r.1.2) : q_fsm F (q_thn r fun v s' => ((0, op v s'), s')).2 ∧ F 130 25 = nI (q_thn r fun v s' => ((0, op v s'), s')).1.1 ∧ (q_thn r fun v s' => ((0, op v s'), s')).1.1 < 3 ∧ ((q_thn r fun v s' => ((0, op v s'), s')).1.1 = 1 → F 130 26 = (q_thn r fun v s' => ((0, op v s'), s')).1.2) ∧ ((q_thn r fun v s' => ((0, op v s'), s')).1.1 = 0 → op y r.2 = (q_thn r fun v s' => ((0, op v s'), s')).1.2) := by
  obtain ⟨⟨o, v⟩, s'⟩ := r
  match o, h4, h3, h5, h6 with
  | 0, _, h3, h5, h6 =>
    have ey : y = v := h6 rfl
    subst ey
    exact ⟨h2, h3, (by decide : 0 < 3), fun z => absurd z (show ¬ 0 = 1 by decide), fun _ => rfl⟩
  | 1, _, h3, h5, h6 => exact ⟨h2, h3, (by decide : 1 < 3), h5, fun z => absurd z (show ¬ 1 = 0 by decide)⟩
  | 2, _, h3, h5, h6 => exact ⟨h2, h3, (by decide : 2 < 3), h5, fun z => absurd z (show ¬ 2 = 0 by decide)⟩
theorem s_throwsOne {L d : Nat} {Q : Value → q_Mem → Prop} {I : Nat → Nat → Int32} {J : Nat → Nat → Int64} {t : Nat} {x : Int32} : q_W (d + 1) 201 [.ref 130, .int x] (q_mm L I J t) Q = Q (.int 0) (q_mm L (q_u (q_u I 130 25 1) 130 26 x) J t) := e_M_throwsOne
/-- behind the rest -/
theorem l_rak1 {L D n hk len m at' h : Nat} {J : Nat → Nat → Int64} {t : Nat} {I : Nat → Nat → Int32} {H T C : Nat → Int32} {x : Int32} {s : q_FS} (hok : q_hok H n hk) (IH : q_rB H T C n hk len m) (hD : m + 3 ≤ D) (hat : at' + 1 + m = len) (hh : h < hk) (hx : q_fxm I H T C n hk len) (hs : q_fsm I s) (ho : I 130 25 = 0) : ∃ F y, q_ffm I F ∧ q_fsm F (q_ak1 (q_ak H C len m) (H (96 + h)) (q_hp H h) x s (H (72 + h)).toNatClampNeg).2 ∧ F 130 25 = nI (q_ak1 (q_ak H C len m) (H (96 + h)) (q_hp H h) x s (H (72 + h)).toNatClampNeg).1.1 ∧ (q_ak1 (q_ak H C len m) (H (96 + h)) (q_hp H h) x s (H (72 + h)).toNatClampNeg).1.1 < 3 ∧ ((q_ak1 (q_ak H C len m) (H (96 + h)) (q_hp H h) x s (H (72 + h)).toNatClampNeg).1.1 = 1 → F 130 26 = (q_ak1 (q_ak H C len m) (H (96 + h)) (q_hp H h) x s (H (72 + h)).toNatClampNeg).1.2) ∧ ((q_ak1 (q_ak H C len m) (H (96 + h)) (q_hp H h) x s (H (72 + h)).toNatClampNeg).1.1 = 0 → y = (q_ak1 (q_ak H C len m) (H (96 + h)) (q_hp H h) x s (H (72 + h)).toNatClampNeg).1.2) ∧ ∀ (rt : Value → q_Mem → Nat → Nat → Prop), q_X (q_W D) rt 202 (77, [some (.ref 130), some (.int (nI at')), some (.int x), some (.int (nI h)), some (.int (H (96 + h))), none], [.int (H (72 + h))], (q_mm L I J t), 0, 0) = rt (.int y) (q_mm L F J t) 0 0 := by
  obtain ⟨h12, h24, hall⟩ := hok
  obtain ⟨hpl, hpn, f, hf, ef⟩ := hall h hh
  obtain ⟨D', rfl⟩ : ∃ D', D = D' + 3 := ⟨D - 3, by omega⟩
  rw [ef, q_clamp (show f < 2 ^ 31 by omega)]
  have e77 : ∀ (rt : Value → q_Mem → Nat → Nat → Prop) (f : Nat), f < 9 → (nI f).toInt = (f : Int) := fun _ f hf => nI_toInt (by omega)
  match f, hf with
  | 0, _ =>
    obtain ⟨F, y, f1, f2, f3, f4, f5, f6, f7⟩ := IH L (D' + 3) J t I (at' + 1) (x + H (96 + h)) s hat hD hx hs ho
    refine ⟨F, y, f1, f2, f3, f4, f5, f6, fun rt => ?_⟩
    rw [g_M_rest_77, q_br (by decide), q_n1, f7, q_onI_i, g_M_rest_135]
  | 1, _ =>
    obtain ⟨F, y, f1, f2, f3, f4, f5, f6, f7⟩ := IH L (D' + 3) J t I (at' + 1) x s hat hD hx hs ho
    obtain ⟨g2, g3, g4, g5, g6⟩ := q_thn_post (op := fun v _ => v * H (96 + h)) f2 f3 f4 f5 f6
    refine ⟨F, _, f1, g2, g3, g4, g5, g6, fun rt => ?_⟩
    rw [g_M_rest_77, q_brn (by decide), q_br (by decide), q_n1, f7, q_onI_i, g_M_rest_144]
  | 2, _ =>
    obtain ⟨F, y, f1, f2, f3, f4, f5, f6, f7⟩ := IH L (D' + 3) J t I (at' + 1) x s hat hD hx hs ho
    have hc : ∀ (rt : Value → q_Mem → Nat → Nat → Prop), q_X (q_W (D' + 3)) rt 202 (77, [some (.ref 130), some (.int (nI at')), some (.int x), some (.int (nI h)), some (.int (H (96 + h))), none], [.int (nI 2)], (q_mm L I J t), 0, 0) = q_X (q_W (D' + 3)) rt 202 (156, [some (.ref 130), some (.int (nI at')), some (.int x), some (.int (nI h)), some (.int (H (96 + h))), none], [.int y], q_mm L F J t, 0, 0) := by
      intro rt
      rw [g_M_rest_77, q_brn (by decide), q_brn (by decide), q_br (by decide), q_n1, f7, q_onI_i]
    show ∃ F y, q_ffm I F ∧ q_fsm F (q_thn (q_ak H C len m x s) fun v s' => q_ak H C len m v s').2 ∧ F 130 25 = nI (q_thn (q_ak H C len m x s) fun v s' => q_ak H C len m v s').1.1 ∧ (q_thn (q_ak H C len m x s) fun v s' => q_ak H C len m v s').1.1 < 3 ∧ ((q_thn (q_ak H C len m x s) fun v s' => q_ak H C len m v s').1.1 = 1 → F 130 26 = (q_thn (q_ak H C len m x s) fun v s' => q_ak H C len m v s').1.2) ∧ ((q_thn (q_ak H C len m x s) fun v s' => q_ak H C len m v s').1.1 = 0 → y = (q_thn (q_ak H C len m x s) fun v s' => q_ak H C len m v s').1.2) ∧ _
    revert f2 f3 f4 f5 f6
    generalize q_ak H C len m x s = r
    obtain ⟨⟨o, v⟩, s'⟩ := r
    intro f2 f3 f4 f5 f6
    match o, f4, f3, f5, f6 with
    | 0, _, f3, _, f6 =>
      have ey : y = v := f6 rfl
      subst ey
      obtain ⟨F', y', u1, u2, u3, u4, u5, u6, u7⟩ := IH L (D' + 3) J t F (at' + 1) y s' hat hD (q_fxm_ff f1 hx) f2 (by rw [f3]; rfl)
      refine ⟨F', y', q_ffm_trans f1 u1, u2, u3, u4, u5, u6, fun rt => ?_⟩
      rw [hc, g_M_rest_156, q_br (by rw [f3]; rfl), q_n1, u7, q_onI_i, g_M_rest_174]
    | 1, _, f3, f5, _ =>
      refine ⟨F, 0, f1, f2, f3, (by decide : 1 < 3), f5, fun z => absurd z (show ¬ 1 = 0 by decide), fun rt => ?_⟩
      rw [hc, g_M_rest_156, q_brn (by rw [f3]; show ¬ nI 1 = 0; decide)]
    | 2, _, f3, f5, _ =>
      refine ⟨F, 0, f1, f2, f3, (by decide : 2 < 3), f5, fun z => absurd z (show ¬ 2 = 0 by decide), fun rt => ?_⟩
      rw [hc, g_M_rest_156, q_brn (by rw [f3]; show ¬ nI 2 = 0; decide)]
  | 3, _ =>
    show ∃ F y, q_ffm I F ∧ q_fsm F (if q_ten x = q_ten (H (96 + h)) then ((0, x), s) else q_ak H C len m x s).2 ∧ F 130 25 = nI (if q_ten x = q_ten (H (96 + h)) then ((0, x), s) else q_ak H C len m x s).1.1 ∧ (if q_ten x = q_ten (H (96 + h)) then ((0, x), s) else q_ak H C len m x s).1.1 < 3 ∧ ((if q_ten x = q_ten (H (96 + h)) then ((0, x), s) else q_ak H C len m x s).1.1 = 1 → F 130 26 = (if q_ten x = q_ten (H (96 + h)) then ((0, x), s) else q_ak H C len m x s).1.2) ∧ ((if q_ten x = q_ten (H (96 + h)) then ((0, x), s) else q_ak H C len m x s).1.1 = 0 → y = (if q_ten x = q_ten (H (96 + h)) then ((0, x), s) else q_ak H C len m x s).1.2) ∧ _
    by_cases e : q_ten x = q_ten (H (96 + h))
    · rw [if_pos e]
      refine ⟨I, x, q_ffm_refl, hs, by rw [ho]; rfl, (by decide : 0 < 3), fun z => absurd z (show ¬ 0 = 1 by decide), fun _ => rfl, fun rt => ?_⟩
      rw [g_M_rest_77, q_brn (by decide), q_brn (by decide), q_brn (by decide), q_br (by decide), s_Mten, q_onI_i, g_M_rest_183, s_Mten, q_onI_i, g_M_rest_188, q_br e, g_M_rest_203]
    · rw [if_neg e]
      obtain ⟨F, y, f1, f2, f3, f4, f5, f6, f7⟩ := IH L (D' + 3) J t I (at' + 1) x s hat hD hx hs ho
      refine ⟨F, y, f1, f2, f3, f4, f5, f6, fun rt => ?_⟩
      rw [g_M_rest_77, q_brn (by decide), q_brn (by decide), q_brn (by decide), q_br (by decide), s_Mten, q_onI_i, g_M_rest_183, s_Mten, q_onI_i, g_M_rest_188, q_brn e, q_n1, f7, q_onI_i, g_M_rest_203]
  | 4, _ =>
    obtain ⟨F, y, f1, f2, f3, f4, f5, f6, f7⟩ := IH L (D' + 3) J t I (at' + 1) (x ^^^ H (96 + h)) s hat hD hx hs ho
    obtain ⟨g2, g3, g4, g5, g6⟩ := q_thn_post (op := fun v _ => v ^^^ H (96 + h)) f2 f3 f4 f5 f6
    refine ⟨F, _, f1, g2, g3, g4, g5, g6, fun rt => ?_⟩
    rw [g_M_rest_77, q_brn (by decide), q_brn (by decide), q_brn (by decide), q_brn (by decide), q_br (by decide), q_n1, f7, q_onI_i, g_M_rest_215]
  | 5, _ =>
    obtain ⟨F, y, f1, f2, f3, f4, f5, f6, f7⟩ := IH L (D' + 3) J t I (at' + 1) x s hat hD hx hs ho
    obtain ⟨g2, g3, g4, g5, g6⟩ := q_thn_post (op := fun v s' => v + nI s'.1) f2 f3 f4 f5 f6
    refine ⟨F, _, f1, g2, g3, g4, g5, g6, fun rt => ?_⟩
    rw [g_M_rest_77, q_brn (by decide), q_brn (by decide), q_brn (by decide), q_brn (by decide), q_brn (by decide), q_br (by decide), q_n1, f7, q_onI_i, g_M_rest_227, f2.1]
  | 6, _ =>
    have hI1 : q_ffm I (q_u I 143 (q_hp H h) (I 143 (q_hp H h) + x)) := ⟨fun o _ _ a => q_u_ne a, fun b _ _ _ => by rw [q_u_ne (by decide)]⟩
    have hs1 : q_fsm (q_u I 143 (q_hp H h) (I 143 (q_hp H h) + x)) (s.1, s.2.1, q_up s.2.2 (q_hp H h) (s.2.2 (q_hp H h) + x)) := by
      refine ⟨by rw [q_u_ne (by decide)]; exact hs.1, hs.2.1, fun i a b => by rw [q_u_ne (by decide)]; exact hs.2.2.1 i a b, fun p hp => ?_⟩
      show _ = q_up s.2.2 (q_hp H h) (s.2.2 (q_hp H h) + x) p
      by_cases e : p = q_hp H h
      · subst e
        rw [q_u_eq, q_up_eq, hs.2.2.2 _ hp]
      · rw [q_u_nk e, q_up_ne e]
        exact hs.2.2.2 p hp
    obtain ⟨F, y, f1, f2, f3, f4, f5, f6, f7⟩ := IH L (D' + 3) J t _ (at' + 1) x _ hat hD (q_fxm_ff hI1 hx) hs1 (by rw [q_u_ne (by decide)]; exact ho)
    refine ⟨F, y, q_ffm_trans hI1 f1, f2, f3, f4, f5, f6, fun rt => ?_⟩
    rw [g_M_rest_77, q_brn (by decide), q_brn (by decide), q_brn (by decide), q_brn (by decide), q_brn (by decide), q_brn (by decide), q_br (by decide), show (0 : Int32) = nI 0 by decide, s_hkm hx.1 (by omega) (by decide), q_onI_i, show 24 * 0 + h = h by omega, g_M_rest_247, hpl, q_clamp (show q_hp H h < 2 ^ 31 by omega)]
    simp only [q_bnd (show q_hp H h < 12 by omega) (by decide), true_and, q_n1]
    rw [f7, q_onI_i, g_M_rest_260]
  | 7, _ =>
    show ∃ F y, q_ffm I F ∧ q_fsm F (if x < H (96 + h) then ((1, x), s) else q_ak H C len m x s).2 ∧ F 130 25 = nI (if x < H (96 + h) then ((1, x), s) else q_ak H C len m x s).1.1 ∧ (if x < H (96 + h) then ((1, x), s) else q_ak H C len m x s).1.1 < 3 ∧ ((if x < H (96 + h) then ((1, x), s) else q_ak H C len m x s).1.1 = 1 → F 130 26 = (if x < H (96 + h) then ((1, x), s) else q_ak H C len m x s).1.2) ∧ ((if x < H (96 + h) then ((1, x), s) else q_ak H C len m x s).1.1 = 0 → y = (if x < H (96 + h) then ((1, x), s) else q_ak H C len m x s).1.2) ∧ _
    by_cases e : x < H (96 + h)
    · rw [if_pos e]
      refine ⟨q_u (q_u I 130 25 1) 130 26 x, 0, ⟨fun o a _ _ => by rw [q_u_ne a, q_u_ne a], fun b a c _ => by rw [q_u_nk c, q_u_nk a]⟩, q_fsm_25 (by decide) (q_fsm_25 (by decide) hs), by rw [q_u_nk (by decide), q_u_eq]; rfl, (by decide : 1 < 3), fun _ => q_u_eq, fun z => absurd z (show ¬ 1 = 0 by decide), fun rt => ?_⟩
      rw [g_M_rest_77, q_brn (by decide), q_brn (by decide), q_brn (by decide), q_brn (by decide), q_brn (by decide), q_brn (by decide), q_brn (by decide), q_br (by decide), q_brn (Int32.not_le.mpr e), s_throwsOne, q_onI_i, g_M_rest_272, g_M_rest_283]
    · rw [if_neg e]
      obtain ⟨F, y, f1, f2, f3, f4, f5, f6, f7⟩ := IH L (D' + 3) J t I (at' + 1) x s hat hD hx hs ho
      refine ⟨F, y, f1, f2, f3, f4, f5, f6, fun rt => ?_⟩
      rw [g_M_rest_77, q_brn (by decide), q_brn (by decide), q_brn (by decide), q_brn (by decide), q_brn (by decide), q_brn (by decide), q_brn (by decide), q_br (by decide), q_br (Int32.not_lt.mp e), q_n1, f7, q_onI_i, g_M_rest_283]
  | 8, _ =>
    obtain ⟨F, y, f1, f2, f3, f4, f5, f6, f7⟩ := IH L (D' + 3) J t I (at' + 1) x s hat hD hx hs ho
    have hc : ∀ (rt : Value → q_Mem → Nat → Nat → Prop), q_X (q_W (D' + 3)) rt 202 (77, [some (.ref 130), some (.int (nI at')), some (.int x), some (.int (nI h)), some (.int (H (96 + h))), none], [.int (nI 8)], (q_mm L I J t), 0, 0) = q_X (q_W (D' + 3)) rt 202 (292, [some (.ref 130), some (.int (nI at')), some (.int x), some (.int (nI h)), some (.int (H (96 + h))), none], [.int y], q_mm L F J t, 0, 0) := by
      intro rt
      rw [g_M_rest_77, q_brn (by decide), q_brn (by decide), q_brn (by decide), q_brn (by decide), q_brn (by decide), q_brn (by decide), q_brn (by decide), q_brn (by decide), q_n1, f7, q_onI_i]
    show ∃ F y, q_ffm I F ∧ q_fsm F (q_cat (q_ak H C len m x s) (H (96 + h))).2 ∧ F 130 25 = nI (q_cat (q_ak H C len m x s) (H (96 + h))).1.1 ∧ (q_cat (q_ak H C len m x s) (H (96 + h))).1.1 < 3 ∧ ((q_cat (q_ak H C len m x s) (H (96 + h))).1.1 = 1 → F 130 26 = (q_cat (q_ak H C len m x s) (H (96 + h))).1.2) ∧ ((q_cat (q_ak H C len m x s) (H (96 + h))).1.1 = 0 → y = (q_cat (q_ak H C len m x s) (H (96 + h))).1.2) ∧ _
    revert f2 f3 f4 f5 f6
    generalize q_ak H C len m x s = r
    obtain ⟨⟨o, v⟩, s'⟩ := r
    intro f2 f3 f4 f5 f6
    match o, f4, f3, f5, f6 with
    | 0, _, f3, f5, f6 =>
      refine ⟨F, y, f1, f2, f3, (by decide : 0 < 3), f5, f6, fun rt => ?_⟩
      rw [hc, g_M_rest_292, q_brn (by rw [f3]; show ¬ nI 0 = 1; decide)]
    | 1, _, f3, f5, _ =>
      have h26 : q_u F 130 25 0 130 26 = v := by rw [q_u_nk (by decide)]; exact f5 rfl
      refine ⟨q_u F 130 25 0, v + H (96 + h), q_ffm_trans f1 ⟨fun o a _ _ => q_u_ne a, fun b a _ _ => q_u_nk a⟩, q_fsm_25 (by decide) f2, q_u_eq, (by decide : 0 < 3), fun z => absurd z (show ¬ 0 = 1 by decide), fun _ => rfl, fun rt => ?_⟩
      rw [hc, g_M_rest_292, q_br (by rw [f3]; show nI 1 = 1; decide), h26]
    | 2, _, f3, f5, f6 =>
      refine ⟨F, y, f1, f2, f3, (by decide : 2 < 3), f5, f6, fun rt => ?_⟩
      rw [hc, g_M_rest_292, q_brn (by rw [f3]; show ¬ nI 2 = 1; decide)]
theorem m_rest {n hk len : Nat} {H T C : Nat → Int32} (hok : q_hok H n hk) : ∀ m, q_rB H T C n hk len m
  | 0 => fun L D J t I at' x s hat hD hx hs ho => by
    obtain ⟨D', rfl⟩ : ∃ D', D = D' + 1 := ⟨D - 1, by omega⟩
    refine ⟨I, x, q_ffm_refl, hs, by rw [ho]; rfl, (by decide : 0 < 3), fun z => absurd z (show ¬ 0 = 1 by decide), fun _ => rfl, fun {Q} => ?_⟩
    have hlen := hx.2.2.1
    rw [e_M_rest, hx.2.1, q_eqN (by omega) (by omega), q_br (by omega)]
  | m + 1 => fun L D J t I at' x s hat hD hx hs ho => by
    obtain ⟨D', rfl⟩ : ∃ D', D = D' + 1 := ⟨D - 1, by omega⟩
    obtain ⟨hm, hl2, hlen, hC⟩ := id hx
    have h24 := hok.2.1
    obtain ⟨h5, hran, htr, hno⟩ := id hs
    have eat : len - (m + 1) = at' := by omega
    obtain ⟨hCa, h, hh, eh⟩ := hC at' (by omega)
    have hcl : (C at').toNatClampNeg = h := by rw [eh, q_clamp (by omega)]
    unfold q_ak
    rw [eat, hcl]
    by_cases hr : 200 ≤ s.1
    · rw [if_pos hr]
      have e200 : s.1 = 200 := by omega
      refine ⟨q_u I 130 25 2, 0, ⟨fun o a _ _ => q_u_ne a, fun b a _ _ => q_u_nk a⟩, q_fsm_25 (by decide) hs, q_u_eq, (by decide : 2 < 3), fun z => absurd z (show ¬ 2 = 1 by decide), fun z => absurd z (show ¬ 2 = 0 by decide), fun {Q} => ?_⟩
      rw [e_M_rest, hx.2.1, q_eqN (by omega) (by omega), q_brn (by omega), h5, e200, q_br (by decide)]
    · rw [if_neg hr]
      have hgo : ∃ I1, q_ffm I I1 ∧ q_fsm I1 (q_s1 s (C at')) ∧ I1 130 25 = 0 ∧ ∀ {Q : Value → q_Mem → Prop}, q_W (D' + 1) 202 [.ref 130, .int (nI at'), .int x] (q_mm L I J t) Q = q_X (q_W D') (fun v μ _ _ => Q v μ) 202 (77, [some (.ref 130), some (.int (nI at')), some (.int x), some (.int (nI h)), some (.int (H (96 + h))), none], [.int (H (72 + h))], q_mm L I1 J t, 0, 0) := by
        obtain ⟨D'', rfl⟩ : ∃ D'', D' = D'' + 1 := ⟨D' - 1, by omega⟩
        by_cases hr30 : 30 ≤ s.1
        · have hI1 : q_ffm I (q_u I 130 27 (nI (s.1 + 1))) := ⟨fun o a _ _ => q_u_ne a, fun b _ _ a => q_u_nk a⟩
          refine ⟨_, hI1, ⟨q_u_eq, by show s.1 + 1 ≤ 200; omega, fun i a b => ?_, fun p hp => by rw [q_u_ne (by decide)]; exact hno p hp⟩, by rw [q_u_nk (by decide)]; exact ho, fun {Q} => ?_⟩
          · show _ = (if s.1 < 30 then q_up s.2.1 s.1 (C at') else s.2.1) i
            rw [if_neg (by omega), q_u_ne (by decide)]
            exact htr i a (by omega)
          · have hm1 := q_mh_ff hI1 hm
            rw [e_M_rest, hx.2.1, q_eqN (by omega) (by omega), q_brn (by omega), h5, show (200 : Int32) = nI 200 by decide, q_eqN (by omega) (by decide), q_brn (by omega), show (30 : Int32) = nI 30 by decide, q_leN (by decide) (by omega), q_br (by omega), q_n1, show (4 : Int32) = nI 4 by decide]
            simp only [q_clamp (show at' < 2 ^ 31 by omega), q_bnd (show at' < 24 by omega) (by decide), true_and, hCa, eh]
            rw [s_hkm hm1 (by omega) (by decide), q_onI_i, g_M_rest_69, show (3 : Int32) = nI 3 by decide, s_hkm hm1 (by omega) (by decide), q_onI_i]
        · have hI1 : q_ffm I (q_u (q_u I 142 s.1 (nI h)) 130 27 (nI (s.1 + 1))) := ⟨fun o a b _ => by rw [q_u_ne a, q_u_ne b], fun b _ _ a => by rw [q_u_nk a, q_u_ne (by decide)]⟩
          refine ⟨_, hI1, ⟨q_u_eq, by show s.1 + 1 ≤ 200; omega, fun i a b => ?_, fun p hp => by rw [q_u_ne (by decide), q_u_ne (by decide)]; exact hno p hp⟩, by rw [q_u_nk (by decide), q_u_ne (by decide)]; exact ho, fun {Q} => ?_⟩
          · show _ = (if s.1 < 30 then q_up s.2.1 s.1 (C at') else s.2.1) i
            rw [if_pos (by omega), q_u_ne (by decide)]
            by_cases e : i = s.1
            · subst e
              rw [q_u_eq, q_up_eq, eh]
            · rw [q_u_nk e, q_up_ne e]
              exact htr i a (by have : i < s.1 + 1 := b; omega)
          · have hm1 := q_mh_ff hI1 hm
            have z5 : q_u I 142 s.1 (nI h) 130 27 = nI s.1 := by rw [q_u_ne (by decide)]; exact h5
            rw [e_M_rest, hx.2.1, q_eqN (by omega) (by omega), q_brn (by omega), h5, show (200 : Int32) = nI 200 by decide, q_eqN (by omega) (by decide), q_brn (by omega), show (30 : Int32) = nI 30 by decide, q_leN (by decide) (by omega), q_brn (by omega), show (4 : Int32) = nI 4 by decide]
            simp only [q_clamp (show at' < 2 ^ 31 by omega), q_bnd (show at' < 24 by omega) (by decide), true_and, hCa, eh, q_clamp (show s.1 < 2 ^ 31 by omega), q_bnd (show s.1 < 30 by omega) (by decide), z5, q_n1]
            rw [s_hkm hm1 (by omega) (by decide), q_onI_i, g_M_rest_69, show (3 : Int32) = nI 3 by decide, s_hkm hm1 (by omega) (by decide), q_onI_i]
      obtain ⟨I1, i1, i2, i3, i4⟩ := hgo
      obtain ⟨F, y, f1, f2, f3, f4, f5, f6, f7⟩ := l_rak1 (L := L) (D := D') (J := J) (t := t) (at' := at') (x := x) hok (m_rest hok m) (by omega) (by omega) hh (q_fxm_ff i1 hx) i2 i3
      exact ⟨F, y, q_ffm_trans i1 f1, f2, f3, f4, f5, f6, fun {Q} => i4.trans (f7 _)⟩
