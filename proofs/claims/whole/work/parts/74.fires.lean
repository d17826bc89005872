/-! firing: the model's, whole; what a firing leaves of what holds -/
theorem q_ak_2 {H C : Nat → Int32} {len : Nat} : ∀ (m : Nat) (x : Int32) (s : q_FS), (q_ak H C len m x s).1.1 = 2 → (q_ak H C len m x s).1.2 = 0
  | 0, x, s => fun h => absurd h (show ¬ 0 = 2 by decide)
  | m + 1, x, s => by
    have IH := q_ak_2 (H := H) (C := C) (len := len) m
    unfold q_ak
    by_cases hr : 200 ≤ s.1
    · rw [if_pos hr]
      exact fun _ => rfl
    · rw [if_neg hr]
      generalize q_s1 s (C (len - (m + 1))) = s1
      generalize H (96 + (C (len - (m + 1))).toNatClampNeg) = k
      generalize q_hp H (C (len - (m + 1))).toNatClampNeg = pl
      generalize (H (72 + (C (len - (m + 1))).toNatClampNeg)).toNatClampNeg = f
      have hthn : ∀ (r : q_FR) (g : Int32 → q_FS → q_FR), (r.1.1 = 2 → r.1.2 = 0) → (∀ v s', (g v s').1.1 = 2 → (g v s').1.2 = 0) → (q_thn r g).1.1 = 2 → (q_thn r g).1.2 = 0 := by
        intro r g h1 h2
        obtain ⟨⟨o, v⟩, s'⟩ := r
        match o, h1 with
        | 0, _ => exact h2 v s'
        | 1, _ => exact fun h => absurd h (show ¬ 1 = 2 by decide)
        | 2, h1 => exact fun _ => h1 rfl
        | o + 3, h1 => exact h1
      match f with
      | 0 => exact IH _ _
      | 1 => exact hthn _ _ (IH _ _) fun v s' h => absurd h (show ¬ 0 = 2 by decide)
      | 2 => exact hthn _ _ (IH _ _) fun v s' h => IH _ _ h
      | 3 =>
        show (if q_ten x = q_ten k then ((0, x), s1) else q_ak H C len m x s1).1.1 = 2 → (if q_ten x = q_ten k then ((0, x), s1) else q_ak H C len m x s1).1.2 = 0
        by_cases e : q_ten x = q_ten k
        · rw [if_pos e]
          exact fun h => absurd h (show ¬ 0 = 2 by decide)
        · rw [if_neg e]
          exact IH _ _
      | 4 => exact hthn _ _ (IH _ _) fun v s' h => absurd h (show ¬ 0 = 2 by decide)
      | 5 => exact hthn _ _ (IH _ _) fun v s' h => absurd h (show ¬ 0 = 2 by decide)
      | 6 => exact IH _ _
      | 7 =>
        show (if x < k then ((1, x), s1) else q_ak H C len m x s1).1.1 = 2 → (if x < k then ((1, x), s1) else q_ak H C len m x s1).1.2 = 0
        by_cases e : x < k
        · rw [if_pos e]
          exact fun h => absurd h (show ¬ 1 = 2 by decide)
        · rw [if_neg e]
          exact IH _ _
      | f + 8 =>
        show (q_cat (q_ak H C len m x s1) k).1.1 = 2 → (q_cat (q_ak H C len m x s1) k).1.2 = 0
        have h1 := IH x s1
        revert h1
        generalize q_ak H C len m x s1 = r
        obtain ⟨⟨o, v⟩, s'⟩ := r
        intro h1
        match o, h1 with
        | 0, h1 => exact h1
        | 1, _ => exact fun h => absurd h (show ¬ 0 = 2 by decide)
        | o + 2, h1 => exact h1
section FIRES
variable {L d : Nat} {J : Nat → Nat → Int64} {t : Nat}
theorem l_fill143 : ∀ (k i : Nat) (I : Nat → Nat → Int32), i + k = 12 → ∃ F : Nat → Nat → Int32, (∀ o, o ≠ 143 → F o = I o) ∧ (∀ p, i ≤ p → p < 12 → F 143 p = 0) ∧ (∀ p, p < i → F 143 p = I 143 p) ∧ ∀ (rt : Value → q_Mem → Nat → Nat → Prop) (x : Int32), q_X (q_W d) rt 203 (17, [some (.ref 130), some (.int x), some (.int (nI i))], [], (q_mm L I J t), 0, 0) = q_X (q_W d) rt 203 (17, [some (.ref 130), some (.int x), some (.int (nI 12))], [], q_mm L F J t, 0, 0)
  | 0, i, I, h => by
    have : i = 12 := by omega
    subst this
    exact ⟨I, fun _ _ => rfl, fun p a b => absurd a (by omega), fun _ _ => rfl, fun rt x => rfl⟩
  | k + 1, i, I, h => by
    obtain ⟨F, f1, f2, f3, f4⟩ := l_fill143 k (i + 1) (q_u I 143 i 0) (by omega)
    refine ⟨F, fun o ho => by rw [f1 o ho, q_u_ne ho], fun p a b => ?_, fun p a => by rw [f3 p (by omega), q_u_nk (by omega)], fun rt x => ?_⟩
    · by_cases e : p = i
      · subst e
        rw [f3 p (by omega), q_u_eq]
      · exact f2 p (by omega) b
    · rw [g_M_fires_17, show (12 : Int32) = nI 12 by decide, q_leN (by decide) (by omega), q_brn (by omega)]
      simp only [q_clamp (show i < 2 ^ 31 by omega), q_bnd (show i < 12 by omega) (by decide), true_and, q_n1, f4]
theorem m_fires {I : Nat → Nat → Int32} {H T C : Nat → Int32} {n hk len : Nat} {x : Int32} (hok : q_hok H n hk) (hx : q_fxm I H T C n hk len) : ∃ F, q_ffm I F ∧ q_fsm F (q_ak H C len len x (0, fun _ => 0, fun _ => 0)).2 ∧ F 130 25 = nI (q_ak H C len len x (0, fun _ => 0, fun _ => 0)).1.1 ∧ (q_ak H C len len x (0, fun _ => 0, fun _ => 0)).1.1 < 3 ∧ ∀ {Q : Value → q_Mem → Prop}, q_W (d + 30) 203 [.ref 130, .int x] (q_mm L I J t) Q = Q (.int (q_ak H C len len x (0, fun _ => 0, fun _ => 0)).1.2) (q_mm L F J t) := by
  have hlen := hx.2.2.1
  obtain ⟨I1, f1, f2, -, f4⟩ := l_fill143 (L := L) (d := d + 29) (J := J) (t := t) 12 0 (q_u (q_u (q_u I 130 25 0) 130 26 0) 130 27 0) (by decide)
  have hw1 : q_ffm I I1 := ⟨fun o a b c => by rw [f1 o c, q_u_ne a, q_u_ne a, q_u_ne a], fun b a c e => by rw [f1 130 (by decide), q_u_nk e, q_u_nk c, q_u_nk a]⟩
  have hs1 : q_fsm I1 (0, fun _ => 0, fun _ => 0) := ⟨by rw [f1 130 (by decide), q_u_eq]; rfl, Nat.zero_le _, fun i _ b => absurd b (Nat.not_lt_zero i), fun p hp => f2 p (Nat.zero_le _) hp⟩
  obtain ⟨F, y, u1, u2, u3, u4, u5, u6, u7⟩ := m_rest hok len L (d + 29) J t I1 0 x (0, fun _ => 0, fun _ => 0) (by omega) (by omega) (q_fxm_ff hw1 hx) hs1 (by rw [f1 130 (by decide), q_u_nk (by decide), q_u_nk (by decide), q_u_eq])
  refine ⟨F, q_ffm_trans hw1 u1, u2, u3, u4, fun {Q} => ?_⟩
  rw [show nI 0 = (0 : Int32) by decide] at f4 u7
  rw [e_M_fires, f4, g_M_fires_17, show (12 : Int32) = nI 12 by decide, q_leN (by decide) (by decide), q_br (Nat.le_refl _), u7, q_onI_i, g_M_fires_42, u3, q_eq0 (by omega), show (1 : Int32) = nI 1 by decide, q_eqN (by omega) (by decide)]
  have h2 := q_ak_2 (H := H) (C := C) (len := len) len x (0, fun _ => 0, fun _ => 0)
  by_cases e0 : (q_ak H C len len x (0, fun _ => 0, fun _ => 0)).1.1 = 0
  · rw [q_br e0, u6 e0]
  · by_cases e1 : (q_ak H C len len x (0, fun _ => 0, fun _ => 0)).1.1 = 1
    · rw [q_brn e0, q_br e1, u5 e1]
    · rw [q_brn e0, q_brn e1, h2 (by omega)]
theorem m_gath {I : Nat → Nat → Int32} {H T : Nat → Int32} {n hk : Nat} {pt w : Int32} (hok : q_hok H n hk) (hm : q_mh I H T n hk) : ∃ F, (∀ o, o ≠ 130 → o ≠ 141 → F o = I o) ∧ (∀ b, b ≠ 23 → F 130 b = I 130 b) ∧ q_fxm F H T (q_gth H T pt w hk).1 n hk (q_gth H T pt w hk).2 ∧ ∀ {Q : Value → q_Mem → Prop}, q_W (d + 4) 198 [.ref 130, .int pt, .int w] (q_mm L I J t) Q = Q .null (q_mm L F J t) := by
  obtain ⟨F, f1, f2, f3, f4, f5⟩ := m_chains (L := L) (d := d) (J := J) (t := t) (pt := pt) (w := w) hok.2.1 hok.1 (fun h hh => ⟨(hok.2.2 h hh).1, (hok.2.2 h hh).2.1⟩) hm
  obtain ⟨o1, o2⟩ := q_gth_len (H := H) (T := T) (pt := pt) (w := w) (hk := hk)
  have h24 := hok.2.1
  exact ⟨F, f1, f2, ⟨⟨by rw [f2 0 (by decide)]; exact hm.1, by rw [f2 4 (by decide)]; exact hm.2.1, by rw [f1 131 (by decide) (by decide)]; exact hm.2.2.1, by rw [f1 132 (by decide) (by decide)]; exact hm.2.2.2⟩, f3, by omega, fun i hi => ⟨f4 i hi, o2 i hi⟩⟩, f5⟩
end FIRES
/-- what a call that only tries leaves -/
def q_fid (I F : Nat → Nat → Int32) : Prop := (∀ o, o ≠ 90 → o ≠ 91 → o ≠ 92 → o ≠ 93 → o ≠ 130 → o ≠ 141 → o ≠ 142 → o ≠ 143 → F o = I o) ∧ ∀ b, b ≠ 23 → b ≠ 25 → b ≠ 26 → b ≠ 27 → F 130 b = I 130 b
theorem q_fid_refl {I : Nat → Nat → Int32} : q_fid I I := ⟨fun _ _ _ _ _ _ _ _ _ => rfl, fun _ _ _ _ _ => rfl⟩
theorem q_fid_trans {I I1 I2 : Nat → Nat → Int32} (h1 : q_fid I I1) (h2 : q_fid I1 I2) : q_fid I I2 := ⟨fun o a b c d e f g h => (h2.1 o a b c d e f g h).trans (h1.1 o a b c d e f g h), fun x a b c d => (h2.2 x a b c d).trans (h1.2 x a b c d)⟩
theorem q_J_fid {c : Nat} {I F : Nat → Nat → Int32} {J : Nat → Nat → Int64} {t : Nat} (f : q_fid I F) (h : q_J c I J t) : q_J (c + 1) F J t := by
  obtain ⟨n, hk, m, h2⟩ := id h
  have hrest := q_J_rest m h
  obtain ⟨m1, m2, m3, m4, m5⟩ := m
  have ho : ∀ o, o < 90 → F o = I o := fun o a => f.1 o (by omega) (by omega) (by omega) (by omega) (by omega) (by omega) (by omega) (by omega)
  have e131 : F 131 = I 131 := f.1 131 (by decide) (by decide) (by decide) (by decide) (by decide) (by decide) (by decide) (by decide)
  have e132 : F 132 = I 132 := f.1 132 (by decide) (by decide) (by decide) (by decide) (by decide) (by decide) (by decide) (by decide)
  have eb : ∀ b, b ≠ 23 → b ≠ 25 → b ≠ 26 → b ≠ 27 → F 130 b = I 130 b := f.2
  refine ⟨n, hk, ⟨v_host_congr (ho 3 (by decide)) (fun p hp => ho _ (by omega)) (fun p hp => ho _ (by omega)) e131 e132 m1, by rw [eb 0 (by decide) (by decide) (by decide) (by decide)]; exact m2, by rw [eb 4 (by decide) (by decide) (by decide) (by decide)]; exact m3, by rw [ho 3 (by decide), eb 2 (by decide) (by decide) (by decide) (by decide)]; exact m4, by rw [ho 3 (by decide), eb 3 (by decide) (by decide) (by decide) (by decide)]; exact m5⟩, v_rest_congr (Nat.le_refl n) (fun o hr => ?_) ⟨eb 9 (by decide) (by decide) (by decide) (by decide), eb 12 (by decide) (by decide) (by decide) (by decide), eb 19 (by decide) (by decide) (by decide) (by decide), eb 20 (by decide) (by decide) (by decide) (by decide), eb 30 (by decide) (by decide) (by decide) (by decide), eb 32 (by decide) (by decide) (by decide) (by decide), eb 34 (by decide) (by decide) (by decide) (by decide)⟩ hrest⟩
  have hne : ∀ z, q_rel z = false → o ≠ z := fun z hz e => by rw [e, hz] at hr; exact absurd hr (by decide)
  exact f.1 o (hne 90 rfl) (hne 91 rfl) (hne 92 rfl) (hne 93 rfl) (hne 130 rfl) (hne 141 rfl) (hne 142 rfl) (hne 143 rfl)
theorem q_fid_g90 {I F : Nat → Nat → Int32} (h1 : ∀ o, o ≠ 90 → o ≠ 91 → F o = I o) : q_fid I F := ⟨fun o a b _ _ _ _ _ _ => h1 o a b, fun b _ _ _ _ => by rw [h1 130 (by decide) (by decide)]⟩
theorem q_fid_w90 {I F : Nat → Nat → Int32} (h : q_fw90 I F) : q_fid I F := ⟨fun o a _ c d _ _ _ _ => h.1 o a c d, fun b _ _ _ _ => by rw [h.1 130 (by decide) (by decide) (by decide)]⟩
theorem q_fid_gm {I F : Nat → Nat → Int32} (h1 : ∀ o, o ≠ 130 → o ≠ 141 → F o = I o) (h2 : ∀ b, b ≠ 23 → F 130 b = I 130 b) : q_fid I F := ⟨fun o _ _ _ _ a b _ _ => h1 o a b, fun b a _ _ _ => h2 b a⟩
theorem q_fid_fm {I F : Nat → Nat → Int32} (h : q_ffm I F) : q_fid I F := ⟨fun o _ _ _ _ a _ b c => h.1 o a b c, fun b _ x y z => h.2 b x y z⟩
theorem q_fid_ch {I F : Nat → Nat → Int32} {H T : Nat → Int32} {n hk : Nat} (f : q_fid I F) (h : q_ch I H T n hk) : q_ch F H T n hk := q_ch_congr (fun o ho => f.1 o (by omega) (by omega) (by omega) (by omega) (by omega) (by omega) (by omega) (by omega)) h
theorem q_fid_mh {I F : Nat → Nat → Int32} {H T : Nat → Int32} {n hk : Nat} (f : q_fid I F) (h : q_mh I H T n hk) : q_mh F H T n hk := by
  obtain ⟨a, b, c, d⟩ := h
  exact ⟨by rw [f.2 0 (by decide) (by decide) (by decide) (by decide)]; exact a, by rw [f.2 4 (by decide) (by decide) (by decide) (by decide)]; exact b, by rw [f.1 131 (by decide) (by decide) (by decide) (by decide) (by decide) (by decide) (by decide) (by decide)]; exact c, by rw [f.1 132 (by decide) (by decide) (by decide) (by decide) (by decide) (by decide) (by decide) (by decide)]; exact d⟩
theorem q_fid_0 {I F : Nat → Nat → Int32} (f : q_fid I F) : F 0 = I 0 := f.1 0 (by decide) (by decide) (by decide) (by decide) (by decide) (by decide) (by decide) (by decide)
theorem q_J_ch {n hk : Nat} {I : Nat → Nat → Int32} (m : v_main q_bc I n hk) : q_ch I (I 132) (I 131) n hk ∧ q_mh I (I 132) (I 131) n hk := by
  obtain ⟨⟨a1, a2, a3, a4, a5, a6⟩, m2, m3, m4, m5⟩ := m
  exact ⟨⟨a1, a2, a3, a4, fun p hp => by rw [q_ar_self]; exact a5 p hp, fun i hi => by rw [q_ar_self]; exact a6 i hi⟩, m2, m3, rfl, rfl⟩
