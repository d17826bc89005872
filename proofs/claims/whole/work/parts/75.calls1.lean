/-! chain, pure, source -/
theorem q_lc_gt {x y : Int64} : (0 < lg_cmp x y) = (y.toInt < x.toInt) := by
  unfold lg_cmp
  by_cases h : x > y
  · rw [if_pos h]
    exact propext ⟨fun _ => Int64.lt_iff_toInt_lt.mp h, fun _ => by decide⟩
  · rw [if_neg h]
    have h2 : ¬ y.toInt < x.toInt := fun z => h (Int64.lt_iff_toInt_lt.mpr z)
    by_cases e : x = y
    · rw [if_pos e]
      exact propext ⟨fun z => absurd z (by decide), fun z => absurd z h2⟩
    · rw [if_neg e]
      exact propext ⟨fun z => absurd z (by decide), fun z => absurd z h2⟩
theorem q_lc_le {x y : Int64} : (lg_cmp x y ≤ 0) = (x.toInt ≤ y.toInt) := by
  have h := q_lc_gt (x := x) (y := y)
  have h2 : (lg_cmp x y ≤ 0) = ¬ (0 < lg_cmp x y) := propext ⟨fun a b => (Int32.not_lt.mpr a) b, fun a => Int32.not_lt.mp a⟩
  rw [h2, h]
  exact propext (by omega)
theorem q_lc_lt {x y : Int64} : (lg_cmp x y < 0) = (x.toInt < y.toInt) := by
  unfold lg_cmp
  by_cases h : x > y
  · rw [if_pos h]
    have h1 := Int64.lt_iff_toInt_lt.mp h
    exact propext ⟨fun z => absurd z (by decide), fun z => by omega⟩
  · rw [if_neg h]
    have h2 : ¬ y.toInt < x.toInt := fun z => h (Int64.lt_iff_toInt_lt.mpr z)
    by_cases e : x = y
    · rw [if_pos e]
      exact propext ⟨fun z => absurd z (by decide), fun z => by rw [e] at z; omega⟩
    · rw [if_neg e]
      have h3 : ¬ x.toInt = y.toInt := fun z => e (Int64.toInt_inj.mp z)
      exact propext ⟨fun _ => by omega, fun _ => by decide⟩
theorem q_64 {x : Int32} : x.toInt64.toInt = x.toInt := Int32.toInt_toInt64 x
theorem q_64d {x y : Int32} : (x.toInt64 - y.toInt64).toInt = x.toInt - y.toInt := by
  have h1 := Int32.le_toInt x
  have h2 := Int32.toInt_lt x
  have h3 := Int32.le_toInt y
  have h4 := Int32.toInt_lt y
  rw [Int64.toInt_sub, q_64, q_64]
  exact Int.bmod_eq_of_le (by omega) (by omega)
theorem q_641 {v : Int64} (h1 : -2147483649 < v.toInt) (h2 : v.toInt < 2147483649) : (v + (1 : Int64)).toInt = v.toInt + 1 := by
  rw [Int64.toInt_add, show (1 : Int64).toInt = 1 by decide]
  exact Int.bmod_eq_of_le (by omega) (by omega)
/-- what a fire through a chain comes to -/
def q_frr (H T : Nat → Int32) (pt w : Int32) (hk : Nat) (x : Int32) : q_FR := q_ak H (q_gth H T pt w hk).1 (q_gth H T pt w hk).2 (q_gth H T pt w hk).2 x (0, fun _ => 0, fun _ => 0)
def q_hit (H T : Nat → Int32) (pt : Int32) (hk : Nat) (x y : Int32) : Bool := decide ((q_frr H T pt (-1) hk x).1.1 = 0) && decide ((q_frr H T pt (-1) hk x).1.2 = y)
def q_src (H T : Nat → Int32) (pt : Int32) (hk : Nat) (y : Int32) : Nat → Int64 → Int64
  | 0, _ => 0
  | k + 1, v => match q_hit H T pt hk v.toInt32 y with
    | true => (10000000000 : Int64) + v
    | false => q_src H T pt hk y k (v + 1)
section CALLS1
variable {L c : Nat} {I : Nat → Nat → Int32} {J : Nat → Nat → Int64} {t : Nat}
theorem t_chain {x y : Int32} (h : q_J c I J t) : q_SI 100 103 199 [.int x, .int y] (q_J (c + 1)) L I J t := by
  obtain ⟨n, hk, m, hr⟩ := id h
  obtain ⟨hc, hm⟩ := q_J_ch m
  have hok := q_ch_hok hc
  unfold q_SI
  rw [e_C_chain, s_isBelow, show (4 : Int32).toInt = 4 by decide, q_onI_i, g_C_chain_5]
  cases hb : q_in x 4 with
  | false =>
    rw [q_br (show q_bb false = 0 from rfl), s_refuseT1, q_onI_i, g_C_chain_13]
    refine ⟨_, _, _, _, rfl, rfl, q_u_ne (by decide), ?_⟩
    rw [e_M_chain, s_isPoint, hb, q_onI_i, g_M_chain_4, q_br (show q_bb false = 0 from rfl), s_noT1, q_onI_i, g_M_chain_12]
    exact ⟨rfl, _, _, _, rfl, q_J_refuse 1 h⟩
  | true =>
    obtain ⟨F, f1, f2, f3, f4⟩ := c_gath90 (L := L) (d := 93) (J := J) (t := t) (pt := x) (w := -1) hc
    have d1 := q_fid_g90 f1
    obtain ⟨G, g1, g2, g3, g4⟩ := m_gath (L := L) (d := 95) (J := J) (t := t) (pt := x) (w := -1) hok (q_fid_mh d1 hm)
    have d2 := q_fid_trans d1 (q_fid_gm g1 g2)
    obtain ⟨-, e2, l24, e4⟩ := f3
    obtain ⟨-, u2, -, u4⟩ := g3
    rw [q_brn (by decide), f4, g_C_chain_23, e2, s_isBelow, nI_toInt (by omega), q_onI_i, g_C_chain_34]
    cases hy : q_in y ((q_gth (I 132) (I 131) x (-1) hk).2 : Int) with
    | false =>
      rw [q_br (show q_bb false = 0 from rfl)]
      refine ⟨_, _, _, _, rfl, rfl, q_fid_0 d1, ?_⟩
      rw [e_M_chain, s_isPoint, hb, q_onI_i, g_M_chain_4, q_brn (by decide), g4, g_M_chain_19, u2, s_within0, q_pred (by omega), hy, q_onI_i, g_M_chain_30, q_br (show q_bb false = 0 from rfl)]
      exact ⟨rfl, _, _, _, rfl, q_J_fid d2 h⟩
    | true =>
      obtain ⟨i, hi, rfl⟩ := q_in_get hy
      rw [q_brn (by decide)]
      simp only [q_clamp (show i < 2 ^ 31 by omega), q_bnd (show i < 24 by omega) (by decide), true_and]
      rw [(e4 i hi).1]
      refine ⟨_, _, _, _, rfl, rfl, q_fid_0 d1, ?_⟩
      rw [e_M_chain, s_isPoint, hb, q_onI_i, g_M_chain_4, q_brn (by decide), g4, g_M_chain_19, u2, s_within0, q_pred (by omega), hy, q_onI_i, g_M_chain_30, q_brn (by decide)]
      simp only [q_clamp (show i < 2 ^ 31 by omega), q_bnd (show i < 24 by omega) (by decide), true_and]
      rw [(u4 i hi).1]
      exact ⟨rfl, _, _, _, rfl, q_J_fid d2 h⟩
theorem t_pure {x y z : Int32} (h : q_J c I J t) : q_SL 100 106 206 [.int x, .int y, .int z] (q_J (c + 1)) L I J t := by
  obtain ⟨n, hk, m, hr⟩ := id h
  obtain ⟨hc, hm⟩ := q_J_ch m
  have hok := q_ch_hok hc
  unfold q_SL
  rw [e_C_pure, s_isBelow, show (4 : Int32).toInt = 4 by decide, q_onI_i, g_C_pure_5]
  cases hb : q_in x 4 with
  | false =>
    rw [q_br (show q_bb false = 0 from rfl), s_refuse1, q_onI_i, g_C_pure_13]
    refine ⟨_, _, _, _, rfl, rfl, q_u_ne (by decide), ?_⟩
    rw [e_M_pure, s_isPoint, hb, q_onI_i, g_M_pure_4, q_br (show q_bb false = 0 from rfl), s_no1, q_onI_i, g_M_pure_12]
    exact ⟨rfl, _, _, _, rfl, q_J_refuse 1 h⟩
  | true =>
    rw [q_brn (show ¬ q_bb true = 0 by decide)]
    by_cases hz : z = 0 ∨ z = 1
    · obtain ⟨F, f1, f2, f3, f4⟩ := c_gath90 (L := L) (d := 93) (J := J) (t := t) (pt := x) (w := -1) hc
      have d1 := q_fid_g90 f1
      obtain ⟨F2, p1, p2, p3, p4, p5, p6⟩ := c_frun90 (L := L) (d := 45) (J := J) (t := t) (x := y) f3
      have d2 := q_fid_trans d1 (q_fid_w90 p1)
      obtain ⟨G, g1, g2, g3, g4⟩ := m_gath (L := L) (d := 95) (J := J) (t := t) (pt := x) (w := -1) hok (q_fid_mh d2 hm)
      have d3 := q_fid_trans d2 (q_fid_gm g1 g2)
      obtain ⟨G2, k1, k2, k3, k4, k5⟩ := m_fires (L := L) (d := 69) (J := J) (t := t) (x := y) hok g3
      have d4 := q_fid_trans d3 (q_fid_fm k1)
      have hC : ∀ A B : Prop, ((z = 0 → A) ∧ (¬ z = 0 → ((z = 1 → A) ∧ (¬ z = 1 → B)))) = A := fun A B => by
        rcases hz with e | e
        · rw [q_br e]
        · rw [q_brn (by rw [e]; decide), q_br e]
      have hw : decide ((0 : Int32).toInt ≤ z.toInt ∧ z.toInt ≤ (1 : Int32).toInt) = true := decide_eq_true (by
        rcases hz with e | e <;> (rw [e]; decide))
      rw [hC, f4, g_C_pure_41, p6, g_C_pure_49, p3, p5]
      by_cases e : z = 0
      · rw [q_br e]
        refine ⟨_, _, _, _, rfl, rfl, q_fid_0 d2, ?_⟩
        rw [e_M_pure, s_isPoint, hb, q_onI_i, g_M_pure_4, q_brn (by decide), s_within, hw, q_onI_i, g_M_pure_20, q_brn (by decide), g4, g_M_pure_37, k5, q_onI_i, g_M_pure_42, q_br e, k3]
        exact ⟨rfl, _, _, _, rfl, q_J_fid d4 h⟩
      · rw [q_brn e]
        refine ⟨_, _, _, _, rfl, rfl, q_fid_0 d2, ?_⟩
        rw [e_M_pure, s_isPoint, hb, q_onI_i, g_M_pure_4, q_brn (by decide), s_within, hw, q_onI_i, g_M_pure_20, q_brn (by decide), g4, g_M_pure_37, k5, q_onI_i, g_M_pure_42, q_brn e]
        exact ⟨rfl, _, _, _, rfl, q_J_fid d4 h⟩
    · have hz0 : ¬ z = 0 := fun e => hz (Or.inl e)
      have hz1 : ¬ z = 1 := fun e => hz (Or.inr e)
      rw [q_brn hz0, q_brn hz1, s_refuse5, q_onI_i, g_C_pure_30]
      refine ⟨_, _, _, _, rfl, rfl, q_u_ne (by decide), ?_⟩
      have hw : decide ((0 : Int32).toInt ≤ z.toInt ∧ z.toInt ≤ (1 : Int32).toInt) = false := decide_eq_false (by
        rw [q_eqz] at hz0 hz1
        rw [show (0 : Int32).toInt = 0 by decide] at hz0 ⊢
        rw [show (1 : Int32).toInt = 1 by decide] at hz1 ⊢
        omega)
      rw [e_M_pure, s_isPoint, hb, q_onI_i, g_M_pure_4, q_brn (by decide), s_within, hw, q_onI_i, g_M_pure_20, q_br (show q_bb false = 0 from rfl), s_no5, q_onI_i, g_M_pure_29]
      exact ⟨rfl, _, _, _, rfl, q_J_refuse 5 h⟩
end CALLS1
section SRC
variable {L d : Nat} {J : Nat → Nat → Int64} {t : Nat}
theorem l_Csrc {H T : Nat → Int32} {n hk : Nat} {pt y x3 x4 : Int32} : ∀ (k : Nat) (v : Int64) (I : Nat → Nat → Int32), v.toInt + k = x4.toInt + 1 → -2147483649 < v.toInt → q_fx90 I H T (q_gth H T pt (-1) hk).1 n hk (q_gth H T pt (-1) hk).2 → ∃ F, q_fid I F ∧ ∀ (rt : Value → q_Mem → Nat → Nat → Prop), q_X (q_W (d + 55)) rt 108 (55, [some (.ref 1), some (.int pt), some (.int y), some (.int x3), some (.int x4), some (.long v), none], [], (q_mm L I J t), 0, 0) = rt (.long (q_src H T pt hk y k v)) (q_mm L F J t) 0 0
  | 0, v, I, h, hv, hx => by
    refine ⟨I, q_fid_refl, fun rt => ?_⟩
    rw [g_C_source_55, q_lc_gt, q_64, q_br (by omega)]
    rfl
  | k + 1, v, I, h, hv, hx => by
    have hx4 := Int32.toInt_lt x4
    obtain ⟨F, f1, f2⟩ := c_gives90 (L := L) (d := d) (J := J) (t := t) (x := v.toInt32) (y := y) hx
    have hstep : ∀ (rt : Value → q_Mem → Nat → Nat → Prop), q_X (q_W (d + 55)) rt 108 (55, [some (.ref 1), some (.int pt), some (.int y), some (.int x3), some (.int x4), some (.long v), none], [], (q_mm L I J t), 0, 0) = q_X (q_W (d + 55)) rt 108 (75, [some (.ref 1), some (.int pt), some (.int y), some (.int x3), some (.int x4), some (.long v), none], [.int (q_bb (q_hit H T pt hk v.toInt32 y))], q_mm L F J t, 0, 0) := by
      intro rt
      rw [g_C_source_55, q_lc_gt, q_64, q_brn (by omega), f2, q_onI_i]
      rfl
    unfold q_src
    cases hh : q_hit H T pt hk v.toInt32 y with
    | true =>
      refine ⟨F, q_fid_w90 f1, fun rt => ?_⟩
      rw [hstep, hh, g_C_source_75, q_brn (by decide)]
    | false =>
      have h1 := q_641 (v := v) hv (by omega)
      obtain ⟨F', u1, u2⟩ := l_Csrc (H := H) (T := T) (n := n) (pt := pt) (y := y) (x3 := x3) (x4 := x4) k (v + 1) F (by rw [h1]; omega) (by rw [h1]; omega) (q_fx90_fw f1 hx)
      refine ⟨F', q_fid_trans (q_fid_w90 f1) u1, fun rt => ?_⟩
      rw [hstep, hh, g_C_source_75, q_br (show q_bb false = 0 from rfl), u2]
theorem l_Msrc {H T : Nat → Int32} {n hk : Nat} {pt y x3 x4 : Int32} (hok : q_hok H n hk) : ∀ (k : Nat) (v : Int64) (I : Nat → Nat → Int32), v.toInt + k = x4.toInt + 1 → -2147483649 < v.toInt → q_fxm I H T (q_gth H T pt (-1) hk).1 n hk (q_gth H T pt (-1) hk).2 → ∃ F, q_fid I F ∧ ∀ (rt : Value → q_Mem → Nat → Nat → Prop), q_X (q_W (d + 30)) rt 208 (51, [some (.ref 130), some (.int pt), some (.int y), some (.int x3), some (.int x4), some (.long v), none], [], (q_mm L I J t), 0, 0) = rt (.long (q_src H T pt hk y k v)) (q_mm L F J t) 0 0
  | 0, v, I, h, hv, hx => by
    refine ⟨I, q_fid_refl, fun rt => ?_⟩
    rw [g_M_source_51, q_lc_gt, q_64, q_br (by omega)]
    rfl
  | k + 1, v, I, h, hv, hx => by
    have hx4 := Int32.toInt_lt x4
    obtain ⟨F, f1, f2, f3, f4, f5⟩ := m_fires (L := L) (d := d) (J := J) (t := t) (x := v.toInt32) hok hx
    have h1 := q_641 (v := v) hv (by omega)
    have hstep : ∀ (rt : Value → q_Mem → Nat → Nat → Prop), q_X (q_W (d + 30)) rt 208 (51, [some (.ref 130), some (.int pt), some (.int y), some (.int x3), some (.int x4), some (.long v), none], [], (q_mm L I J t), 0, 0) = (match q_hit H T pt hk v.toInt32 y with
      | true => rt (.long ((10000000000 : Int64) + v)) (q_mm L F J t) 0 0
      | false => q_X (q_W (d + 30)) rt 208 (51, [some (.ref 130), some (.int pt), some (.int y), some (.int x3), some (.int x4), some (.long (v + (1 : Int64))), none], [], q_mm L F J t, 0, 0)) := by
      intro rt
      rw [g_M_source_51, q_lc_gt, q_64, q_brn (by omega), f5, q_onI_i, g_M_source_67, f3, q_eq0 (by omega)]
      unfold q_hit q_frr
      by_cases e1 : (q_ak H (q_gth H T pt (-1) hk).1 (q_gth H T pt (-1) hk).2 (q_gth H T pt (-1) hk).2 v.toInt32 (0, fun _ => 0, fun _ => 0)).1.2 = y
      · by_cases e2 : (q_ak H (q_gth H T pt (-1) hk).1 (q_gth H T pt (-1) hk).2 (q_gth H T pt (-1) hk).2 v.toInt32 (0, fun _ => 0, fun _ => 0)).1.1 = 0
        · rw [q_br e1, q_br e2, decide_eq_true e1, decide_eq_true e2]
          rfl
        · rw [q_br e1, q_brn e2, decide_eq_false e2]
          rfl
      · rw [q_brn e1, decide_eq_false e1, Bool.and_false]
    unfold q_src
    cases hh : q_hit H T pt hk v.toInt32 y with
    | true =>
      refine ⟨F, q_fid_fm f1, fun rt => ?_⟩
      rw [hstep, hh]
    | false =>
      obtain ⟨F', u1, u2⟩ := l_Msrc (H := H) (T := T) (n := n) (pt := pt) (y := y) (x3 := x3) (x4 := x4) hok k (v + 1) F (by rw [h1]; omega) (by rw [h1]; omega) (q_fxm_ff f1 hx)
      refine ⟨F', q_fid_trans (q_fid_fm f1) u1, fun rt => ?_⟩
      rw [hstep, hh]
      exact u2 rt
end SRC
section CALLS2
variable {L c : Nat} {I : Nat → Nat → Int32} {J : Nat → Nat → Int64} {t : Nat}
theorem t_source {x y z w : Int32} (h : q_J c I J t) : q_SL 100 108 208 [.int x, .int y, .int z, .int w] (q_J (c + 1)) L I J t := by
  obtain ⟨n, hk, m, hr⟩ := id h
  obtain ⟨hc, hm⟩ := q_J_ch m
  have hok := q_ch_hok hc
  have hz1 := Int32.le_toInt z
  unfold q_SL
  rw [e_C_source, s_isBelow, show (4 : Int32).toInt = 4 by decide, q_onI_i, g_C_source_5]
  cases hb : q_in x 4 with
  | false =>
    rw [q_br (show q_bb false = 0 from rfl), s_refuse1, q_onI_i, g_C_source_13]
    refine ⟨_, _, _, _, rfl, rfl, q_u_ne (by decide), ?_⟩
    rw [e_M_source, s_isPoint, hb, q_onI_i, g_M_source_4, q_br (show q_bb false = 0 from rfl), s_no1, q_onI_i, g_M_source_12]
    exact ⟨rfl, _, _, _, rfl, q_J_refuse 1 h⟩
  | true =>
    rw [q_brn (show ¬ q_bb true = 0 by decide), q_lt, q_lc_le, q_64d, show (199 : Int64).toInt = 199 by decide]
    by_cases hz : z.toInt ≤ w.toInt ∧ w.toInt - z.toInt ≤ 199
    · obtain ⟨F, f1, f2, f3, f4⟩ := c_gath90 (L := L) (d := 93) (J := J) (t := t) (pt := x) (w := -1) hc
      have d1 := q_fid_g90 f1
      obtain ⟨k, hk'⟩ : ∃ k : Nat, z.toInt64.toInt + k = w.toInt + 1 := ⟨(w.toInt + 1 - z.toInt).toNat, by rw [q_64]; omega⟩
      obtain ⟨F2, p1, p2⟩ := l_Csrc (L := L) (d := 44) (J := J) (t := t) (y := y) (x3 := z) (x4 := w) k z.toInt64 F hk' (by rw [q_64]; omega) f3
      have d2 := q_fid_trans d1 p1
      obtain ⟨G, g1, g2, g3, g4⟩ := m_gath (L := L) (d := 95) (J := J) (t := t) (pt := x) (w := -1) hok (q_fid_mh d2 hm)
      have d3 := q_fid_trans d2 (q_fid_gm g1 g2)
      obtain ⟨G2, k1, k2⟩ := l_Msrc (L := L) (d := 69) (J := J) (t := t) (y := y) (x3 := z) (x4 := w) hok k z.toInt64 G hk' (by rw [q_64]; omega) g3
      have d4 := q_fid_trans d3 k1
      rw [q_brn (by omega), q_br hz.2, f4, g_C_source_51, p2]
      refine ⟨_, _, _, _, rfl, rfl, q_fid_0 d2, ?_⟩
      rw [e_M_source, s_isPoint, hb, q_onI_i, g_M_source_4, q_brn (show ¬ q_bb true = 0 by decide), q_lt, q_lc_lt, q_64d, show (200 : Int64).toInt = 200 by decide, q_brn (by omega), q_br (by omega), g4, g_M_source_47, k2]
      exact ⟨rfl, _, _, _, rfl, q_J_fid d4 h⟩
    · have hC : ∀ A B : Prop, ((w.toInt < z.toInt → A) ∧ (¬ w.toInt < z.toInt → ((w.toInt - z.toInt ≤ 199 → B) ∧ (¬ w.toInt - z.toInt ≤ 199 → A)))) = A := fun A B => by
        by_cases e : w.toInt < z.toInt
        · rw [q_br e]
        · rw [q_brn e, q_brn (by omega)]
      have hD : ∀ A B : Prop, ((w.toInt < z.toInt → A) ∧ (¬ w.toInt < z.toInt → ((w.toInt - z.toInt < 200 → B) ∧ (¬ w.toInt - z.toInt < 200 → A)))) = A := fun A B => by
        by_cases e : w.toInt < z.toInt
        · rw [q_br e]
        · rw [q_brn e, q_brn (by omega)]
      rw [hC, s_refuse6, q_onI_i, g_C_source_40]
      refine ⟨_, _, _, _, rfl, rfl, q_u_ne (by decide), ?_⟩
      rw [e_M_source, s_isPoint, hb, q_onI_i, g_M_source_4, q_brn (show ¬ q_bb true = 0 by decide), q_lt, q_lc_lt, q_64d, show (200 : Int64).toInt = 200 by decide, hD, s_no6, q_onI_i, g_M_source_39]
      exact ⟨rfl, _, _, _, rfl, q_J_refuse 6 h⟩
end CALLS2
