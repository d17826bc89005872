/-! judge -/
def q_ja (J : Nat → Nat → Int64) (s i : Nat) : Int32 := (J (115 + 2 * s) i).toInt32
section JUDGE
variable {L d : Nat} {J : Nat → Nat → Int64} {t : Nat}
theorem s_asInt {Q : Value → q_Mem → Prop} {I : Nat → Nat → Int32} {s j len : Nat} (hs : s < 8) (hl : I (114 + 2 * s) 2 = nI len) (hlen : len ≤ 160) (hj : j < len) : q_W (d + 2) 54 [.ref (114 + 2 * s), .int (nI j)] (q_mm L I J t) Q = Q (.int (q_ja J s j)) (q_mm L I J t) := by
  rw [e_Shelf_asInt, i_shelf hs, q_onB_t, s_hasElement (i_shelf hs), hl, nI_toInt (by omega), q_in_nI (by omega), decide_eq_true hj, q_onI_i, g_Shelf_asInt_5, q_brn (by decide)]
  simp only [i_shelf hs, r_row hs, a_row hs, q_onI_i, q_onJ_j, q_onS_s, q_onB_t, true_and, and_true, true_or, or_true, eq_self, true_implies, not_true_eq_false, not_false_eq_true, false_implies, q_bb0, q_bbok, q_bbok2, Bool.true_eq_false, Bool.false_eq_true, reduceCtorEq, q_clamp (show j < 2 ^ 31 by omega), q_bnd (show j < 160 by omega) (by decide)]
  rfl
theorem s_Mread {Q : Value → q_Mem → Prop} {I : Nat → Nat → Int32} {s j : Nat} (hs : s < 8) (hj : j < 160) (hJ : ∀ i, i < 160 → J (115 + 2 * s) i = J 135 (160 * s + i)) : q_W (d + 1) 209 [.ref 130, .int (nI s), .int (nI j)] (q_mm L I J t) Q = Q (.int (q_ja J s j)) (q_mm L I J t) := by
  rw [e_M_read_2, show (160 : Int32) = nI 160 by decide, q_mul, q_add]
  simp only [q_clamp (show 160 * s + j < 2 ^ 31 by omega), q_bnd (show 160 * s + j < 1280 by omega) (by decide), true_and]
  unfold q_ja
  rw [hJ j hj]
theorem l_Cjud {H T : Nat → Int32} {n hk s len N : Nat} {pt x4 : Int32} (hs : s < 8) (hlen : len ≤ 160) (hN : 2 * N ≤ len) : ∀ (k i : Nat) (I : Nat → Nat → Int32), i + k = N → I (114 + 2 * s) 2 = nI len → q_fx90 I H T (q_gth H T pt (-1) hk).1 n hk (q_gth H T pt (-1) hk).2 → ∃ F, q_fid I F ∧ ∀ (rt : Value → q_Mem → Nat → Nat → Prop), q_X (q_W (d + 55)) rt 109 (89, [some (.ref 1), some (.int (nI s)), some (.int pt), some (.int (nI N)), some (.int x4), some (.int (nI i))], [], (q_mm L I J t), 0, 0) = rt (.int (q_fst (q_first (fun i => !q_hit H T pt hk (q_ja J s (2 * i)) (q_ja J s (2 * i + 1))) i k))) (q_mm L F J t) 0 0
  | 0, i, I, h, hl, hx => by
    refine ⟨I, q_fid_refl, fun rt => ?_⟩
    rw [g_C_judge_89, q_leN (by omega) (by omega), q_br (by omega)]
    rfl
  | k + 1, i, I, h, hl, hx => by
    obtain ⟨F, f1, f2⟩ := c_gives90 (L := L) (d := d) (J := J) (t := t) (x := q_ja J s (2 * i)) (y := q_ja J s (2 * i + 1)) hx
    have hstep : ∀ (rt : Value → q_Mem → Nat → Nat → Prop), q_X (q_W (d + 55)) rt 109 (89, [some (.ref 1), some (.int (nI s)), some (.int pt), some (.int (nI N)), some (.int x4), some (.int (nI i))], [], (q_mm L I J t), 0, 0) = q_X (q_W (d + 55)) rt 109 (130, [some (.ref 1), some (.int (nI s)), some (.int pt), some (.int (nI N)), some (.int x4), some (.int (nI i))], [.int (q_bb (q_hit H T pt hk (q_ja J s (2 * i)) (q_ja J s (2 * i + 1))))], q_mm L F J t, 0, 0) := by
      intro rt
      rw [g_C_judge_89, q_leN (by omega) (by omega), q_brn (by omega)]
      simp only [q_clamp (show s < 2 ^ 31 by omega), q_bnd hs (by decide), r_shelf hs, i_shelf hs, q_onI_i, q_onJ_j, q_onS_s, q_onB_t, true_and, and_true, true_or, or_true, eq_self, true_implies, not_true_eq_false, not_false_eq_true, false_implies, q_bb0, q_bbok, q_bbok2, Bool.true_eq_false, Bool.false_eq_true, reduceCtorEq]
      rw [show (2 : Int32) = nI 2 by decide, q_mul, s_asInt hs hl hlen (show 2 * i < len by omega), q_onI_i, g_C_judge_112]
      simp only [q_clamp (show s < 2 ^ 31 by omega), q_bnd hs (by decide), r_shelf hs, i_shelf hs, q_onI_i, q_onJ_j, q_onS_s, q_onB_t, true_and, and_true, true_or, or_true, eq_self, true_implies, not_true_eq_false, not_false_eq_true, false_implies, q_bb0, q_bbok, q_bbok2, Bool.true_eq_false, Bool.false_eq_true, reduceCtorEq]
      rw [show (2 : Int32) = nI 2 by decide, q_mul, q_n1, s_asInt hs hl hlen (show 2 * i + 1 < len by omega), q_onI_i, g_C_judge_127, f2, q_onI_i]
      rfl
    unfold q_first
    cases hh : q_hit H T pt hk (q_ja J s (2 * i)) (q_ja J s (2 * i + 1)) with
    | false =>
      refine ⟨F, q_fid_w90 f1, fun rt => ?_⟩
      rw [hstep, hh, g_C_judge_130, q_br (show q_bb false = 0 from rfl)]
      rfl
    | true =>
      obtain ⟨F', u1, u2⟩ := l_Cjud (H := H) (T := T) (n := n) (hk := hk) (pt := pt) (x4 := x4) hs hlen hN k (i + 1) F (by omega) (by rw [f1.1 _ (by omega) (by omega) (by omega)]; exact hl) (q_fx90_fw f1 hx)
      refine ⟨F', q_fid_trans (q_fid_w90 f1) u1, fun rt => ?_⟩
      rw [hstep, hh, g_C_judge_130, q_brn (by decide), q_n1]
      exact u2 rt
theorem l_Mjud {H T : Nat → Int32} {n hk s len N : Nat} {pt x4 : Int32} (hok : q_hok H n hk) (hs : s < 8) (hlen : len ≤ 160) (hN : 2 * N ≤ len) (hJ : ∀ i, i < 160 → J (115 + 2 * s) i = J 135 (160 * s + i)) : ∀ (k i : Nat) (I : Nat → Nat → Int32), i + k = N → q_fxm I H T (q_gth H T pt (-1) hk).1 n hk (q_gth H T pt (-1) hk).2 → ∃ F, q_fid I F ∧ ∀ (rt : Value → q_Mem → Nat → Nat → Prop), q_X (q_W (d + 30)) rt 210 (82, [some (.ref 130), some (.int (nI s)), some (.int pt), some (.int (nI N)), some (.int x4), some (.int (nI i))], [], (q_mm L I J t), 0, 0) = rt (.int (q_fst (q_first (fun i => !q_hit H T pt hk (q_ja J s (2 * i)) (q_ja J s (2 * i + 1))) i k))) (q_mm L F J t) 0 0
  | 0, i, I, h, hx => by
    refine ⟨I, q_fid_refl, fun rt => ?_⟩
    rw [g_M_judge_82, q_leN (by omega) (by omega), q_br (by omega)]
    rfl
  | k + 1, i, I, h, hx => by
    obtain ⟨F, f1, f2, f3, f4, f5⟩ := m_fires (L := L) (d := d) (J := J) (t := t) (x := q_ja J s (2 * i)) hok hx
    have hstep : ∀ (rt : Value → q_Mem → Nat → Nat → Prop), q_X (q_W (d + 30)) rt 210 (82, [some (.ref 130), some (.int (nI s)), some (.int pt), some (.int (nI N)), some (.int x4), some (.int (nI i))], [], (q_mm L I J t), 0, 0) = (match q_hit H T pt hk (q_ja J s (2 * i)) (q_ja J s (2 * i + 1)) with
      | true => q_X (q_W (d + 30)) rt 210 (82, [some (.ref 130), some (.int (nI s)), some (.int pt), some (.int (nI N)), some (.int x4), some (.int (nI (i + 1)))], [], q_mm L F J t, 0, 0)
      | false => rt (.int (nI i)) (q_mm L F J t) 0 0) := by
      intro rt
      rw [g_M_judge_82, q_leN (by omega) (by omega), q_brn (by omega), show (2 : Int32) = nI 2 by decide, q_mul, s_Mread hs (by omega) hJ, q_onI_i, g_M_judge_98, f5, q_onI_i, g_M_judge_101, show (2 : Int32) = nI 2 by decide, q_mul, q_n1, s_Mread hs (by omega) hJ, q_onI_i, g_M_judge_112, f3, q_eq0 (by omega), q_n1]
      unfold q_hit q_frr
      by_cases e1 : (q_ak H (q_gth H T pt (-1) hk).1 (q_gth H T pt (-1) hk).2 (q_gth H T pt (-1) hk).2 (q_ja J s (2 * i)) (0, fun _ => 0, fun _ => 0)).1.2 = q_ja J s (2 * i + 1)
      · by_cases e2 : (q_ak H (q_gth H T pt (-1) hk).1 (q_gth H T pt (-1) hk).2 (q_gth H T pt (-1) hk).2 (q_ja J s (2 * i)) (0, fun _ => 0, fun _ => 0)).1.1 = 0
        · rw [q_br e1, q_br e2, decide_eq_true e1, decide_eq_true e2]
          rfl
        · rw [q_br e1, q_brn e2, decide_eq_false e2]
          rfl
      · rw [q_brn e1, decide_eq_false e1, Bool.and_false]
    unfold q_first
    cases hh : q_hit H T pt hk (q_ja J s (2 * i)) (q_ja J s (2 * i + 1)) with
    | false =>
      refine ⟨F, q_fid_fm f1, fun rt => ?_⟩
      rw [hstep, hh]
      rfl
    | true =>
      obtain ⟨F', u1, u2⟩ := l_Mjud (H := H) (T := T) (n := n) (hk := hk) (pt := pt) (x4 := x4) hok hs hlen hN hJ k (i + 1) F (by omega) (q_fxm_ff f1 hx)
      refine ⟨F', q_fid_trans (q_fid_fm f1) u1, fun rt => ?_⟩
      rw [hstep, hh]
      exact u2 rt
end JUDGE
theorem q_642 {x : Int32} : ((2 : Int64) * x.toInt64).toInt = 2 * x.toInt := by
  have h1 := Int32.le_toInt x
  have h2 := Int32.toInt_lt x
  rw [Int64.toInt_mul, q_64, show (2 : Int64).toInt = 2 by decide]
  exact Int.bmod_eq_of_le (by omega) (by omega)
section JUDGE2
variable {L c : Nat} {I : Nat → Nat → Int32} {J : Nat → Nat → Int64} {t : Nat}
theorem t_judge {x y z : Int32} (h : q_J c I J t) : q_SI 100 109 210 [.int x, .int y, .int z] (q_J (c + 1)) L I J t := by
  obtain ⟨n, hk, m, h2, hr0⟩ := id h
  obtain ⟨hc, hm⟩ := q_J_ch m
  have hok := q_ch_hok hc
  have a3 := hok.1
  have h2' : ∀ k, v_shelves (q_u I 113 k (I 113 k + 1)) J n := fun k s hs => v_shelf_congr (q_u_ne (by omega)) (q_u_ne (by decide)) (q_u_ne (by decide)) rfl rfl (h2 s hs)
  have hrp : ∀ k, q_rp (q_u I 113 k (I 113 k + 1)) x = q_rp I x := by
    intro k
    unfold q_rp
    cases hb : q_in x 8 with
    | false => rfl
    | true =>
      obtain ⟨s, hs, rfl⟩ := q_in_get (n := 8) hb
      dsimp only
      rw [q_clamp (show s < 2 ^ 31 by omega), q_u_ne (show 114 + 2 * s ≠ 113 by omega)]
  unfold q_SI
  rw [e_C_judge, s_isBelow, show (4 : Int32).toInt = 4 by decide, q_onI_i, g_C_judge_5]
  cases hb : q_in y 4 with
  | false =>
    rw [q_br (show q_bb false = 0 from rfl), q_brn (by decide), s_refuseT1, q_onI_i, g_C_judge_30]
    refine ⟨_, _, _, _, rfl, rfl, q_u_ne (by decide), ?_⟩
    rw [e_M_judge, s_noRow a3 (h2' 1), hrp, q_onI_i, g_M_judge_5, s_isPoint, hb, q_onI_i, g_M_judge_17, q_br (show q_bb false = 0 from rfl), s_noT1, q_onI_i, g_M_judge_25]
    by_cases e : q_rp I x = -1
    · rw [q_br e]
      exact ⟨rfl, _, _, _, rfl, q_J_refuse 1 h⟩
    · rw [q_brn e]
      exact ⟨rfl, _, _, _, rfl, q_J_refuse 1 h⟩
  | true =>
    rw [q_brn (show ¬ q_bb true = 0 by decide), s_rowProblem, q_onI_i]
    rcases q_rp_cases a3 h2 x with ⟨hb8, hr⟩ | ⟨s, hs, rfl, hb8, hr⟩
    · rw [hr, g_C_judge_13, q_brn (by decide), s_refuseT1, q_onI_i, g_C_judge_30]
      refine ⟨_, _, _, _, rfl, rfl, q_u_ne (by decide), ?_⟩
      rw [e_M_judge, s_noRow a3 (h2' 1), hrp, hr, q_onI_i, g_M_judge_5, q_br rfl, s_noT1, q_onI_i, g_M_judge_25]
      exact ⟨rfl, _, _, _, rfl, q_J_refuse 1 h⟩
    · rcases hr with hr | hr | ⟨hr, q, len, b1, b2, b3, b4, b5, b6, b7, b8⟩
      · rw [hr, g_C_judge_13, q_brn (by decide), s_refuseT3, q_onI_i, g_C_judge_30]
        refine ⟨_, _, _, _, rfl, rfl, q_u_ne (by decide), ?_⟩
        rw [e_M_judge, s_noRow a3 (h2' 3), hrp, hr, q_onI_i, g_M_judge_5, q_brn (by decide), s_isPoint, hb, q_onI_i, g_M_judge_17, q_brn (show ¬ q_bb true = 0 by decide), q_brn (by decide), s_noT3, q_onI_i, g_M_judge_37]
        exact ⟨rfl, _, _, _, rfl, q_J_refuse 3 h⟩
      · rw [hr, g_C_judge_13, q_brn (by decide), s_refuseT2, q_onI_i, g_C_judge_30]
        refine ⟨_, _, _, _, rfl, rfl, q_u_ne (by decide), ?_⟩
        rw [e_M_judge, s_noRow a3 (h2' 2), hrp, hr, q_onI_i, g_M_judge_5, q_brn (by decide), s_isPoint, hb, q_onI_i, g_M_judge_17, q_brn (show ¬ q_bb true = 0 by decide), q_brn (by decide), s_noT2, q_onI_i, g_M_judge_37]
        exact ⟨rfl, _, _, _, rfl, q_J_refuse 2 h⟩
      · have hM : ∀ (I' : Nat → Nat → Int32) (Q : Value → q_Mem → Prop), v_shelves I' J n → q_rp I' (nI s) = 0 → I' 134 s = nI len → q_W 100 210 [.ref 130, .int (nI s), .int y, .int z] (q_mm L I' J t) Q = ((0 ≤ z → ((2 * z.toInt ≤ (len : Int) → q_W 99 198 [.ref 130, .int y, .int (-1)] (q_mm L I' J t) fun _ μ => q_X (q_W 99) (fun v μ _ _ => Q v μ) 210 (79, [some (.ref 130), some (.int (nI s)), some (.int y), some (.int z), some (.int 0), none], [], μ, 0, 0)) ∧ (¬ 2 * z.toInt ≤ (len : Int) → q_W 99 134 [.ref 130, .int (-5)] (q_mm L I' J t) fun v μ => q_onI False v fun x' => q_X (q_W 99) (fun v μ _ _ => Q v μ) 210 (72, [some (.ref 130), some (.int (nI s)), some (.int y), some (.int z), some (.int 0), none], [.int x'], μ, 0, 0)))) ∧ (¬ 0 ≤ z → q_W 99 134 [.ref 130, .int (-4)] (q_mm L I' J t) fun v μ => q_onI False v fun x' => q_X (q_W 99) (fun v μ _ _ => Q v μ) 210 (48, [some (.ref 130), some (.int (nI s)), some (.int y), some (.int z), some (.int 0), none], [.int x'], μ, 0, 0))) := by
          intro I' Q hv hrp' h134
          rw [e_M_judge, s_noRow a3 hv, hrp', q_onI_i, g_M_judge_5, q_brn (by decide), s_isPoint, hb, q_onI_i, g_M_judge_17, q_brn (show ¬ q_bb true = 0 by decide), q_br (by decide)]
          simp only [q_clamp (show s < 2 ^ 31 by omega), q_bnd hs (by decide), true_and, h134]
          rw [q_lc_le, q_642, q_64, nI_toInt (by omega)]
        have hC : ∀ (rt : Value → q_Mem → Nat → Nat → Prop), q_X (q_W 99) rt 109 (13, [some (.ref 1), some (.int (nI s)), some (.int y), some (.int z), none, none], [.int 0], q_mm L I J t, 0, 0) = ((0 ≤ z → ((z ≤ nI (len / 2) → ((z ≤ 80 → q_W 99 4 [.ref 90, .int y, .int (-1)] (q_mm L I J t) fun _ μ => q_X (q_W 99) rt 109 (86, [some (.ref 1), some (.int (nI s)), some (.int y), some (.int z), some (.int 0), none], [], μ, 0, 0)) ∧ (¬ z ≤ 80 → q_W 99 118 [.ref 1, .int (-6)] (q_mm L I J t) fun v μ => q_onI False v fun x' => q_X (q_W 99) rt 109 (76, [some (.ref 1), some (.int (nI s)), some (.int y), some (.int z), some (.int 0), none], [.int x'], μ, 0, 0)))) ∧ (¬ z ≤ nI (len / 2) → q_W 99 118 [.ref 1, .int (-5)] (q_mm L I J t) fun v μ => q_onI False v fun x' => q_X (q_W 99) rt 109 (63, [some (.ref 1), some (.int (nI s)), some (.int y), some (.int z), some (.int 0), none], [.int x'], μ, 0, 0)))) ∧ (¬ 0 ≤ z → q_W 99 118 [.ref 1, .int (-4)] (q_mm L I J t) fun v μ => q_onI False v fun x' => q_X (q_W 99) rt 109 (41, [some (.ref 1), some (.int (nI s)), some (.int y), some (.int z), some (.int 0), none], [.int x'], μ, 0, 0))) := by
          intro rt
          rw [g_C_judge_13, q_br rfl]
          simp only [q_clamp (show s < 2 ^ 31 by omega), q_bnd hs (by decide), r_shelf hs, i_shelf hs, q_onI_i, q_onJ_j, q_onS_s, q_onB_t, true_and, and_true, true_or, or_true, eq_self, true_implies, not_true_eq_false, not_false_eq_true, false_implies, q_bb0, q_bbok, q_bbok2, Bool.true_eq_false, Bool.false_eq_true, reduceCtorEq, b4, show ¬ (2 : Int32) = 0 by decide, not_false_eq_true]
          rw [show (2 : Int32) = nI 2 by decide, q_divN (by omega) (by decide)]
        rw [hr, hC]
        by_cases hz0 : 0 ≤ z
        · obtain ⟨hz0'⟩ : 0 ≤ z.toInt ∧ True := ⟨by rw [Int32.le_iff_toInt_le, Int32.toInt_zero] at hz0; exact hz0, trivial⟩
          rw [q_br hz0]
          by_cases hz1 : 2 * z.toInt ≤ (len : Int)
          · obtain ⟨N, hN, rfl⟩ := q_in_get (n := 81) (x := z) (decide_eq_true (by omega))
            rw [nI_toInt (by omega)] at hz1
            obtain ⟨F, f1, f2, f3, f4⟩ := c_gath90 (L := L) (d := 93) (J := J) (t := t) (pt := y) (w := -1) hc
            have d1 := q_fid_g90 f1
            obtain ⟨F2, p1, p2⟩ := l_Cjud (L := L) (d := 44) (J := J) (t := t) (N := N) (x4 := 0) hs b2 (by omega) N 0 F (by omega) (by rw [f1 _ (by omega) (by omega)]; exact b4) f3
            have d2 := q_fid_trans d1 p1
            obtain ⟨G, g1, g2, g3, g4⟩ := m_gath (L := L) (d := 95) (J := J) (t := t) (pt := y) (w := -1) hok (q_fid_mh d2 hm)
            have d3 := q_fid_trans d2 (q_fid_gm g1 g2)
            obtain ⟨G2, k1, k2⟩ := l_Mjud (L := L) (d := 69) (J := J) (t := t) (N := N) (len := len) (x4 := 0) hok hs b2 (by omega) b8 N 0 G (by omega) g3
            have d4 := q_fid_trans d3 k1
            have o2 : ∀ o, (114 ≤ o ∧ o < 130) ∨ o = 133 ∨ o = 134 → F2 o = I o := fun o ho => d2.1 o (by omega) (by omega) (by omega) (by omega) (by omega) (by omega) (by omega) (by omega)
            have hv2 : v_shelves F2 J n := fun s hs => v_shelf_congr (o2 _ (by omega)) (o2 _ (by omega)) (o2 _ (by omega)) rfl rfl (h2 s hs)
            have hrp2 : q_rp F2 (nI s) = 0 := by
              rw [← hr]
              unfold q_rp
              rw [hb8]
              dsimp only
              rw [q_clamp (show s < 2 ^ 31 by omega), o2 _ (by omega)]
            rw [show nI 0 = (0 : Int32) by decide] at p2 k2
            rw [q_leN (by omega) (by omega), q_br (by omega), show (80 : Int32) = nI 80 by decide, q_leN (by omega) (by decide), q_br (by omega), f4, g_C_judge_86, p2]
            refine ⟨_, _, _, _, rfl, rfl, q_fid_0 d2, ?_⟩
            rw [hM F2 _ hv2 hrp2 (by rw [o2 134 (by omega)]; exact b7), q_br hz0, nI_toInt (by omega), q_br hz1, g4, g_M_judge_79, k2]
            exact ⟨rfl, _, _, _, rfl, q_J_fid d4 h⟩
          · have hzl : ¬ z ≤ nI (len / 2) := by
              rw [Int32.le_iff_toInt_le, nI_toInt (by omega)]
              omega
            rw [q_brn hzl, s_refuseT5, q_onI_i, g_C_judge_63]
            refine ⟨_, _, _, _, rfl, rfl, q_u_ne (by decide), ?_⟩
            rw [hM _ _ (h2' 5) (by rw [hrp]; exact hr) (by rw [q_u_ne (by decide)]; exact b7), q_br hz0, q_brn hz1, s_noT5, q_onI_i, g_M_judge_72]
            exact ⟨rfl, _, _, _, rfl, q_J_refuse 5 h⟩
        · rw [q_brn hz0, s_refuseT4, q_onI_i, g_C_judge_41]
          refine ⟨_, _, _, _, rfl, rfl, q_u_ne (by decide), ?_⟩
          rw [hM _ _ (h2' 4) (by rw [hrp]; exact hr) (by rw [q_u_ne (by decide)]; exact b7), q_brn hz0, s_noT4, q_onI_i, g_M_judge_48]
          exact ⟨rfl, _, _, _, rfl, q_J_refuse 4 h⟩
end JUDGE2
