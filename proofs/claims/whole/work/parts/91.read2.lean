/-! read: what it leaves; the call -/
theorem q_J_txT {c n hk cnt : Nat} {f : Nat → q_It} {x y : Int32} {I F0 G K F : Nat → Nat → Int32} {J : Nat → Nat → Int64} {t t' : Nat} (m : v_main q_bc I n hk) (h : q_J c I J t) (h0 : q_fsc I F0) (hcn : n + cnt ≤ 12) (hic : ∀ i, i < cnt → q_ic F0 (98 + i) (f i)) (hok : ∀ i, i < cnt → q_iok (f i)) (g1 : ∀ a, a ≠ 3 → (∀ j, 0 ≤ j → j < cnt → a ≠ 6 + (n + j)) → G a = q_u F0 1 12 (-1) a) (g2 : ∀ x, x ≠ 2 → G 3 x = q_u F0 1 12 (-1) 3 x) (g3 : G 3 2 = nI (n + cnt)) (g4 : ∀ j, 0 ≤ j → j < cnt → q_cpP (q_u F0 1 12 (-1)) G (6 + (n + j)) (98 + j)) (hK : K = q_u (q_u G 130 10 x) 130 11 y) (hF : q_mrT K F n cnt f) : q_J (c + 1) F J t' := by
  have hrest := q_J_rest m h
  obtain ⟨⟨a1, a2, a3, a4, a5, a6⟩, m2, m3, m4, m5⟩ := id m
  obtain ⟨f1, f2, f3, f4, f5, f6⟩ := hF
  have kG : ∀ a, a ≠ 130 → K a = G a := fun a x1 => by rw [hK, q_u_ne x1, q_u_ne x1]
  have k0 : ∀ a, a ≠ 130 → a ≠ 3 → ¬ (n ≤ a - 6 ∧ 6 ≤ a ∧ a < 18) → a ≠ 1 → a ≠ 94 → ¬ (98 ≤ a ∧ a < 110) → K a = I a := fun a x1 x2 x3 x4 x5 x6 => by
    rw [kG a x1, g1 a x2 (fun j _ hj => by omega), q_u_ne x4, h0 a x5 x6]
  have k130 : ∀ k, k ≠ 10 → k ≠ 11 → K 130 k = I 130 k := fun k x1 x2 => by
    rw [hK, q_u_nk x2, q_u_nk x1, g1 130 (by decide) (fun j _ hj => by omega), q_u_ne (by decide), h0 130 (by decide) (by decide)]
  have k1 : ∀ k, k ≠ 12 → K 1 k = I 1 k := fun k x1 => by
    rw [kG 1 (by decide), g1 1 (by decide) (fun j _ hj => by omega), q_u_nk x1, h0 1 (by decide) (by decide)]
  have k112 : K 1 12 = -1 := by
    rw [kG 1 (by decide), g1 1 (by decide) (fun j _ hj => by omega), q_u_eq]
  have k3 : ∀ k, k ≠ 2 → K 3 k = I 3 k := fun k x1 => by
    rw [kG 3 (by decide), g2 k x1, q_u_ne (by decide), h0 3 (by decide) (by decide)]
  have hI : ∀ a, a ≠ 130 → a ≠ 131 → a ≠ 3 → ¬ (n ≤ a - 6 ∧ 6 ≤ a ∧ a < 18) → a ≠ 1 → a ≠ 94 → ¬ (98 ≤ a ∧ a < 110) → F a = I a := fun a x1 x2 x3 x4 x5 x6 x7 => (f1 a x1 x2).trans (k0 a x1 x3 x4 x5 x6 x7)
  have hF1 : F 1 = K 1 := f1 1 (by decide) (by decide)
  have hF3 : F 3 = K 3 := f1 3 (by decide) (by decide)
  have h132 : F 132 = I 132 := hI 132 (by decide) (by decide) (by decide) (by omega) (by decide) (by decide) (by decide)
  have hb : ∀ k, k ≠ 0 → k ≠ 9 → k ≠ 11 → k ≠ 10 → F 130 k = I 130 k := fun k x1 x2 x3 x4 => (f2 k x1 x2 x3).trans (k130 k x4 x3)
  have k131 : K 131 = I 131 := k0 131 (by decide) (by decide) (by omega) (by decide) (by decide) (by decide)
  refine ⟨n + cnt, hk, ⟨⟨by rw [hF3, kG 3 (by decide)]; exact g3, by rw [hF3, k3 3 (by decide)]; exact a2, hcn, a4, fun p hp => ?_, fun i hi => v_hook_le (Nat.le_add_right n cnt) (v_hook_congr (hI _ (by omega) (by omega) (by omega) (by omega) (by omega) (by omega) (by omega)) h132 (a6 i hi))⟩, f4, by rw [hb 4 (by decide) (by decide) (by decide) (by decide)]; exact m3, by rw [hF3, k3 4 (by decide), hb 2 (by decide) (by decide) (by decide) (by decide)]; exact m4, by rw [hF3, k3 5 (by decide), hb 3 (by decide) (by decide) (by decide) (by decide)]; exact m5⟩, v_rest_txt (Nat.le_add_right n cnt) (fun o ho x1 x2 x3 => ?_) ⟨by rw [hF1, k1 3 (by decide)], by rw [hF1, k1 11 (by decide)]⟩ (by rw [hF1, k112, f3]) ⟨hb 12 (by decide) (by decide) (by decide) (by decide), hb 19 (by decide) (by decide) (by decide) (by decide), hb 20 (by decide) (by decide) (by decide) (by decide), hb 30 (by decide) (by decide) (by decide) (by decide), hb 32 (by decide) (by decide) (by decide) (by decide), hb 34 (by decide) (by decide) (by decide) (by decide)⟩ (fun i hi => ?_) hrest⟩
  · by_cases e : p < n
    · exact v_plug_else (hI _ (by omega) (by omega) (by omega) (by omega) (by omega) (by omega) (by omega)) (fun k hk => (f5 k hk p e).trans (by rw [k131])) (a5 p e)
    · obtain ⟨i, rfl⟩ : ∃ i, p = n + i := ⟨p - n, by omega⟩
      have hi : i < cnt := by omega
      have hFp : F (6 + (n + i)) = G (6 + (n + i)) := (f1 _ (by omega) (by omega)).trans (kG _ (by omega))
      have hz : q_u F0 1 12 (-1) (98 + i) = F0 (98 + i) := q_u_ne (by omega)
      obtain ⟨⟨c0, c1, c2, c3, c4, c5⟩, c6, c7, c8, c9, c10⟩ := g4 i (Nat.zero_le _) hi
      obtain ⟨i0, i1, i2, i3, i4, i5, i8, i9, i10⟩ := hic i hi
      obtain ⟨j0, j1, j2, j3, j4, j5, j6, j8⟩ := f6 i hi
      obtain ⟨r1, r2, r3, r4, r5, r6⟩ := hok i hi
      rw [hz] at c0 c1 c2 c3 c4 c5 c6 c7 c8 c9 c10
      unfold v_plug
      rw [hFp, c0, c1, c2, c3, c4, c5, c6, c7, c8, c9, i0, i1, i2, i3, i4, i5, i8, i9, j0, j1, j2, j3, j4, j5, j6, j8]
      exact ⟨⟨rfl, rfl, rfl, rfl, rfl, rfl, rfl, rfl⟩, fun z => absurd z (by decide), rfl, q_tw3_ord r6, r1, r2, r3, r4, r5, r6, by decide, by decide⟩
  · obtain ⟨y1, y2, y3, y4, y5, y6⟩ := q_rel_txt o (q_rel_lt ho) ho
    exact hI o y5 y6 y1 (fun z => y2 z.2) x1 y3 y4
  · rw [hI 113 (by decide) (by decide) (by decide) (by omega) (by decide) (by decide) (by decide), hI 145 (by decide) (by decide) (by decide) (by omega) (by decide) (by decide) (by decide)]
    exact hrest.2.2.2.2.1 i hi
section READ
variable {L c : Nat} {I : Nat → Nat → Int32} {J : Nat → Nat → Int64} {t : Nat}
theorem t_read {x : Int32} (h : q_J c I J t) : q_SI 100 86 166 [.int x] (q_J (c + 1)) L I J t := by
  obtain ⟨n, hk, m, h2, hr0⟩ := id h
  obtain ⟨⟨a1, a2, a3, a4, a5, a6⟩, m2, m3, m4, m5⟩ := id m
  have h2' : ∀ k, v_shelves (q_u I 113 k (I 113 k + 1)) J n := fun k s hs => v_shelf_congr (q_u_ne (by omega)) (q_u_ne (by decide)) (q_u_ne (by decide)) rfl rfl (h2 s hs)
  have hrp : ∀ k, q_rp (q_u I 113 k (I 113 k + 1)) x = q_rp I x := by
    intro k
    unfold q_rp
    cases hb : q_in x 8 with
    | false => rfl
    | true =>
      obtain ⟨s, hs, rfl⟩ := q_in_get (n := 8) hb
      dsimp only
      rw [q_clamp (show s < 2 ^ 31 by omega), q_u_ne (show 114 + 2 * s ≠ 113 by omega)]
  unfold q_SI
  rw [e_C_read, s_rowProblem, q_onI_i, g_C_read_5]
  rcases q_rp_cases a3 h2 x with ⟨hb, hr⟩ | ⟨s, hs, rfl, hb, hr⟩
  · obtain ⟨k, hk8, r1, r2, r3⟩ := t_ref3 (L := L) (r := q_rp I x) (Or.inl hr)
    rw [q_brn (by rw [hr]; decide), r1, q_onI_i, g_C_read_15]
    refine ⟨_, _, _, _, rfl, rfl, q_u_ne (by decide), ?_⟩
    rw [e_M_read, s_noRow a3 (h2' k), hrp, q_onI_i, g_M_read_5, q_brn (by rw [r3]; exact fun z => z), r2, q_onI_i, g_M_read_15]
    exact ⟨rfl, _, _, _, rfl, q_J_refuse k h⟩
  · rcases hr with hr | hr | ⟨hr, q, len, b1, b2, b3, b4, b5, b6, b7, b8⟩
    · obtain ⟨k, hk8, r1, r2, r3⟩ := t_ref3 (L := L) (r := q_rp I (nI s)) (Or.inr (Or.inr hr))
      rw [q_brn (by rw [hr]; decide), r1, q_onI_i, g_C_read_15]
      refine ⟨_, _, _, _, rfl, rfl, q_u_ne (by decide), ?_⟩
      rw [e_M_read, s_noRow a3 (h2' k), hrp, q_onI_i, g_M_read_5, q_brn (by rw [r3]; exact fun z => z), r2, q_onI_i, g_M_read_15]
      exact ⟨rfl, _, _, _, rfl, q_J_refuse k h⟩
    · obtain ⟨k, hk8, r1, r2, r3⟩ := t_ref3 (L := L) (r := q_rp I (nI s)) (Or.inr (Or.inl hr))
      rw [q_brn (by rw [hr]; decide), r1, q_onI_i, g_C_read_15]
      refine ⟨_, _, _, _, rfl, rfl, q_u_ne (by decide), ?_⟩
      rw [e_M_read, s_noRow a3 (h2' k), hrp, q_onI_i, g_M_read_5, q_brn (by rw [r3]; exact fun z => z), r2, q_onI_i, g_M_read_15]
      exact ⟨rfl, _, _, _, rfl, q_J_refuse k h⟩
    · obtain ⟨r, hR⟩ : ∃ r, q_rd (q_sg J s len) len n (q_there I n) 13 0 0 (fun _ => (0, 0, 0, 0, 0, 0)) = r := ⟨_, rfl⟩
      have hro := q_rd_ok (J := J) (s := s) (len := len) (n := n) (hh := q_there I n) 13 0 0 (fun _ => (0, 0, 0, 0, 0, 0)) (Nat.zero_le _) (fun i hi => absurd hi (by omega))
      rw [hR] at hro
      have hM : ∀ (K : Nat → Nat → Int32) (t' : Nat) (Q : Value → q_Mem → Prop), (∀ a, a = 131 ∨ a = 133 ∨ a = 134 ∨ (114 ≤ a ∧ a < 130) → K a = I a) → K 130 0 = I 130 0 → (r.1 = 1 → ∀ F, q_mrT (q_u (q_u K 130 10 (nI s)) 130 11 0) F n r.2.2.1 r.2.2.2 → Q (.int (nI r.2.2.1)) (q_mm L F J t')) → (¬ r.1 = 1 → ∀ F, q_mrF (q_u (q_u K 130 10 (nI s)) 130 11 0) F n r.2.1 → Q (.int (-6)) (q_mm L F J t')) → q_W 100 166 [.ref 130, .int (nI s)] (q_mm L K J t') Q := by
        intro K t' Q hKI hK0 hT hF
        have hv : v_shelves K J n := fun s hs => v_shelf_congr (hKI _ (by omega)) (hKI _ (by omega)) (hKI _ (by omega)) rfl rfl (h2 s hs)
        have hrpK : q_rp K (nI s) = 0 := by
          rw [← hr]
          unfold q_rp
          rw [hb]
          dsimp only
          rw [q_clamp (show s < 2 ^ 31 by omega), hKI _ (by omega)]
        have h131 : q_u (q_u K 130 10 (nI s)) 130 11 0 131 = I 131 := by rw [q_u_ne (by decide), q_u_ne (by decide), hKI 131 (by omega)]
        rw [e_M_read, s_noRow a3 hv, hrpK, q_onI_i, g_M_read_5, q_br (by decide), hK0, m2]
        refine w_mread (d := 95) (s := s) (len := len) (n := n) (hh := q_there I n) (f := fun _ => (0, 0, 0, 0, 0, 0)) ⟨?_, ?_, ?_, hs, b2, Nat.zero_le _, b8⟩ ?_ a3 (fun x => ?_) hR hT hF
        · rw [q_u_nk (by decide), q_u_eq]
        · rw [q_u_eq]; rfl
        · rw [q_u_ne (by decide), q_u_ne (by decide), hKI 134 (by omega)]; exact b7
        · rw [q_u_nk (by decide), q_u_nk (by decide), hK0]; exact m2
        · unfold q_there
          rw [h131]
      rw [hr, q_br rfl]
      simp only [q_clamp (show s < 2 ^ 31 by omega), q_bnd hs (by decide), r_shelf hs, q_onI_i, q_onJ_j, q_onS_s, q_onB_t, true_and, and_true, true_or, or_true, eq_self, true_implies, not_true_eq_false, not_false_eq_true, false_implies, q_bb0, q_bbok, q_bbok2, Bool.true_eq_false, Bool.false_eq_true, reduceCtorEq]
      refine w_parse (d := 91) (n := n) (hh := q_there I n) hs b2 b4 a1 a3 (fun x => (q_there_eq a5).symm) hR (fun e1 F0 f0 f1 f2 f3 => ?_) (fun e1 F0 f0 => ?_)
      · rw [q_onI_i, g_C_read_30, q_u_eq, q_br rfl, e_TextReader_addItems, show (0 : Int32) = nI 0 by decide]
        refine l_Cadd (d := 94) (n := n) (cnt := r.2.2.1) f2 r.2.2.1 0 _ (by omega) (by rw [q_u_ne (by decide)]; exact f1) (by rw [q_u_ne (by decide), f0 3 (by decide) (by decide)]; exact a1) (fun G g1 g2 g3 g4 => ?_)
        rw [q_onI_i, g_C_read_55]
        refine ⟨_, _, _, _, rfl, rfl, ?_, ?_⟩
        · rw [g1 0 (by decide) (fun j _ hj => by omega), q_u_ne (by decide), f0 0 (by decide) (by decide)]
        · refine hM G _ _ (fun a ha => ?_) ?_ (fun _ F hF => ?_) (fun z => absurd e1 z)
          · rw [g1 a (by omega) (fun j _ hj => by omega), q_u_ne (by omega), f0 a (by omega) (by omega)]
          · rw [g1 130 (by decide) (fun j _ hj => by omega), q_u_ne (by decide), f0 130 (by decide) (by decide)]
          · exact ⟨rfl, _, _, _, rfl, q_J_txT m h f0 f2 f3 hro.2 g1 g2 g3 g4 rfl hF⟩
      · rw [q_onI_i, g_C_read_30, q_u_eq, q_brn (q_nIm1 (by have := hro.1; omega)), s_refuse6, q_onI_i, g_C_read_47]
        refine ⟨_, _, _, _, rfl, rfl, ?_, ?_⟩
        · rw [q_u_ne (by decide), q_u_ne (by decide), f0 0 (by decide) (by decide)]
        · refine hM _ _ _ (fun a ha => ?_) ?_ (fun z => absurd z e1) (fun _ F hF => ?_)
          · rw [q_u_ne (by omega), q_u_ne (by omega), f0 a (by omega) (by omega)]
          · rw [q_u_ne (by decide), q_u_ne (by decide), f0 130 (by decide) (by decide)]
          · exact ⟨rfl, _, _, _, rfl, q_J_txF m h f0 rfl hF⟩
end READ
