/-! texts: the model's marks and item -/
def q_mq (I F : Nat → Nat → Int32) (p : Nat) : Prop := (∀ a, a ≠ 130 → a ≠ 131 → F a = I a) ∧ (∀ k, k ≠ 11 → F 130 k = I 130 k) ∧ ∀ j, j ≠ 36 + p → j ≠ 48 + p → j ≠ 60 + p → F 131 j = I 131 j
theorem q_mq_t {I F G : Nat → Nat → Int32} {p : Nat} (h : q_mq I F p) (h2 : q_mq F G p) : q_mq I G p := ⟨fun a x y => (h2.1 a x y).trans (h.1 a x y), fun k x => (h2.2.1 k x).trans (h.2.1 k x), fun j x y z => (h2.2.2 j x y z).trans (h.2.2 j x y z)⟩
theorem q_mq_m {I F : Nat → Nat → Int32} {p q : Nat} (h : q_mat I F q) : q_mq I F p := ⟨fun a x _ => h.1 a x, h.2.1, fun j _ _ _ => by rw [h.1 131 (by decide)]⟩
theorem q_mq_u {I : Nat → Nat → Int32} {p j : Nat} {v : Int32} (hj : j = 36 + p ∨ j = 48 + p ∨ j = 60 + p) : q_mq I (q_u I 131 j v) p := ⟨fun a _ y => q_u_ne y, fun k _ => by rw [q_u_ne (by decide)], fun i x y z => q_u_nk (fun e => by omega)⟩
theorem q_am_q {I F : Nat → Nat → Int32} {J : Nat → Nat → Int64} {s len pos q p : Nat} (h : q_am I J s len pos) (f : q_mq I F q) (h11 : F 130 11 = nI p) (hp : p ≤ len) : q_am F J s len p := ⟨by rw [f.2.1 10 (by decide)]; exact h.1, h11, by rw [f.1 134 (by decide) (by decide)]; exact h.2.2.1, h.2.2.2.1, h.2.2.2.2.1, hp, h.2.2.2.2.2.2⟩
section TXT8
variable {L d : Nat} {J : Nat → Nat → Int64} {t : Nat}
theorem l_Mmks {rt : Value → q_Mem → Nat → Nat → Prop} {s len p : Nat} (hp12 : p < 12) : ∀ (k pos : Nat) (a b : Int32) (f : Nat) (I : Nat → Nat → Int32) (w2 w3 : Option Value) (r : Nat × Nat × Int32 × Int32 × Nat), len + 1 ≤ k + pos → q_am I J s len pos → I 131 (36 + p) = a → I 131 (48 + p) = b → I 131 (60 + p) = nI f → f ≤ 9 → q_mks (q_sg J s len) len k pos a b f = r → (¬ r.1 = 0 → ∀ F, q_mq I F p → F 130 11 = nI r.2.1 → r.2.1 ≤ len → F 131 (36 + p) = r.2.2.1 → F 131 (48 + p) = r.2.2.2.1 → F 131 (60 + p) = nI r.2.2.2.2 → rt (.int 1) (q_mm L F J t) 0 0) → (r.1 = 0 → ∀ F, q_mq I F p → F 130 11 = nI r.2.1 → rt (.int 0) (q_mm L F J t) 0 0) → q_X (q_W (d + 2)) rt 164 (4, [some (.ref 130), some (.int (nI p)), w2, w3], [.int (q_sg J s len pos)], (q_mm L I J t), 0, 0)
  | 0, pos, a, b, f, I, w2, w3, r, hk, ha, h2, h3, h4, h9, hr, hT, hF => absurd ha.2.2.2.2.2.1 (by omega)
  | k + 1, pos, a, b, f, I, w2, w3, r, hk, ha, h2, h3, h4, h9, hr, hT, hF => by
    have hlen := ha.2.2.2.2.1
    have hpl := ha.2.2.2.2.2.1
    unfold q_mks at hr
    have hself : q_mq I I p := ⟨fun _ _ _ => rfl, fun _ _ => rfl, fun _ _ _ _ => rfl⟩
    rw [g_M_marks_4]
    by_cases e33 : q_sg J s len pos = 33
    · rw [if_pos e33] at hr
      have hp : pos < len := q_sg_lt (by decide) e33
      rw [q_br e33, show (5 : Int32) = nI 5 by decide, s_of (show 12 * 5 + p < 108 by omega), show 12 * 5 + p = 60 + p from rfl, h4, q_onI_i, g_M_marks_17, show (9 : Int32) = nI 9 by decide, q_eqN (by omega) (by decide)]
      by_cases e9 : f < 9
      · rw [if_pos e9] at hr
        rw [q_brn (by omega), show (60 : Int32) = nI 60 by decide, q_add]
        simp only [q_clamp (show 60 + p < 2 ^ 31 by omega), q_bnd (show 60 + p < 108 by omega) (by decide), true_and]
        rw [ha.2.1, q_n1, q_u_ne (show (131 : Nat) ≠ 130 by decide), h4, q_n1]
        have g0 : q_mq I (q_u I 130 11 (nI (pos + 1))) p := q_mq_m q_mat_u
        have g1 : q_mq (q_u I 130 11 (nI (pos + 1))) (q_u (q_u I 130 11 (nI (pos + 1))) 131 (60 + p) (nI (f + 1))) p := q_mq_u (Or.inr (Or.inr rfl))
        have a1 : q_am (q_u (q_u I 130 11 (nI (pos + 1))) 131 (60 + p) (nI (f + 1))) J s len (pos + 1) := q_am_q ha (q_mq_t g0 g1) (by rw [q_u_ne (by decide), q_u_eq]) hp
        rw [g_M_marks_0, s_sign a1, q_onI_i]
        refine l_Mmks hp12 k (pos + 1) a b (f + 1) _ _ _ r (by omega) a1 ?_ ?_ q_u_eq (by omega) hr (fun hc F f1 => hT hc F (q_mq_t (q_mq_t g0 g1) f1)) (fun hc F f1 => hF hc F (q_mq_t (q_mq_t g0 g1) f1))
        · rw [q_u_nk (by omega), q_u_ne (by decide)]; exact h2
        · rw [q_u_nk (by omega), q_u_ne (by decide)]; exact h3
      · rw [if_neg e9] at hr
        subst hr
        rw [q_br (by omega)]
        exact ⟨Or.inl rfl, hF rfl I hself ha.2.1⟩
    · rw [if_neg e33] at hr
      rw [q_brn e33]
      by_cases e45 : q_sg J s len pos = 45
      · rw [if_pos e45] at hr
        have hp : pos < len := q_sg_lt (by decide) e45
        rw [q_br e45, ha.2.1, q_n1, show (7 : Int32) = nI 7 by decide]
        refine w_mdgt (d := d) (by decide) (q_am_t ha q_mat_u hp) (fun v hv F f1 f2 => ?_) (fun hv => ?_)
        · rw [hv] at hr
          dsimp only at hr
          have f0 := q_mat_t q_mat_u f1
          have g0 : q_mq F (q_u F 131 (36 + p) (F 131 (36 + p) ||| ((1 : Int32) <<< (nI v &&& 31)))) p := q_mq_u (Or.inl rfl)
          have hF131 : F 131 = I 131 := f0.1 131 (by decide)
          have a1 : q_am (q_u F 131 (36 + p) (F 131 (36 + p) ||| ((1 : Int32) <<< (nI v &&& 31)))) J s len (pos + 1 + 1) := q_am_q f2 g0 (by rw [q_u_ne (by decide)]; exact f1.2.2) f2.2.2.2.2.2.1
          rw [q_onI_i, g_M_marks_78, q_brn (q_nIm1 (by have := (q_dgt_so (by decide) hv).2; omega)), q_br e45, show (36 : Int32) = nI 36 by decide, q_add]
          simp only [q_clamp (show 36 + p < 2 ^ 31 by omega), q_bnd (show 36 + p < 108 by omega) (by decide), true_and]
          rw [g_M_marks_0, s_sign a1, q_onI_i]
          refine l_Mmks hp12 k (pos + 1 + 1) (a ||| ((1 : Int32) <<< (nI v &&& 31))) b f _ _ _ r (by omega) a1 ?_ ?_ ?_ h9 hr (fun hc F f1 => hT hc F (q_mq_t (q_mq_t (q_mq_m f0) g0) f1)) (fun hc F f1 => hF hc F (q_mq_t (q_mq_t (q_mq_m f0) g0) f1))
          · rw [q_u_eq, hF131, h2]
          · rw [q_u_nk (by omega), hF131, h3]
          · rw [q_u_nk (by omega), hF131, h4]
        · rw [hv] at hr
          dsimp only at hr
          subst hr
          rw [q_onI_i, g_M_marks_78, q_br rfl]
          exact ⟨Or.inl rfl, hF rfl _ (q_mq_m q_mat_u) q_u_eq⟩
      · rw [if_neg e45] at hr
        rw [q_brn e45]
        by_cases e43 : q_sg J s len pos = 43
        · rw [if_pos e43] at hr
          have hp : pos < len := q_sg_lt (by decide) e43
          rw [q_br e43, ha.2.1, q_n1, show (7 : Int32) = nI 7 by decide]
          refine w_mdgt (d := d) (by decide) (q_am_t ha q_mat_u hp) (fun v hv F f1 f2 => ?_) (fun hv => ?_)
          · rw [hv] at hr
            dsimp only at hr
            have f0 := q_mat_t q_mat_u f1
            have g0 : q_mq F (q_u F 131 (48 + p) (F 131 (48 + p) ||| ((1 : Int32) <<< (nI v &&& 31)))) p := q_mq_u (Or.inr (Or.inl rfl))
            have hF131 : F 131 = I 131 := f0.1 131 (by decide)
            have a1 : q_am (q_u F 131 (48 + p) (F 131 (48 + p) ||| ((1 : Int32) <<< (nI v &&& 31)))) J s len (pos + 1 + 1) := q_am_q f2 g0 (by rw [q_u_ne (by decide)]; exact f1.2.2) f2.2.2.2.2.2.1
            rw [q_onI_i, g_M_marks_78, q_brn (q_nIm1 (by have := (q_dgt_so (by decide) hv).2; omega)), q_brn e45, show (48 : Int32) = nI 48 by decide, q_add]
            simp only [q_clamp (show 48 + p < 2 ^ 31 by omega), q_bnd (show 48 + p < 108 by omega) (by decide), true_and]
            rw [g_M_marks_0, s_sign a1, q_onI_i]
            refine l_Mmks hp12 k (pos + 1 + 1) a (b ||| ((1 : Int32) <<< (nI v &&& 31))) f _ _ _ r (by omega) a1 ?_ ?_ ?_ h9 hr (fun hc F f1 => hT hc F (q_mq_t (q_mq_t (q_mq_m f0) g0) f1)) (fun hc F f1 => hF hc F (q_mq_t (q_mq_t (q_mq_m f0) g0) f1))
            · rw [q_u_nk (by omega), hF131, h2]
            · rw [q_u_eq, hF131, h3]
            · rw [q_u_nk (by omega), hF131, h4]
          · rw [hv] at hr
            dsimp only at hr
            subst hr
            rw [q_onI_i, g_M_marks_78, q_br rfl]
            exact ⟨Or.inl rfl, hF rfl _ (q_mq_m q_mat_u) q_u_eq⟩
        · rw [if_neg e43] at hr
          rw [q_brn e43]
          by_cases e : pos < len ∧ ¬ q_sg J s len pos = 59
          · rw [if_pos e] at hr
            subst hr
            exact ⟨Or.inr rfl, hT (show ¬ (2 : Nat) = 0 by decide) I hself ha.2.1 hpl h2 h3 h4⟩
          · rw [if_neg e] at hr
            subst hr
            exact ⟨Or.inr rfl, hT (show ¬ (1 : Nat) = 0 by decide) I hself ha.2.1 hpl h2 h3 h4⟩
theorem q_newM_o {I : Nat → Nat → Int32} {p : Nat} {x1 x2 x3 x4 x5 x6 : Int32} (hp : p < 12) : q_mfo I (q_newM I p x1 x2 x3 x4 x5 x6) p ∧ q_newM I p x1 x2 x3 x4 x5 x6 130 0 = nI (p + 1) ∧ q_newM I p x1 x2 x3 x4 x5 x6 130 11 = I 130 11 ∧ q_imc (q_newM I p x1 x2 x3 x4 x5 x6) p (x1, x2, x3, x4, x5, x6) := by
  unfold q_newM
  refine ⟨⟨fun a h1 h2 => ?_, fun k h1 h2 => ?_, fun j hj q hq => ?_⟩, q_u_eq, ?_, ?_, ?_, ?_, ?_, ?_, ?_, ?_, ?_⟩
  · repeat rw [q_u_ne (by assumption)]
  all_goals (repeat (first | rw [q_u_eq] | rw [q_u_nk (by omega)] | rw [q_u_ne (by decide)]))
theorem w_mitem {I : Nat → Nat → Int32} {Q : Value → q_Mem → Prop} {s len pos m : Nat} {has : Int32 → Bool} {r : Nat × Nat × q_It} (ha : q_am I J s len pos) (hm : I 130 0 = nI m) (hm12 : m ≤ 12) (hh : ∀ x, has x = q_there I m x) (hr : q_itm (q_sg J s len) len (decide (12 ≤ m)) has pos = r) (hT : ¬ r.1 = 0 → ∀ F, q_mfo I F m → F 130 0 = nI (m + 1) → q_am F J s len r.2.1 → q_imc F m r.2.2 → Q (.int 1) (q_mm L F J t)) (hF : r.1 = 0 → ∀ F, q_mfo I F m → F 130 11 = nI r.2.1 → Q (.int 0) (q_mm L F J t)) : q_W (d + 4) 165 [.ref 130] (q_mm L I J t) Q := by
  unfold q_itm at hr
  have hlen := ha.2.2.2.2.1
  refine w_mword (d := d + 1) ha (fun hw F f1 a1 => ?_) (fun p hw F f1 => ?_)
  · rw [hw] at hr
    dsimp only at hr
    have hm1 : F 130 0 = nI m := by rw [f1.2.1 0 (by decide)]; exact hm
    rw [g_M_item_38, q_brn (by decide), hm1, show (12 : Int32) = nI 12 by decide, q_eqN (by omega) (by decide)]
    by_cases hfull : m = 12
    · rw [decide_eq_true (by omega)] at hr
      dsimp only at hr
      subst hr
      rw [q_br hfull]
      exact ⟨Or.inl rfl, hF rfl _ (q_mat_o (q_mat_t f1 q_mat_u)) q_u_eq⟩
    · rw [decide_eq_false (by omega)] at hr
      dsimp only at hr
      rw [q_brn hfull]
      have hhF : ∀ x, has x = q_there F m x := fun x => by
        rw [hh]
        unfold q_there
        rw [f1.1 131 (by decide)]
      refine w_is (d := d + 1) (by decide) a1 (fun e0 F1 f2 a2 => ?_) (fun e0 => ?_)
      · rw [q_onI_i, g_M_item_65, q_brn (by decide)]
        refine w_mname (d := d) (m := m) (has := has) a1 hm1 hm12 hhF e0 f2 a2 (fun e1 F2 f3 a3 => ?_) (fun e1 F2 f3 => ?_)
        · rw [if_pos e1] at hr
          obtain ⟨nm1, nm2, nm3⟩ := q_nmp_ok e1
          have w1 := q_mat_t f1 f3
          rw [q_onI_i, g_M_item_74, q_eq0 (by omega), q_brn (by omega), show (4 : Int32) = nI 4 by decide]
          refine w_mdgt (d := d + 1) (by decide) a3 (fun v hv F3 f4 a4 => ?_) (fun hv => ?_)
          · have w2 := q_mat_t w1 f4
            rw [q_onI_i, g_M_item_86, q_brn (q_nIm1 (by have := (q_dgt_so (by decide) hv).2; omega))]
            refine w_is (d := d + 1) (by decide) a4 (fun e4 F4 f5 a5 => ?_) (fun e4 => ?_)
            · have w3 := q_mat_t w2 f5
              rw [q_onI_i, g_M_item_98, q_brn (by decide), show (9 : Int32) = nI 9 by decide]
              refine w_mdgt (d := d + 1) (by decide) a5 (fun w hw2 F5 f6 a6 => ?_) (fun hw2 => ?_)
              · have w4 := q_mat_t w3 f6
                have hnb : q_nbs (q_sg J s len) (q_nmp (q_sg J s len) has (pos + 4)).2.1 = (1, (q_nmp (q_sg J s len) has (pos + 4)).2.1 + 1 + 1 + 1, v, w) := by
                  unfold q_nbs
                  rw [hv]
                  dsimp only
                  rw [if_pos e4, hw2]
                rw [hnb, if_pos rfl] at hr
                dsimp only at hr
                have hm5 : F5 130 0 = nI m := by rw [w4.2.1 0 (by decide)]; exact hm
                obtain ⟨o1, o2, o3, o4⟩ := q_newM_o (I := F5) (p := m) (x1 := nI v) (x2 := nI w) (x3 := 0) (x4 := 0) (x5 := 0) (x6 := nI (q_nmp (q_sg J s len) has (pos + 4)).2.2) (by omega)
                have a7 := q_am_o a6 o1 (o3.trans w4.2.2) a6.2.2.2.2.2.1
                rw [q_onI_i, g_M_item_109, q_brn (q_nIm1 (by have := (q_dgt_so (by decide) hw2).2; omega)), s_newPlug hm5 (by omega), q_onI_i, g_M_item_129, e_M_marks, s_sign a7, q_onI_i]
                have w5 := q_mfo_t (q_mat_o (p := m) w4) o1
                have hfo : ∀ K, q_mq (q_newM F5 m (nI v) (nI w) 0 0 0 (nI (q_nmp (q_sg J s len) has (pos + 4)).2.2)) K m → q_mfo I K m := fun K k1 => q_mfo_t w5 ⟨k1.1, fun k _ h2 => k1.2.1 k h2, fun j hj q hq => k1.2.2 _ (by omega) (by omega) (by omega)⟩
                refine l_Mmks (d := d) (s := s) (len := len) (p := m) (by omega) (len + 1) _ 0 0 0 _ _ _ _ (by omega) a7 o4.2.2.2.1 o4.2.2.2.2.1 (by rw [o4.2.2.2.2.2.1]; rfl) (by decide) rfl (fun e7 K k1 k2 k3 k4 k5 k6 => ?_) (fun e7 K k1 k2 => ?_)
                · rw [q_onI_i, g_M_item_132, q_brn (by decide)]
                  subst hr
                  refine ⟨Or.inr rfl, hT e7 K (hfo K k1) (by rw [k1.2.1 0 (by decide)]; exact o2) (q_am_q a7 k1 k2 k3) ⟨?_, ?_, ?_, k4, k5, k6, ?_, ?_⟩⟩
                  · rw [k1.2.2 _ (by omega) (by omega) (by omega)]; exact o4.1
                  · rw [k1.2.2 _ (by omega) (by omega) (by omega)]; exact o4.2.1
                  · rw [k1.2.2 _ (by omega) (by omega) (by omega)]; exact o4.2.2.1
                  · rw [k1.2.2 _ (by omega) (by omega) (by omega)]; exact o4.2.2.2.2.2.2.1
                  · rw [k1.2.2 _ (by omega) (by omega) (by omega)]; exact o4.2.2.2.2.2.2.2
                · rw [q_onI_i, g_M_item_132, q_br rfl]
                  subst hr
                  exact ⟨Or.inl rfl, hF e7 K (hfo K k1) k2⟩
              · have hnb : q_nbs (q_sg J s len) (q_nmp (q_sg J s len) has (pos + 4)).2.1 = (0, (q_nmp (q_sg J s len) has (pos + 4)).2.1 + 1 + 1, 0, 0) := by
                  unfold q_nbs
                  rw [hv]
                  dsimp only
                  rw [if_pos e4, hw2]
                rw [hnb, if_neg (show ¬ (0 : Nat) = 1 by decide)] at hr
                subst hr
                rw [q_onI_i, g_M_item_109, q_br rfl]
                exact ⟨Or.inl rfl, hF rfl _ (q_mat_o w3) w3.2.2⟩
            · have hnb : q_nbs (q_sg J s len) (q_nmp (q_sg J s len) has (pos + 4)).2.1 = (0, (q_nmp (q_sg J s len) has (pos + 4)).2.1 + 1, 0, 0) := by
                unfold q_nbs
                rw [hv]
                dsimp only
                rw [if_neg e4]
              rw [hnb, if_neg (show ¬ (0 : Nat) = 1 by decide)] at hr
              subst hr
              rw [q_onI_i, g_M_item_98, q_br rfl]
              exact ⟨Or.inl rfl, hF rfl _ (q_mat_o w2) w2.2.2⟩
          · have hnb : q_nbs (q_sg J s len) (q_nmp (q_sg J s len) has (pos + 4)).2.1 = (0, (q_nmp (q_sg J s len) has (pos + 4)).2.1, 0, 0) := by
              unfold q_nbs
              rw [hv]
            rw [hnb, if_neg (show ¬ (0 : Nat) = 1 by decide)] at hr
            subst hr
            rw [q_onI_i, g_M_item_86, q_br rfl]
            exact ⟨Or.inl rfl, hF rfl _ (q_mat_o w1) w1.2.2⟩
        · rw [if_neg e1] at hr
          subst hr
          rw [q_onI_i, g_M_item_74, q_br rfl]
          exact ⟨Or.inl rfl, hF rfl _ (q_mat_o (q_mat_t f1 f3)) f3.2.2⟩
      · have hnm : q_nmp (q_sg J s len) has (pos + 4) = (0, pos + 4, 0) := by
          unfold q_nmp
          rw [if_neg e0]
        rw [hnm, if_neg (show ¬ (0 : Nat) = 1 by decide)] at hr
        subst hr
        rw [q_onI_i, g_M_item_65, q_br rfl]
        exact ⟨Or.inl rfl, hF rfl _ (q_mat_o f1) f1.2.2⟩
  · rw [hw] at hr
    dsimp only at hr
    subst hr
    exact hF rfl _ (q_mat_o f1) f1.2.2
end TXT8
