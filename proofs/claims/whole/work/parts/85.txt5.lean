/-! texts: the class's texts -/
theorem q_or_rg : ∀ v, v < 8 → ∀ b, b < 256 → 0 ≤ (nI b ||| ((1 : Int32) <<< (nI v &&& 31))).toInt ∧ (nI b ||| ((1 : Int32) <<< (nI v &&& 31))).toInt ≤ 255 := by decide +kernel
theorem q_or_rng {x : Int32} {v : Nat} (hv : v < 8) (h : q_rng x 0 255) : q_rng (x ||| ((1 : Int32) <<< (nI v &&& 31))) 0 255 := by
  obtain ⟨b, hb, rfl⟩ := q_in_get (n := 256) (x := x) (decide_eq_true ⟨h.1, by have := h.2; omega⟩)
  exact q_or_rg v hv b hb
theorem q_mks_ok {sg : Nat → Int32} {len : Nat} : ∀ (k pos : Nat) (a b : Int32) (f : Nat), q_rng a 0 255 → q_rng b 0 255 → f ≤ 9 → ((q_mks sg len k pos a b f).1 = 1 → ¬ (q_mks sg len k pos a b f).2.1 < len ∨ sg (q_mks sg len k pos a b f).2.1 = 59) ∧ ((q_mks sg len k pos a b f).1 = 2 → (q_mks sg len k pos a b f).2.1 < len ∧ ¬ sg (q_mks sg len k pos a b f).2.1 = 59) ∧ (q_mks sg len k pos a b f).1 ≤ 2 ∧ q_rng (q_mks sg len k pos a b f).2.2.1 0 255 ∧ q_rng (q_mks sg len k pos a b f).2.2.2.1 0 255 ∧ (q_mks sg len k pos a b f).2.2.2.2 ≤ 9
  | 0, pos, a, b, f, ha, hb, hf => ⟨fun z => absurd z (show ¬ (0 : Nat) = 1 by decide), fun z => absurd z (show ¬ (0 : Nat) = 2 by decide), Nat.zero_le _, ha, hb, hf⟩
  | k + 1, pos, a, b, f, ha, hb, hf => by
    have hz : ∀ p : Nat, ((((0, p, a, b, f) : Nat × Nat × Int32 × Int32 × Nat).1 = 1 → ¬ ((0, p, a, b, f) : Nat × Nat × Int32 × Int32 × Nat).2.1 < len ∨ sg ((0, p, a, b, f) : Nat × Nat × Int32 × Int32 × Nat).2.1 = 59) ∧ (((0, p, a, b, f) : Nat × Nat × Int32 × Int32 × Nat).1 = 2 → ((0, p, a, b, f) : Nat × Nat × Int32 × Int32 × Nat).2.1 < len ∧ ¬ sg ((0, p, a, b, f) : Nat × Nat × Int32 × Int32 × Nat).2.1 = 59) ∧ ((0, p, a, b, f) : Nat × Nat × Int32 × Int32 × Nat).1 ≤ 2 ∧ q_rng ((0, p, a, b, f) : Nat × Nat × Int32 × Int32 × Nat).2.2.1 0 255 ∧ q_rng ((0, p, a, b, f) : Nat × Nat × Int32 × Int32 × Nat).2.2.2.1 0 255 ∧ ((0, p, a, b, f) : Nat × Nat × Int32 × Int32 × Nat).2.2.2.2 ≤ 9) := fun p => ⟨fun z => absurd z (show ¬ (0 : Nat) = 1 by decide), fun z => absurd z (show ¬ (0 : Nat) = 2 by decide), Nat.zero_le _, ha, hb, hf⟩
    unfold q_mks
    by_cases e33 : sg pos = 33
    · rw [if_pos e33]
      by_cases e9 : f < 9
      · rw [if_pos e9]
        exact q_mks_ok k (pos + 1) a b (f + 1) ha hb (by omega)
      · rw [if_neg e9]
        exact hz pos
    · rw [if_neg e33]
      by_cases e45 : sg pos = 45
      · rw [if_pos e45]
        cases hv : q_dgt (sg (pos + 1)) 7 with
        | none => exact hz (pos + 1)
        | some v => exact q_mks_ok k (pos + 1 + 1) _ b f (q_or_rng (by have := (q_dgt_so (by decide) hv).2; omega) ha) hb hf
      · rw [if_neg e45]
        by_cases e43 : sg pos = 43
        · rw [if_pos e43]
          cases hv : q_dgt (sg (pos + 1)) 7 with
          | none => exact hz (pos + 1)
          | some v => exact q_mks_ok k (pos + 1 + 1) a _ f ha (q_or_rng (by have := (q_dgt_so (by decide) hv).2; omega) hb) hf
        · rw [if_neg e43]
          by_cases e : pos < len ∧ ¬ sg pos = 59
          · rw [if_pos e]
            exact ⟨fun z => absurd z (show ¬ (2 : Nat) = 1 by decide), fun _ => e, Nat.le_refl _, ha, hb, hf⟩
          · rw [if_neg e]
            refine ⟨fun _ => ?_, fun z => absurd z (show ¬ (1 : Nat) = 2 by decide), show (1 : Nat) ≤ 2 by decide, ha, hb, hf⟩
            by_cases hp : pos < len
            · exact Or.inr (Classical.byContradiction fun z => e ⟨hp, z⟩)
            · exact Or.inl hp
/-- an item that can stand -/
def q_iok (it : q_It) : Prop := q_rng it.1 0 4 ∧ q_rng it.2.1 0 9 ∧ q_rng it.2.2.1 0 255 ∧ q_rng it.2.2.2.1 0 255 ∧ q_rng it.2.2.2.2.1 0 9 ∧ q_nameok it.2.2.2.2.2
theorem q_rng_nI {v m : Nat} (h : v ≤ m) (hm : m < 2 ^ 31) : q_rng (nI v) 0 (m : Int) := ⟨by rw [nI_toInt (by omega)]; omega, by rw [nI_toInt (by omega)]; omega⟩
theorem q_nbs_ok {sg : Nat → Int32} {pos : Nat} (h : (q_nbs sg pos).1 = 1) : (q_nbs sg pos).2.2.1 ≤ 4 ∧ (q_nbs sg pos).2.2.2 ≤ 9 := by
  unfold q_nbs at h ⊢
  cases hv : q_dgt (sg pos) 4 with
  | none => rw [hv] at h; exact absurd h (show ¬ (0 : Nat) = 1 by decide)
  | some kd =>
    rw [hv] at h
    dsimp only at h ⊢
    by_cases e : sg (pos + 1) = 32
    · rw [if_pos e] at h ⊢
      cases hw : q_dgt (sg (pos + 1 + 1)) 9 with
      | none => rw [hw] at h; exact absurd h (show ¬ (0 : Nat) = 1 by decide)
      | some rk => exact ⟨(q_dgt_so (by decide) hv).2, (q_dgt_so (by decide) hw).2⟩
    · rw [if_neg e] at h; exact absurd h (show ¬ (0 : Nat) = 1 by decide)
theorem q_nmp_ok {sg : Nat → Int32} {has : Int32 → Bool} {pos : Nat} (h : (q_nmp sg has pos).1 = 1) : q_nameok (nI (q_nmp sg has pos).2.2) ∧ 1 ≤ (q_nmp sg has pos).2.2 ∧ (q_nmp sg has pos).2.2 < 531441 := by
  have q1 := q_nml_ok (sg := sg) 4 (pos + 1) 0 (by decide) (by decide)
  unfold q_nmp at h ⊢
  by_cases e1 : sg pos = 32
  · rw [if_pos e1] at h ⊢
    by_cases e2 : (q_nml sg 4 (pos + 1) 0).1 = pos + 1
    · rw [if_pos e2] at h; exact absurd h (show ¬ (0 : Nat) = 1 by decide)
    · rw [if_neg e2] at h ⊢
      have := q1.2.2.2.2 e2
      by_cases e3 : sg (q_nml sg 4 (pos + 1) 0).1 = 32
      · rw [if_pos e3] at h ⊢
        cases hx : has (nI (q_nml sg 4 (pos + 1) 0).2) with
        | true => rw [hx] at h; exact absurd h (show ¬ (0 : Nat) = 1 by decide)
        | false =>
          dsimp only
          exact ⟨⟨by rw [nI_toInt (by omega)]; omega, by rw [nI_toInt (by omega)]; omega⟩, this, q1.1⟩
      · rw [if_neg e3] at h; exact absurd h (show ¬ (0 : Nat) = 1 by decide)
  · rw [if_neg e1] at h; exact absurd h (show ¬ (0 : Nat) = 1 by decide)
theorem q_itm_ok {sg : Nat → Int32} {len pos : Nat} {full : Bool} {has : Int32 → Bool} (h : ¬ (q_itm sg len full has pos).1 = 0) : full = false ∧ q_iok (q_itm sg len full has pos).2.2 ∧ (q_itm sg len full has pos).1 ≤ 2 ∧ ((q_itm sg len full has pos).1 = 1 → ¬ (q_itm sg len full has pos).2.1 < len ∨ sg (q_itm sg len full has pos).2.1 = 59) ∧ ((q_itm sg len full has pos).1 = 2 → (q_itm sg len full has pos).2.1 < len ∧ ¬ sg (q_itm sg len full has pos).2.1 = 59) := by
  unfold q_itm at h ⊢
  cases hw : q_wd4 sg pos with
  | some p => rw [hw] at h; exact absurd rfl h
  | none =>
    rw [hw] at h
    cases full with
    | true => exact absurd rfl h
    | false =>
      dsimp only at h ⊢
      by_cases e1 : (q_nmp sg has (pos + 4)).1 = 1
      · rw [if_pos e1] at h ⊢
        by_cases e2 : (q_nbs sg (q_nmp sg has (pos + 4)).2.1).1 = 1
        · rw [if_pos e2] at h ⊢
          obtain ⟨u1, u2, u3, u4, u5, u6⟩ := q_mks_ok (sg := sg) (len := len) (len + 1) (q_nbs sg (q_nmp sg has (pos + 4)).2.1).2.1 0 0 0 ⟨by decide, by decide⟩ ⟨by decide, by decide⟩ (by decide)
          exact ⟨rfl, ⟨q_rng_nI (m := 4) (q_nbs_ok e2).1 (by decide), q_rng_nI (m := 9) (q_nbs_ok e2).2 (by decide), u4, u5, q_rng_nI (m := 9) u6 (by decide), (q_nmp_ok e1).1⟩, u3, u1, u2⟩
        · rw [if_neg e2] at h; exact absurd rfl h
      · rw [if_neg e1] at h; exact absurd rfl h
def q_ic (F : Nat → Nat → Int32) (o : Nat) (it : q_It) : Prop := F o 0 = it.1 ∧ F o 1 = it.2.1 ∧ F o 2 = it.2.2.1 ∧ F o 3 = it.2.2.2.1 ∧ F o 4 = it.2.2.2.2.1 ∧ F o 5 = it.2.2.2.2.2 ∧ F o 8 = 0 ∧ F o 9 = 0 ∧ F o 10 = -1
def q_fsc (I F : Nat → Nat → Int32) : Prop := ∀ a, a ≠ 94 → ¬ (98 ≤ a ∧ a < 110) → F a = I a
section TXT5
variable {L d : Nat} {J : Nat → Nat → Int64}
theorem w_begin0 {I : Nat → Nat → Int32} {Q : Value → q_Mem → Prop} {t o : Nat} (ho : q_isO (q_SH L) o 5 = true) (hQ : ∀ F, (∀ a, a ≠ o → F a = I a) → F o 0 = 0 → F o 1 = 0 → F o 2 = 0 → F o 3 = 0 → F o 4 = 0 → F o 5 = 0 → F o 8 = 0 → F o 9 = 0 → F o 10 = -1 → Q .null (q_mm L F J t)) : q_W (d + 3) 38 [.ref o, .int 0, .int 0, .int 0, .int 0, .int 0, .int 0] (q_mm L I J t) Q := by
  rw [e_Plug_begin]
  simp only [ho, q_onI_i, q_onJ_j, q_onS_s, q_onB_t, true_and, and_true, true_or, or_true, eq_self, true_implies, not_true_eq_false, not_false_eq_true, false_implies, q_bb0, q_bbok, q_bbok2, Bool.true_eq_false, Bool.false_eq_true, reduceCtorEq, s_strG ho, g_Plug_begin_38, s_letG ho, g_Plug_begin_46]
  refine hQ _ (fun a h => ?_) ?_ ?_ ?_ ?_ ?_ ?_ ?_ ?_ ?_
  · repeat rw [q_u_ne h]
  all_goals (repeat (first | rw [q_u_eq] | rw [q_u_nk (by decide)]))
theorem w_item {I : Nat → Nat → Int32} {Q : Value → q_Mem → Prop} {s len pos n cnt : Nat} {has : Int32 → Bool} {r : Nat × Nat × q_It} (ha : q_at I s len pos) (hn : I 3 2 = nI n) (hc : I 94 2 = nI cnt) (hcn : n + cnt ≤ 12) (hh : ∀ x, has x = (q_any (fun p => !decide (I (6 + p) 9 = 3) && decide (I (6 + p) 5 = x)) 0 n || q_any (fun i => decide (I (98 + i) 5 = x)) 0 cnt)) (hr : q_itm (q_sg J s len) len (decide (12 ≤ n + cnt)) has pos = r) (hT : r.1 = 1 → ∀ F, q_fsc I F → (∀ i, i < cnt → F (98 + i) = I (98 + i)) → F 94 5 = I 94 5 → F 94 2 = nI (cnt + 1) → q_at F s len r.2.1 → q_ic F (98 + cnt) r.2.2 → Q (.int 1) (q_mm L F J (114 + 2 * s))) (hF : ¬ r.1 = 1 → ∀ F, q_fsc I F → F 94 5 = nI r.2.1 → Q (.int 0) (q_mm L F J (114 + 2 * s))) : q_W (d + 7) 60 [.ref 94] (q_mm L I J (114 + 2 * s)) Q := by
  unfold q_itm at hr
  refine w_word (d := d + 3) ha (fun hw F f1 a1 => ?_) (fun p hw F f1 => ?_)
  · rw [hw] at hr
    dsimp only at hr
    rw [g_TextReader_readItem_38, q_brn (by decide), f1.1 3 (by decide), hn, f1.2.1 2 (by decide), hc, q_add, show (12 : Int32) = nI 12 by decide, q_ltN (by omega) (by decide)]
    by_cases hfull : n + cnt < 12
    · rw [decide_eq_false (by omega)] at hr
      dsimp only at hr
      have hcc : cnt < 12 := by omega
      have ho : q_isO (q_SH L) (98 + cnt) 5 = true := i_item hcc
      rw [q_br hfull]
      simp only [q_clamp (show cnt < 2 ^ 31 by omega), q_bnd hcc (by decide), r_item hcc, ho, q_onI_i, q_onJ_j, q_onS_s, q_onB_t, true_and, and_true, true_or, or_true, eq_self, true_implies, not_true_eq_false, not_false_eq_true, false_implies, q_bb0, q_bbok, q_bbok2, Bool.true_eq_false, Bool.false_eq_true, reduceCtorEq]
      refine w_begin0 (d := d + 3) ho (fun G g1 z0 z1 z2 z3 z4 z5 z8 z9 z10 => ?_)
      have g0 : q_fro F G (98 + cnt) := ⟨fun a h1 h2 => g1 a h2, by rw [g1 94 (by omega)], by rw [g1 94 (by omega)]⟩
      have a2 : q_at G s len (pos + 4) := q_at_o a1 g0 (by omega) (by rw [g1 94 (by omega)]; exact a1.1) a1.2.2.2.2
      have w0 := q_fro_t (q_fat_o (o := 98 + cnt) f1) g0
      have hfin : ∀ K, q_ffo I K (98 + cnt) r.2.1 → q_fsc I K := fun K k1 a x y => k1.1 a x (by omega)
      rw [g_TextReader_readItem_86]
      refine w_name (d := d + 2) (n := n) (cnt := cnt) (has := has) ho (by omega) (by omega) (by omega) a2 z5 (by rw [w0.1 3 (by decide) (by omega)]; exact hn) (by omega) (by rw [w0.2.1]; exact hc) (by omega) (fun i hi => by omega) (fun x => ?_) (fun e1 F2 f2 a3 n5 n6 => ?_) (fun e1 F2 f2 => ?_)
      · rw [hh]
        congr 1
        · exact q_any_congr n 0 fun p _ hp => by rw [w0.1 _ (by omega) (by omega)]
        · exact q_any_congr cnt 0 fun p _ hp => by rw [w0.1 _ (by omega) (by omega)]
      · rw [if_pos e1] at hr
        have w1 := q_fro_t w0 f2
        rw [q_onI_i, g_TextReader_readItem_91, q_brn (by decide)]
        refine w_nums (d := d + 2) ho (by omega) (by omega) a3 (fun e2 F3 f3 a4 n0 n1 n7 => ?_) (fun e2 F3 f3 => ?_)
        · rw [if_pos e2] at hr
          have w2 := q_fro_t w1 f3
          rw [q_onI_i, g_TextReader_readItem_99, q_brn (by decide), e_TextReader_readMarks, show (0 : Int32) = nI 0 by decide]
          refine l_Cmks (d := d) ho (by omega) (by omega) (len + 1) 0 _ 0 0 0 F3 _ (by omega) (Nat.zero_le _) a4 ?_ ?_ ?_ (by decide) rfl (fun e3 F4 f4 a5 p2 p3 p4 p5 => ?_) (fun e3 F4 f4 => ?_)
          · rw [n7 2 (by decide) (by decide), n6 2 (by decide), z2]
          · rw [n7 3 (by decide) (by decide), n6 3 (by decide), z3]
          · rw [n7 4 (by decide) (by decide), n6 4 (by decide), z4]; rfl
          · have w3 := q_fro_t w2 f4
            rw [q_onI_i, g_TextReader_readItem_107, q_brn (by decide), w3.2.1, hc, q_n1]
            subst hr
            refine ⟨Or.inr rfl, hT e3 _ (fun a h1 h2 => ?_) (fun i hi => ?_) ?_ q_u_eq ?_ ⟨?_, ?_, ?_, ?_, ?_, ?_, ?_, ?_, ?_⟩⟩
            · rw [q_u_ne h1, w3.1 a h1 (by omega)]
            · rw [q_u_ne (by omega), w3.1 _ (by omega) (by omega)]
            · rw [q_u_nk (by decide), w3.2.2]
            · exact ⟨by rw [q_u_nk (by decide)]; exact a5.1, by rw [q_u_ne (by omega)]; exact a5.2.1, a5.2.2⟩
            · rw [q_u_ne (by omega), p5 0 (by decide) (by decide) (by decide), n0]
            · rw [q_u_ne (by omega), p5 1 (by decide) (by decide) (by decide), n1]
            · rw [q_u_ne (by omega), p2]
            · rw [q_u_ne (by omega), p3]
            · rw [q_u_ne (by omega), p4]
            · rw [q_u_ne (by omega), p5 5 (by decide) (by decide) (by decide), n7 5 (by decide) (by decide), n5]
            · rw [q_u_ne (by omega), p5 8 (by decide) (by decide) (by decide), n7 8 (by decide) (by decide), n6 8 (by decide), z8]
            · rw [q_u_ne (by omega), p5 9 (by decide) (by decide) (by decide), n7 9 (by decide) (by decide), n6 9 (by decide), z9]
            · rw [q_u_ne (by omega), p5 10 (by decide) (by decide) (by decide), n7 10 (by decide) (by decide), n6 10 (by decide), z10]
          · rw [q_onI_i, g_TextReader_readItem_107, q_br rfl]
            subst hr
            exact ⟨Or.inl rfl, hF e3 _ (hfin _ (q_fro_f w2 f4)) f4.2⟩
        · rw [if_neg e2] at hr
          rw [q_onI_i, g_TextReader_readItem_99, q_br rfl]
          subst hr
          exact ⟨Or.inl rfl, hF (show ¬ (0 : Nat) = 1 by decide) _ (hfin _ (q_fro_f w1 f3)) f3.2⟩
      · rw [if_neg e1] at hr
        rw [q_onI_i, g_TextReader_readItem_91, q_br rfl]
        subst hr
        exact ⟨Or.inl rfl, hF (show ¬ (0 : Nat) = 1 by decide) _ (hfin _ (q_fro_f w0 f2)) f2.2⟩
    · rw [decide_eq_true (by omega)] at hr
      dsimp only at hr
      rw [q_brn hfull, s_failAt, q_onI_i, g_TextReader_readItem_65]
      subst hr
      exact ⟨Or.inl rfl, hF (show ¬ (0 : Nat) = 1 by decide) _ (fun a h1 _ => by rw [q_u_ne h1, f1.1 a h1]) q_u_eq⟩
  · rw [hw] at hr
    dsimp only at hr
    subst hr
    exact hF (show ¬ (0 : Nat) = 1 by decide) _ (fun a h1 _ => f1.1 a h1) f1.2
end TXT5
