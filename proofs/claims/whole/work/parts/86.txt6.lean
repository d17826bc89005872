/-! texts: the class's whole text, its new plugs -/
def q_rdi (sg : Nat → Int32) (len n : Nat) (hh : Int32 → Bool) (pos cnt : Nat) (f : Nat → q_It) : Nat × Nat × q_It := q_itm sg len (decide (12 ≤ n + cnt)) (fun x => hh x || q_any (fun i => decide ((f i).2.2.2.2.2 = x)) 0 cnt) pos
def q_ups (f : Nat → q_It) (c : Nat) (x : q_It) : Nat → q_It := fun j => if j = c then x else f j
def q_rd (sg : Nat → Int32) (len n : Nat) (hh : Int32 → Bool) : Nat → Nat → Nat → (Nat → q_It) → Nat × Nat × Nat × (Nat → q_It)
  | 0, pos, cnt, f => (0, pos, cnt, f)
  | k + 1, pos, cnt, f => if (q_rdi sg len n hh pos cnt f).1 = 1 then (if (q_rdi sg len n hh pos cnt f).2.1 < len then q_rd sg len n hh k ((q_rdi sg len n hh pos cnt f).2.1 + 1) (cnt + 1) (q_ups f cnt (q_rdi sg len n hh pos cnt f).2.2) else (1, (q_rdi sg len n hh pos cnt f).2.1, cnt + 1, q_ups f cnt (q_rdi sg len n hh pos cnt f).2.2)) else (0, (q_rdi sg len n hh pos cnt f).2.1, cnt, f)
/-- the class's reading, after cnt items -/
def q_cst (I : Nat → Nat → Int32) (s len n : Nat) (hh : Int32 → Bool) (pos cnt : Nat) (f : Nat → q_It) : Prop := q_at I s len pos ∧ I 3 2 = nI n ∧ I 94 2 = nI cnt ∧ n + cnt ≤ 12 ∧ (∀ x, hh x = q_any (fun p => !decide (I (6 + p) 9 = 3) && decide (I (6 + p) 5 = x)) 0 n) ∧ ∀ i, i < cnt → q_ic I (98 + i) (f i)
theorem q_fsc_t {I F G : Nat → Nat → Int32} (h : q_fsc I F) (h2 : q_fsc F G) : q_fsc I G := fun a x y => (h2 a x y).trans (h a x y)
theorem q_cst_rdi {I : Nat → Nat → Int32} {s len n pos cnt : Nat} {hh : Int32 → Bool} {f : Nat → q_It} (h : q_cst I s len n hh pos cnt f) : ∀ x, (hh x || q_any (fun i => decide ((f i).2.2.2.2.2 = x)) 0 cnt) = (q_any (fun p => !decide (I (6 + p) 9 = 3) && decide (I (6 + p) 5 = x)) 0 n || q_any (fun i => decide (I (98 + i) 5 = x)) 0 cnt) := by
  intro x
  obtain ⟨ha, hn, hc, hcn, h1, h2⟩ := h
  rw [h1]
  congr 1
  exact q_any_congr cnt 0 fun p _ hp => by rw [(h2 p (by omega)).2.2.2.2.2.1]
theorem q_ic_c {I F : Nat → Nat → Int32} {o : Nat} {it : q_It} (e : F o = I o) (h : q_ic I o it) : q_ic F o it := by
  unfold q_ic at h ⊢
  rw [e]
  exact h
theorem q_cst_next {I G : Nat → Nat → Int32} {s len n pos p cnt : Nat} {hh : Int32 → Bool} {f : Nat → q_It} {it : q_It} (h : q_cst I s len n hh pos cnt f) (hf : q_fsc I G) (hi : ∀ i, i < cnt → G (98 + i) = I (98 + i)) (hc : G 94 2 = nI (cnt + 1)) (ha : q_at G s len p) (hx : q_ic G (98 + cnt) it) (hl : n + (cnt + 1) ≤ 12) : q_cst G s len n hh p (cnt + 1) (q_ups f cnt it) := by
  obtain ⟨-, h2, h3, h4, h5, h6⟩ := h
  refine ⟨ha, by rw [hf 3 (by decide) (by decide)]; exact h2, hc, hl, fun x => ?_, fun i hi2 => ?_⟩
  · rw [h5]
    exact q_any_congr n 0 fun p _ hp => by rw [hf _ (by omega) (by omega)]
  · unfold q_ups
    by_cases e : i = cnt
    · rw [if_pos e, e]
      exact hx
    · rw [if_neg e]
      exact q_ic_c (hi i (by omega)) (h6 i (by omega))
section TXT6
variable {L d : Nat} {J : Nat → Nat → Int64}
theorem l_Cps0 {rt : Value → q_Mem → Nat → Nat → Prop} {I : Nat → Nat → Int32} {t o1 : Nat} {y x : Int32} (h5 : I 94 5 = x) : q_X (q_W d) rt 58 (27, [some (.ref 94), some (.ref o1), some (.int 0), some (.int y)], [], (q_mm L I J t), 0, 0) = rt (.int x) (q_mm L I J t) 0 0 := by
  rw [g_TextReader_parse_27, h5]
  by_cases e : 160 ≤ y
  · rw [q_br e]
  · rw [q_brn e, q_br rfl]
theorem l_C27 {rt : Value → q_Mem → Nat → Nat → Prop} {s len n o1 : Nat} {hh : Int32 → Bool} : ∀ (k pos cnt i : Nat) (f : Nat → q_It) (I : Nat → Nat → Int32) (r : Nat × Nat × Nat × (Nat → q_It)), cnt + k = 13 → i + 1 = cnt → q_cst I s len n hh pos cnt f → I 94 5 = -1 → (¬ pos < len ∨ q_sg J s len pos = 59) → (if pos < len then q_rd (q_sg J s len) len n hh k (pos + 1) cnt f else (1, pos, cnt, f)) = r → (r.1 = 1 → ∀ F, q_fsc I F → F 94 2 = nI r.2.2.1 → n + r.2.2.1 ≤ 12 → (∀ i, i < r.2.2.1 → q_ic F (98 + i) (r.2.2.2 i)) → rt (.int (-1)) (q_mm L F J (114 + 2 * s)) 0 0) → (¬ r.1 = 1 → ∀ F, q_fsc I F → rt (.int (nI r.2.1)) (q_mm L F J (114 + 2 * s)) 0 0) → q_X (q_W (d + 7)) rt 58 (27, [some (.ref 94), some (.ref o1), some (.int 1), some (.int (nI i))], [], q_mm L I J (114 + 2 * s), 0, 0)
  | 0, pos, cnt, i, f, I, r, hk, hi, hc, h5, he, hr, hT, hF => by
    have := hc.2.2.2.1
    omega
  | k + 1, pos, cnt, i, f, I, r, hk, hi, hc, h5, he, hr, hT, hF => by
    have ha := hc.1
    have hlen := ha.2.2.2.1
    have hpl := ha.2.2.2.2
    have hs := ha.2.2.1
    have hcn := hc.2.2.2.1
    rw [g_TextReader_parse_27, show (160 : Int32) = nI 160 by decide, q_leN (by decide) (by omega), q_brn (by omega), q_brn (by decide), i_shelf hs, q_onB_t, ha.2.1, ha.1, q_leN (by omega) (by omega)]
    by_cases hp : pos < len
    · rw [if_pos hp] at hr
      have e59 : q_sg J s len pos = 59 := he.resolve_left (fun z => z hp)
      rw [q_brn (by omega)]
      refine w_take (d := d + 4) (by decide) ha (fun e1 F f1 a1 => ?_) (fun e1 F f1 => absurd e59 e1)
      have hc1 : q_cst F s len n hh (pos + 1) cnt f := by
        obtain ⟨-, h2, h3, h4, h5, h6⟩ := hc
        refine ⟨a1, by rw [f1.1 3 (by decide)]; exact h2, by rw [f1.2.1 2 (by decide)]; exact h3, h4, fun x => ?_, fun i hi2 => q_ic_c (f1.1 _ (by omega)) (h6 i hi2)⟩
        rw [h5]
        exact q_any_congr n 0 fun p _ hp => by rw [f1.1 _ (by omega)]
      have f0 : q_fsc I F := fun a x _ => f1.1 a x
      unfold q_rd at hr
      rw [q_onI_i, g_TextReader_parse_58, q_brn (by decide)]
      refine w_item (d := d) a1 hc1.2.1 hc1.2.2.1 hcn (q_cst_rdi hc1) (r := q_rdi (q_sg J s len) len n hh (pos + 1) cnt f) rfl (fun e2 G g1 g2 g3 g4 g5 g6 => ?_) (fun e2 G g1 g2 => ?_)
      · rw [if_pos e2] at hr
        obtain ⟨o1, o2, o3, o4, o5⟩ := q_itm_ok (sg := q_sg J s len) (len := len) (pos := pos + 1) (full := decide (12 ≤ n + cnt)) (has := fun x => hh x || q_any (fun i => decide ((f i).2.2.2.2.2 = x)) 0 cnt) (fun z => absurd (e2.symm.trans z) (by decide))
        have hnc : n + cnt < 12 := by have := of_decide_eq_false o1; omega
        rw [q_onI_i, g_TextReader_parse_65, q_brn (by decide), q_n1]
        refine l_C27 k (q_rdi (q_sg J s len) len n hh (pos + 1) cnt f).2.1 (cnt + 1) (i + 1) _ G r (by omega) (by omega) (q_cst_next hc1 g1 g2 g4 g5 g6 (by omega)) (by rw [g3, f1.2.1 5 (by decide)]; exact h5) (o4 e2) hr (fun hr1 H h1 h2 h3 => hT hr1 H (q_fsc_t (q_fsc_t f0 g1) h1) h2 h3) (fun hr1 H h1 => hF hr1 H (q_fsc_t (q_fsc_t f0 g1) h1))
      · rw [if_neg e2] at hr
        rw [q_onI_i, g_TextReader_parse_65, q_br rfl, l_Cps0 g2]
        subst hr
        exact hF (show ¬ (0 : Nat) = 1 by decide) G (q_fsc_t f0 g1)
    · rw [if_neg hp] at hr
      subst hr
      rw [q_br (by omega), h5]
      exact hT rfl I (fun _ _ _ => rfl) hc.2.2.1 hcn hc.2.2.2.2.2
theorem w_parse {I : Nat → Nat → Int32} {Q : Value → q_Mem → Prop} {t s len n : Nat} {hh : Int32 → Bool} {f : Nat → q_It} (hs : s < 8) (hlen : len ≤ 160) (hl : I (114 + 2 * s) 2 = nI len) (hn : I 3 2 = nI n) (h12 : n ≤ 12) (hx : ∀ x, hh x = q_any (fun p => !decide (I (6 + p) 9 = 3) && decide (I (6 + p) 5 = x)) 0 n) {r : Nat × Nat × Nat × (Nat → q_It)} (hr : q_rd (q_sg J s len) len n hh 13 0 0 f = r) (hT : r.1 = 1 → ∀ F, q_fsc I F → F 94 2 = nI r.2.2.1 → n + r.2.2.1 ≤ 12 → (∀ i, i < r.2.2.1 → q_ic F (98 + i) (r.2.2.2 i)) → Q (.int (-1)) (q_mm L F J (114 + 2 * s))) (hF : ¬ r.1 = 1 → ∀ F, q_fsc I F → Q (.int (nI r.2.1)) (q_mm L F J (114 + 2 * s))) : q_W (d + 8) 58 [.ref 94, .ref (114 + 2 * s)] (q_mm L I J t) Q := by
  have hb : Nat.blt (114 + 2 * s) 148 = true := Nat.ble_eq.mpr (by omega)
  rw [e_TextReader_parse, hb, q_onB_t, q_sR_mm, g_TextReader_parse_5]
  obtain ⟨F, hFe⟩ : ∃ F, F = q_u (q_u (q_u I 94 2 0) 94 4 0) 94 5 (-1) := ⟨_, rfl⟩
  rw [← hFe]
  have f0 : q_fsc I F := fun a x _ => by rw [hFe, q_u_ne x, q_u_ne x, q_u_ne x]
  have ho : ∀ a, a ≠ 94 → F a = I a := fun a x => by rw [hFe, q_u_ne x, q_u_ne x, q_u_ne x]
  have u2 : F 94 2 = nI 0 := by rw [hFe, q_u_nk (by decide), q_u_nk (by decide), q_u_eq]; rfl
  have u4 : F 94 4 = nI 0 := by rw [hFe, q_u_nk (by decide), q_u_eq]; rfl
  have u5 : F 94 5 = -1 := by rw [hFe, q_u_eq]
  have hc : q_cst F s len n hh 0 0 f := by
    refine ⟨⟨u4, by rw [ho _ (by omega)]; exact hl, hs, hlen, Nat.zero_le _⟩, by rw [ho 3 (by decide)]; exact hn, u2, h12, fun x => ?_, fun i hi => absurd hi (by omega)⟩
    rw [hx]
    exact q_any_congr n 0 fun p _ hp => by rw [ho _ (by omega)]
  unfold q_rd at hr
  refine w_item (d := d) hc.1 hc.2.1 hc.2.2.1 hc.2.2.2.1 (q_cst_rdi hc) (r := q_rdi (q_sg J s len) len n hh 0 0 f) rfl (fun e2 G g1 g2 g3 g4 g5 g6 => ?_) (fun e2 G g1 g2 => ?_)
  · rw [if_pos e2] at hr
    obtain ⟨o1, o2, o3, o4, o5⟩ := q_itm_ok (sg := q_sg J s len) (len := len) (pos := 0) (full := decide (12 ≤ n + 0)) (has := fun x => hh x || q_any (fun i => decide ((f i).2.2.2.2.2 = x)) 0 0) (fun z => absurd (e2.symm.trans z) (by decide))
    have hnc : n + 0 < 12 := by have := of_decide_eq_false o1; omega
    rw [q_onI_i, g_TextReader_parse_24, show (0 : Int32) = nI 0 by decide]
    exact l_C27 12 (q_rdi (q_sg J s len) len n hh 0 0 f).2.1 (0 + 1) 0 _ G r (by omega) (by omega) (q_cst_next hc g1 g2 g4 g5 g6 (by omega)) (by rw [g3]; exact u5) (o4 e2) hr (fun hr1 H h1 h2 h3 => hT hr1 H (q_fsc_t (q_fsc_t f0 g1) h1) h2 h3) (fun hr1 H h1 => hF hr1 H (q_fsc_t (q_fsc_t f0 g1) h1))
  · rw [if_neg e2] at hr
    rw [q_onI_i, g_TextReader_parse_24, l_Cps0 g2]
    subst hr
    exact hF (show ¬ (0 : Nat) = 1 by decide) G (q_fsc_t f0 g1)
theorem l_Cadd {rt : Value → q_Mem → Nat → Nat → Prop} {t n cnt : Nat} (hcn : n + cnt ≤ 12) : ∀ (k i : Nat) (I : Nat → Nat → Int32), i + k = cnt → I 94 2 = nI cnt → I 3 2 = nI (n + i) → (∀ F, (∀ a, a ≠ 3 → (∀ j, i ≤ j → j < cnt → a ≠ 6 + (n + j)) → F a = I a) → (∀ x, x ≠ 2 → F 3 x = I 3 x) → F 3 2 = nI (n + cnt) → (∀ j, i ≤ j → j < cnt → q_cpP I F (6 + (n + j)) (98 + j)) → rt (.int (nI cnt)) (q_mm L F J t) 0 0) → q_X (q_W (d + 4)) rt 59 (4, [some (.ref 94), some (.int (nI i)), some (.int (nI i))], [], (q_mm L I J t), 0, 0)
  | 0, i, I, h, hc, hn, hQ => by
    obtain rfl : i = cnt := h
    rw [g_TextReader_addItems_4, hc, q_leN (by omega) (by omega), q_br (by omega)]
    exact hQ I (fun _ _ _ => rfl) (fun _ _ => rfl) hn (fun j a b => absurd a (by omega))
  | k + 1, i, I, h, hc, hn, hQ => by
    obtain ⟨F, f1, f2, f3⟩ := s_takePlug (L := L) (d := d) (J := J) (t := t) (I := I) (i_plug (show n + i < 12 by omega)) (i_item (show i < 12 by omega)) (show 98 + i ≠ 6 + (n + i) by omega)
    rw [g_TextReader_addItems_4, hc, q_leN (by omega) (by omega), q_brn (by omega), hn, show (12 : Int32) = nI 12 by decide, q_leN (by decide) (by omega), q_brn (by omega)]
    simp only [q_clamp (show n + i < 2 ^ 31 by omega), q_bnd (show n + i < 12 by omega) (by decide), r_plug (show n + i < 12 by omega), q_clamp (show i < 2 ^ 31 by omega), q_bnd (show i < 12 by omega) (by decide), r_item (show i < 12 by omega), i_plug (show n + i < 12 by omega), q_onI_i, q_onJ_j, q_onS_s, q_onB_t, true_and, and_true, true_or, or_true, eq_self, true_implies, not_true_eq_false, not_false_eq_true, false_implies, q_bb0, q_bbok, q_bbok2, Bool.true_eq_false, Bool.false_eq_true, reduceCtorEq]
    rw [f1, g_TextReader_addItems_48, f2 3 (by omega), hn, q_n1, q_n1]
    refine l_Cadd hcn k (i + 1) _ (by omega) (by rw [q_u_ne (by decide), f2 94 (by omega)]; exact hc) (by rw [q_u_eq]; rfl) (fun G g1 g2 g3 g4 => ?_)
    refine hQ G (fun a h1 h2 => ?_) (fun x hx => ?_) g3 (fun j j1 j2 => ?_)
    · rw [g1 a h1 (fun j j1 j2 => h2 j (by omega) j2), q_u_ne h1, f2 a (h2 i (by omega) (by omega))]
    · rw [g2 x hx, q_u_nk hx, f2 3 (by omega)]
    · by_cases e : j = i
      · subst e
        unfold q_cpP at f3 ⊢
        rw [g1 (6 + (n + j)) (by omega) (fun j' x y => by omega), q_u_ne (by omega)]
        exact f3
      · have := g4 j (by omega) j2
        unfold q_cpP at this ⊢
        rw [q_u_ne (show 98 + j ≠ 3 by omega), f2 (98 + j) (by omega)] at this
        exact this
end TXT6
