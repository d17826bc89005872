/-! texts: pure bounds; the model's whole text -/
theorem q_sg_m {J : Nat → Nat → Int64} {s len p : Nat} (h : ¬ q_sg J s len p = -1) : p < len := by
  unfold q_sg at h
  by_cases e : p < len
  · exact e
  · rw [if_neg e] at h
    exact absurd rfl h
theorem q_dgt_m {x : Int32} {m v : Nat} (hm : m ≤ 9) (h : q_dgt x m = some v) : ¬ x = -1 := by
  obtain ⟨e, hv⟩ := q_dgt_so hm h
  rw [e]
  exact q_nIm1 (by omega)
theorem q_mks_len {sg : Nat → Int32} {len : Nat} (hg : ∀ p, ¬ sg p = -1 → p < len) : ∀ (k pos : Nat) (a b : Int32) (f : Nat), pos ≤ len → (q_mks sg len k pos a b f).2.1 ≤ len
  | 0, pos, a, b, f, h => h
  | k + 1, pos, a, b, f, h => by
    unfold q_mks
    by_cases e33 : sg pos = 33
    · rw [if_pos e33]
      by_cases e9 : f < 9
      · rw [if_pos e9]
        exact q_mks_len hg k _ _ _ _ (hg pos (by rw [e33]; decide))
      · rw [if_neg e9]
        exact h
    · rw [if_neg e33]
      by_cases e45 : sg pos = 45
      · have hp := hg pos (by rw [e45]; decide)
        rw [if_pos e45]
        cases hv : q_dgt (sg (pos + 1)) 7 with
        | none => exact hp
        | some v => exact q_mks_len hg k _ _ _ _ (hg _ (q_dgt_m (by decide) hv))
      · rw [if_neg e45]
        by_cases e43 : sg pos = 43
        · have hp := hg pos (by rw [e43]; decide)
          rw [if_pos e43]
          cases hv : q_dgt (sg (pos + 1)) 7 with
          | none => exact hp
          | some v => exact q_mks_len hg k _ _ _ _ (hg _ (q_dgt_m (by decide) hv))
        · rw [if_neg e43]
          by_cases e : pos < len ∧ ¬ sg pos = 59
          · rw [if_pos e]; exact h
          · rw [if_neg e]; exact h
theorem q_wd4_len {sg : Nat → Int32} {len pos p : Nat} (hg : ∀ p, ¬ sg p = -1 → p < len) (h : pos ≤ len) (hw : q_wd4 sg pos = some p) : p ≤ len := by
  unfold q_wd4 at hw
  by_cases e1 : sg pos = 112
  · have h1 := hg pos (by rw [e1]; decide)
    rw [if_pos e1] at hw
    by_cases e2 : sg (pos + 1) = 108
    · have h2 := hg (pos + 1) (by rw [e2]; decide)
      rw [if_pos e2] at hw
      by_cases e3 : sg (pos + 1 + 1) = 117
      · have h3 := hg (pos + 1 + 1) (by rw [e3]; decide)
        rw [if_pos e3] at hw
        by_cases e4 : sg (pos + 1 + 1 + 1) = 103
        · rw [if_pos e4] at hw
          exact absurd hw (by simp)
        · rw [if_neg e4] at hw
          injection hw with hw
          omega
      · rw [if_neg e3] at hw
        injection hw with hw
        omega
    · rw [if_neg e2] at hw
      injection hw with hw
      omega
  · rw [if_neg e1] at hw
    injection hw with hw
    omega
theorem q_wd4_no {sg : Nat → Int32} {len pos : Nat} (hg : ∀ p, ¬ sg p = -1 → p < len) (hw : q_wd4 sg pos = none) : pos + 4 ≤ len := by
  unfold q_wd4 at hw
  by_cases e1 : sg pos = 112
  · rw [if_pos e1] at hw
    by_cases e2 : sg (pos + 1) = 108
    · rw [if_pos e2] at hw
      by_cases e3 : sg (pos + 1 + 1) = 117
      · rw [if_pos e3] at hw
        by_cases e4 : sg (pos + 1 + 1 + 1) = 103
        · exact hg (pos + 1 + 1 + 1) (by rw [e4]; decide)
        · rw [if_neg e4] at hw; exact absurd hw (by simp)
      · rw [if_neg e3] at hw; exact absurd hw (by simp)
    · rw [if_neg e2] at hw; exact absurd hw (by simp)
  · rw [if_neg e1] at hw; exact absurd hw (by simp)
theorem q_nbs_len {sg : Nat → Int32} {len pos : Nat} (hg : ∀ p, ¬ sg p = -1 → p < len) (h : pos ≤ len) : (q_nbs sg pos).2.1 ≤ len := by
  unfold q_nbs
  cases hv : q_dgt (sg pos) 4 with
  | none => exact h
  | some kd =>
    have h1 := hg pos (q_dgt_m (by decide) hv)
    dsimp only
    by_cases e : sg (pos + 1) = 32
    · have h2 := hg (pos + 1) (by rw [e]; decide)
      rw [if_pos e]
      cases hw : q_dgt (sg (pos + 1 + 1)) 9 with
      | none => exact h2
      | some rk => exact hg _ (q_dgt_m (by decide) hw)
    · rw [if_neg e]
      exact h1
theorem q_nmp_len {J : Nat → Nat → Int64} {s len pos : Nat} {has : Int32 → Bool} (h : pos ≤ len) : (q_nmp (q_sg J s len) has pos).2.1 ≤ len := by
  unfold q_nmp
  by_cases e1 : q_sg J s len pos = 32
  · have h1 : pos < len := q_sg_m (by rw [e1]; decide)
    have q2 := q_nml_len (J := J) (s := s) (len := len) 4 (pos + 1) 0 h1
    rw [if_pos e1]
    by_cases e2 : (q_nml (q_sg J s len) 4 (pos + 1) 0).1 = pos + 1
    · rw [if_pos e2]; exact h1
    · rw [if_neg e2]
      by_cases e3 : q_sg J s len (q_nml (q_sg J s len) 4 (pos + 1) 0).1 = 32
      · have h3 : (q_nml (q_sg J s len) 4 (pos + 1) 0).1 < len := q_sg_m (by rw [e3]; decide)
        rw [if_pos e3]
        cases hx : has (nI (q_nml (q_sg J s len) 4 (pos + 1) 0).2) with
        | true => exact h1
        | false => exact h3
      · rw [if_neg e3]; exact q2
  · rw [if_neg e1]; exact h
theorem q_itm_len {J : Nat → Nat → Int64} {s len pos : Nat} {full : Bool} {has : Int32 → Bool} (h : pos ≤ len) : (q_itm (q_sg J s len) len full has pos).2.1 ≤ len := by
  have hg : ∀ p, ¬ q_sg J s len p = -1 → p < len := fun p => q_sg_m
  unfold q_itm
  cases hw : q_wd4 (q_sg J s len) pos with
  | some p => exact q_wd4_len hg h hw
  | none =>
    have h4 := q_wd4_no hg hw
    cases full with
    | true => exact h
    | false =>
      dsimp only
      have h5 := q_nmp_len (J := J) (s := s) (len := len) (has := has) h4
      by_cases e1 : (q_nmp (q_sg J s len) has (pos + 4)).1 = 1
      · rw [if_pos e1]
        have h6 := q_nbs_len hg h5
        by_cases e2 : (q_nbs (q_sg J s len) (q_nmp (q_sg J s len) has (pos + 4)).2.1).1 = 1
        · rw [if_pos e2]
          exact q_mks_len hg _ _ _ _ _ h6
        · rw [if_neg e2]; exact h6
      · rw [if_neg e1]; exact h5
theorem q_rd_ok {J : Nat → Nat → Int64} {s len n : Nat} {hh : Int32 → Bool} : ∀ (k pos cnt : Nat) (f : Nat → q_It), pos ≤ len → (∀ i, i < cnt → q_iok (f i)) → (q_rd (q_sg J s len) len n hh k pos cnt f).2.1 ≤ len ∧ ∀ i, i < (q_rd (q_sg J s len) len n hh k pos cnt f).2.2.1 → q_iok ((q_rd (q_sg J s len) len n hh k pos cnt f).2.2.2 i)
  | 0, pos, cnt, f, h, hf => ⟨h, hf⟩
  | k + 1, pos, cnt, f, h, hf => by
    unfold q_rd
    have hl : (q_rdi (q_sg J s len) len n hh pos cnt f).2.1 ≤ len := q_itm_len h
    by_cases e1 : (q_rdi (q_sg J s len) len n hh pos cnt f).1 = 1
    · rw [if_pos e1]
      have hi : q_iok (q_rdi (q_sg J s len) len n hh pos cnt f).2.2 := (q_itm_ok (sg := q_sg J s len) (len := len) (pos := pos) (full := decide (12 ≤ n + cnt)) (has := fun x => hh x || q_any (fun i => decide ((f i).2.2.2.2.2 = x)) 0 cnt) (fun z => absurd (e1.symm.trans z) (by decide))).2.1
      have hf2 : ∀ i, i < cnt + 1 → q_iok (q_ups f cnt (q_rdi (q_sg J s len) len n hh pos cnt f).2.2 i) := fun i hi2 => by
        unfold q_ups
        by_cases e : i = cnt
        · rw [if_pos e]; exact hi
        · rw [if_neg e]; exact hf i (by omega)
      by_cases e2 : (q_rdi (q_sg J s len) len n hh pos cnt f).2.1 < len
      · rw [if_pos e2]
        exact q_rd_ok k _ _ _ e2 hf2
      · rw [if_neg e2]
        exact ⟨hl, hf2⟩
    · rw [if_neg e1]
      exact ⟨hl, hf⟩
theorem q_any_add {f : Nat → Bool} : ∀ (a i b : Nat), q_any f i (a + b) = (q_any f i a || q_any f (i + a) b)
  | 0, i, b => by rw [Nat.zero_add]; rfl
  | a + 1, i, b => by
    rw [show a + 1 + b = a + b + 1 by omega, q_any_s, q_any_add a (i + 1) b, q_any_s, Bool.or_assoc, show i + 1 + a = i + (a + 1) by omega]
theorem q_any_sh {f : Nat → Bool} {n : Nat} : ∀ (k i : Nat), q_any f (n + i) k = q_any (fun j => f (n + j)) i k
  | 0, i => rfl
  | k + 1, i => by
    rw [q_any_s, q_any_s, show n + i + 1 = n + (i + 1) by omega, q_any_sh k (i + 1)]
theorem q_mfo_0 {I F : Nat → Nat → Int32} {m p : Nat} (h : q_mfo I F m) (hp : p < m) : F 131 p = I 131 p := by
  have := h.2.2 0 (by decide) p hp
  rw [show 12 * 0 + p = p by omega] at this
  exact this
theorem q_imc_fr {I F : Nat → Nat → Int32} {m p : Nat} {it : q_It} (h : q_mfo I F m) (hp : p < m) (hi : q_imc I p it) : q_imc F p it := by
  obtain ⟨i0, i1, i2, i3, i4, i5, i6, i8⟩ := hi
  exact ⟨(q_mfo_0 h hp).trans i0, (h.2.2 1 (by decide) p hp).trans i1, (h.2.2 2 (by decide) p hp).trans i2, (h.2.2 3 (by decide) p hp).trans i3, (h.2.2 4 (by decide) p hp).trans i4, (h.2.2 5 (by decide) p hp).trans i5, (h.2.2 6 (by decide) p hp).trans i6, (h.2.2 8 (by decide) p hp).trans i8⟩
theorem q_there_fr {I F : Nat → Nat → Int32} {n m : Nat} {x : Int32} (h : q_mfo I F m) (hn : n ≤ m) : q_there F n x = q_there I n x := by
  unfold q_there
  refine q_any_congr n 0 fun p _ hp => ?_
  have h6 := h.2.2 6 (by decide) p (by omega)
  rw [q_mfo_0 h (show p < m by omega), show F 131 (72 + p) = I 131 (72 + p) from h6]
/-- the model's reading, after cnt items -/
def q_mds (I : Nat → Nat → Int32) (J : Nat → Nat → Int64) (s len n : Nat) (hh : Int32 → Bool) (pos cnt : Nat) (f : Nat → q_It) : Prop := q_am I J s len pos ∧ I 130 0 = nI (n + cnt) ∧ n + cnt ≤ 12 ∧ (∀ x, hh x = q_there I n x) ∧ ∀ i, i < cnt → q_imc I (n + i) (f i)
theorem q_mds_has {I : Nat → Nat → Int32} {J : Nat → Nat → Int64} {s len n pos cnt : Nat} {hh : Int32 → Bool} {f : Nat → q_It} (h : q_mds I J s len n hh pos cnt f) (x : Int32) : (hh x || q_any (fun i => decide ((f i).2.2.2.2.2 = x)) 0 cnt) = q_there I (n + cnt) x := by
  obtain ⟨-, -, -, h1, h2⟩ := h
  rw [h1]
  unfold q_there
  rw [q_any_add n 0 cnt, show 0 + n = n + 0 by omega, q_any_sh]
  congr 1
  refine q_any_congr cnt 0 fun p _ hp => ?_
  obtain ⟨i0, i1, i2, i3, i4, i5, i6, i8⟩ := h2 p (by omega)
  rw [i0, show (72 : Nat) + (n + p) = 72 + (n + p) from rfl, i6]
  simp
/-- what the model's reading leaves: read -/
def q_mrT (I F : Nat → Nat → Int32) (n cnt : Nat) (f : Nat → q_It) : Prop := (∀ a, a ≠ 130 → a ≠ 131 → F a = I a) ∧ (∀ k, k ≠ 0 → k ≠ 9 → k ≠ 11 → F 130 k = I 130 k) ∧ F 130 9 = -1 ∧ F 130 0 = nI (n + cnt) ∧ (∀ j, j < 9 → ∀ q, q < n → F 131 (12 * j + q) = I 131 (12 * j + q)) ∧ ∀ i, i < cnt → q_imc F (n + i) (f i)
/-- refused -/
def q_mrF (I F : Nat → Nat → Int32) (n pos : Nat) : Prop := (∀ a, a ≠ 130 → a ≠ 131 → a ≠ 145 → F a = I a) ∧ (∀ k, k ≠ 0 → k ≠ 9 → k ≠ 11 → F 130 k = I 130 k) ∧ F 130 9 = nI pos ∧ F 130 0 = nI n ∧ (∀ j, j < 9 → ∀ q, q < n → F 131 (12 * j + q) = I 131 (12 * j + q)) ∧ F 145 = q_u I 145 6 (I 145 6 + 1) 145
section TXT9
variable {L d : Nat} {J : Nat → Nat → Int64} {t : Nat}
theorem l_M37e {rt : Value → q_Mem → Nat → Nat → Prop} {s len n pos : Nat} {x2 x4 : Int32} {I0 I : Nat → Nat → Int32} (ha : q_am I J s len pos) (h4 : x4 = 0 ∨ (x4 = 1 ∧ pos < len ∧ ¬ q_sg J s len pos = 59)) (h0 : q_mfo I0 I n) (hQ : ∀ F, q_mrF I0 F n pos → rt (.int (-6)) (q_mm L F J t) 0 0) : q_X (q_W (d + 4)) rt 166 (37, [some (.ref 130), some (.int (nI s)), some (.int x2), some (.int (nI n)), some (.int x4)], [], (q_mm L I J t), 0, 0) := by
  obtain ⟨F, hFe⟩ : ∃ F, F = q_u (q_u (q_u I 130 9 (I 130 11)) 130 0 (nI n)) 145 6 (q_u (q_u I 130 9 (I 130 11)) 130 0 (nI n) 145 6 + 1) := ⟨_, rfl⟩
  have hf : q_mrF I0 F n pos := by
    refine ⟨fun a h1 h2 h3 => ?_, fun k h1 h2 h3 => ?_, ?_, ?_, fun j hj q hq => ?_, ?_⟩
    · rw [hFe, q_u_ne h3, q_u_ne h1, q_u_ne h1]
      exact h0.1 a h1 h2
    · rw [hFe, q_u_ne (by decide), q_u_nk h1, q_u_nk h2]
      exact h0.2.1 k h1 h3
    · rw [hFe, q_u_ne (by decide), q_u_nk (by decide), q_u_eq, ha.2.1]
    · rw [hFe, q_u_ne (by decide), q_u_eq]
    · rw [hFe, q_u_ne (by decide), q_u_ne (by decide), q_u_ne (by decide)]
      exact h0.2.2 j hj q hq
    · rw [hFe]
      funext k
      by_cases e : k = 6
      · subst e
        rw [q_u_eq, q_u_eq, q_u_ne (by decide), q_u_ne (by decide), h0.1 145 (by decide) (by decide)]
      · rw [q_u_nk e, q_u_nk e, q_u_ne (by decide), q_u_ne (by decide), h0.1 145 (by decide) (by decide)]
  have hgo := hQ F hf
  rw [hFe] at hgo
  rcases h4 with rfl | ⟨rfl, hp, h59⟩
  · rw [g_M_read_37, q_br rfl, q_br rfl, q_br rfl, q_br rfl, s_no6, q_onI_i, g_M_read_125]
    exact hgo
  · have hs := ha.2.2.2.1
    have hlen := ha.2.2.2.2.1
    rw [g_M_read_37, q_brn (by decide)]
    refine w_is (d := d + 2) (by decide) ha (fun e F1 f1 a1 => absurd e h59) (fun e => ?_)
    rw [q_onI_i, g_M_read_48, q_br rfl, q_brn (by decide)]
    rw [q_clamp (show s < 2 ^ 31 by omega)]
    refine ⟨of_eq_true (q_bnd hs (by decide)), ?_⟩
    have hne : ¬ I 130 11 = I 134 s := by
      rw [ha.2.1, ha.2.2.1, q_eqN (by omega) (by omega)]
      omega
    rw [q_brn hne, q_br rfl, q_br rfl, s_no6, q_onI_i, g_M_read_125]
    exact hgo
theorem l_M37 {rt : Value → q_Mem → Nat → Nat → Prop} {s len n : Nat} {hh : Int32 → Bool} {x2 : Int32} {I0 : Nat → Nat → Int32} : ∀ (k pos cnt : Nat) (f : Nat → q_It) (I : Nat → Nat → Int32) (r : Nat × Nat × Nat × (Nat → q_It)), cnt + k = 13 → q_mds I J s len n hh pos cnt f → q_mfo I0 I n → (¬ pos < len ∨ q_sg J s len pos = 59) → (if pos < len then q_rd (q_sg J s len) len n hh k (pos + 1) cnt f else (1, pos, cnt, f)) = r → (r.1 = 1 → ∀ F, q_mrT I0 F n r.2.2.1 r.2.2.2 → rt (.int (nI r.2.2.1)) (q_mm L F J t) 0 0) → (¬ r.1 = 1 → ∀ F, q_mrF I0 F n r.2.1 → rt (.int (-6)) (q_mm L F J t) 0 0) → q_X (q_W (d + 4)) rt 166 (37, [some (.ref 130), some (.int (nI s)), some (.int x2), some (.int (nI n)), some (.int 1)], [], (q_mm L I J t), 0, 0)
  | 0, pos, cnt, f, I, r, hk, hc, h0, he, hr, hT, hF => by
    have := hc.2.2.1
    omega
  | k + 1, pos, cnt, f, I, r, hk, hc, h0, he, hr, hT, hF => by
    have ha := hc.1
    have hs := ha.2.2.2.1
    have hlen := ha.2.2.2.2.1
    have hpl := ha.2.2.2.2.2.1
    have hcn := hc.2.2.1
    rw [g_M_read_37, q_brn (by decide)]
    refine w_is (d := d + 2) (by decide) ha (fun e F1 f1 a1 => ?_) (fun e => ?_)
    · have hp : pos < len := q_sg_lt (by decide) e
      rw [if_pos hp] at hr
      have f01 : q_mfo I0 F1 n := q_mfo_t h0 (q_mat_o f1)
      have h131 : F1 131 = I 131 := f1.1 131 (by decide)
      have hc1 : q_mds F1 J s len n hh (pos + 1) cnt f := by
        obtain ⟨-, z1, z2, z3, z4⟩ := hc
        refine ⟨a1, by rw [f1.2.1 0 (by decide)]; exact z1, z2, fun x => ?_, fun i hi => ?_⟩
        · rw [z3]
          unfold q_there
          rw [h131]
        · have := z4 i hi
          unfold q_imc at this ⊢
          rw [h131]
          exact this
      unfold q_rd at hr
      rw [q_onI_i, g_M_read_48, q_brn (by decide)]
      refine w_mitem (d := d) a1 hc1.2.1 hcn (q_mds_has hc1) (r := q_rdi (q_sg J s len) len n hh (pos + 1) cnt f) rfl (fun e2 G g1 g2 g3 g4 => ?_) (fun e2 G g1 g2 => ?_)
      · obtain ⟨o1, o2, o3, o4, o5⟩ := q_itm_ok (sg := q_sg J s len) (len := len) (pos := pos + 1) (full := decide (12 ≤ n + cnt)) (has := fun x => hh x || q_any (fun i => decide ((f i).2.2.2.2.2 = x)) 0 cnt) e2
        have hnc : n + cnt < 12 := by have := of_decide_eq_false o1; omega
        have g0 := q_mfo_t f01 (q_mfo_le (show n ≤ n + cnt by omega) g1)
        rw [q_onI_i, g_M_read_55]
        by_cases e3 : (q_rdi (q_sg J s len) len n hh (pos + 1) cnt f).1 = 1
        · rw [if_pos e3] at hr
          have hc2 : q_mds G J s len n hh (q_rdi (q_sg J s len) len n hh (pos + 1) cnt f).2.1 (cnt + 1) (q_ups f cnt (q_rdi (q_sg J s len) len n hh (pos + 1) cnt f).2.2) := by
            obtain ⟨-, z1, z2, z3, z4⟩ := hc1
            refine ⟨g3, g2, by omega, fun x => ?_, fun i hi => ?_⟩
            · rw [z3, q_there_fr g1 (by omega)]
            · unfold q_ups
              by_cases e : i = cnt
              · rw [if_pos e, e]
                exact g4
              · rw [if_neg e]
                exact q_imc_fr g1 (by omega) (z4 i (by omega))
          exact l_M37 k _ (cnt + 1) _ G r (by omega) hc2 g0 (o4 e3) hr hT hF
        · rw [if_neg e3] at hr
          have e4 : (q_rdi (q_sg J s len) len n hh (pos + 1) cnt f).1 = 2 := by
            have h3 : (q_rdi (q_sg J s len) len n hh (pos + 1) cnt f).1 ≤ 2 := o3
            omega
          subst hr
          exact l_M37e g3 (Or.inr ⟨rfl, o5 e4⟩) g0 (hF (show ¬ (0 : Nat) = 1 by decide))
      · rw [if_neg (by rw [e2]; decide)] at hr
        subst hr
        rw [q_onI_i, g_M_read_55]
        have hlr : (q_rdi (q_sg J s len) len n hh (pos + 1) cnt f).2.1 ≤ len := q_itm_len hp
        exact l_M37e (q_am_o a1 g1 g2 hlr) (Or.inl rfl) (q_mfo_t f01 (q_mfo_le (show n ≤ n + cnt by omega) g1)) (hF (show ¬ (0 : Nat) = 1 by decide))
    · have hp : ¬ pos < len := he.resolve_right e
      rw [if_neg hp] at hr
      subst hr
      rw [q_onI_i, g_M_read_48, q_br rfl, q_brn (by decide)]
      rw [q_clamp (show s < 2 ^ 31 by omega)]
      refine ⟨of_eq_true (q_bnd hs (by decide)), ?_⟩
      have heq : I 130 11 = I 134 s := by
        rw [ha.2.1, ha.2.2.1, q_eqN (by omega) (by omega)]
        omega
      rw [q_br heq, q_brn (by decide), q_brn (by decide), q_u_nk (by decide), hc.2.1, q_sub (by omega), show n + cnt - n = cnt by omega]
      refine hT rfl _ ⟨fun a h1 h2 => ?_, fun k h1 h2 h3 => ?_, q_u_eq, ?_, fun j hj q hq => ?_, fun i hi => ?_⟩
      · rw [q_u_ne h1]; exact h0.1 a h1 h2
      · rw [q_u_nk h2]; exact h0.2.1 k h1 h3
      · rw [q_u_nk (by decide)]; exact hc.2.1
      · rw [q_u_ne (by decide)]; exact h0.2.2 j hj q hq
      · have := hc.2.2.2.2 i hi
        unfold q_imc at this ⊢
        rw [q_u_ne (by decide)]
        exact this
theorem w_mread {rt : Value → q_Mem → Nat → Nat → Prop} {s len n : Nat} {hh : Int32 → Bool} {f : Nat → q_It} {x2 : Int32} {I : Nat → Nat → Int32} (ha : q_am I J s len 0) (hn : I 130 0 = nI n) (h12 : n ≤ 12) (hx : ∀ x, hh x = q_there I n x) {r : Nat × Nat × Nat × (Nat → q_It)} (hr : q_rd (q_sg J s len) len n hh 13 0 0 f = r) (hT : r.1 = 1 → ∀ F, q_mrT I F n r.2.2.1 r.2.2.2 → rt (.int (nI r.2.2.1)) (q_mm L F J t) 0 0) (hF : ¬ r.1 = 1 → ∀ F, q_mrF I F n r.2.1 → rt (.int (-6)) (q_mm L F J t) 0 0) : q_W (d + 4) 165 [.ref 130] (q_mm L I J t) fun v μ' => q_onI False v fun x' => q_X (q_W (d + 4)) rt 166 (35, [some (.ref 130), some (.int (nI s)), some (.int x2), some (.int (nI n)), none], [.int x'], μ', 0, 0) := by
  have hc : q_mds I J s len n hh 0 0 f := ⟨ha, hn, h12, hx, fun i hi => absurd hi (by omega)⟩
  have f01 : q_mfo I I n := ⟨fun _ _ _ => rfl, fun _ _ _ => rfl, fun _ _ _ _ => rfl⟩
  unfold q_rd at hr
  refine w_mitem (d := d) ha hn h12 (q_mds_has hc) (r := q_rdi (q_sg J s len) len n hh 0 0 f) rfl (fun e2 G g1 g2 g3 g4 => ?_) (fun e2 G g1 g2 => ?_)
  · obtain ⟨o1, o2, o3, o4, o5⟩ := q_itm_ok (sg := q_sg J s len) (len := len) (pos := 0) (full := decide (12 ≤ n + 0)) (has := fun x => hh x || q_any (fun i => decide ((f i).2.2.2.2.2 = x)) 0 0) e2
    have hnc : n + 0 < 12 := by have := of_decide_eq_false o1; omega
    rw [q_onI_i, g_M_read_35]
    by_cases e3 : (q_rdi (q_sg J s len) len n hh 0 0 f).1 = 1
    · rw [if_pos e3] at hr
      have hc2 : q_mds G J s len n hh (q_rdi (q_sg J s len) len n hh 0 0 f).2.1 (0 + 1) (q_ups f 0 (q_rdi (q_sg J s len) len n hh 0 0 f).2.2) := by
        obtain ⟨-, z1, z2, z3, z4⟩ := hc
        refine ⟨g3, g2, by omega, fun x => ?_, fun i hi => ?_⟩
        · rw [z3, q_there_fr g1 (by omega)]
        · obtain rfl : i = 0 := by omega
          unfold q_ups
          rw [if_pos rfl]
          exact g4
      exact l_M37 12 _ (0 + 1) _ G r (by omega) hc2 g1 (o4 e3) hr hT hF
    · rw [if_neg e3] at hr
      have e4 : (q_rdi (q_sg J s len) len n hh 0 0 f).1 = 2 := by
        have h3 : (q_rdi (q_sg J s len) len n hh 0 0 f).1 ≤ 2 := o3
        omega
      subst hr
      exact l_M37e g3 (Or.inr ⟨rfl, o5 e4⟩) g1 (hF (show ¬ (0 : Nat) = 1 by decide))
  · rw [if_neg (by rw [e2]; decide)] at hr
    subst hr
    rw [q_onI_i, g_M_read_35]
    have hlr : (q_rdi (q_sg J s len) len n hh 0 0 f).2.1 ≤ len := q_itm_len (Nat.zero_le _)
    exact l_M37e (q_am_o ha g1 g2 hlr) (Or.inl rfl) g1 (hF (show ¬ (0 : Nat) = 1 by decide))
end TXT9
