/-! texts: the model's item -/
def q_mat (I F : Nat → Nat → Int32) (p : Nat) : Prop := (∀ a, a ≠ 130 → F a = I a) ∧ (∀ k, k ≠ 11 → F 130 k = I 130 k) ∧ F 130 11 = nI p
theorem q_mat_u {I : Nat → Nat → Int32} {p : Nat} : q_mat I (q_u I 130 11 (nI p)) p := ⟨fun a ha => q_u_ne ha, fun k hk => q_u_nk hk, q_u_eq⟩
theorem q_mat_t {I F G : Nat → Nat → Int32} {p p' : Nat} (h : q_mat I F p) (h2 : q_mat F G p') : q_mat I G p' := ⟨fun a ha => (h2.1 a ha).trans (h.1 a ha), fun k hk => (h2.2.1 k hk).trans (h.2.1 k hk), h2.2.2⟩
theorem q_mat_r {I : Nat → Nat → Int32} {p : Nat} (h : I 130 11 = nI p) : q_mat I I p := ⟨fun _ _ => rfl, fun _ _ => rfl, h⟩
theorem q_am_t {I F : Nat → Nat → Int32} {J : Nat → Nat → Int64} {s len pos p : Nat} (h : q_am I J s len pos) (f : q_mat I F p) (hp : p ≤ len) : q_am F J s len p := ⟨by rw [f.2.1 10 (by decide)]; exact h.1, f.2.2, by rw [f.1 134 (by decide)]; exact h.2.2.1, h.2.2.2.1, h.2.2.2.2.1, hp, h.2.2.2.2.2.2⟩
/-- the model's item in its rows -/
def q_imc (F : Nat → Nat → Int32) (p : Nat) (it : q_It) : Prop := F 131 p = 0 ∧ F 131 (12 + p) = it.1 ∧ F 131 (24 + p) = it.2.1 ∧ F 131 (36 + p) = it.2.2.1 ∧ F 131 (48 + p) = it.2.2.2.1 ∧ F 131 (60 + p) = it.2.2.2.2.1 ∧ F 131 (72 + p) = it.2.2.2.2.2 ∧ F 131 (96 + p) = 0
def q_mfo (I F : Nat → Nat → Int32) (p : Nat) : Prop := (∀ a, a ≠ 130 → a ≠ 131 → F a = I a) ∧ (∀ k, k ≠ 0 → k ≠ 11 → F 130 k = I 130 k) ∧ ∀ j, j < 9 → ∀ q, q < p → F 131 (12 * j + q) = I 131 (12 * j + q)
theorem q_mat_o {I F : Nat → Nat → Int32} {p q : Nat} (h : q_mat I F q) : q_mfo I F p := ⟨fun a h1 _ => h.1 a h1, fun k _ h2 => h.2.1 k h2, fun j _ q _ => by rw [h.1 131 (by decide)]⟩
theorem q_mfo_t {I F G : Nat → Nat → Int32} {p : Nat} (h : q_mfo I F p) (h2 : q_mfo F G p) : q_mfo I G p := ⟨fun a h1 h3 => (h2.1 a h1 h3).trans (h.1 a h1 h3), fun k h1 h3 => (h2.2.1 k h1 h3).trans (h.2.1 k h1 h3), fun j h1 q h3 => (h2.2.2 j h1 q h3).trans (h.2.2 j h1 q h3)⟩
theorem q_mfo_le {I F : Nat → Nat → Int32} {p p' : Nat} (hp : p ≤ p') (h : q_mfo I F p') : q_mfo I F p := ⟨h.1, h.2.1, fun j h1 q h2 => h.2.2 j h1 q (by omega)⟩
theorem q_am_o {I F : Nat → Nat → Int32} {J : Nat → Nat → Int64} {s len pos p n : Nat} (h : q_am I J s len pos) (f : q_mfo I F n) (h11 : F 130 11 = nI p) (hp : p ≤ len) : q_am F J s len p := ⟨by rw [f.2.1 10 (by decide) (by decide)]; exact h.1, h11, by rw [f.1 134 (by decide) (by decide)]; exact h.2.2.1, h.2.2.2.1, h.2.2.2.2.1, hp, h.2.2.2.2.2.2⟩
section TXT7
variable {L d : Nat} {J : Nat → Nat → Int64} {t : Nat}
theorem w_is {I : Nat → Nat → Int32} {Q : Value → q_Mem → Prop} {s len pos : Nat} {c : Int32} (hc : ¬ c = -1) (h : q_am I J s len pos) (h1 : q_sg J s len pos = c → ∀ F, q_mat I F (pos + 1) → q_am F J s len (pos + 1) → Q (.int 1) (q_mm L F J t)) (h0 : ¬ q_sg J s len pos = c → Q (.int 0) (q_mm L I J t)) : q_W (d + 2) 161 [.ref 130, .int c] (q_mm L I J t) Q := by
  rw [s_is h]
  by_cases e : q_sg J s len pos = c
  · rw [decide_eq_true e]
    exact h1 e _ q_mat_u (q_am_t h q_mat_u (q_sg_lt hc e))
  · rw [decide_eq_false e]
    exact h0 e
theorem w_mdgt {I : Nat → Nat → Int32} {Q : Value → q_Mem → Prop} {s len pos m : Nat} (hm : m ≤ 9) (h : q_am I J s len pos) (h1 : ∀ v, q_dgt (q_sg J s len pos) m = some v → ∀ F, q_mat I F (pos + 1) → q_am F J s len (pos + 1) → Q (.int (nI v)) (q_mm L F J t)) (h0 : q_dgt (q_sg J s len pos) m = none → Q (.int (-1)) (q_mm L I J t)) : q_W (d + 2) 162 [.ref 130, .int (nI m)] (q_mm L I J t) Q := by
  rw [s_digit hm h]
  cases e : q_dgt (q_sg J s len pos) m with
  | none => exact h0 e
  | some v => exact h1 v e _ q_mat_u (q_am_t h q_mat_u (q_dgt_lt hm e))
theorem w_mword {I : Nat → Nat → Int32} {Q : Value → q_Mem → Prop} {s len pos : Nat} (ha : q_am I J s len pos) (hT : q_wd4 (q_sg J s len) pos = none → ∀ F, q_mat I F (pos + 4) → q_am F J s len (pos + 4) → q_X (q_W (d + 2)) (fun v μ _ _ => Q v μ) 165 (38, [some (.ref 130), some (.int (nI pos)), none, none, none], [.int 1], q_mm L F J t, 0, 0)) (hF : ∀ p, q_wd4 (q_sg J s len) pos = some p → ∀ F, q_mat I F p → Q (.int 0) (q_mm L F J t)) : q_W (d + 3) 165 [.ref 130] (q_mm L I J t) Q := by
  rw [e_M_item, ha.2.1]
  refine w_is (by decide) ha (fun e1 F1 f1 a1 => ?_) (fun e1 => ?_)
  · rw [q_onI_i, g_M_item_11, q_brn (by decide)]
    refine w_is (by decide) a1 (fun e2 F2 f2 a2 => ?_) (fun e2 => ?_)
    · rw [q_onI_i, g_M_item_20, q_brn (by decide)]
      refine w_is (by decide) a2 (fun e3 F3 f3 a3 => ?_) (fun e3 => ?_)
      · rw [q_onI_i, g_M_item_29, q_brn (by decide)]
        refine w_is (by decide) a3 (fun e4 F4 f4 a4 => ?_) (fun e4 => ?_)
        · exact hT (by unfold q_wd4; rw [if_pos e1, if_pos e2, if_pos e3, if_pos e4]) F4 (q_mat_t (q_mat_t (q_mat_t f1 f2) f3) f4) a4
        · rw [q_onI_i, g_M_item_38, q_br rfl]
          exact ⟨Or.inl rfl, hF _ (by unfold q_wd4; rw [if_pos e1, if_pos e2, if_pos e3, if_neg e4]) _ (q_mat_t (q_mat_t f1 f2) f3)⟩
      · rw [q_onI_i, g_M_item_29, q_br rfl]
        exact ⟨Or.inl rfl, hF _ (by unfold q_wd4; rw [if_pos e1, if_pos e2, if_neg e3]) _ (q_mat_t f1 f2)⟩
    · rw [q_onI_i, g_M_item_20, q_br rfl]
      exact ⟨Or.inl rfl, hF _ (by unfold q_wd4; rw [if_pos e1, if_neg e2]) _ f1⟩
  · rw [q_onI_i, g_M_item_11, q_br rfl]
    exact ⟨Or.inl rfl, hF _ (by unfold q_wd4; rw [if_neg e1]) _ (q_mat_r ha.2.1)⟩
theorem l_Mnm {rt : Value → q_Mem → Nat → Nat → Prop} {s len p0 : Nat} : ∀ (k i pos nm : Nat) (I : Nat → Nat → Int32), i + k = 4 → pos = p0 + i → q_am I J s len pos → (∀ F, q_mat I F (q_nml (q_sg J s len) k pos nm).1 → q_am F J s len (q_nml (q_sg J s len) k pos nm).1 → ((F 130 11 = nI p0 → rt (.int 0) (q_mm L F J t) 0 0) ∧ (¬ F 130 11 = nI p0 → q_W (d + 2) 161 [.ref 130, .int 32] (q_mm L F J t) fun v μ' => q_onI False v fun x' => q_X (q_W (d + 2)) rt 163 (73, [some (.ref 130), some (.int (nI p0)), some (.int (nI (q_nml (q_sg J s len) k pos nm).2))], [.int x'], μ', 0, 0)))) → q_X (q_W (d + 2)) rt 163 (7, [some (.ref 130), some (.int (nI p0)), some (.int (nI nm))], [], (q_mm L I J t), 0, 0)
  | 0, i, pos, nm, I, h, hp0, ha, hq => by
    have hlen := ha.2.2.2.2
    rw [g_M_name_7, ha.2.1, q_sub (by omega), show (4 : Int32) = nI 4 by decide, q_leN (by decide) (by omega), q_br (by omega)]
    have := hq I (q_mat_r ha.2.1) ha
    rw [ha.2.1] at this
    exact this
  | k + 1, i, pos, nm, I, h, hp0, ha, hq => by
    have hlen := ha.2.2.2.2
    rw [g_M_name_7, ha.2.1, q_sub (by omega), show (4 : Int32) = nI 4 by decide, q_leN (by decide) (by omega), q_brn (by omega), s_sign ha, q_onI_i, g_M_name_21, s_within, show (97 : Int32).toInt = 97 by decide, show (122 : Int32).toInt = 122 by decide, q_onI_i, g_M_name_28]
    unfold q_nml at hq
    cases hl : q_ltr (q_sg J s len pos) with
    | none =>
      rw [hl] at hq
      have hd : decide (97 ≤ (q_sg J s len pos).toInt ∧ (q_sg J s len pos).toInt ≤ 122) = false := by
        refine decide_eq_false (fun z => ?_)
        unfold q_ltr at hl
        rw [if_pos z] at hl
        exact absurd hl (by simp)
      rw [hd, q_br (show q_bb false = 0 from rfl), ha.2.1]
      have := hq I (q_mat_r ha.2.1) ha
      rw [ha.2.1] at this
      exact this
    | some l =>
      rw [hl] at hq
      obtain ⟨l1, l2, l3⟩ := q_ltr_so hl
      have hd : decide (97 ≤ (q_sg J s len pos).toInt ∧ (q_sg J s len pos).toInt ≤ 122) = true := decide_eq_true (by rw [l1, nI_toInt (by omega)]; omega)
      have hp : pos < len := q_sg_lt (q_nIm1 (w := 96 + l) (by omega)) l1
      have hv : (27 : Int32) * nI nm + q_sg J s len pos - 97 + 1 = nI (27 * nm + l) := by
        rw [l1, show (27 : Int32) = nI 27 by decide, q_mul, q_add, show (97 : Int32) = nI 97 by decide, q_sub (by omega), q_n1]
        congr 1
        omega
      rw [hd, q_brn (show ¬ q_bb true = 0 by decide), s_sign ha, q_onI_i, g_M_name_39, hv, ha.2.1, q_n1]
      exact l_Mnm (s := s) (len := len) k (i + 1) (pos + 1) (27 * nm + l) _ (by omega) (by omega) (q_am_t ha q_mat_u hp) (fun F f1 f2 => hq F (q_mat_t q_mat_u f1) f2)
theorem w_mname {I : Nat → Nat → Int32} {Q : Value → q_Mem → Prop} {s len pos m : Nat} {has : Int32 → Bool} (ha : q_am I J s len pos) (hm : I 130 0 = nI m) (h12 : m ≤ 12) (hh : ∀ x, has x = q_there I m x) (e1 : q_sg J s len pos = 32) {F1 : Nat → Nat → Int32} (f1 : q_mat I F1 (pos + 1)) (a1 : q_am F1 J s len (pos + 1)) (hT : (q_nmp (q_sg J s len) has pos).1 = 1 → ∀ F, q_mat I F (q_nmp (q_sg J s len) has pos).2.1 → q_am F J s len (q_nmp (q_sg J s len) has pos).2.1 → Q (.int (nI (q_nmp (q_sg J s len) has pos).2.2)) (q_mm L F J t)) (hF : ¬ (q_nmp (q_sg J s len) has pos).1 = 1 → ∀ F, q_mat I F (q_nmp (q_sg J s len) has pos).2.1 → Q (.int 0) (q_mm L F J t)) : q_W (d + 3) 163 [.ref 130] (q_mm L F1 J t) Q := by
  have q1 := q_nml_ok (sg := q_sg J s len) 4 (pos + 1) 0 (by decide) (by decide)
  have q2 := q_nml_len (J := J) (s := s) (len := len) 4 (pos + 1) 0 a1.2.2.2.2.2.1
  have hlen := ha.2.2.2.2.1
  unfold q_nmp at hT hF
  rw [if_pos e1] at hT hF
  rw [e_M_name, a1.2.1, show (0 : Int32) = nI 0 by decide]
  refine l_Mnm (s := s) (len := len) 4 0 (pos + 1) 0 F1 (by decide) rfl a1 (fun F f2 f3 => ?_)
  have f02 := q_mat_t f1 f2
  rw [f3.2.1, q_eqN (by omega) (by omega)]
  by_cases e2 : (q_nml (q_sg J s len) 4 (pos + 1) 0).1 = pos + 1
  · rw [if_pos e2] at hF
    rw [q_br e2]
    rw [e2] at f02
    exact hF (show ¬ (0 : Nat) = 1 by decide) _ f02
  · rw [if_neg e2] at hT hF
    rw [q_brn e2]
    refine w_is (d := d) (by decide) f3 (fun e3 G g1 g2 => ?_) (fun e3 => ?_)
    · rw [if_pos e3] at hT hF
      have f03 := q_mat_t f02 g1
      have hG : G 131 = I 131 := f03.1 131 (by decide)
      have hhx : has (nI (q_nml (q_sg J s len) 4 (pos + 1) 0).2) = q_there G m (nI (q_nml (q_sg J s len) 4 (pos + 1) 0).2) := by
        rw [hh]
        unfold q_there
        rw [hG]
      rw [hhx] at hT hF
      rw [q_onI_i, g_M_name_73, q_brn (by decide), s_isThere (by rw [f03.2.1 0 (by decide)]; exact hm) h12, q_onI_i, g_M_name_83]
      cases ex : q_there G m (nI (q_nml (q_sg J s len) 4 (pos + 1) 0).2) with
      | true =>
        rw [ex] at hF
        rw [q_brn (show ¬ q_bb true = 0 by decide)]
        exact hF (show ¬ (0 : Nat) = 1 by decide) _ (q_mat_t f03 q_mat_u)
      | false =>
        rw [ex] at hT
        rw [q_br (show q_bb false = 0 from rfl)]
        exact hT rfl G f03 g2
    · rw [if_neg e3] at hF
      rw [q_onI_i, g_M_name_73, q_br rfl]
      exact hF (show ¬ (0 : Nat) = 1 by decide) _ f02
end TXT7
