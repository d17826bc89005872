/-! texts: pure reading; the class's -/
abbrev q_It := Int32 × Int32 × Int32 × Int32 × Int32 × Int32
def q_mks (sg : Nat → Int32) (len : Nat) : Nat → Nat → Int32 → Int32 → Nat → Nat × Nat × Int32 × Int32 × Nat
  | 0, pos, a, b, f => (0, pos, a, b, f)
  | k + 1, pos, a, b, f =>
    if sg pos = 33 then (if f < 9 then q_mks sg len k (pos + 1) a b (f + 1) else (0, pos, a, b, f))
    else if sg pos = 45 then (match q_dgt (sg (pos + 1)) 7 with
      | none => (0, pos + 1, a, b, f)
      | some v => q_mks sg len k (pos + 1 + 1) (a ||| ((1 : Int32) <<< (nI v &&& 31))) b f)
    else if sg pos = 43 then (match q_dgt (sg (pos + 1)) 7 with
      | none => (0, pos + 1, a, b, f)
      | some v => q_mks sg len k (pos + 1 + 1) a (b ||| ((1 : Int32) <<< (nI v &&& 31))) f)
    else if pos < len ∧ ¬ sg pos = 59 then (2, pos, a, b, f) else (1, pos, a, b, f)
/-- the word plug: where it fails -/
def q_wd4 (sg : Nat → Int32) (pos : Nat) : Option Nat :=
  if sg pos = 112 then (if sg (pos + 1) = 108 then (if sg (pos + 1 + 1) = 117 then (if sg (pos + 1 + 1 + 1) = 103 then none else some (pos + 1 + 1 + 1)) else some (pos + 1 + 1)) else some (pos + 1)) else some pos
/-- blank, name, blank -/
def q_nmp (sg : Nat → Int32) (has : Int32 → Bool) (pos : Nat) : Nat × Nat × Nat :=
  if sg pos = 32 then (if (q_nml sg 4 (pos + 1) 0).1 = pos + 1 then (0, pos + 1, 0)
    else if sg (q_nml sg 4 (pos + 1) 0).1 = 32 then (match has (nI (q_nml sg 4 (pos + 1) 0).2) with
      | true => (0, pos + 1, 0)
      | false => (1, (q_nml sg 4 (pos + 1) 0).1 + 1, (q_nml sg 4 (pos + 1) 0).2))
    else (0, (q_nml sg 4 (pos + 1) 0).1, 0)) else (0, pos, 0)
/-- kind, blank, rank -/
def q_nbs (sg : Nat → Int32) (pos : Nat) : Nat × Nat × Nat × Nat :=
  match q_dgt (sg pos) 4 with
  | none => (0, pos, 0, 0)
  | some kd => if sg (pos + 1) = 32 then (match q_dgt (sg (pos + 1 + 1)) 9 with
    | none => (0, pos + 1 + 1, 0, 0)
    | some rk => (1, pos + 1 + 1 + 1, kd, rk)) else (0, pos + 1, 0, 0)
def q_itm (sg : Nat → Int32) (len : Nat) (full : Bool) (has : Int32 → Bool) (pos : Nat) : Nat × Nat × q_It :=
  match q_wd4 sg pos with
  | some p => (0, p, 0, 0, 0, 0, 0, 0)
  | none => match full with
    | true => (0, pos, 0, 0, 0, 0, 0, 0)
    | false => if (q_nmp sg has (pos + 4)).1 = 1 then (if (q_nbs sg (q_nmp sg has (pos + 4)).2.1).1 = 1 then
        ((q_mks sg len (len + 1) (q_nbs sg (q_nmp sg has (pos + 4)).2.1).2.1 0 0 0).1, (q_mks sg len (len + 1) (q_nbs sg (q_nmp sg has (pos + 4)).2.1).2.1 0 0 0).2.1, nI (q_nbs sg (q_nmp sg has (pos + 4)).2.1).2.2.1, nI (q_nbs sg (q_nmp sg has (pos + 4)).2.1).2.2.2, (q_mks sg len (len + 1) (q_nbs sg (q_nmp sg has (pos + 4)).2.1).2.1 0 0 0).2.2.1, (q_mks sg len (len + 1) (q_nbs sg (q_nmp sg has (pos + 4)).2.1).2.1 0 0 0).2.2.2.1, nI (q_mks sg len (len + 1) (q_nbs sg (q_nmp sg has (pos + 4)).2.1).2.1 0 0 0).2.2.2.2, nI (q_nmp sg has (pos + 4)).2.2)
      else (0, (q_nbs sg (q_nmp sg has (pos + 4)).2.1).2.1, 0, 0, 0, 0, 0, 0))
      else (0, (q_nmp sg has (pos + 4)).2.1, 0, 0, 0, 0, 0, 0)
/-- the reader has gone on to p -/
def q_fat (I F : Nat → Nat → Int32) (p : Nat) : Prop := (∀ a, a ≠ 94 → F a = I a) ∧ (∀ k, k ≠ 4 → F 94 k = I 94 k) ∧ F 94 4 = nI p
/-- the reader has failed at p -/
def q_ffl (I F : Nat → Nat → Int32) (p : Nat) : Prop := (∀ a, a ≠ 94 → F a = I a) ∧ F 94 5 = nI p
theorem q_fat_t {I F G : Nat → Nat → Int32} {p p' : Nat} (h : q_fat I F p) (h2 : q_fat F G p') : q_fat I G p' := ⟨fun a ha => (h2.1 a ha).trans (h.1 a ha), fun k hk => (h2.2.1 k hk).trans (h.2.1 k hk), h2.2.2⟩
theorem q_fat_f {I F G : Nat → Nat → Int32} {p p' : Nat} (h : q_fat I F p) (h2 : q_ffl F G p') : q_ffl I G p' := ⟨fun a ha => (h2.1 a ha).trans (h.1 a ha), h2.2⟩
theorem q_at_t {I F : Nat → Nat → Int32} {s len pos p : Nat} (h : q_at I s len pos) (f : q_fat I F p) (hp : p ≤ len) : q_at F s len p := ⟨f.2.2, by rw [f.1 _ (by have := h.2.2.1; omega)]; exact h.2.1, h.2.2.1, h.2.2.2.1, hp⟩
theorem q_fat_u {I : Nat → Nat → Int32} {p : Nat} : q_fat I (q_u I 94 4 (nI p)) p := ⟨fun a ha => q_u_ne ha, fun k hk => q_u_nk hk, q_u_eq⟩
theorem q_ffl_u {I : Nat → Nat → Int32} {p : Nat} : q_ffl I (q_u I 94 5 (nI p)) p := ⟨fun a ha => q_u_ne ha, q_u_eq⟩
theorem q_dgt_lt {J : Nat → Nat → Int64} {s len pos m v : Nat} (hm : m ≤ 9) (h : q_dgt (q_sg J s len pos) m = some v) : pos < len := q_sg_lt (c := nI (48 + v)) (q_nIm1 (by have := (q_dgt_so hm h).2; omega)) (q_dgt_so hm h).1
section TXT2
variable {L d : Nat} {J : Nat → Nat → Int64}
theorem w_take {I : Nat → Nat → Int32} {Q : Value → q_Mem → Prop} {s len pos : Nat} {c : Int32} (hc : ¬ c = -1) (h : q_at I s len pos) (h1 : q_sg J s len pos = c → ∀ F, q_fat I F (pos + 1) → q_at F s len (pos + 1) → Q (.int 1) (q_mm L F J (114 + 2 * s))) (h0 : ¬ q_sg J s len pos = c → ∀ F, q_ffl I F pos → Q (.int 0) (q_mm L F J (114 + 2 * s))) : q_W (d + 3) 68 [.ref 94, .int c] (q_mm L I J (114 + 2 * s)) Q := by
  rw [s_take h]
  by_cases e : q_sg J s len pos = c
  · rw [decide_eq_true e]
    exact h1 e _ q_fat_u (q_at_t h q_fat_u (q_sg_lt hc e))
  · rw [decide_eq_false e]
    exact h0 e _ q_ffl_u
theorem w_dgt {I : Nat → Nat → Int32} {Q : Value → q_Mem → Prop} {s len pos m : Nat} (hm : m ≤ 9) (h : q_at I s len pos) (h1 : ∀ v, q_dgt (q_sg J s len pos) m = some v → ∀ F, q_fat I F (pos + 1) → q_at F s len (pos + 1) → Q (.int (nI v)) (q_mm L F J (114 + 2 * s))) (h0 : q_dgt (q_sg J s len pos) m = none → ∀ F, q_ffl I F pos → Q (.int (-1)) (q_mm L F J (114 + 2 * s))) : q_W (d + 3) 69 [.ref 94, .int (nI m)] (q_mm L I J (114 + 2 * s)) Q := by
  rw [s_takeDigit hm h]
  cases e : q_dgt (q_sg J s len pos) m with
  | none => exact h0 e _ q_ffl_u
  | some v => exact h1 v e _ q_fat_u (q_at_t h q_fat_u (q_dgt_lt hm e))
/-- all but the reader and the item -/
def q_fro (I F : Nat → Nat → Int32) (o : Nat) : Prop := (∀ a, a ≠ 94 → a ≠ o → F a = I a) ∧ F 94 2 = I 94 2 ∧ F 94 5 = I 94 5
def q_ffo (I F : Nat → Nat → Int32) (o p : Nat) : Prop := (∀ a, a ≠ 94 → a ≠ o → F a = I a) ∧ F 94 5 = nI p
theorem q_fro_t {I F G : Nat → Nat → Int32} {o : Nat} (h : q_fro I F o) (h2 : q_fro F G o) : q_fro I G o := ⟨fun a ha hb => (h2.1 a ha hb).trans (h.1 a ha hb), h2.2.1.trans h.2.1, h2.2.2.trans h.2.2⟩
theorem q_fro_f {I F G : Nat → Nat → Int32} {o p : Nat} (h : q_fro I F o) (h2 : q_ffo F G o p) : q_ffo I G o p := ⟨fun a ha hb => (h2.1 a ha hb).trans (h.1 a ha hb), h2.2⟩
theorem q_fat_o {I F : Nat → Nat → Int32} {o p : Nat} (h : q_fat I F p) : q_fro I F o := ⟨fun a ha _ => h.1 a ha, h.2.1 2 (by decide), h.2.1 5 (by decide)⟩
theorem q_ffl_o {I F : Nat → Nat → Int32} {o p : Nat} (h : q_ffl I F p) : q_ffo I F o p := ⟨fun a ha _ => h.1 a ha, h.2⟩
theorem q_at_o {I F : Nat → Nat → Int32} {s len pos p o : Nat} (h : q_at I s len pos) (f : q_fro I F o) (ho : o < 114) (h4 : F 94 4 = nI p) (hp : p ≤ len) : q_at F s len p := ⟨h4, by rw [f.1 _ (by have := h.2.2.1; omega) (by omega)]; exact h.2.1, h.2.2.1, h.2.2.2.1, hp⟩
theorem l_Cnm {rt : Value → q_Mem → Nat → Nat → Prop} {s len o p0 : Nat} (ho : q_isO (q_SH L) o 5 = true) (h94 : o ≠ 94) (ho2 : o < 114) : ∀ (k i pos nm : Nat) (I : Nat → Nat → Int32), i + k = 4 → q_at I s len pos → I o 5 = nI nm → (∀ F, q_fro I F o → q_at F s len (q_nml (q_sg J s len) k pos nm).1 → F o 5 = nI (q_nml (q_sg J s len) k pos nm).2 → (∀ x, x ≠ 5 → F o x = I o x) → ∀ y : Int32, ((F 94 4 = nI p0 → q_W (d + 3) 70 [.ref 94, .int (F 94 4)] (q_mm L F J (114 + 2 * s)) fun v μ' => q_onI False v fun x' => q_X (q_W (d + 3)) rt 61 (86, [some (.ref 94), some (.ref o), some (.int (nI p0)), some (.int y)], [.int x'], μ', 0, 0)) ∧ (¬ F 94 4 = nI p0 → q_W (d + 3) 68 [.ref 94, .int 32] (q_mm L F J (114 + 2 * s)) fun v μ' => q_onI False v fun x' => q_X (q_W (d + 3)) rt 61 (93, [some (.ref 94), some (.ref o), some (.int (nI p0)), some (.int y)], [.int x'], μ', 0, 0)))) → q_X (q_W (d + 3)) rt 61 (18, [some (.ref 94), some (.ref o), some (.int (nI p0)), some (.int (nI i))], [], q_mm L I J (114 + 2 * s), 0, 0)
  | 0, i, pos, nm, I, h, ha, hn, hq => by
    obtain rfl : i = 4 := h
    rw [g_TextReader_readName_18, show (4 : Int32) = nI 4 by decide, q_br (by decide)]
    exact hq I ⟨fun _ _ _ => rfl, rfl, rfl⟩ ha hn (fun _ _ => rfl) _
  | k + 1, i, pos, nm, I, h, ha, hn, hq => by
    rw [g_TextReader_readName_18, show (4 : Int32) = nI 4 by decide, q_leN (by decide) (by omega), q_brn (by omega), s_look ha, q_onI_i, g_TextReader_readName_27, s_isLetter, q_onI_i, g_TextReader_readName_30]
    unfold q_nml at hq
    cases hl : q_ltr (q_sg J s len pos) with
    | none =>
      rw [hl] at hq
      rw [q_br (by rfl)]
      exact hq I ⟨fun _ _ _ => rfl, rfl, rfl⟩ ha hn (fun _ _ => rfl) _
    | some l =>
      rw [hl] at hq
      obtain ⟨l1, l2, l3⟩ := q_ltr_so hl
      rw [q_brn (show ¬ q_bb (some l).isSome = 0 from (by decide : ¬ q_bb true = 0)), ho, q_onB_t, s_look ha, q_onI_i, g_TextReader_readName_45, ho, q_onB_t]
      have hp : pos < len := q_sg_lt (q_nIm1 (w := 96 + l) (by omega)) l1
      have hv : I o 5 * 27 + q_sg J s len pos - 97 + 1 = nI (27 * nm + l) := by
        rw [hn, l1, show (27 : Int32) = nI 27 by decide, q_mul, q_add, show (97 : Int32) = nI 97 by decide, q_sub (by omega), q_n1]
        congr 1
        omega
      rw [hv, q_n1, q_u_ne (show (94 : Nat) ≠ o from fun z => h94 z.symm), ha.1, q_n1]
      refine l_Cnm (len := len) ho h94 ho2 k (i + 1) (pos + 1) (27 * nm + l) _ (by omega) ?_ ?_ (fun F f1 f2 f3 f4 => ?_)
      · refine q_at_o (o := o) ha ⟨fun a h1 h2 => ?_, ?_, ?_⟩ ho2 q_u_eq hp
        · rw [q_u_ne h1, q_u_ne h2]
        · rw [q_u_nk (by decide), q_u_ne (fun z => h94 z.symm)]
        · rw [q_u_nk (by decide), q_u_ne (fun z => h94 z.symm)]
      · rw [q_u_ne h94, q_u_eq]
      · refine hq F (q_fro_t ⟨fun a h1 h2 => ?_, ?_, ?_⟩ f1) f2 f3 (fun x hx => ?_)
        · rw [q_u_ne h1, q_u_ne h2]
        · rw [q_u_nk (by decide), q_u_ne (fun z => h94 z.symm)]
        · rw [q_u_nk (by decide), q_u_ne (fun z => h94 z.symm)]
        · rw [f4 x hx, q_u_ne h94, q_u_nk hx]
theorem l_hasItem {L d : Nat} {rt : Value → q_Mem → Nat → Nat → Prop} {I : Nat → Nat → Int32} {J : Nat → Nat → Int64} {t : Nat} {cnt : Nat} {x : Int32} (hc : I 94 2 = nI cnt) (h12 : cnt ≤ 12) : ∀ k i, i + k = cnt → q_X (q_W d) rt 62 (2, [some (.ref 94), some (.int x), some (.int (nI i))], [], (q_mm L I J t), 0, 0) = rt (.int (q_bb (q_any (fun i => decide (I (98 + i) 5 = x)) i k))) (q_mm L I J t) 0 0
  | 0, i, h => by
    rw [g_TextReader_hasItemNamed_2, hc, q_leN (by omega) (by omega), q_br (by omega)]
    simp only [q_onI_i, q_onJ_j, q_onS_s, q_onB_t, true_and, and_true, true_or, or_true, eq_self, true_implies, not_true_eq_false, not_false_eq_true, false_implies, q_bb0, q_bbok, q_bbok2, Bool.true_eq_false, Bool.false_eq_true, reduceCtorEq]
    rfl
  | k + 1, i, h => by
    rw [g_TextReader_hasItemNamed_2, hc, q_leN (by omega) (by omega), q_brn (by omega)]
    simp only [q_clamp (show i < 2 ^ 31 by omega), q_bnd (show i < 12 by omega) (by decide), r_item (show i < 12 by omega), i_item (show i < 12 by omega), q_onI_i, q_onJ_j, q_onS_s, q_onB_t, true_and, and_true, true_or, or_true, eq_self, true_implies, not_true_eq_false, not_false_eq_true, false_implies, q_bb0, q_bbok, q_bbok2, Bool.true_eq_false, Bool.false_eq_true, reduceCtorEq, q_n1, l_hasItem hc h12 k (i + 1) (by omega)]
    rw [q_any_s]
    by_cases e : I (98 + i) 5 = x
    · rw [q_br e, decide_eq_true e, Bool.true_or]
      rfl
    · rw [q_brn e, decide_eq_false e, Bool.false_or]
theorem s_hasItem {L d : Nat} {Q : Value → q_Mem → Prop} {I : Nat → Nat → Int32} {J : Nat → Nat → Int64} {t : Nat} {cnt : Nat} {x : Int32} (hc : I 94 2 = nI cnt) (h12 : cnt ≤ 12) : q_W (d + 1) 62 [.ref 94, .int x] (q_mm L I J t) Q = Q (.int (q_bb (q_any (fun i => decide (I (98 + i) 5 = x)) 0 cnt))) (q_mm L I J t) := by
  rw [e_TextReader_hasItemNamed]
  exact l_hasItem hc h12 cnt 0 (by omega)
end TXT2
