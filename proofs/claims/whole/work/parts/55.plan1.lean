/-! the plan of a start, pure; and the class's parts of it -/
def q_rnn (T : Nat → Int32) (st : List Nat) (q : Nat) : Bool := decide (T q = 1) || st.contains q
def q_smo (T : Nat → Int32) (m : Nat → Bool) (n s : Nat) : Bool := q_any (fun q => m q && q_bt (T (48 + q)) s) 0 n
def q_cIdl (T : Nat → Int32) (p s q : Nat) : Bool := !decide (q = p) && (decide (T q = 0) && q_bt (T (48 + q)) s)
def q_mst (T : Nat → Int32) (p : Nat) : Int32 := q_mstr (q_tm T) p
def q_bTk (T : Nat → Int32) (q b : Nat) : Bool := decide (q_mst T b < q_mst T q) || (decide (q_mst T q = q_mst T b) && decide (q_ord (T (72 + q)) < q_ord (T (72 + b))))
def q_tk (T : Nat → Int32) (n p s : Nat) : Option Nat := q_it (q_pick (q_cIdl T p s) (q_bTk T)) 0 n none
/-- whether it went well, what is started, the causes, the deepest first -/
abbrev q_PR : Type := Bool × List Nat × List (Nat × Int32 × Int32)
def q_ofr (rc : Nat → List Nat → List Nat → q_PR) (T : Nat → Int32) (n p : Nat) (B : List Nat) (s : Nat) (st : List Nat) : q_PR := match q_smo T (q_rnn T st) n s with
  | true => (true, st, [])
  | false => match q_tk T n p s with
    | none => (false, st, [(p, 2, nI s)])
    | some q => match B.contains q with
      | true => (false, st, [(p, 3, nI s)])
      | false => match rc q B st with
        | (true, st', _) => (true, st', [])
        | (false, st', cs) => (false, st', cs ++ [(p, 4, nI s)])
def q_need (rc : Nat → List Nat → List Nat → q_PR) (T : Nat → Int32) (n p : Nat) (B : List Nat) : Nat → Nat → List Nat → q_PR
  | 0, _, st => (true, st, [])
  | k + 1, s, st => match q_bt (T (36 + p)) s with
    | false => q_need rc T n p B k (s + 1) st
    | true => match q_ofr rc T n p B s st with
      | (true, st', _) => q_need rc T n p B k (s + 1) st'
      | (false, st', cs) => (false, st', cs)
def q_bring (T : Nat → Int32) (n : Nat) : Nat → Nat → List Nat → List Nat → q_PR
  | 0, _, _, st => (false, st, [])
  | f + 1, p, B, st => match decide (T p = 0) with
    | false => (false, st, [(p, 1, -1)])
    | true => match q_need (q_bring T n f) T n p (p :: B) 8 0 st with
      | (false, st', cs) => (false, st', cs)
      | (true, st', _) => match decide (T (60 + p) ≤ 0) with
        | true => (true, st' ++ [p], [])
        | false => (false, st', [(p, 5, -1)])
def q_brk (cs : List (Nat × Int32 × Int32)) : Int32 := match cs with
  | [] => -1
  | c :: _ => if c.2.1 = 5 then nI c.1 else -1
theorem q_ct_add {g : Nat → Bool} {n p : Nat} (hp : p < n) (h : g p = false) : q_ct (fun q => g q || decide (q = p)) n = q_ct g n + 1 := by
  have h1 := q_ct_one (x := p) n 0
  rw [if_pos ⟨Nat.zero_le _, by omega⟩] at h1
  unfold q_ct
  rw [← h1]
  refine q_cnt_split n 0 fun q _ hq => ⟨rfl, ?_⟩
  by_cases e : q = p
  · rw [e, h]
    rfl
  · rw [decide_eq_false e, Bool.and_false]
theorem q_ct_lt {g : Nat → Bool} {n p : Nat} (hp : p < n) (h : g p = false) : q_ct g n < n := by
  have h1 := q_ct_add hp h
  have h2 : q_ct (fun q => g q || decide (q = p)) n ≤ n := q_cnt_le n 0
  omega
theorem q_rnn_add {T : Nat → Int32} {st : List Nat} {p q : Nat} : q_rnn T (st ++ [p]) q = (q_rnn T st q || decide (q = p)) := by
  rw [Bool.eq_iff_iff]
  simp [q_rnn, or_assoc]
theorem q_con_cons {B : List Nat} {p q : Nat} : (p :: B).contains q = (B.contains q || decide (q = p)) := by
  rw [Bool.eq_iff_iff]
  simp [or_comm]
/-- pure facts of a plan under way -/
def q_pp (n : Nat) (T : Nat → Int32) (B st : List Nat) : Prop := q_ct (q_rnn T st) n = q_ct (q_rnn T []) n + st.length ∧ q_ct (fun q => B.contains q) n = B.length ∧ (∀ b, B.contains b = true → q_rnn T st b = false) ∧ ∀ p, p ∈ st → p < n
theorem q_pp_in {n p : Nat} {T : Nat → Int32} {B st : List Nat} (hp : p < n) (h1 : q_rnn T st p = false) (h2 : B.contains p = false) (h : q_pp n T B st) : q_pp n T (p :: B) st ∧ B.length < n ∧ st.length < n := by
  obtain ⟨a, b, c, d⟩ := h
  have hb := q_ct_lt (g := fun q => B.contains q) hp h2
  have ha := q_ct_lt hp h1
  refine ⟨⟨a, ?_, fun z hz => ?_, d⟩, by omega, by omega⟩
  · rw [List.length_cons, ← b, ← q_ct_add (g := fun q => B.contains q) hp h2]
    exact q_cnt_congr n 0 0 fun q _ _ => q_con_cons
  · rw [q_con_cons, Bool.or_eq_true, decide_eq_true_eq] at hz
    rcases hz with hz | hz
    · exact c z hz
    · rw [hz]; exact h1
theorem q_pp_out {n p : Nat} {T : Nat → Int32} {B st st' : List Nat} (hp : p < n) (h2 : B.contains p = false) (h : q_pp n T B st) (h' : q_pp n T (p :: B) st') : q_pp n T B (st' ++ [p]) := by
  obtain ⟨a, b, c, d⟩ := h'
  have hpp : q_rnn T st' p = false := c p (by simp)
  refine ⟨?_, h.2.1, fun z hz => ?_, fun z hz => ?_⟩
  · rw [List.length_append, List.length_singleton, ← Nat.add_assoc, ← a, ← q_ct_add hp hpp]
    exact q_cnt_congr n 0 0 fun q _ _ => q_rnn_add
  · rw [q_rnn_add, c z (by rw [q_con_cons, hz]; rfl)]
    by_cases e : z = p
    · rw [e, h2] at hz
      exact absurd hz (by decide)
    · rw [decide_eq_false e]
      rfl
  · rw [List.mem_append, List.mem_singleton] at hz
    rcases hz with hz | hz
    · exact d z hz
    · rw [hz]; exact hp
/-- what the class's plan holds -/
def q_pc (I : Nat → Nat → Int32) (n : Nat) (T : Nat → Int32) (B st : List Nat) : Prop := I 3 2 = nI n ∧ (∀ p, p < n → v_plug q_bc (q_ar 131 I T) 6 131 p) ∧ I 81 2 = nI st.length ∧ (∀ i p, st[i]? = some p → I 82 i = nI p) ∧ (∀ q, q < n → q_bt (I 81 6) q = q_rnn T st q) ∧ (∀ q, q < n → q_bt (I 81 7) q = B.contains q) ∧ I 81 5 = 0 ∧ I 81 3 = -1
def q_pf (I : Nat → Nat → Int32) (b : Nat) (st : List Nat) (cs : List (Nat × Int32 × Int32)) : Prop := I 81 2 = nI st.length ∧ (∀ i p, st[i]? = some p → I 82 i = nI p) ∧ I 81 5 = nI (b + cs.length) ∧ b + cs.length ≤ 12 ∧ 0 < cs.length ∧ (∀ i p y z, cs[i]? = some (p, y, z) → I 83 (3 * (b + cs.length - 1 - i)) = nI p ∧ I 83 (3 * (b + cs.length - 1 - i) + 1) = y ∧ I 83 (3 * (b + cs.length - 1 - i) + 2) = z) ∧ I 81 3 = q_brk cs
def q_fpl (I I' : Nat → Nat → Int32) : Prop := ∀ o, o ≠ 81 → o ≠ 82 → o ≠ 83 → I' o = I o
def q_fl (I : Nat → Nat → Int32) (b : Nat) (a y z : Int32) : Nat → Nat → Int32 := q_u (q_u (q_u (q_u I 83 (3 * b) a) 83 (3 * b + 1) y) 83 (3 * b + 2) z) 81 5 (if I 81 5 < nI (b + 1) then nI (b + 1) else I 81 5)
theorem q_fl_fpl {I : Nat → Nat → Int32} {b : Nat} {a y z : Int32} : q_fpl I (q_fl I b a y z) := fun o h1 h2 h3 => by
  unfold q_fl
  rw [q_u_ne h1, q_u_ne h3, q_u_ne h3, q_u_ne h3]
theorem q_fpl_trans {I I1 I2 : Nat → Nat → Int32} (h1 : q_fpl I I1) (h2 : q_fpl I1 I2) : q_fpl I I2 := fun o a b c => (h2 o a b c).trans (h1 o a b c)
theorem q_fl_83 {I : Nat → Nat → Int32} {b k : Nat} {a y z : Int32} (hk : k < 3 * b ∨ 3 * b + 2 < k) : q_fl I b a y z 83 k = I 83 k := by
  unfold q_fl
  rw [q_u_ne (by decide), q_u_nk (by omega), q_u_nk (by omega), q_u_nk (by omega)]
theorem q_fl_830 {I : Nat → Nat → Int32} {b : Nat} {a y z : Int32} : q_fl I b a y z 83 (3 * b) = a ∧ q_fl I b a y z 83 (3 * b + 1) = y ∧ q_fl I b a y z 83 (3 * b + 2) = z := by
  unfold q_fl
  refine ⟨?_, ?_, ?_⟩
  · rw [q_u_ne (by decide), q_u_nk (by omega), q_u_nk (by omega), q_u_eq]
  · rw [q_u_ne (by decide), q_u_nk (by omega), q_u_eq]
  · rw [q_u_ne (by decide), q_u_eq]
theorem q_fl_81 {I : Nat → Nat → Int32} {b k : Nat} {a y z : Int32} (hk : k ≠ 5) : q_fl I b a y z 81 k = I 81 k := by
  unfold q_fl
  rw [q_u_nk hk, q_u_ne (by decide), q_u_ne (by decide), q_u_ne (by decide)]
theorem q_fl_82 {I : Nat → Nat → Int32} {b : Nat} {a y z : Int32} : q_fl I b a y z 82 = I 82 := by
  unfold q_fl
  rw [q_u_ne (by decide), q_u_ne (by decide), q_u_ne (by decide), q_u_ne (by decide)]
theorem q_pf_first {I : Nat → Nat → Int32} {b p : Nat} {st : List Nat} {y z : Int32} (hb : b < 12) (h2 : I 81 2 = nI st.length) (h82 : ∀ i p, st[i]? = some p → I 82 i = nI p) (h5 : I 81 5 = 0) (h3 : I 81 3 = if y = 5 then nI p else -1) : q_pf (q_fl I b (nI p) y z) b st [(p, y, z)] := by
  refine ⟨by rw [q_fl_81 (by decide)]; exact h2, fun i q hq => by rw [q_fl_82]; exact h82 i q hq, ?_, by rw [List.length_singleton]; omega, Nat.zero_lt_one, fun i p' y' z' hq => ?_, by rw [q_fl_81 (by decide), h3]; rfl⟩
  · unfold q_fl
    rw [q_u_eq, h5, List.length_singleton, if_pos]
    rw [show (0 : Int32) = nI 0 by decide, q_ltN (by decide) (by omega)]
    omega
  · cases i with
    | succ i => exact absurd hq (by simp)
    | zero =>
      simp only [List.getElem?_cons_zero, Option.some.injEq, Prod.mk.injEq] at hq
      obtain ⟨rfl, rfl, rfl⟩ := hq
      rw [List.length_singleton, show b + 1 - 1 - 0 = b by omega]
      exact q_fl_830
theorem q_pf_next {I : Nat → Nat → Int32} {b p : Nat} {st : List Nat} {cs : List (Nat × Int32 × Int32)} {z : Int32} (h : q_pf I (b + 1) st cs) : q_pf (q_fl I b (nI p) 4 z) b st (cs ++ [(p, 4, z)]) := by
  obtain ⟨a1, a2, a3, a4, a5, a6, a7⟩ := h
  have hl : (cs ++ [(p, (4 : Int32), z)]).length = cs.length + 1 := by rw [List.length_append, List.length_singleton]
  refine ⟨by rw [q_fl_81 (by decide)]; exact a1, fun i q hq => by rw [q_fl_82]; exact a2 i q hq, ?_, by rw [hl]; omega, by rw [hl]; omega, fun i p' y' z' hq => ?_, ?_⟩
  · unfold q_fl
    rw [q_u_eq, a3, if_neg, hl]
    · congr 1
      omega
    · rw [q_ltN (by omega) (by omega)]
      omega
  · rw [hl]
    rw [List.getElem?_append] at hq
    by_cases hi : i < cs.length
    · rw [if_pos hi] at hq
      have := a6 i p' y' z' hq
      have e : b + (cs.length + 1) - 1 - i = b + 1 + cs.length - 1 - i := by omega
      rw [e, q_fl_83 (by omega), q_fl_83 (by omega), q_fl_83 (by omega)]
      exact this
    · rw [if_neg hi] at hq
      cases hj : i - cs.length with
      | succ j => rw [hj] at hq; exact absurd hq (by simp)
      | zero =>
        rw [hj] at hq
        simp only [List.getElem?_cons_zero, Option.some.injEq, Prod.mk.injEq] at hq
        obtain ⟨rfl, rfl, rfl⟩ := hq
        rw [show b + (cs.length + 1) - 1 - i = b by omega]
        exact q_fl_830
  · rw [q_fl_81 (by decide), a7]
    cases cs with
    | nil => exact absurd a5 (by decide)
    | cons c l => rfl
/-- in the class's words -/
def q_cIdC (I : Nat → Nat → Int32) (p s q : Nat) : Bool := !decide (q = p) && (decide (I (6 + q) 9 = 0) && q_bt (I (6 + q) 3) s)
def q_bTC (I : Nat → Nat → Int32) (q b : Nat) : Bool := decide (0 < I (6 + q) 6 - I (6 + b) 6) || (decide (I (6 + q) 6 - I (6 + b) 6 = 0) && decide (I (6 + q) 7 < I (6 + b) 7))
section PLAN1
variable {L d : Nat} {I : Nat → Nat → Int32} {J : Nat → Nat → Int64} {t : Nat}
theorem s_fails {Q : Value → q_Mem → Prop} {b : Nat} {a y z : Int32} (hb : b < 12) : q_W (d + 1) 36 [.ref 81, .int (nI b), .int a, .int y, .int z] (q_mm L I J t) Q = Q (.int 0) (q_mm L (q_fl I b a y z) J t) := by
  rw [e_Plan_fails, show (3 : Int32) = nI 3 by decide, q_mul, show (2 : Int32) = nI 2 by decide, q_add, show (36 : Int32) = nI 36 by decide, q_leN (by decide) (by omega), q_brn (nI_pos (by omega)), q_brn (by omega), q_n1, q_n1]
  simp only [q_clamp (show 3 * b < 2 ^ 31 by omega), q_clamp (show 3 * b + 1 < 2 ^ 31 by omega), q_clamp (show 3 * b + 2 < 2 ^ 31 by omega), q_bnd (show 3 * b < 36 by omega) (by decide), q_bnd (show 3 * b + 1 < 36 by omega) (by decide), q_bnd (show 3 * b + 2 < 36 by omega) (by decide), true_and]
  rw [g_Plan_fails_65]
  simp only [eq_self, true_or, true_and]
  unfold q_fl
  rw [show q_u (q_u (q_u I 83 (3 * b) a) 83 (3 * b + 1) y) 83 (3 * b + 2) z 81 5 = I 81 5 by rw [q_u_ne (by decide), q_u_ne (by decide), q_u_ne (by decide)]]
theorem s_takenRather {Q : Value → q_Mem → Prop} {q b : Nat} (hq : q < 12) (hb : b < 12) : q_W (d + 1) 35 [.ref (6 + q), .ref (6 + b)] (q_mm L I J t) Q = Q (.int (q_bb (q_bTC I q b))) (q_mm L I J t) := by
  rw [e_Plan_takenRather]
  simp only [i_plug hq, i_plug hb, q_onI_i, q_onJ_j, q_onS_s, q_onB_t, true_and, and_true, true_or, or_true, eq_self, true_implies, not_true_eq_false, not_false_eq_true, false_implies, q_bb0, q_bbok, q_bbok2, Bool.true_eq_false, Bool.false_eq_true, reduceCtorEq]
  unfold q_bTC
  by_cases h1 : 0 < I (6 + q) 6 - I (6 + b) 6
  · simp [h1, q_bb]
  · by_cases h2 : I (6 + q) 6 - I (6 + b) 6 = 0
    · by_cases h3 : I (6 + q) 7 < I (6 + b) 7
      · simp [h2, h3, q_bb, Int32.not_le.mpr h3]
      · simp [h2, h3, q_bb, Int32.not_lt.mp h3]
    · simp [h1, h2, q_bb]
theorem l_idleOffer {rt : Value → q_Mem → Nat → Nat → Prop} {n p s : Nat} (hn : I 3 2 = nI n) (h12 : n ≤ 12) (hp : p < n) (hs : s < 31) : ∀ k i (o : Option Nat) (w5 : Option Value), i + k = n → (∀ b, o = some b → b < n) → q_X (q_W (d + 1)) rt 34 (5, [some (.ref 81), some (.int (nI p)), some (.int (nI s)), some (.int (q_fst o)), some (.int (nI i)), w5], [], (q_mm L I J t), 0, 0) = rt (.int (q_fst (q_it (q_pick (q_cIdC I p s) (q_bTC I)) i k o))) (q_mm L I J t) 0 0
  | 0, i, o, w5, h, ho => by
    rw [g_Plan_idleOffer_5, hn, q_leN (by omega) (by omega), q_br (by omega)]
    rfl
  | k + 1, i, o, w5, h, ho => by
    have ho' : ∀ b, o = some b → b < 12 := fun b hb => Nat.lt_of_lt_of_le (ho b hb) h12
    have hi : i < 12 := by omega
    have hskip := fun w5 => l_idleOffer (rt := rt) hn h12 hp hs k (i + 1) o w5 (by omega) ho
    have htake := fun w5 => l_idleOffer (rt := rt) hn h12 hp hs k (i + 1) (some i) w5 (by omega) (fun b e => by injection e with e; omega)
    rw [show q_fst (some i) = nI i from rfl] at htake
    rw [g_Plan_idleOffer_5, hn, q_leN (by omega) (by omega), q_brn (by omega), q_it_s]
    simp only [q_clamp (show i < 2 ^ 31 by omega), q_bnd hi (by decide), r_plug hi, i_plug hi, q_onI_i, q_onJ_j, q_onS_s, q_onB_t, true_and, and_true, true_or, or_true, eq_self, true_implies, not_true_eq_false, not_false_eq_true, false_implies, q_bb0, q_bbok, q_bbok2, Bool.true_eq_false, Bool.false_eq_true, reduceCtorEq, q_n1, hskip, q_eqN (show i < 2 ^ 31 by omega) (show p < 2 ^ 31 by omega), s_offers (i_plug hi) hs, g_Plan_idleOffer_49, htake]
    by_cases e1 : i = p
    · rw [q_br e1, q_pick_f (by simp [q_cIdC, e1])]
    · rw [q_brn e1]
      by_cases e2 : I (6 + i) 9 = 0
      · rw [q_br e2]
        cases e3 : q_bt (I (6 + i) 3) s with
        | false =>
          simp only [q_onI_i, q_onJ_j, q_onS_s, q_onB_t, true_and, and_true, true_or, or_true, eq_self, true_implies, not_true_eq_false, not_false_eq_true, false_implies, q_bb0, q_bbok, q_bbok2, Bool.true_eq_false, Bool.false_eq_true, reduceCtorEq]
          rw [q_pick_f (by simp [q_cIdC, e3])]
        | true =>
          have hc : q_cIdC I p s i = true := by simp [q_cIdC, e1, e2, e3]
          simp only [q_onI_i, q_onJ_j, q_onS_s, q_onB_t, true_and, and_true, true_or, or_true, eq_self, true_implies, not_true_eq_false, not_false_eq_true, false_implies, q_bb0, q_bbok, q_bbok2, Bool.true_eq_false, Bool.false_eq_true, reduceCtorEq, q_fst_no ho']
          cases o with
          | none => rw [q_br rfl, q_pick_n hc]
          | some b =>
            have hb := ho' b rfl
            rw [q_brn (by simp), q_pick_y hc]
            rw [show q_fst (some b) = nI b from rfl] at hskip
            simp only [show q_fst (some b) = nI b from rfl, q_clamp (show b < 2 ^ 31 by omega), q_bnd hb (by decide), r_plug hb, q_onI_i, q_onJ_j, q_onS_s, q_onB_t, true_and, and_true, true_or, or_true, eq_self, true_implies, not_true_eq_false, not_false_eq_true, false_implies, q_bb0, q_bbok, q_bbok2, Bool.true_eq_false, Bool.false_eq_true, reduceCtorEq, s_takenRather hi hb, g_Plan_idleOffer_71, q_n1, hskip, htake]
            cases q_bTC I i b <;> simp
      · rw [q_brn e2, q_pick_f (by simp [q_cIdC, e2])]
theorem q_tk_cls {n p s : Nat} {T : Nat → Int32} (hv : ∀ p, p < n → v_plug q_bc (q_ar 131 I T) 6 131 p) (h12 : n ≤ 12) : q_it (q_pick (q_cIdC I p s) (q_bTC I)) 0 n none = q_tk T n p s := by
  have hst : ∀ q, q < n → I (6 + q) 9 = T q ∧ I (6 + q) 3 = T (48 + q) ∧ I (6 + q) 6 = q_mst T q ∧ I (6 + q) 7 = q_ord (T (72 + q)) ∧ 0 ≤ (q_mst T q).toInt ∧ (q_mst T q).toInt ≤ 100 := fun q hq => by
    have h := hv q hq
    unfold v_plug at h
    rw [q_ar_ne (show 6 + q ≠ 131 by omega)] at h
    simp only [q_ar_eq] at h
    obtain ⟨⟨a1, a2, a3, a4, a5, a6, a7, a8⟩, b, c, d, e1, e2, e3, e4, e5, e6, e7⟩ := h
    have hms : I (6 + q) 6 = q_mst T q := by
      rw [c, a1, a2, a4]
      rfl
    exact ⟨a7, a4, hms, by rw [d, a6], q_str_rng e1 e2 e4⟩
  refine q_pick_congr (n := n) (fun q hq => ?_) (fun q b hq hb _ _ => ?_) n 0 none (by omega) (fun b e => by injection e) (fun b e => by injection e)
  · obtain ⟨x1, x2, -⟩ := hst q hq
    unfold q_cIdC q_cIdl
    rw [x1, x2]
  · obtain ⟨x1, x2, x3, x4, x5⟩ := hst q hq
    obtain ⟨y1, y2, y3, y4, y5⟩ := hst b hb
    have h := q_sub_cmp x5 y5
    unfold q_bTC q_bTk
    rw [x3, y3, x4, y4]
    simp only [h.1, h.2]
theorem s_idleOffer {Q : Value → q_Mem → Prop} {n p s : Nat} {T : Nat → Int32} (hn : I 3 2 = nI n) (h12 : n ≤ 12) (hv : ∀ p, p < n → v_plug q_bc (q_ar 131 I T) 6 131 p) (hp : p < n) (hs : s < 31) : q_W (d + 2) 34 [.ref 81, .int (nI p), .int (nI s)] (q_mm L I J t) Q = Q (.int (q_fst (q_tk T n p s))) (q_mm L I J t) := by
  rw [e_Plan_idleOffer, ← q_tk_cls hv h12]
  exact l_idleOffer hn h12 hp hs n 0 none none (by omega) (fun b e => by injection e)
end PLAN1
