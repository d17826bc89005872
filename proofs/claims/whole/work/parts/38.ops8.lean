/-! provider -/
def q_pick (cand : Nat → Bool) (better : Nat → Nat → Bool) : Nat → Option Nat → Option Nat := fun q o => match cand q with
  | false => o
  | true => match o with
    | none => some q
    | some b => match better q b with
      | true => some q
      | false => some b
theorem q_pick_f {cand : Nat → Bool} {better : Nat → Nat → Bool} {q : Nat} {o : Option Nat} (h : cand q = false) : q_pick cand better q o = o := by
  unfold q_pick
  rw [h]
theorem q_pick_n {cand : Nat → Bool} {better : Nat → Nat → Bool} {q : Nat} (h : cand q = true) : q_pick cand better q none = some q := by
  unfold q_pick
  rw [h]
theorem q_pick_y {cand : Nat → Bool} {better : Nat → Nat → Bool} {q b : Nat} (h : cand q = true) : q_pick cand better q (some b) = (match better q b with | true => some q | false => some b) := by
  unfold q_pick
  rw [h]
theorem q_pick_lt {cand : Nat → Bool} {better : Nat → Nat → Bool} {n q : Nat} {o : Option Nat} (hq : q < n) (ho : ∀ b, o = some b → b < n) : ∀ b, q_pick cand better q o = some b → b < n := by
  intro b
  unfold q_pick
  cases cand q with
  | false => exact ho b
  | true =>
    cases o with
    | none => intro e; injection e with e; omega
    | some a =>
      have := ho a rfl
      dsimp only
      cases better q a <;> (intro e; injection e with e; omega)
theorem q_pick_so {cand : Nat → Bool} {better : Nat → Nat → Bool} {q : Nat} {o : Option Nat} (ho : ∀ b, o = some b → cand b = true) : ∀ b, q_pick cand better q o = some b → cand b = true := by
  intro b
  unfold q_pick
  cases hc : cand q with
  | false => exact ho b
  | true =>
    cases o with
    | none => intro e; injection e with e; subst e; exact hc
    | some a =>
      have := ho a rfl
      dsimp only
      cases better q a
      · intro e; injection e with e; subst e; exact this
      · intro e; injection e with e; subst e; exact hc
theorem q_pick_congr {cand cand' : Nat → Bool} {better better' : Nat → Nat → Bool} {n : Nat} (h1 : ∀ q, q < n → cand q = cand' q) (h2 : ∀ q b, q < n → b < n → cand q = true → cand b = true → better q b = better' q b) : ∀ (k i : Nat) (o : Option Nat), i + k ≤ n → (∀ b, o = some b → b < n) → (∀ b, o = some b → cand b = true) → q_it (q_pick cand better) i k o = q_it (q_pick cand' better') i k o
  | 0, _, _, _, _, _ => rfl
  | k + 1, i, o, h, ho, hc => by
    rw [q_it_s, q_it_s, q_pick_congr h1 h2 k (i + 1) _ (by omega) (q_pick_lt (by omega) ho) (q_pick_so hc)]
    congr 1
    unfold q_pick
    rw [h1 i (by omega)]
    cases hci : cand' i with
    | false => rfl
    | true =>
      cases o with
      | none => rfl
      | some a => 
        dsimp only
        rw [h2 i a (by omega) (ho a rfl) (by rw [h1 i (by omega)]; exact hci) (hc a rfl)]
theorem q_fst_no {o : Option Nat} (ho : ∀ b, o = some b → b < 12) : (q_fst o = -1) = (o = none) := by
  apply propext
  cases o with
  | none => exact ⟨fun _ => rfl, fun _ => rfl⟩
  | some b =>
    have := ho b rfl
    refine ⟨fun h => ?_, fun h => by injection h⟩
    have h2 := congrArg Int32.toInt h
    rw [show q_fst (some b) = nI b from rfl, nI_toInt (by omega), show (-1 : Int32).toInt = -1 by decide] at h2
    omega
/-- the better of two, in the class's words -/
def q_betC (I : Nat → Nat → Int32) (q b : Nat) : Bool := decide (0 < I (6 + q) 6 - I (6 + b) 6) || (decide (I (6 + q) 6 - I (6 + b) 6 = 0) && decide (I (6 + q) 10 < I (6 + b) 10))
theorem s_providesBetter {L d : Nat} {Q : Value → q_Mem → Prop} {I : Nat → Nat → Int32} {J : Nat → Nat → Int64} {t : Nat} {q b : Nat} (hq : q < 12) (hb : b < 12) : q_W (d + 1) 28 [.ref (6 + q), .ref (6 + b)] (q_mm L I J t) Q = Q (.int (q_bb (q_betC I q b))) (q_mm L I J t) := by
  rw [e_Host_providesBetter]
  simp only [i_plug hq, i_plug hb, q_onI_i, q_onJ_j, q_onS_s, q_onB_t, true_and, and_true, true_or, or_true, eq_self, true_implies, not_true_eq_false, not_false_eq_true, false_implies, q_bb0, q_bbok, q_bbok2, Bool.true_eq_false, Bool.false_eq_true, reduceCtorEq]
  unfold q_betC
  by_cases h1 : 0 < I (6 + q) 6 - I (6 + b) 6
  · simp [h1, q_bb]
  · by_cases h2 : I (6 + q) 6 - I (6 + b) 6 = 0
    · by_cases h3 : I (6 + q) 10 < I (6 + b) 10
      · simp [h2, h3, q_bb, Int32.not_le.mpr h3]
      · simp [h2, h3, q_bb, Int32.not_lt.mp h3]
    · simp [h1, h2, q_bb]
theorem l_providerFor {L d : Nat} {rt : Value → q_Mem → Nat → Nat → Prop} {I : Nat → Nat → Int32} {J : Nat → Nat → Int64} {t : Nat} {n : Nat} {x1 x2 m : Int32} (hn : I 3 2 = nI n) (h12 : n ≤ 12) : ∀ k i (o : Option Nat) (w6 : Option Value), i + k = n → (∀ b, o = some b → b < n) → q_X (q_W (d + 1)) rt 27 (17, [some (.ref 3), some (.int x1), some (.int x2), some (.int m), some (.int (q_fst o)), some (.int (nI i)), w6], [], (q_mm L I J t), 0, 0) = rt (.int (q_fst (q_it (q_pick (q_bt m) (q_betC I)) i k o))) (q_mm L I J t) 0 0
  | 0, i, o, w6, h, ho => by
    rw [g_Host_providerFor_17, hn, q_leN (by omega) (by omega), q_br (by omega)]
    rfl
  | k + 1, i, o, w6, h, ho => by
    have ho' : ∀ b, o = some b → b < 12 := fun b hb => Nat.lt_of_lt_of_le (ho b hb) h12
    have hnext := q_pick_lt (cand := q_bt m) (better := q_betC I) (show i < n by omega) ho
    rw [g_Host_providerFor_17, hn, q_leN (by omega) (by omega), q_brn (by omega), q_shr0 (by omega), q_it_s]
    cases hm : q_bt m i with
    | false =>
      simp only [q_onI_i, q_onJ_j, q_onS_s, q_onB_t, true_and, and_true, true_or, or_true, eq_self, true_implies, not_true_eq_false, not_false_eq_true, false_implies, q_bb0, q_bbok, q_bbok2, Bool.true_eq_false, Bool.false_eq_true, reduceCtorEq, q_n1]
      rw [l_providerFor hn h12 k (i + 1) o _ (by omega) ho, q_pick_f hm]
    | true =>
      simp only [q_onI_i, q_onJ_j, q_onS_s, q_onB_t, true_and, and_true, true_or, or_true, eq_self, true_implies, not_true_eq_false, not_false_eq_true, false_implies, q_bb0, q_bbok, q_bbok2, Bool.true_eq_false, Bool.false_eq_true, reduceCtorEq, q_n1, q_fst_no ho']
      rw [q_brn (show ¬ (1 : Int32) = 0 by decide)]
      cases o with
      | none =>
        rw [q_br rfl, show nI i = q_fst (some i) from rfl, l_providerFor hn h12 k (i + 1) (some i) _ (by omega) (fun b e => by injection e with e; omega), q_pick_n hm]
      | some b =>
        have hb := ho' b rfl
        rw [q_brn (by simp)]
        simp only [show q_fst (some b) = nI b from rfl, q_clamp (show i < 2 ^ 31 by omega), q_bnd (show i < 12 by omega) (by decide), r_plug (show i < 12 by omega), q_clamp (show b < 2 ^ 31 by omega), q_bnd hb (by decide), r_plug hb, q_onI_i, q_onJ_j, q_onS_s, q_onB_t, true_and, and_true, true_or, or_true, eq_self, true_implies, not_true_eq_false, not_false_eq_true, false_implies, q_bb0, q_bbok, q_bbok2, Bool.true_eq_false, Bool.false_eq_true, reduceCtorEq, s_providesBetter (show i < 12 by omega) hb, g_Host_providerFor_70, q_n1]
        rw [q_pick_y hm] at hnext ⊢
        cases hbb : q_betC I i b with
        | false =>
          rw [hbb] at hnext
          simp only [q_onI_i, q_onJ_j, q_onS_s, q_onB_t, true_and, and_true, true_or, or_true, eq_self, true_implies, not_true_eq_false, not_false_eq_true, false_implies, q_bb0, q_bbok, q_bbok2, Bool.true_eq_false, Bool.false_eq_true, reduceCtorEq]
          exact l_providerFor hn h12 k (i + 1) (some b) _ (by omega) hnext
        | true =>
          rw [hbb] at hnext
          simp only [q_onI_i, q_onJ_j, q_onS_s, q_onB_t, true_and, and_true, true_or, or_true, eq_self, true_implies, not_true_eq_false, not_false_eq_true, false_implies, q_bb0, q_bbok, q_bbok2, Bool.true_eq_false, Bool.false_eq_true, reduceCtorEq]
          exact l_providerFor hn h12 k (i + 1) (some i) _ (by omega) hnext
def q_provC (I : Nat → Nat → Int32) (n p s : Nat) : Option Nat := q_it (q_pick (q_bt (q_mk (fun q => q_bt (q_mk (fun q => decide (I (6 + q) 9 = 1) && decide (I (6 + q) 10 < I (6 + p) 10)) n) q && q_bt (I (6 + q) 3) s) n)) (q_betC I)) 0 n none
theorem s_providerFor {L d : Nat} {Q : Value → q_Mem → Prop} {I : Nat → Nat → Int32} {J : Nat → Nat → Int64} {t : Nat} {n p s : Nat} (hn : I 3 2 = nI n) (h12 : n ≤ 12) (hp : p < n) (hs : s < 31) : q_W (d + 3) 27 [.ref 3, .int (nI p), .int (nI s)] (q_mm L I J t) Q = Q (.int (q_fst (q_provC I n p s))) (q_mm L I J t) := by
  rw [e_Host_providerFor, s_olderThan hn h12 hp, q_onI_i, g_Host_providerFor_7, s_offering hn h12 hs, q_onI_i, g_Host_providerFor_10]
  exact l_providerFor hn h12 n 0 none none (by omega) (fun b e => by injection e)
/-- the same in the model's -/
def q_mstr (I : Nat → Nat → Int32) (p : Nat) : Int32 := q_str (I 131 (12 + p)) (I 131 (24 + p)) (q_bc (I 131 (48 + p)))
def q_betM (I : Nat → Nat → Int32) (q b : Nat) : Bool := decide (q_mstr I b < q_mstr I q) || (decide (q_mstr I q = q_mstr I b) && decide (I 131 (84 + q) < I 131 (84 + b)))
def q_canM (I : Nat → Nat → Int32) (p s q : Nat) : Bool := !decide (q = p) && (decide (I 131 q = 1) && (q_bt (I 131 (48 + q)) s && decide (I 131 (84 + q) < I 131 (84 + p))))
theorem s_mstr {L d : Nat} {Q : Value → q_Mem → Prop} {I : Nat → Nat → Int32} {J : Nat → Nat → Int64} {t : Nat} {p : Nat} (hp : p < 12) : q_W (d + 2) 154 [.ref 130, .int (nI p)] (q_mm L I J t) Q = Q (.int (q_mstr I p)) (q_mm L I J t) := s_strength hp
theorem l_provides {L d : Nat} {rt : Value → q_Mem → Nat → Nat → Prop} {I : Nat → Nat → Int32} {J : Nat → Nat → Int64} {t : Nat} {n p s : Nat} (hn : I 130 0 = nI n) (h12 : n ≤ 12) (hp : p < n) (hs : s < 31) : ∀ k i (o : Option Nat), i + k = n → (∀ b, o = some b → b < n) → q_X (q_W (d + 2)) rt 171 (5, [some (.ref 130), some (.int (nI p)), some (.int (nI s)), some (.int (q_fst o)), some (.int (nI i))], [], (q_mm L I J t), 0, 0) = rt (.int (q_fst (q_it (q_pick (q_canM I p s) (q_betM I)) i k o))) (q_mm L I J t) 0 0
  | 0, i, o, h, ho => by
    rw [g_M_provides_5, hn, q_leN (by omega) (by omega), q_br (by omega)]
    rfl
  | k + 1, i, o, h, ho => by
    have ho' : ∀ b, o = some b → b < 12 := fun b hb => Nat.lt_of_lt_of_le (ho b hb) h12
    have hi : i < 12 := by omega
    have hskip := l_provides hn h12 hp hs k (i + 1) o (by omega) ho (d := d) (rt := rt) (I := I) (J := J) (t := t) (L := L)
    have htake := l_provides hn h12 hp hs k (i + 1) (some i) (by omega) (fun b e => by injection e with e; omega) (d := d) (rt := rt) (I := I) (J := J) (t := t) (L := L)
    rw [show q_fst (some i) = nI i from rfl] at htake
    rw [g_M_provides_5, hn, q_leN (by omega) (by omega), q_brn (by omega), q_eqN (by omega) (by omega), q_it_s]
    simp only [q_n1]
    rw [hskip]
    have hno : q_canM I p s i = false → q_pick (q_canM I p s) (q_betM I) i o = o := fun e => q_pick_f e
    by_cases hip : i = p
    · rw [q_br hip, hno (by simp [q_canM, hip])]
    rw [q_brn hip, s_state (by omega), q_onI_i, g_M_provides_26]
    simp only [q_n1]
    rw [hskip]
    by_cases h9 : I 131 i = 1
    · rw [q_br h9, s_isOffered hi hs, q_onI_i, g_M_provides_37]
      simp only [q_n1, q_bb0]
      rw [hskip]
      cases ho5 : q_bt (I 131 (48 + i)) s with
      | false => rw [q_br rfl, hno (by simp [q_canM, ho5])]
      | true =>
        rw [q_brn (by decide), s_isOlder hi (by omega), q_onI_i, g_M_provides_47]
        simp only [q_n1, q_bb0]
        rw [hskip, htake]
        by_cases hold : I 131 (84 + i) < I 131 (84 + p)
        · have hc : q_canM I p s i = true := by simp [q_canM, hip, h9, ho5, hold]
          rw [decide_eq_true hold, q_brn (by decide), q_fst_no ho']
          cases o with
          | none =>
            rw [q_br rfl, q_pick_n hc]
          | some b =>
            have hb := ho' b rfl
            rw [q_brn (by simp), show q_fst (some b) = nI b from rfl, s_mstr hi, q_onI_i, g_M_provides_64, s_mstr hb, q_onI_i, g_M_provides_69]
            simp only [q_n1]
            rw [htake, q_pick_y hc]
            rw [show q_fst (some b) = nI b from rfl] at hskip
            by_cases e1 : q_mstr I b < q_mstr I i
            · rw [q_br e1, show q_betM I i b = true by simp [q_betM, e1]]
            · rw [q_brn e1, s_mstr hi, q_onI_i, g_M_provides_78, s_mstr hb, q_onI_i, g_M_provides_83]
              simp only [q_n1]
              rw [hskip]
              by_cases e2 : q_mstr I i = q_mstr I b
              · rw [q_br e2, s_isOlder hi hb, q_onI_i, g_M_provides_93]
                simp only [q_n1, q_bb0]
                rw [hskip, htake]
                by_cases e3 : I 131 (84 + i) < I 131 (84 + b)
                · rw [decide_eq_true e3, q_brn (by decide), show q_betM I i b = true by simp [q_betM, e2, e3]]
                · rw [decide_eq_false e3, q_br rfl, show q_betM I i b = false by simp [q_betM, e2, e3]]
              · rw [q_brn e2, show q_betM I i b = false by simp [q_betM, e1, e2]]
        · rw [decide_eq_false hold, q_br rfl, hno (by simp [q_canM, hold])]
    · rw [q_brn h9, hno (by simp [q_canM, h9])]
def q_provM (I : Nat → Nat → Int32) (n p s : Nat) : Option Nat := q_it (q_pick (q_canM I p s) (q_betM I)) 0 n none
theorem s_provides {L d : Nat} {Q : Value → q_Mem → Prop} {I : Nat → Nat → Int32} {J : Nat → Nat → Int64} {t : Nat} {n p s : Nat} (hn : I 130 0 = nI n) (h12 : n ≤ 12) (hp : p < n) (hs : s < 31) : q_W (d + 3) 171 [.ref 130, .int (nI p), .int (nI s)] (q_mm L I J t) Q = Q (.int (q_fst (q_provM I n p s))) (q_mm L I J t) := by
  rw [e_M_provides]
  exact l_provides hn h12 hp hs n 0 none (by omega) (fun b e => by injection e)
theorem q_bc_rng : ∀ b, b < 256 → 0 ≤ (q_bc (nI b)).toInt ∧ (q_bc (nI b)).toInt ≤ 8 := by decide +kernel
section OPS8
variable {L c : Nat} {I : Nat → Nat → Int32} {J : Nat → Nat → Int64} {t : Nat}
theorem q_str_rng {kind rank bits : Int32} (hk : q_rng kind 0 4) (hr : q_rng rank 0 9) (hb : q_rng bits 0 255) : 0 ≤ (q_str kind rank (q_bc bits)).toInt ∧ (q_str kind rank (q_bc bits)).toInt ≤ 100 := by
  obtain ⟨b, hb', rfl⟩ := q_in_get (n := 256) (x := bits) (decide_eq_true ⟨hb.1, by have := hb.2; omega⟩)
  obtain ⟨r, hr', rfl⟩ := q_in_get (n := 10) (x := rank) (decide_eq_true ⟨hr.1, by have := hr.2; omega⟩)
  obtain ⟨k, hk', rfl⟩ := q_in_get (n := 5) (x := kind) (decide_eq_true ⟨hk.1, by have := hk.2; omega⟩)
  have hbc := q_bc_rng b hb'
  obtain ⟨z, hz, ez⟩ := q_in_get (n := 9) (x := q_bc (nI b)) (decide_eq_true (by omega))
  rw [ez]
  have hall : ∀ k, k < 5 → ∀ r, r < 10 → ∀ z, z < 9 → 0 ≤ (q_str (nI k) (nI r) (nI z)).toInt ∧ (q_str (nI k) (nI r) (nI z)).toInt ≤ 100 := by decide +kernel
  exact hall k hk' r hr' z hz
theorem q_sub_cmp {x y : Int32} (hx : 0 ≤ x.toInt ∧ x.toInt ≤ 100) (hy : 0 ≤ y.toInt ∧ y.toInt ≤ 100) : (0 < x - y) = (y < x) ∧ (x - y = 0) = (x = y) := by
  obtain ⟨a, ha, rfl⟩ := q_in_get (n := 101) (x := x) (decide_eq_true (by omega))
  obtain ⟨b, hb, rfl⟩ := q_in_get (n := 101) (x := y) (decide_eq_true (by omega))
  rw [q_ltN (by omega) (by omega), q_eqN (by omega) (by omega)]
  by_cases h : b ≤ a
  · rw [q_sub h, show (0 : Int32) = nI 0 by decide, q_ltN (by omega) (by omega), q_eqN (by omega) (by omega)]
    exact ⟨propext (by omega), propext (by omega)⟩
  · have e : (nI a - nI b).toInt = (a : Int) - b := by
      rw [Int32.toInt_sub, nI_toInt (by omega), nI_toInt (by omega)]
      exact Int.bmod_eq_of_le (by omega) (by omega)
    rw [q_lt, q_eqz, e, Int32.toInt_zero]
    exact ⟨propext (by omega), propext (by omega)⟩
/-- both provide alike -/
theorem q_prov_eq {n hk p s : Nat} (m : v_main q_bc I n hk) (hp : p < n) (hr : I 131 p = 1) (hs : s < 31) : q_provC I n p s = q_provM I n p s := by
  obtain ⟨⟨a1, a2, a3, a4, a5, a6⟩, m2, m3, m4, m5⟩ := id m
  obtain ⟨bp, bpA, -⟩ := a5 p hp
  have hcan : ∀ q, q < n → q_bt (q_mk (fun q => q_bt (q_mk (fun q => decide (I (6 + q) 9 = 1) && decide (I (6 + q) 10 < I (6 + p) 10)) n) q && q_bt (I (6 + q) 3) s) n) q = q_canM I p s q := by
    intro q hq
    obtain ⟨bq, bqA, -⟩ := a5 q hq
    rw [q_bt_mk (by omega) (by omega), q_bt_mk (by omega) (by omega), decide_eq_true hq, Bool.true_and, Bool.true_and]
    unfold q_canM
    rw [bq.2.2.2.2.2.2.1, bq.2.2.2.1, bpA hr]
    by_cases h1 : I 131 q = 1
    · rw [bqA h1]
      by_cases h2 : q = p
      · subst h2
        simp [Int32.lt_irrefl]
      · simp [h1, h2, Bool.and_comm]
    · simp [h1]
  refine q_pick_congr hcan (fun q b hq hb c1 c2 => ?_) n 0 none (by omega) (fun b e => by injection e) (fun b e => by injection e)
  rw [hcan q hq] at c1
  rw [hcan b hb] at c2
  simp only [q_canM, Bool.and_eq_true, decide_eq_true_eq] at c1 c2
  obtain ⟨bq, bqA, bqS, bqN, r1, r2, r3, r4, -⟩ := a5 q hq
  obtain ⟨bb, bbA, bbS, bbN, u1, u2, u3, u4, -⟩ := a5 b hb
  have e1 : I (6 + q) 6 = q_mstr I q := by
    rw [bqS, bq.1, bq.2.1, bq.2.2.2.1]
    rfl
  have e2 : I (6 + b) 6 = q_mstr I b := by
    rw [bbS, bb.1, bb.2.1, bb.2.2.2.1]
    rfl
  have h := q_sub_cmp (q_str_rng r1 r2 r4) (q_str_rng u1 u2 u4)
  unfold q_betC q_betM
  rw [e1, e2, bqA c1.2.1, bbA c2.2.1]
  unfold q_mstr
  simp only [h.1, h.2]
theorem t_provider {x y : Int32} (h : q_J c I J t) : q_SI 100 91 172 [.int x, .int y] (q_J (c + 1)) L I J t := by
  obtain ⟨n, hk, m, h2, h3, h4, h5, h6, h7, h8⟩ := id h
  obtain ⟨⟨a1, a2, a3, a4, a5, a6⟩, m2, m3, m4, m5⟩ := id m
  unfold q_SI
  rw [e_C_provider, s_hasPlug a1 a3, q_onI_i, g_C_provider_8]
  cases hb : q_in x n with
  | false =>
    simp only [q_onI_i, q_onJ_j, q_onS_s, q_onB_t, true_and, and_true, true_or, or_true, eq_self, true_implies, not_true_eq_false, not_false_eq_true, false_implies, q_bb0, q_bbok, q_bbok2, Bool.true_eq_false, Bool.false_eq_true, reduceCtorEq, s_refuseT1, g_C_provider_25]
    refine ⟨_, _, _, _, rfl, rfl, q_u_ne (by decide), ?_⟩
    rw [e_M_provider, s_isPlug (by rw [q_u_ne (by decide)]; exact m2) a3, hb, q_onI_i, g_M_provider_5]
    simp only [q_onI_i, q_onJ_j, q_onS_s, q_onB_t, true_and, and_true, true_or, or_true, eq_self, true_implies, not_true_eq_false, not_false_eq_true, false_implies, q_bb0, q_bbok, q_bbok2, Bool.true_eq_false, Bool.false_eq_true, reduceCtorEq, s_noT1, g_M_provider_20]
    exact ⟨_, _, _, rfl, q_J_refuse 1 h⟩
  | true =>
    obtain ⟨p, hp, rfl⟩ := q_in_get hb
    simp only [q_onI_i, q_onJ_j, q_onS_s, q_onB_t, true_and, and_true, true_or, or_true, eq_self, true_implies, not_true_eq_false, not_false_eq_true, false_implies, q_bb0, q_bbok, q_bbok2, Bool.true_eq_false, Bool.false_eq_true, reduceCtorEq]
    rw [s_isBelow, show (8 : Int32).toInt = 8 by decide, q_onI_i, g_C_provider_17]
    cases hy : q_in y 8 with
    | false =>
      simp only [q_onI_i, q_onJ_j, q_onS_s, q_onB_t, true_and, and_true, true_or, or_true, eq_self, true_implies, not_true_eq_false, not_false_eq_true, false_implies, q_bb0, q_bbok, q_bbok2, Bool.true_eq_false, Bool.false_eq_true, reduceCtorEq, s_refuseT1, g_C_provider_25]
      refine ⟨_, _, _, _, rfl, rfl, q_u_ne (by decide), ?_⟩
      rw [e_M_provider, s_isPlug (by rw [q_u_ne (by decide)]; exact m2) a3, hb, q_onI_i, g_M_provider_5]
      simp only [q_onI_i, q_onJ_j, q_onS_s, q_onB_t, true_and, and_true, true_or, or_true, eq_self, true_implies, not_true_eq_false, not_false_eq_true, false_implies, q_bb0, q_bbok, q_bbok2, Bool.true_eq_false, Bool.false_eq_true, reduceCtorEq, s_isService, hy, g_M_provider_12, s_noT1, g_M_provider_20]
      exact ⟨_, _, _, rfl, q_J_refuse 1 h⟩
    | true =>
      obtain ⟨s, hs, rfl⟩ := q_in_get (n := 8) hy
      obtain ⟨b1, b2, b3, b4, b5⟩ := a5 p hp
      simp only [q_onI_i, q_onJ_j, q_onS_s, q_onB_t, true_and, and_true, true_or, or_true, eq_self, true_implies, not_true_eq_false, not_false_eq_true, false_implies, q_bb0, q_bbok, q_bbok2, Bool.true_eq_false, Bool.false_eq_true, reduceCtorEq, s_runs a1 a3, hb, q_clamp (show p < 2 ^ 31 by omega), g_C_provider_34, Bool.true_and, q_bnd (show p < 12 by omega) (by decide), r_plug (show p < 12 by omega), i_plug (show p < 12 by omega), b1.2.2.2.2.2.2.1]
      by_cases hr : I 131 p = 1
      · simp only [hr, decide_true, q_onI_i, q_onJ_j, q_onS_s, q_onB_t, true_and, and_true, true_or, or_true, eq_self, true_implies, not_true_eq_false, not_false_eq_true, false_implies, q_bb0, q_bbok, q_bbok2, Bool.true_eq_false, Bool.false_eq_true, reduceCtorEq, s_needs (i_plug (show p < 12 by omega)) (show s < 31 by omega), g_C_provider_50, b1.2.2.1]
        cases hn : q_bt (I 131 (36 + p)) s with
        | false =>
          simp only [q_onI_i, q_onJ_j, q_onS_s, q_onB_t, true_and, and_true, true_or, or_true, eq_self, true_implies, not_true_eq_false, not_false_eq_true, false_implies, q_bb0, q_bbok, q_bbok2, Bool.true_eq_false, Bool.false_eq_true, reduceCtorEq]
          refine ⟨_, _, _, _, rfl, rfl, rfl, ?_⟩
          rw [e_M_provider, s_isPlug m2 a3, hb, q_onI_i, g_M_provider_5]
          simp only [q_onI_i, q_onJ_j, q_onS_s, q_onB_t, true_and, and_true, true_or, or_true, eq_self, true_implies, not_true_eq_false, not_false_eq_true, false_implies, q_bb0, q_bbok, q_bbok2, Bool.true_eq_false, Bool.false_eq_true, reduceCtorEq, s_isService, hy, g_M_provider_12, s_state (show p < 108 by omega), g_M_provider_26, hr, s_isNeeded (show p < 12 by omega) (show s < 31 by omega), hn, g_M_provider_36]
          exact ⟨_, _, _, rfl, q_J_next h⟩
        | true =>
          simp only [q_onI_i, q_onJ_j, q_onS_s, q_onB_t, true_and, and_true, true_or, or_true, eq_self, true_implies, not_true_eq_false, not_false_eq_true, false_implies, q_bb0, q_bbok, q_bbok2, Bool.true_eq_false, Bool.false_eq_true, reduceCtorEq, s_providerFor a1 a3 hp (show s < 31 by omega), g_C_provider_62]
          refine ⟨_, _, _, _, rfl, rfl, rfl, ?_⟩
          rw [e_M_provider, s_isPlug m2 a3, hb, q_onI_i, g_M_provider_5]
          simp only [q_onI_i, q_onJ_j, q_onS_s, q_onB_t, true_and, and_true, true_or, or_true, eq_self, true_implies, not_true_eq_false, not_false_eq_true, false_implies, q_bb0, q_bbok, q_bbok2, Bool.true_eq_false, Bool.false_eq_true, reduceCtorEq, s_isService, hy, g_M_provider_12, s_state (show p < 108 by omega), g_M_provider_26, hr, s_isNeeded (show p < 12 by omega) (show s < 31 by omega), hn, g_M_provider_36, s_provides m2 a3 hp (show s < 31 by omega), g_M_provider_45]
          exact ⟨by rw [q_prov_eq m hp hr (by omega)], _, _, _, rfl, q_J_next h⟩
      · simp only [decide_eq_false hr, q_onI_i, q_onJ_j, q_onS_s, q_onB_t, true_and, and_true, true_or, or_true, eq_self, true_implies, not_true_eq_false, not_false_eq_true, false_implies, q_bb0, q_bbok, q_bbok2, Bool.true_eq_false, Bool.false_eq_true, reduceCtorEq]
        refine ⟨_, _, _, _, rfl, rfl, rfl, ?_⟩
        rw [e_M_provider, s_isPlug m2 a3, hb, q_onI_i, g_M_provider_5]
        simp only [q_onI_i, q_onJ_j, q_onS_s, q_onB_t, true_and, and_true, true_or, or_true, eq_self, true_implies, not_true_eq_false, not_false_eq_true, false_implies, q_bb0, q_bbok, q_bbok2, Bool.true_eq_false, Bool.false_eq_true, reduceCtorEq, s_isService, hy, g_M_provider_12, s_state (show p < 108 by omega), g_M_provider_26, hr]
        exact ⟨_, _, _, rfl, q_J_next h⟩
end OPS8
