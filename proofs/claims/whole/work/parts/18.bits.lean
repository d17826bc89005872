/-! bits of an int -/
def q_bt (x : Int32) (k : Nat) : Bool := x.toBitVec.getLsbD k
theorem q_bt_ext {x y : Int32} (h : ∀ k, k < 32 → q_bt x k = q_bt y k) : x = y := by
  apply Int32.toBitVec_inj.mp
  apply BitVec.eq_of_getLsbD_eq
  intro i hi
  exact h i hi
theorem q_bt_or {x y : Int32} {k : Nat} : q_bt (x ||| y) k = (q_bt x k || q_bt y k) := by
  unfold q_bt
  rw [Int32.toBitVec_or, BitVec.getLsbD_or]
theorem q_bt_and {x y : Int32} {k : Nat} : q_bt (x &&& y) k = (q_bt x k && q_bt y k) := by
  unfold q_bt
  rw [Int32.toBitVec_and, BitVec.getLsbD_and]
theorem q_bt_0 {k : Nat} : q_bt 0 k = false := by
  unfold q_bt
  rw [Int32.toBitVec_zero, BitVec.getLsbD_zero]
theorem q_bt_one : ∀ k, k < 32 → ∀ m, m < 32 → q_bt ((1 : Int32) <<< (nI k &&& 31)) m = decide (m = k) := by decide +kernel
theorem q_bt_not : ∀ k, k < 32 → ∀ m, m < 32 → q_bt (((1 : Int32) <<< (nI k &&& 31)) ^^^ (-1 : Int32)) m = !decide (m = k) := by decide +kernel
theorem q_smod : ∀ k, k < 32 → (nI k &&& 31).toBitVec.smod 32 = BitVec.ofNat 32 k := by decide +kernel
theorem q_bt_shr {x : Int32} {k : Nat} (hk : k < 31) : (x >>> (nI k &&& 31)) &&& 1 = (match q_bt x k with
    | true => 1
    | false => 0) := by
  apply q_bt_ext
  intro m hm
  rw [q_bt_and]
  have h1 : q_bt (1 : Int32) m = decide (m = 0) := by
    have := q_bt_one 0 (by decide) m hm
    exact this
  rw [h1]
  have h2 : m = 0 → q_bt (x >>> (nI k &&& 31)) m = q_bt x k := by
    intro e
    subst e
    unfold q_bt
    rw [Int32.toBitVec_shiftRight, q_smod k (by omega)]
    rw [BitVec.sshiftRight_eq', BitVec.toNat_ofNat, Nat.mod_eq_of_lt (by omega), BitVec.getLsbD_sshiftRight]
    simp
    intro h
    omega
  by_cases e : m = 0
  · rw [h2 e]
    subst e
    cases q_bt x k <;> decide
  · rw [decide_eq_false e, Bool.and_false]
    cases q_bt x k
    · exact q_bt_0.symm
    · rw [h1, decide_eq_false e]
theorem q_shr0 {x : Int32} {k : Nat} (hk : k < 31) : ((x >>> (nI k &&& 31)) &&& 1 = 0) = (q_bt x k = false) := by
  rw [q_bt_shr hk]
  cases q_bt x k <;> simp
theorem q_shr1 {x : Int32} {k : Nat} (hk : k < 31) : ((x >>> (nI k &&& 31)) &&& 1 = 1) = (q_bt x k = true) := by
  rw [q_bt_shr hk]
  cases q_bt x k <;> simp
/-- a set as bits -/
def q_orb (f : Nat → Bool) (p : Nat) (b : Int32) : Int32 := match f p with
  | true => b ||| ((1 : Int32) <<< (nI p &&& 31))
  | false => b
theorem q_bt_it {f : Nat → Bool} : ∀ (k i : Nat) (b : Int32), i + k ≤ 32 → ∀ m, m < 32 → q_bt (q_it (q_orb f) i k b) m = (q_bt b m || (decide (i ≤ m ∧ m < i + k) && f m))
  | 0, i, b, _, m, _ => by
    unfold q_it
    rw [decide_eq_false (by omega)]
    simp
  | k + 1, i, b, h, m, hm => by
    unfold q_it
    rw [q_bt_it k (i + 1) _ (by omega) m hm]
    have h1 : q_bt (q_orb f i b) m = (q_bt b m || (decide (m = i) && f m)) := by
      unfold q_orb
      cases hf : f i with
      | true =>
        dsimp only
        rw [q_bt_or, q_bt_one i (by omega) m hm]
        by_cases e : m = i
        · subst e; simp [hf]
        · simp [e]
      | false =>
        dsimp only
        by_cases e : m = i
        · subst e; simp [hf]
        · simp [e]
    rw [h1]
    by_cases e : m = i
    · subst e
      rw [decide_eq_true (show m = m from rfl), decide_eq_false (show ¬ (m + 1 ≤ m ∧ m < m + 1 + k) by omega), decide_eq_true (show m ≤ m ∧ m < m + (k + 1) by omega)]
      simp
    · rw [decide_eq_false e]
      by_cases e2 : i + 1 ≤ m ∧ m < i + 1 + k
      · rw [decide_eq_true e2, decide_eq_true (show i ≤ m ∧ m < i + (k + 1) by omega)]
        simp
      · rw [decide_eq_false e2, decide_eq_false (show ¬ (i ≤ m ∧ m < i + (k + 1)) by omega)]
        simp
def q_mk (f : Nat → Bool) (n : Nat) : Int32 := q_it (q_orb f) 0 n 0
theorem q_bt_mk {f : Nat → Bool} {n m : Nat} (hn : n ≤ 32) (hm : m < 32) : q_bt (q_mk f n) m = (decide (m < n) && f m) := by
  unfold q_mk
  rw [q_bt_it n 0 0 (by omega) m hm, q_bt_0]
  simp
theorem q_mk_congr {f g : Nat → Bool} {n : Nat} (h : ∀ p, p < n → f p = g p) : q_mk f n = q_mk g n := q_it_congr n 0 0 fun p a _ h2 => by
  unfold q_orb
  rw [h p (by omega)]
theorem q_mk0 {f : Nat → Bool} {n : Nat} (hn : n ≤ 32) : (q_mk f n = 0) = (∀ p, p < n → f p = false) := by
  apply propext
  refine ⟨fun h p hp => ?_, fun h => ?_⟩
  · have h1 := congrArg (fun z => q_bt z p) h
    rw [q_bt_mk hn (by omega), q_bt_0, decide_eq_true hp, Bool.true_and] at h1
    exact h1
  · apply q_bt_ext
    intro m hm
    rw [q_bt_mk hn hm, q_bt_0]
    by_cases e : m < n
    · rw [h m e]; simp
    · rw [decide_eq_false e]; simp
