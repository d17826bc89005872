/-! words for the pure part -/
def q_bb (b : Bool) : Int32 := match b with
  | true => 1
  | false => 0
theorem q_bb0 {b : Bool} : (q_bb b = 0) = (b = false) := by cases b <;> simp [q_bb]
theorem q_bb1 {b : Bool} : (q_bb b = 1) = (b = true) := by cases b <;> simp [q_bb]
theorem q_bbok {b : Bool} : (q_bb b = 0 ∨ q_bb b = 1) = True := by cases b <;> simp [q_bb]
theorem q_bbok2 {b : Bool} : (b = false ∨ q_bb b = 1) = True := by cases b <;> simp [q_bb]
theorem q_ok0 : ((0 : Int32) = 0 ∨ (0 : Int32) = 1) = True := by simp
theorem q_ok1 : ((1 : Int32) = 0 ∨ (1 : Int32) = 1) = True := by simp
/-- 0 ≤ x < c -/
def q_in (x : Int32) (c : Int) : Bool := decide (0 ≤ x.toInt ∧ x.toInt < c)
theorem q_in_get {x : Int32} {n : Nat} (h : q_in x (n : Int) = true) : ∃ k, k < n ∧ x = nI k := by
  have h1 := of_decide_eq_true h
  refine ⟨x.toInt.toNat, by omega, ?_⟩
  have hlt : x.toInt < 2 ^ 31 := Int32.toInt_lt x
  apply Int32.toInt_inj.mp
  rw [nI_toInt (by omega)]
  omega
theorem q_in_nI {k n : Nat} (hk : k < 2 ^ 31) : q_in (nI k) (n : Int) = decide (k < n) := by
  unfold q_in
  rw [nI_toInt hk]
  by_cases h : k < n
  · rw [decide_eq_true h]; exact decide_eq_true ⟨by omega, by omega⟩
  · rw [decide_eq_false h]; exact decide_eq_false (fun z => h (by omega))
/-- a yes or no at the end of a tree -/
theorem q_ite {Q : Value → q_Mem → Prop} {c : Prop} [Decidable c] {a b : Int32} {μ : q_Mem} : ((c → Q (.int a) μ) ∧ (¬ c → Q (.int b) μ)) = Q (.int (if c then a else b)) μ := by
  by_cases h : c
  · simp [h]
  · simp [h]
theorem q_br {c : Prop} {A B : Prop} (h : c) : ((c → A) ∧ (¬ c → B)) = A := by simp [h]
theorem q_brn {c : Prop} {A B : Prop} (h : ¬ c) : ((c → A) ∧ (¬ c → B)) = B := by simp [h]
theorem q_brb {b : Bool} {A B : Prop} : ((b = false → A) ∧ (¬ b = false → B)) = (match b with | true => B | false => A) := by cases b <;> simp
/-- loops -/
def q_it {α : Type} (f : Nat → α → α) : Nat → Nat → α → α
  | _, 0, a => a
  | i, k + 1, a => q_it f (i + 1) k (f i a)
theorem q_it_s {α : Type} {f : Nat → α → α} {i k : Nat} {a : α} : q_it f i (k + 1) a = q_it f (i + 1) k (f i a) := rfl
theorem q_it_congr {α : Type} {f g : Nat → α → α} : ∀ (k i : Nat) (a : α), (∀ p a, i ≤ p → p < i + k → f p a = g p a) → q_it f i k a = q_it g i k a
  | 0, _, _, _ => rfl
  | k + 1, i, a, h => by
    unfold q_it
    rw [h i a (Nat.le_refl _) (by omega)]
    exact q_it_congr k (i + 1) _ (fun p a h1 h2 => h p a (by omega) (by omega))
def q_any (f : Nat → Bool) : Nat → Nat → Bool
  | _, 0 => false
  | i, k + 1 => f i || q_any f (i + 1) k
theorem q_any_s {f : Nat → Bool} {i k : Nat} : q_any f i (k + 1) = (f i || q_any f (i + 1) k) := rfl
theorem q_any_congr {f g : Nat → Bool} : ∀ (k i : Nat), (∀ p, i ≤ p → p < i + k → f p = g p) → q_any f i k = q_any g i k
  | 0, _, _ => rfl
  | k + 1, i, h => by
    unfold q_any
    rw [h i (Nat.le_refl _) (by omega), q_any_congr k (i + 1) (fun p h1 h2 => h p (by omega) (by omega))]
/-- the first that is so -/
def q_first (f : Nat → Bool) : Nat → Nat → Option Nat
  | _, 0 => none
  | i, k + 1 => match f i with
    | true => some i
    | false => q_first f (i + 1) k
theorem q_first_congr {f g : Nat → Bool} : ∀ (k i : Nat), (∀ p, i ≤ p → p < i + k → f p = g p) → q_first f i k = q_first g i k
  | 0, _, _ => rfl
  | k + 1, i, h => by
    unfold q_first
    rw [h i (Nat.le_refl _) (by omega), q_first_congr k (i + 1) (fun p h1 h2 => h p (by omega) (by omega))]
theorem q_bnd {i N : Nat} (h : i < N) (hN : N < 2 ^ 31) : (¬ (nI i < 0 ∨ N ≤ i)) = True := eq_true (fun z => z.elim (nI_pos (by omega)) (fun z => by omega))
theorem q_clamp {i : Nat} (h : i < 2 ^ 31) : (nI i).toNatClampNeg = i := nI_clamp h
theorem q_leN {a b : Nat} (ha : a < 2 ^ 31) (hb : b < 2 ^ 31) : (nI a ≤ nI b) = (a ≤ b) := by
  apply propext
  rw [Int32.le_iff_toInt_le, nI_toInt ha, nI_toInt hb]
  omega
theorem q_ltN {a b : Nat} (ha : a < 2 ^ 31) (hb : b < 2 ^ 31) : (nI a < nI b) = (a < b) := by
  apply propext
  rw [Int32.lt_iff_toInt_lt, nI_toInt ha, nI_toInt hb]
  omega
theorem q_eqN {a b : Nat} (ha : a < 2 ^ 31) (hb : b < 2 ^ 31) : (nI a = nI b) = (a = b) := by
  apply propext
  refine ⟨fun h => ?_, fun h => h ▸ rfl⟩
  have h1 := congrArg Int32.toInt h
  rw [nI_toInt ha, nI_toInt hb] at h1
  omega
theorem q_n1 {a : Nat} : nI a + 1 = nI (a + 1) := (nI_succ a).symm
theorem r_plug {t : Nat} {n : Nat} (h : n < 12) : q_RR t 4 n = some (6 + n) := match n, h with
  | 0, _ => rfl
  | 1, _ => rfl
  | 2, _ => rfl
  | 3, _ => rfl
  | 4, _ => rfl
  | 5, _ => rfl
  | 6, _ => rfl
  | 7, _ => rfl
  | 8, _ => rfl
  | 9, _ => rfl
  | 10, _ => rfl
  | 11, _ => rfl
  | n + 12, h => absurd h (by omega)
theorem i_plug {L : Nat} {n : Nat} (h : n < 12) : q_isO (q_SH L) (6 + n) 5 = true := match n, h with
  | 0, _ => rfl
  | 1, _ => rfl
  | 2, _ => rfl
  | 3, _ => rfl
  | 4, _ => rfl
  | 5, _ => rfl
  | 6, _ => rfl
  | 7, _ => rfl
  | 8, _ => rfl
  | 9, _ => rfl
  | 10, _ => rfl
  | 11, _ => rfl
  | n + 12, h => absurd h (by omega)
theorem r_hook {t : Nat} {n : Nat} (h : n < 24) : q_RR t 5 n = some (18 + n) := match n, h with
  | 0, _ => rfl
  | 1, _ => rfl
  | 2, _ => rfl
  | 3, _ => rfl
  | 4, _ => rfl
  | 5, _ => rfl
  | 6, _ => rfl
  | 7, _ => rfl
  | 8, _ => rfl
  | 9, _ => rfl
  | 10, _ => rfl
  | 11, _ => rfl
  | 12, _ => rfl
  | 13, _ => rfl
  | 14, _ => rfl
  | 15, _ => rfl
  | 16, _ => rfl
  | 17, _ => rfl
  | 18, _ => rfl
  | 19, _ => rfl
  | 20, _ => rfl
  | 21, _ => rfl
  | 22, _ => rfl
  | 23, _ => rfl
  | n + 24, h => absurd h (by omega)
theorem i_hook {L : Nat} {n : Nat} (h : n < 24) : q_isO (q_SH L) (18 + n) 2 = true := match n, h with
  | 0, _ => rfl
  | 1, _ => rfl
  | 2, _ => rfl
  | 3, _ => rfl
  | 4, _ => rfl
  | 5, _ => rfl
  | 6, _ => rfl
  | 7, _ => rfl
  | 8, _ => rfl
  | 9, _ => rfl
  | 10, _ => rfl
  | 11, _ => rfl
  | 12, _ => rfl
  | 13, _ => rfl
  | 14, _ => rfl
  | 15, _ => rfl
  | 16, _ => rfl
  | 17, _ => rfl
  | 18, _ => rfl
  | 19, _ => rfl
  | 20, _ => rfl
  | 21, _ => rfl
  | 22, _ => rfl
  | 23, _ => rfl
  | n + 24, h => absurd h (by omega)
theorem r_kplug {t : Nat} {n : Nat} (h : n < 12) : q_RR t 43 n = some (45 + n) := match n, h with
  | 0, _ => rfl
  | 1, _ => rfl
  | 2, _ => rfl
  | 3, _ => rfl
  | 4, _ => rfl
  | 5, _ => rfl
  | 6, _ => rfl
  | 7, _ => rfl
  | 8, _ => rfl
  | 9, _ => rfl
  | 10, _ => rfl
  | 11, _ => rfl
  | n + 12, h => absurd h (by omega)
theorem i_kplug {L : Nat} {n : Nat} (h : n < 12) : q_isO (q_SH L) (45 + n) 5 = true := match n, h with
  | 0, _ => rfl
  | 1, _ => rfl
  | 2, _ => rfl
  | 3, _ => rfl
  | 4, _ => rfl
  | 5, _ => rfl
  | 6, _ => rfl
  | 7, _ => rfl
  | 8, _ => rfl
  | 9, _ => rfl
  | 10, _ => rfl
  | 11, _ => rfl
  | n + 12, h => absurd h (by omega)
theorem r_khook {t : Nat} {n : Nat} (h : n < 24) : q_RR t 44 n = some (57 + n) := match n, h with
  | 0, _ => rfl
  | 1, _ => rfl
  | 2, _ => rfl
  | 3, _ => rfl
  | 4, _ => rfl
  | 5, _ => rfl
  | 6, _ => rfl
  | 7, _ => rfl
  | 8, _ => rfl
  | 9, _ => rfl
  | 10, _ => rfl
  | 11, _ => rfl
  | 12, _ => rfl
  | 13, _ => rfl
  | 14, _ => rfl
  | 15, _ => rfl
  | 16, _ => rfl
  | 17, _ => rfl
  | 18, _ => rfl
  | 19, _ => rfl
  | 20, _ => rfl
  | 21, _ => rfl
  | 22, _ => rfl
  | 23, _ => rfl
  | n + 24, h => absurd h (by omega)
theorem i_khook {L : Nat} {n : Nat} (h : n < 24) : q_isO (q_SH L) (57 + n) 2 = true := match n, h with
  | 0, _ => rfl
  | 1, _ => rfl
  | 2, _ => rfl
  | 3, _ => rfl
  | 4, _ => rfl
  | 5, _ => rfl
  | 6, _ => rfl
  | 7, _ => rfl
  | 8, _ => rfl
  | 9, _ => rfl
  | 10, _ => rfl
  | 11, _ => rfl
  | 12, _ => rfl
  | 13, _ => rfl
  | 14, _ => rfl
  | 15, _ => rfl
  | 16, _ => rfl
  | 17, _ => rfl
  | 18, _ => rfl
  | 19, _ => rfl
  | 20, _ => rfl
  | 21, _ => rfl
  | 22, _ => rfl
  | 23, _ => rfl
  | n + 24, h => absurd h (by omega)
theorem r_item {t : Nat} {n : Nat} (h : n < 12) : q_RR t 95 n = some (98 + n) := match n, h with
  | 0, _ => rfl
  | 1, _ => rfl
  | 2, _ => rfl
  | 3, _ => rfl
  | 4, _ => rfl
  | 5, _ => rfl
  | 6, _ => rfl
  | 7, _ => rfl
  | 8, _ => rfl
  | 9, _ => rfl
  | 10, _ => rfl
  | 11, _ => rfl
  | n + 12, h => absurd h (by omega)
theorem i_item {L : Nat} {n : Nat} (h : n < 12) : q_isO (q_SH L) (98 + n) 5 = true := match n, h with
  | 0, _ => rfl
  | 1, _ => rfl
  | 2, _ => rfl
  | 3, _ => rfl
  | 4, _ => rfl
  | 5, _ => rfl
  | 6, _ => rfl
  | 7, _ => rfl
  | 8, _ => rfl
  | 9, _ => rfl
  | 10, _ => rfl
  | 11, _ => rfl
  | n + 12, h => absurd h (by omega)
theorem r_shelf {t : Nat} {n : Nat} (h : n < 8) : q_RR t 2 n = some (114 + 2 * n) := match n, h with
  | 0, _ => rfl
  | 1, _ => rfl
  | 2, _ => rfl
  | 3, _ => rfl
  | 4, _ => rfl
  | 5, _ => rfl
  | 6, _ => rfl
  | 7, _ => rfl
  | n + 8, h => absurd h (by omega)
theorem i_shelf {L : Nat} {n : Nat} (h : n < 8) : q_isO (q_SH L) (114 + 2 * n) 6 = true := match n, h with
  | 0, _ => rfl
  | 1, _ => rfl
  | 2, _ => rfl
  | 3, _ => rfl
  | 4, _ => rfl
  | 5, _ => rfl
  | 6, _ => rfl
  | 7, _ => rfl
  | n + 8, h => absurd h (by omega)
theorem r_row {t : Nat} {n : Nat} (h : n < 8) : q_RR t (114 + 2 * n) 0 = some (115 + 2 * n) := match n, h with
  | 0, _ => rfl
  | 1, _ => rfl
  | 2, _ => rfl
  | 3, _ => rfl
  | 4, _ => rfl
  | 5, _ => rfl
  | 6, _ => rfl
  | 7, _ => rfl
  | n + 8, h => absurd h (by omega)
theorem a_row {L : Nat} {n : Nat} (h : n < 8) : q_arr (q_SH L) (115 + 2 * n) 101 = some 160 := match n, h with
  | 0, _ => rfl
  | 1, _ => rfl
  | 2, _ => rfl
  | 3, _ => rfl
  | 4, _ => rfl
  | 5, _ => rfl
  | 6, _ => rfl
  | 7, _ => rfl
  | n + 8, h => absurd h (by omega)
theorem a_rown {L : Nat} {n : Nat} (h : n < 8) : q_arr (q_SH L) (115 + 2 * n) 100 = none := match n, h with
  | 0, _ => rfl
  | 1, _ => rfl
  | 2, _ => rfl
  | 3, _ => rfl
  | 4, _ => rfl
  | 5, _ => rfl
  | 6, _ => rfl
  | 7, _ => rfl
  | n + 8, h => absurd h (by omega)
theorem a_rowl {L j : Nat} {n : Nat} (h : n < 8) : q_arl j (q_SH L) (115 + 2 * n) = some 160 := match n, h with
  | 0, _ => rfl
  | 1, _ => rfl
  | 2, _ => rfl
  | 3, _ => rfl
  | 4, _ => rfl
  | 5, _ => rfl
  | 6, _ => rfl
  | 7, _ => rfl
  | n + 8, h => absurd h (by omega)
