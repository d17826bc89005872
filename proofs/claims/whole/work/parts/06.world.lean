/-! the machine's memory as a world of the kit -/
def q_rn (ad : Nat → Nat) (v : Value) : Value := match v with
  | .ref a => .ref (ad a)
  | v => v
theorem q_rn_cat (ad : Nat → Nat) (v : Value) : (q_rn ad v).category = v.category := by cases v <;> rfl
theorem q_cats_rn (ad : Nat → Nat) (st : List Value) : ((st.map (q_rn ad)).map fun v => v.category).sum = q_cats st := by
  unfold q_cats
  rw [List.map_map]
  congr 1
  exact List.map_congr_left fun v _ => q_rn_cat ad v
def q_fv (ad : Nat → Nat) (μ : q_Mem) (o c k : Nat) : Value := match q_fk (q_tyf c k) with
  | 0 => .int (μ.2.1 o k)
  | 1 => .int (μ.2.1 o k)
  | _ => va_rf ((μ.2.2.2 o k).map ad)
def q_cell (ad : Nat → Nat) (kA : Nat → ClassId) (μ : q_Mem) (o : Nat) (q : Nat × Nat) : va_E :=
  if q.1 ≤ 10 then .inr (q.1, (List.range (q_N q.1)).map fun k => q_fv ad μ o q.1 k)
  else if q.1 = 100 then .inl (kA 100, q.2, .inl (μ.2.1 o))
  else if q.1 = 101 then .inl (kA 101, q.2, .inr (.inl (μ.2.2.1 o)))
  else .inl (kA q.1, q.2, .inr (.inr (.inr (.inr fun i => (μ.2.2.2 o i).map ad))))
def q_world (ad : Nat → Nat) (kA : Nat → ClassId) (μ : q_Mem) : va_W := (List.range (μ.1.length - 1)).map fun i => (ad (i + 1), q_cell ad kA μ (i + 1) (μ.1.getD (i + 1) (0, 0)))
def q_TY (kA : Nat → ClassId) : List (ClassId × FieldType) := [(kA 100, .int), (kA 101, .long), (kA 107, .object RX5), (kA 104, .object RX2), (kA 108, .object RX6)]
/-- the memory is sound: the script stands first, references are of objects that exist -/
def q_ok (L : Nat) (xs : Nat → Int32) (μ : q_Mem) : Prop := μ.1[0]? = some (99, L) ∧ (∀ i, μ.2.1 0 i = xs i) ∧ ∀ o k t, μ.2.2.2 o k = some t → t < μ.1.length
theorem q_world_at {L : Nat} {xs : Nat → Int32} {ad : Nat → Nat} {kA : Nat → ClassId} {μ : q_Mem} (h : q_ok L xs μ) {o : Nat} {q : Nat × Nat} (hq : μ.1[o]? = some q) (hn : q.1 ≠ 99) : o ≠ 0 ∧ (q_world ad kA μ)[o - 1]? = some (ad o, q_cell ad kA μ o q) := by
  have h0 : o ≠ 0 := by
    intro e
    subst e
    rw [h.1] at hq
    cases hq
    exact hn rfl
  refine ⟨h0, ?_⟩
  have hlt : o < μ.1.length := (List.getElem?_eq_some_iff.mp hq).1
  have e : o - 1 + 1 = o := by omega
  unfold q_world
  rw [List.getElem?_map, List.getElem?_range (by omega), Option.map_some, e, List.getD_eq_getElem?_getD, hq]
  rfl
theorem q_world_set {ad : Nat → Nat} {kA : Nat → ClassId} {μ μ' : q_Mem} {o : Nat} {q : Nat × Nat} (h0 : o ≠ 0) (hq : μ.1[o]? = some q) (hs : μ'.1 = μ.1) (hx : ∀ o' q', o' ≠ o → q_cell ad kA μ' o' q' = q_cell ad kA μ o' q') : q_world ad kA μ' = (q_world ad kA μ).set (o - 1) (ad o, q_cell ad kA μ' o q) := by
  apply List.ext_getElem?
  intro i
  have hlt : o < μ.1.length := (List.getElem?_eq_some_iff.mp hq).1
  unfold q_world
  rw [List.getElem?_set, List.getElem?_map, hs, List.length_map, List.length_range]
  by_cases hi : o - 1 = i
  · subst hi
    have e : o - 1 + 1 = o := by omega
    rw [if_pos rfl, if_pos (by omega), List.getElem?_range (by omega), Option.map_some, e, List.getD_eq_getElem?_getD, hq]
    rfl
  · rw [if_neg hi, List.getElem?_map]
    by_cases hl : i < μ.1.length - 1
    · rw [List.getElem?_range hl]
      simp only [Option.map_some]
      rw [hx _ _ (by omega)]
    · rw [List.getElem?_eq_none (by simp; omega)]
      rfl
theorem q_okA_cases {k : Nat} (h : q_okA k = true) : k = 107 ∨ k = 104 ∨ k = 108 := by
  unfold q_okA at h
  simp only [Bool.or_eq_true, beq_iff_eq] at h
  omega
theorem q_tyA {kA : Nat → ClassId} {k : Nat} (h : q_okA k = true) : ∃ t : Nat, (q_TY kA)[t]? = some (kA k, FieldType.object (q_cn (k - 102))) := by
  rcases q_okA_cases h with rfl | rfl | rfl
  · exact ⟨2, rfl⟩
  · exact ⟨3, rfl⟩
  · exact ⟨4, rfl⟩
theorem q_isO_spec {sh : List (Nat × Nat)} {o c : Nat} (h : q_isO sh o c = true) : ∃ n, sh[o]? = some (c, n) := by
  unfold q_isO at h
  split at h
  · rename_i q hq
    obtain ⟨a, b⟩ := q
    have : a = c := by simpa using h
    subst this
    exact ⟨b, hq⟩
  · cases h
theorem q_arr_spec {sh : List (Nat × Nat)} {o k n : Nat} (h : q_arr sh o k = some n) : sh[o]? = some (k, n) := by
  unfold q_arr at h
  split at h
  · rename_i q hq
    obtain ⟨a, b⟩ := q
    split at h
    · rename_i e
      have : a = k := by simpa using e
      subst this
      cases h
      exact hq
    · cases h
  · cases h
theorem q_ard_spec {j : Nat} {sh : List (Nat × Nat)} {o n : Nat} (h : q_ard j sh o = some n) : sh[o]? = some (100, n) ∨ (j = 226 ∧ o = 0 ∧ sh[o]? = some (99, n)) := by
  unfold q_ard at h
  split at h
  · rename_i q hq
    obtain ⟨a, b⟩ := q
    split at h
    · rename_i e
      cases h
      simp only [Bool.or_eq_true, Bool.and_eq_true, beq_iff_eq] at e
      rcases e with e | ⟨e, e1, e2⟩
      · subst e
        exact Or.inl hq
      · subst e
        exact Or.inr ⟨e1, e2, hq⟩
    · cases h
  · cases h
theorem q_arq_spec {sh : List (Nat × Nat)} {o : Nat} {N : Nat × Nat} (h : q_arq sh o = some N) : sh[o]? = some (102 + N.1, N.2) ∧ q_okA (102 + N.1) = true := by
  unfold q_arq at h
  split at h
  · rename_i q hq
    obtain ⟨a, b⟩ := q
    split at h
    · rename_i e
      cases h
      have e2 := q_okA_cases e
      have e3 : 102 + (a - 102) = a := by
        dsimp only at e2
        omega
      dsimp only at e e3 ⊢
      rw [e3]
      exact ⟨hq, e⟩
    · cases h
  · cases h
theorem q_arl_spec {j : Nat} {sh : List (Nat × Nat)} {o n : Nat} (h : q_arl j sh o = some n) : (∃ k, sh[o]? = some (k, n) ∧ (k = 100 ∨ k = 101 ∨ q_okA k = true)) ∨ (j = 226 ∧ o = 0 ∧ sh[o]? = some (99, n)) := by
  unfold q_arl at h
  split at h
  · rename_i q hq
    obtain ⟨a, b⟩ := q
    split at h
    · rename_i e
      cases h
      simp only [Bool.or_eq_true, Bool.and_eq_true, beq_iff_eq] at e
      rcases e with e | e | e | ⟨e, e1, e2⟩
      · exact Or.inl ⟨a, hq, Or.inl e⟩
      · exact Or.inl ⟨a, hq, Or.inr (Or.inl e)⟩
      · exact Or.inl ⟨a, hq, Or.inr (Or.inr e)⟩
      · subst e
        exact Or.inr ⟨e1, e2, hq⟩
    · cases h
  · cases h
/-- cells of a changed memory -/
theorem q_cell_congr {ad : Nat → Nat} {kA : Nat → ClassId} {μ μ' : q_Mem} {o : Nat} {q : Nat × Nat} (h1 : μ'.2.1 o = μ.2.1 o) (h2 : μ'.2.2.1 o = μ.2.2.1 o) (h3 : μ'.2.2.2 o = μ.2.2.2 o) : q_cell ad kA μ' o q = q_cell ad kA μ o q := by
  unfold q_cell q_fv
  rw [h1, h2, h3]
theorem q_sI_ne {μ : q_Mem} {o k o' : Nat} {v : Int32} (h : o' ≠ o) : (q_sI μ o k v).2.1 o' = μ.2.1 o' := by
  funext b
  simp [q_sI, h]
theorem q_sI_eq {μ : q_Mem} {o k : Nat} {v : Int32} : (q_sI μ o k v).2.1 o = upd (μ.2.1 o) k v := by
  funext b
  simp [q_sI, upd]
theorem q_sL_ne {μ : q_Mem} {o k o' : Nat} {v : Int64} (h : o' ≠ o) : (q_sL μ o k v).2.2.1 o' = μ.2.2.1 o' := by
  funext b
  simp [q_sL, h]
theorem q_sL_eq {μ : q_Mem} {o k : Nat} {v : Int64} : (q_sL μ o k v).2.2.1 o = vp_updL (μ.2.2.1 o) k v := by
  funext b
  simp [q_sL, vp_updL]
theorem q_sR_ne {μ : q_Mem} {o k o' : Nat} {v : Option Nat} (h : o' ≠ o) : (q_sR μ o k v).2.2.2 o' = μ.2.2.2 o' := by
  funext b
  simp [q_sR, h]
theorem q_wI {L : Nat} {xs : Nat → Int32} {ad : Nat → Nat} {kA : Nat → ClassId} {μ : q_Mem} (h : q_ok L xs μ) {o k : Nat} {v : Int32} {q : Nat × Nat} (hq : μ.1[o]? = some q) (hn : q.1 ≠ 99) : q_world ad kA (q_sI μ o k v) = (q_world ad kA μ).set (o - 1) (ad o, q_cell ad kA (q_sI μ o k v) o q) :=
  q_world_set (q_world_at (ad := ad) (kA := kA) h hq hn).1 hq rfl fun o' q' hne => q_cell_congr (q_sI_ne hne) rfl rfl
theorem q_wL {L : Nat} {xs : Nat → Int32} {ad : Nat → Nat} {kA : Nat → ClassId} {μ : q_Mem} (h : q_ok L xs μ) {o k : Nat} {v : Int64} {q : Nat × Nat} (hq : μ.1[o]? = some q) (hn : q.1 ≠ 99) : q_world ad kA (q_sL μ o k v) = (q_world ad kA μ).set (o - 1) (ad o, q_cell ad kA (q_sL μ o k v) o q) :=
  q_world_set (q_world_at (ad := ad) (kA := kA) h hq hn).1 hq rfl fun o' q' hne => q_cell_congr rfl (q_sL_ne hne) rfl
theorem q_wR {L : Nat} {xs : Nat → Int32} {ad : Nat → Nat} {kA : Nat → ClassId} {μ : q_Mem} (h : q_ok L xs μ) {o k : Nat} {v : Option Nat} {q : Nat × Nat} (hq : μ.1[o]? = some q) (hn : q.1 ≠ 99) : q_world ad kA (q_sR μ o k v) = (q_world ad kA μ).set (o - 1) (ad o, q_cell ad kA (q_sR μ o k v) o q) :=
  q_world_set (q_world_at (ad := ad) (kA := kA) h hq hn).1 hq rfl fun o' q' hne => q_cell_congr rfl rfl (q_sR_ne hne)
theorem q_ok_sI {L : Nat} {xs : Nat → Int32} {μ : q_Mem} (h : q_ok L xs μ) {o k : Nat} {v : Int32} (h0 : o ≠ 0) : q_ok L xs (q_sI μ o k v) := ⟨h.1, fun i => by rw [q_sI_ne (Ne.symm h0)]; exact h.2.1 i, h.2.2⟩
theorem q_ok_sL {L : Nat} {xs : Nat → Int32} {μ : q_Mem} (h : q_ok L xs μ) {o k : Nat} {v : Int64} : q_ok L xs (q_sL μ o k v) := h
theorem q_ok_sR {L : Nat} {xs : Nat → Int32} {μ : q_Mem} (h : q_ok L xs μ) {o k t : Nat} (ht : t < μ.1.length) : q_ok L xs (q_sR μ o k (some t)) := ⟨h.1, h.2.1, fun a b u hu => by
  simp only [q_sR] at hu ⊢
  split at hu
  · cases hu; exact ht
  · exact h.2.2 a b u hu⟩
theorem q_ok_new {L : Nat} {xs : Nat → Int32} {μ : q_Mem} (h : q_ok L xs μ) (k n : Nat) : q_ok L xs (q_new μ k n) := by
  have hl : 0 < μ.1.length := (List.getElem?_eq_some_iff.mp h.1).1
  refine ⟨?_, fun i => ?_, fun a b t ht => ?_⟩
  · show (μ.1 ++ [(k, n)])[0]? = _
    rw [List.getElem?_append_left hl]
    exact h.1
  · show (if 0 = μ.1.length then 0 else μ.2.1 0 i) = xs i
    rw [if_neg (by omega)]
    exact h.2.1 i
  · show t < (μ.1 ++ [(k, n)]).length
    rw [List.length_append]
    have h2 : (if a = μ.1.length then none else μ.2.2.2 a b) = some t := ht
    split at h2
    · cases h2
    · have := h.2.2 a b t h2
      simp only [List.length_cons, List.length_nil]
      omega
/-- a new object: the world grows by its cell -/
theorem q_wnew {L : Nat} {xs : Nat → Int32} {ad : Nat → Nat} {kA : Nat → ClassId} {μ : q_Mem} (h : q_ok L xs μ) (k n q : Nat) : q_world (fun i => if i = μ.1.length then q else ad i) kA (q_new μ k n) = q_world ad kA μ ++ [(q, q_cell ad kA (q_new μ k n) μ.1.length (k, n))] := by
  have hl : 0 < μ.1.length := (List.getElem?_eq_some_iff.mp h.1).1
  have hc : ∀ (o : Nat) (z : Nat × Nat), q_cell (fun i => if i = μ.1.length then q else ad i) kA (q_new μ k n) o z = q_cell ad kA (q_new μ k n) o z := by
    intro o z
    have hm : ∀ i, ((q_new μ k n).2.2.2 o i).map (fun i => if i = μ.1.length then q else ad i) = ((q_new μ k n).2.2.2 o i).map ad := by
      intro i
      cases hR : (q_new μ k n).2.2.2 o i with
      | none => rfl
      | some t =>
        have ht : t < μ.1.length := by
          have h2 : (if o = μ.1.length then none else μ.2.2.2 o i) = some t := hR
          split at h2
          · cases h2
          · exact h.2.2 o i t h2
        simp only [Option.map_some]
        rw [if_neg (by omega)]
    unfold q_cell q_fv
    simp only [hm]
  have hc2 : ∀ (o : Nat) (z : Nat × Nat), o ≠ μ.1.length → q_cell ad kA (q_new μ k n) o z = q_cell ad kA μ o z := fun o z hne => q_cell_congr (by funext b; simp [q_new, hne]) (by funext b; simp [q_new, hne]) (by funext b; simp [q_new, hne])
  apply List.ext_getElem?
  intro i
  have hlen : (q_new μ k n).1.length - 1 = (μ.1.length - 1) + 1 := by
    show (μ.1 ++ [(k, n)]).length - 1 = _
    rw [List.length_append]
    simp only [List.length_cons, List.length_nil]
    omega
  unfold q_world
  rw [hlen, List.getElem?_map]
  by_cases hi : i < μ.1.length - 1
  · rw [List.getElem?_append_left (by simp; omega), List.getElem?_map, List.getElem?_range (by omega), List.getElem?_range hi]
    simp only [Option.map_some]
    rw [if_neg (by omega), hc, hc2 _ _ (by omega)]
    have e : (q_new μ k n).1.getD (i + 1) (0, 0) = μ.1.getD (i + 1) (0, 0) := by
      show (μ.1 ++ [(k, n)]).getD (i + 1) (0, 0) = _
      rw [List.getD_eq_getElem?_getD, List.getD_eq_getElem?_getD, List.getElem?_append_left (by omega)]
    rw [e]
  · by_cases hi2 : i = μ.1.length - 1
    · subst hi2
      have e1 : μ.1.length - 1 + 1 = μ.1.length := by omega
      rw [List.getElem?_append_right (by simp), List.getElem?_range (by omega)]
      simp only [Option.map_some, List.length_map, List.length_range, Nat.sub_self, List.getElem?_cons_zero]
      rw [e1, if_pos rfl, hc]
      have e : (q_new μ k n).1.getD μ.1.length (0, 0) = (k, n) := by
        show (μ.1 ++ [(k, n)]).getD μ.1.length (0, 0) = _
        rw [List.getD_eq_getElem?_getD, List.getElem?_append_right (Nat.le_refl _), Nat.sub_self]
        rfl
      rw [e]
    · rw [List.getElem?_eq_none (by simp; omega), List.getElem?_eq_none (by simp; omega)]
      rfl
/-- the locals: what the list says is held -/
def q_LS (ad : Nat → Nat) (lg : List Nat) (ls : List (Option Value)) (lsR : Array Slot) (nL : Nat) : Prop := ls.length = nL ∧ lsR.size = nL ∧ lv_wf lsR ∧ ∀ (i : Nat) (v : Value), ls[i]? = some (some v) → lsR[i]? = some (.val (q_rn ad v)) ∧ (v.category = 2 → lg.contains i = true)
/-- as the kit's list -/
def q_as (ad : Nat → Nat) (ls : List (Option Value)) : List (Nat × Value) := (List.range ls.length).filterMap fun i => (ls[i]?).join.map fun v => (i, q_rn ad v)
theorem q_as_mem {ad : Nat → Nat} {ls : List (Option Value)} {q : Nat × Value} : q ∈ q_as ad ls ↔ ∃ v, ls[q.1]? = some (some v) ∧ q.2 = q_rn ad v := by
  unfold q_as
  rw [List.mem_filterMap]
  constructor
  · rintro ⟨i, hi, h⟩
    cases h1 : ls[i]? with
    | none => rw [h1] at h; cases h
    | some x =>
      cases x with
      | none => rw [h1] at h; cases h
      | some v =>
        rw [h1] at h
        cases h
        exact ⟨v, h1, rfl⟩
  · rintro ⟨v, h1, h2⟩
    refine ⟨q.1, List.mem_range.mpr (List.getElem?_eq_some_iff.mp h1).1, ?_⟩
    rw [h1]
    obtain ⟨a, b⟩ := q
    simp only at h2
    subst h2
    rfl
theorem q_LS.has {ad : Nat → Nat} {lg : List Nat} {ls : List (Option Value)} {lsR : Array Slot} {nL : Nat} (h : q_LS ad lg ls lsR nL) : lv_has lsR nL (q_as ad ls) := ⟨h.2.1, h.2.2.1, fun q hq => by
  obtain ⟨v, h1, h2⟩ := q_as_mem.mp hq
  rw [h2]
  exact (h.2.2.2 _ _ h1).1⟩
theorem q_kill_len (lg : List Nat) (ls : List (Option Value)) (i : Nat) : (q_kill lg ls i).length = ls.length := by
  unfold q_kill
  split
  · rfl
  · split <;> simp
theorem q_kill_get {lg : List Nat} {ls : List (Option Value)} {i k : Nat} {v : Value} (h : (q_kill lg ls i)[k]? = some (some v)) : ls[k]? = some (some v) ∧ (lg.contains k = true → k + 1 ≠ i) := by
  unfold q_kill at h
  split at h
  · exact ⟨h, fun _ e => by omega⟩
  · rename_i m
    split at h
    · rename_i hc
      by_cases hk : m = k
      · subst hk
        rw [List.getElem?_set] at h
        split at h
        · split at h <;> cases h
        · exact absurd rfl ‹_›
      · rw [List.getElem?_set_ne hk] at h
        exact ⟨h, fun _ e => hk (by omega)⟩
    · rename_i hc
      refine ⟨h, fun hk e => ?_⟩
      have : k = m := by omega
      subst this
      rw [hk] at hc
      cases hc
theorem q_LS.put1 {ad : Nat → Nat} {lg : List Nat} {ls : List (Option Value)} {lsR lsR' : Array Slot} {nL i : Nat} {v : Value} (h : q_LS ad lg ls lsR nL) (hi : i < nL) (hc : v.category = 1) (h' : lv_has lsR' nL ((i, q_rn ad v) :: (q_as ad ls).filter (fun q => !(q.1 == i) && !(q.1 + 1 == i && q.2.category == 2)))) : q_LS ad lg (q_put1 lg ls i v) lsR' nL := by
  refine ⟨by unfold q_put1; rw [List.length_set, q_kill_len]; exact h.1, h'.1, h'.2.1, fun k w hk => ?_⟩
  unfold q_put1 at hk
  by_cases hki : i = k
  · subst hki
    rw [List.getElem?_set_self (by rw [q_kill_len, h.1]; exact hi)] at hk
    cases hk
    exact ⟨h'.2.2 (i, q_rn ad v) List.mem_cons_self, fun h2 => by rw [hc] at h2; cases h2⟩
  · rw [List.getElem?_set_ne hki] at hk
    obtain ⟨h1, h2⟩ := q_kill_get hk
    refine ⟨h'.2.2 (k, q_rn ad w) (List.mem_cons_of_mem _ (List.mem_filter.mpr ⟨q_as_mem.mpr ⟨w, h1, rfl⟩, ?_⟩)), (h.2.2.2 k w h1).2⟩
    simp only [Bool.and_eq_true, Bool.not_eq_true', beq_eq_false_iff_ne, ne_eq, Bool.and_eq_false_iff]
    refine ⟨fun e => hki e.symm, ?_⟩
    by_cases hc2 : w.category = 2
    · exact Or.inl (h2 ((h.2.2.2 k w h1).2 hc2))
    · exact Or.inr (by rw [q_rn_cat]; exact hc2)
theorem q_LS.put2 {ad : Nat → Nat} {lg : List Nat} {ls : List (Option Value)} {lsR lsR' : Array Slot} {nL i : Nat} {v : Value} (h : q_LS ad lg ls lsR nL) (hi : i + 1 < nL) (hg : lg.contains i = true) (h' : lv_has lsR' nL ((i, q_rn ad v) :: (q_as ad ls).filter (fun q => !(q.1 == i) && (!(q.1 == i + 1) && !(q.1 + 1 == i && q.2.category == 2))))) : q_LS ad lg (q_put2 lg ls i v) lsR' nL := by
  refine ⟨by unfold q_put2; rw [List.length_set, List.length_set, q_kill_len]; exact h.1, h'.1, h'.2.1, fun k w hk => ?_⟩
  unfold q_put2 at hk
  by_cases hki : i = k
  · subst hki
    rw [List.getElem?_set_self (by rw [List.length_set, q_kill_len, h.1]; omega)] at hk
    cases hk
    exact ⟨h'.2.2 (i, q_rn ad v) List.mem_cons_self, fun _ => hg⟩
  · rw [List.getElem?_set_ne hki] at hk
    by_cases hk1 : i + 1 = k
    · subst hk1
      rw [List.getElem?_set_self (by rw [q_kill_len, h.1]; exact hi)] at hk
      cases hk
    · rw [List.getElem?_set_ne hk1] at hk
      obtain ⟨h1, h2⟩ := q_kill_get hk
      refine ⟨h'.2.2 (k, q_rn ad w) (List.mem_cons_of_mem _ (List.mem_filter.mpr ⟨q_as_mem.mpr ⟨w, h1, rfl⟩, ?_⟩)), (h.2.2.2 k w h1).2⟩
      simp only [Bool.and_eq_true, Bool.not_eq_true', beq_eq_false_iff_ne, ne_eq, Bool.and_eq_false_iff]
      refine ⟨fun e => hki e.symm, fun e => hk1 e.symm, ?_⟩
      by_cases hc2 : w.category = 2
      · exact Or.inl (h2 ((h.2.2.2 k w h1).2 hc2))
      · exact Or.inr (by rw [q_rn_cat]; exact hc2)
