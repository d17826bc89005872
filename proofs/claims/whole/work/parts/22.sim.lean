/-! runs that are known whole: the machine as a program -/
def q_sim (μ ν : q_Mem) : Prop := (∃ (L L' : Nat) (tl : List (Nat × Nat)), μ.1 = (99, L) :: tl ∧ ν.1 = (99, L') :: tl) ∧ ∀ o, o ≠ 0 → μ.2.1 o = ν.2.1 o ∧ μ.2.2.1 o = ν.2.2.1 o ∧ μ.2.2.2 o = ν.2.2.2 o
theorem q_sim.len {μ ν : q_Mem} (h : q_sim μ ν) : μ.1.length = ν.1.length := by
  obtain ⟨⟨L, L', tl, h1, h2⟩, -⟩ := h
  rw [h1, h2]
  rfl
theorem q_sim.at {μ ν : q_Mem} (h : q_sim μ ν) {o : Nat} (h0 : o ≠ 0) : μ.1[o]? = ν.1[o]? := by
  obtain ⟨⟨L, L', tl, h1, h2⟩, -⟩ := h
  rw [h1, h2]
  cases o with
  | zero => exact absurd rfl h0
  | succ o => rfl
theorem q_sim.zero {μ ν : q_Mem} (h : q_sim μ ν) : (∃ L, μ.1[0]? = some (99, L)) ∧ ∃ L, ν.1[0]? = some (99, L) := by
  obtain ⟨⟨L, L', tl, h1, h2⟩, -⟩ := h
  rw [h1, h2]
  exact ⟨⟨L, rfl⟩, ⟨L', rfl⟩⟩
theorem q_sim.isO {μ ν : q_Mem} (h : q_sim μ ν) {o c : Nat} (hc : c ≤ 98) : q_isO μ.1 o c = q_isO ν.1 o c ∧ (q_isO ν.1 o c = true → o ≠ 0) := by
  by_cases h0 : o = 0
  · subst h0
    obtain ⟨⟨L, e1⟩, ⟨L', e2⟩⟩ := h.zero
    unfold q_isO
    rw [e1, e2]
    refine ⟨rfl, fun h1 => ?_⟩
    have : (99 : Nat) = c := eq_of_beq h1
    omega
  · unfold q_isO
    rw [h.at h0]
    exact ⟨rfl, fun _ => h0⟩
theorem q_sim.arr {μ ν : q_Mem} (h : q_sim μ ν) {o k : Nat} (hk : k ≠ 99) : q_arr μ.1 o k = q_arr ν.1 o k ∧ (∀ n, q_arr ν.1 o k = some n → o ≠ 0) := by
  by_cases h0 : o = 0
  · subst h0
    obtain ⟨⟨L, e1⟩, ⟨L', e2⟩⟩ := h.zero
    unfold q_arr
    rw [e1, e2]
    have e3 : ((99 : Nat) == k) = false := beq_false_of_ne (Ne.symm hk)
    dsimp only
    rw [e3]
    exact ⟨rfl, fun n h1 => by cases h1⟩
  · unfold q_arr
    rw [h.at h0]
    exact ⟨rfl, fun _ _ => h0⟩
theorem q_sim.ard {μ ν : q_Mem} (h : q_sim μ ν) {j o : Nat} (hj : j ≠ 226) : q_ard j μ.1 o = q_ard j ν.1 o ∧ (∀ n, q_ard j ν.1 o = some n → o ≠ 0) := by
  by_cases h0 : o = 0
  · subst h0
    obtain ⟨⟨L, e1⟩, ⟨L', e2⟩⟩ := h.zero
    unfold q_ard
    rw [e1, e2]
    have e3 : (j == 226) = false := beq_false_of_ne hj
    dsimp only
    rw [e3]
    exact ⟨rfl, fun n h1 => by cases h1⟩
  · unfold q_ard
    rw [h.at h0]
    exact ⟨rfl, fun _ _ => h0⟩
theorem q_sim.arl {μ ν : q_Mem} (h : q_sim μ ν) {j o : Nat} (hj : j ≠ 226) : q_arl j μ.1 o = q_arl j ν.1 o := by
  by_cases h0 : o = 0
  · subst h0
    obtain ⟨⟨L, e1⟩, ⟨L', e2⟩⟩ := h.zero
    unfold q_arl
    rw [e1, e2]
    have e3 : (j == 226) = false := beq_false_of_ne hj
    dsimp only
    rw [e3]
    rfl
  · unfold q_arl
    rw [h.at h0]
theorem q_sim.arq {μ ν : q_Mem} (h : q_sim μ ν) {o : Nat} : q_arq μ.1 o = q_arq ν.1 o ∧ (∀ n, q_arq ν.1 o = some n → o ≠ 0) := by
  by_cases h0 : o = 0
  · subst h0
    obtain ⟨⟨L, e1⟩, ⟨L', e2⟩⟩ := h.zero
    unfold q_arq
    rw [e1, e2]
    exact ⟨rfl, fun n h1 => by cases h1⟩
  · unfold q_arq
    rw [h.at h0]
    exact ⟨rfl, fun _ _ => h0⟩
theorem q_sim.sI {μ ν : q_Mem} (h : q_sim μ ν) {o k : Nat} {v : Int32} (h0 : o ≠ 0) : q_sim (q_sI μ o k v) (q_sI ν o k v) := ⟨h.1, fun a ha => ⟨by
  obtain ⟨e1, e2, e3⟩ := h.2 a ha
  funext b
  show (if a = o ∧ b = k then v else μ.2.1 a b) = (if a = o ∧ b = k then v else ν.2.1 a b)
  rw [e1], (h.2 a ha).2.1, (h.2 a ha).2.2⟩⟩
theorem q_sim.sL {μ ν : q_Mem} (h : q_sim μ ν) {o k : Nat} {v : Int64} (h0 : o ≠ 0) : q_sim (q_sL μ o k v) (q_sL ν o k v) := ⟨h.1, fun a ha => ⟨(h.2 a ha).1, by
  obtain ⟨e1, e2, e3⟩ := h.2 a ha
  funext b
  show (if a = o ∧ b = k then v else μ.2.2.1 a b) = (if a = o ∧ b = k then v else ν.2.2.1 a b)
  rw [e2], (h.2 a ha).2.2⟩⟩
theorem q_sim.sR {μ ν : q_Mem} (h : q_sim μ ν) {o k : Nat} {v : Option Nat} (h0 : o ≠ 0) : q_sim (q_sR μ o k v) (q_sR ν o k v) := ⟨h.1, fun a ha => ⟨(h.2 a ha).1, (h.2 a ha).2.1, by
  obtain ⟨e1, e2, e3⟩ := h.2 a ha
  funext b
  show (if a = o ∧ b = k then v else μ.2.2.2 a b) = (if a = o ∧ b = k then v else ν.2.2.2 a b)
  rw [e3]⟩⟩
theorem q_sim.cI {μ ν : q_Mem} (h : q_sim μ ν) {o o' a b c : Nat} (h0 : o ≠ 0) (h1 : o' ≠ 0) : q_sim (q_cI μ o o' a b c) (q_cI ν o o' a b c) := ⟨h.1, fun z hz => ⟨by
  funext k
  show (if z = o' then va_cpy (μ.2.1 o) (μ.2.1 o') a b c k else μ.2.1 z k) = (if z = o' then va_cpy (ν.2.1 o) (ν.2.1 o') a b c k else ν.2.1 z k)
  rw [(h.2 o h0).1, (h.2 o' h1).1, (h.2 z hz).1], (h.2 z hz).2⟩⟩
theorem q_sim.cL {μ ν : q_Mem} (h : q_sim μ ν) {o o' a b c : Nat} (h0 : o ≠ 0) (h1 : o' ≠ 0) : q_sim (q_cL μ o o' a b c) (q_cL ν o o' a b c) := ⟨h.1, fun z hz => ⟨(h.2 z hz).1, by
  funext k
  show (if z = o' then va_cpy (μ.2.2.1 o) (μ.2.2.1 o') a b c k else μ.2.2.1 z k) = (if z = o' then va_cpy (ν.2.2.1 o) (ν.2.2.1 o') a b c k else ν.2.2.1 z k)
  rw [(h.2 o h0).2.1, (h.2 o' h1).2.1, (h.2 z hz).2.1], (h.2 z hz).2.2⟩⟩
theorem q_sim.new {μ ν : q_Mem} (h : q_sim μ ν) {k n : Nat} : q_sim (q_new μ k n) (q_new ν k n) := by
  have hl := h.len
  refine ⟨?_, fun a ha => ?_⟩
  · obtain ⟨⟨L, L', tl, h1, h2⟩, -⟩ := h
    exact ⟨L, L', tl ++ [(k, n)], by show μ.1 ++ _ = _; rw [h1]; rfl, by show ν.1 ++ _ = _; rw [h2]; rfl⟩
  · obtain ⟨e1, e2, e3⟩ := h.2 a ha
    refine ⟨?_, ?_, ?_⟩
    · funext b
      show (if a = μ.1.length then 0 else μ.2.1 a b) = (if a = ν.1.length then 0 else ν.2.1 a b)
      rw [hl, e1]
    · funext b
      show (if a = μ.1.length then 0 else μ.2.2.1 a b) = (if a = ν.1.length then 0 else ν.2.2.1 a b)
      rw [hl, e2]
    · funext b
      show (if a = μ.1.length then none else μ.2.2.2 a b) = (if a = ν.1.length then none else ν.2.2.2 a b)
      rw [hl, e3]
section EV
variable {Z : Type} {r : Z}
theorem q_onB_ev {b : Bool} {x : Option Z} {x' : Prop} (hx : x = some r → x') (h : q_onB none b x = some r) : q_onB False b x' := by
  cases b with
  | true => exact hx h
  | false => cases h
theorem q_onS_ev {α : Type} {y : Option α} {k : α → Option Z} {k' : α → Prop} (hx : ∀ a, y = some a → k a = some r → k' a) (h : q_onS none y k = some r) : q_onS False y k' := by
  cases y with
  | none => cases h
  | some a => exact hx a rfl h
theorem q_onI_ev {v : Value} {k : Int32 → Option Z} {k' : Int32 → Prop} (hx : ∀ a, k a = some r → k' a) (h : q_onI none v k = some r) : q_onI False v k' := by
  cases v <;> first | exact hx _ h | cases h
theorem q_onJ_ev {v : Value} {k : Int64 → Option Z} {k' : Int64 → Prop} (hx : ∀ a, k a = some r → k' a) (h : q_onJ none v k = some r) : q_onJ False v k' := by
  cases v <;> first | exact hx _ h | cases h
theorem q_onR_ev {v : Value} {k : Nat → Option Z} {k' : Nat → Prop} (hx : ∀ a, k a = some r → k' a) (h : q_onR none v k = some r) : q_onR False v k' := by
  cases v <;> first | exact hx _ h | cases h
theorem q_back_ev {t : Option FieldType} {v : Value} {k : List Value → Option Z} {k' : List Value → Prop} (hx : ∀ a, k a = some r → k' a) (h : q_back none t v k = some r) : q_back False t v k' := by
  cases t with
  | none => exact hx _ h
  | some ty => cases ty <;> first | exact q_onI_ev (fun _ => hx _) h | exact q_onJ_ev (fun _ => hx _) h | cases h
theorem q_gd_ev {c : Prop} [Decidable c] {x : Option Z} (h : (if c then x else none) = some r) : c ∧ x = some r := by
  by_cases hc : c
  · rw [if_pos hc] at h; exact ⟨hc, h⟩
  · rw [if_neg hc] at h; cases h
theorem q_br_ev {c : Prop} [Decidable c] {x y : Option Z} (h : (if c then x else y) = some r) : (c → x = some r) ∧ (¬ c → y = some r) := by
  by_cases hc : c
  · rw [if_pos hc] at h; exact ⟨fun _ => h, fun q => absurd hc q⟩
  · rw [if_neg hc] at h; exact ⟨fun q => absurd q hc, fun _ => h⟩
theorem q_sw_ev {go : Int → Option Z} {go' : Int → Prop} (hg : ∀ z, go z = some r → go' z) {d : Int} {x : Int32} : ∀ {ps : List (Int × Int)}, q_sw (fun c _ x y => if c then x else y) go d x ps = some r → q_sw (fun c _ x y => (c → x) ∧ (¬ c → y)) go' d x ps
  | [], h => hg _ h
  | (a, o) :: l, h => by
    have h1 := q_br_ev h
    exact ⟨fun q => hg _ (h1.1 q), fun q => q_sw_ev hg (h1.2 q)⟩
end EV
/-- the classes of fields and receivers are classes -/
def q_tyok (i : Instr) (a _b : Nat) : Bool := match i with
  | .getfield _ => decide (a ≤ 98)
  | .putfield _ => decide (a ≤ 98)
  | .invokevirtual _ => decide ((q_m a).2.1.2.2.1 ≤ 98)
  | _ => true
set_option maxHeartbeats 4000000 in
theorem q_ex_sim {Z : Type} {r : Z} {clO : Nat → List Value → q_Mem → (Value → q_Mem → Option Z) → Option Z} {cl : Nat → List Value → q_Mem → (Value → q_Mem → Prop) → Prop} (hcl : ∀ y as μ ν (k : Value → q_Mem → Option Z) (K : Value → q_Mem → Prop), q_sim μ ν → (∀ v μ' ν', q_sim μ' ν' → k v ν' = some r → K v μ') → clO y as ν k = some r → cl y as μ K) {rtO : Value → q_Mem → Nat → Nat → Option Z} {rt : Value → q_Mem → Nat → Nat → Prop} (hrt : ∀ v μ ν uc us, q_sim μ ν → rtO v ν uc us = some r → rt v μ uc us) {j : Nat} (hj : j ≠ 226) {PO : q_St → Option Z} {P : q_St → Prop} (hP : ∀ pc ls st μ ν uc us, q_sim μ ν → PO (pc, ls, st, ν, uc, us) = some r → P (pc, ls, st, μ, uc, us)) (i : Instr) {n a b pc uc us : Nat} {ls : List (Option Value)} {st : List Value} {μ ν : q_Mem} (hs : q_sim μ ν) (ha : q_tyok i a b = true) (h : q_ex none (fun c _ x => if c then x else none) (fun c _ x y => if c then x else y) clO rtO j PO i n a b pc ls st ν uc us = some r) : q_ex False (fun c _ x => c ∧ x) (fun c _ x y => (c → x) ∧ (¬ c → y)) cl rt j P i n a b pc ls st μ uc us := by
  cases i
  case iconst k =>
    exact hP _ _ _ _ _ _ _ hs h
  case bipush k =>
    exact hP _ _ _ _ _ _ _ hs h
  case sipush k =>
    exact hP _ _ _ _ _ _ _ hs h
  case lconst k =>
    exact hP _ _ _ _ _ _ _ hs h
  case ldc k =>
    exact hP _ _ _ _ _ _ _ hs h
  case ldc_w k =>
    exact hP _ _ _ _ _ _ _ hs h
  case ldc2_w k =>
    exact hP _ _ _ _ _ _ _ hs h
  case goto k =>
    exact hP _ _ _ _ _ _ _ hs h
  case iload_n k =>
    dsimp only [q_ex] at h ⊢
    revert h
    generalize ls[(k : Nat)]? = q
    intro h
    split at h
    · exact hP _ _ _ _ _ _ _ hs h
    · cases h
  case iload k =>
    dsimp only [q_ex] at h ⊢
    revert h
    generalize ls[k]? = q
    intro h
    split at h
    · exact hP _ _ _ _ _ _ _ hs h
    · cases h
  case lload_n k =>
    dsimp only [q_ex] at h ⊢
    revert h
    generalize ls[(k : Nat)]? = q
    intro h
    split at h
    · exact hP _ _ _ _ _ _ _ hs h
    · cases h
  case lload k =>
    dsimp only [q_ex] at h ⊢
    revert h
    generalize ls[k]? = q
    intro h
    split at h
    · exact hP _ _ _ _ _ _ _ hs h
    · cases h
  case aload_n k =>
    dsimp only [q_ex] at h ⊢
    revert h
    generalize ls[(k : Nat)]? = q
    intro h
    split at h
    · exact hP _ _ _ _ _ _ _ hs h
    · cases h
  case aload k =>
    dsimp only [q_ex] at h ⊢
    revert h
    generalize ls[k]? = q
    intro h
    split at h
    · exact hP _ _ _ _ _ _ _ hs h
    · cases h
  case istore_n k =>
    dsimp only [q_ex] at h ⊢
    split at h
    · exact q_onB_ev (hP _ _ _ _ _ _ _ hs) h
    · cases h
  case istore k =>
    dsimp only [q_ex] at h ⊢
    split at h
    · exact q_onB_ev (hP _ _ _ _ _ _ _ hs) h
    · cases h
  case astore_n k =>
    dsimp only [q_ex] at h ⊢
    split at h
    · exact q_onB_ev (hP _ _ _ _ _ _ _ hs) h
    · cases h
  case astore k =>
    dsimp only [q_ex] at h ⊢
    split at h
    · exact q_onB_ev (hP _ _ _ _ _ _ _ hs) h
    · cases h
  case lstore_n k =>
    dsimp only [q_ex] at h ⊢
    split at h
    · exact q_onB_ev (hP _ _ _ _ _ _ _ hs) h
    · cases h
  case lstore k =>
    dsimp only [q_ex] at h ⊢
    split at h
    · exact q_onB_ev (hP _ _ _ _ _ _ _ hs) h
    · cases h
  case iinc k d =>
    dsimp only [q_ex] at h ⊢
    revert h
    generalize ls[k]? = q
    intro h
    split at h
    · exact q_onB_ev (hP _ _ _ _ _ _ _ hs) h
    · cases h
  case iadd =>
    dsimp only [q_ex] at h ⊢
    split at h
    · exact hP _ _ _ _ _ _ _ hs h
    · cases h
  case isub =>
    dsimp only [q_ex] at h ⊢
    split at h
    · exact hP _ _ _ _ _ _ _ hs h
    · cases h
  case imul =>
    dsimp only [q_ex] at h ⊢
    split at h
    · exact hP _ _ _ _ _ _ _ hs h
    · cases h
  case iand =>
    dsimp only [q_ex] at h ⊢
    split at h
    · exact hP _ _ _ _ _ _ _ hs h
    · cases h
  case ior =>
    dsimp only [q_ex] at h ⊢
    split at h
    · exact hP _ _ _ _ _ _ _ hs h
    · cases h
  case ixor =>
    dsimp only [q_ex] at h ⊢
    split at h
    · exact hP _ _ _ _ _ _ _ hs h
    · cases h
  case ishl =>
    dsimp only [q_ex] at h ⊢
    split at h
    · exact hP _ _ _ _ _ _ _ hs h
    · cases h
  case ishr =>
    dsimp only [q_ex] at h ⊢
    split at h
    · exact hP _ _ _ _ _ _ _ hs h
    · cases h
  case iushr =>
    dsimp only [q_ex] at h ⊢
    split at h
    · exact hP _ _ _ _ _ _ _ hs h
    · cases h
  case ineg =>
    dsimp only [q_ex] at h ⊢
    split at h
    · exact hP _ _ _ _ _ _ _ hs h
    · cases h
  case ladd =>
    dsimp only [q_ex] at h ⊢
    split at h
    · exact hP _ _ _ _ _ _ _ hs h
    · cases h
  case lsub =>
    dsimp only [q_ex] at h ⊢
    split at h
    · exact hP _ _ _ _ _ _ _ hs h
    · cases h
  case lmul =>
    dsimp only [q_ex] at h ⊢
    split at h
    · exact hP _ _ _ _ _ _ _ hs h
    · cases h
  case land =>
    dsimp only [q_ex] at h ⊢
    split at h
    · exact hP _ _ _ _ _ _ _ hs h
    · cases h
  case lor =>
    dsimp only [q_ex] at h ⊢
    split at h
    · exact hP _ _ _ _ _ _ _ hs h
    · cases h
  case lshl =>
    dsimp only [q_ex] at h ⊢
    split at h
    · exact hP _ _ _ _ _ _ _ hs h
    · cases h
  case lcmp =>
    dsimp only [q_ex] at h ⊢
    split at h
    · exact hP _ _ _ _ _ _ _ hs h
    · cases h
  case i2l =>
    dsimp only [q_ex] at h ⊢
    split at h
    · exact hP _ _ _ _ _ _ _ hs h
    · cases h
  case l2i =>
    dsimp only [q_ex] at h ⊢
    split at h
    · exact hP _ _ _ _ _ _ _ hs h
    · cases h
  case i2b =>
    dsimp only [q_ex] at h ⊢
    split at h
    · exact hP _ _ _ _ _ _ _ hs h
    · cases h
  case i2s =>
    dsimp only [q_ex] at h ⊢
    split at h
    · exact hP _ _ _ _ _ _ _ hs h
    · cases h
  case idiv =>
    dsimp only [q_ex] at h ⊢
    split at h
    · have g := q_gd_ev h
      exact ⟨g.1, hP _ _ _ _ _ _ _ hs g.2⟩
    · cases h
  case irem =>
    dsimp only [q_ex] at h ⊢
    split at h
    · have g := q_gd_ev h
      exact ⟨g.1, hP _ _ _ _ _ _ _ hs g.2⟩
    · cases h
  case dup =>
    dsimp only [q_ex] at h ⊢
    split at h
    · exact q_onB_ev (hP _ _ _ _ _ _ _ hs) h
    · cases h
  case pop =>
    dsimp only [q_ex] at h ⊢
    split at h
    · exact q_onB_ev (hP _ _ _ _ _ _ _ hs) h
    · cases h
  case dup_x1 =>
    dsimp only [q_ex] at h ⊢
    split at h
    · exact q_onB_ev (hP _ _ _ _ _ _ _ hs) h
    · cases h
  case dup2 =>
    dsimp only [q_ex] at h ⊢
    split at h
    · exact q_onB_ev (hP _ _ _ _ _ _ _ hs) h
    · cases h
  case ifCond cc off =>
    dsimp only [q_ex] at h ⊢
    split at h
    · cases cc <;> (have g := q_br_ev h; exact ⟨fun q => hP _ _ _ _ _ _ _ hs (g.1 q), fun q => hP _ _ _ _ _ _ _ hs (g.2 q)⟩)
    · cases h
  case if_icmp cc off =>
    dsimp only [q_ex] at h ⊢
    split at h
    · cases cc <;> (have g := q_br_ev h; exact ⟨fun q => hP _ _ _ _ _ _ _ hs (g.1 q), fun q => hP _ _ _ _ _ _ _ hs (g.2 q)⟩)
    · cases h
  case tableswitch d lo hi os =>
    dsimp only [q_ex] at h ⊢
    split at h
    · exact q_sw_ev (fun z hz => q_onB_ev (hP _ _ _ _ _ _ _ hs) hz) h
    · cases h
  case lookupswitch d ps =>
    dsimp only [q_ex] at h ⊢
    split at h
    · exact q_sw_ev (fun z hz => q_onB_ev (hP _ _ _ _ _ _ _ hs) hz) h
    · cases h
  case ireturn =>
    dsimp only [q_ex] at h ⊢
    split at h
    · revert h
      generalize (q_m j).1.2.2.2 = r
      intro h
      split at h
      · exact q_onB_ev (hrt _ _ _ _ _ hs) h
      · exact q_onB_ev (fun h => ⟨(q_gd_ev h).1, hrt _ _ _ _ _ hs (q_gd_ev h).2⟩) h
      · cases h
    · cases h
  case lreturn =>
    dsimp only [q_ex] at h ⊢
    split at h
    · revert h
      generalize (q_m j).1.2.2.2 = r
      intro h
      split at h
      · exact q_onB_ev (hrt _ _ _ _ _ hs) h
      · cases h
    · cases h
  case return_ =>
    dsimp only [q_ex] at h ⊢
    split at h
    · revert h
      generalize (q_m j).1.2.2.2 = r
      intro h
      split at h
      · exact q_onB_ev (hrt _ _ _ _ _ hs) h
      · cases h
    · cases h
  case getfield k =>
    have ha : a ≤ 98 := by simpa [q_tyok] using ha
    dsimp only [q_ex] at h ⊢
    split at h
    · rename_i o st2
      obtain ⟨e1, e2⟩ := hs.isO (o := o) ha
      rw [e1]
      revert h e2
      generalize q_isO ν.1 o a = bb
      intro h e2
      cases bb with
      | false => cases h
      | true =>
        obtain ⟨f1, f2, f3⟩ := hs.2 o (e2 rfl)
        refine q_onB_ev (fun h => ?_) h
        rw [f1, f3]
        revert h
        generalize q_fk (q_tyf a b) = f
        intro h
        split at h
        · exact hP _ _ _ _ _ _ _ hs h
        · exact hP _ _ _ _ _ _ _ hs h
        · exact q_onS_ev (fun _ _ => hP _ _ _ _ _ _ _ hs) h
        · cases h
    · cases h
  case putfield k =>
    have ha : a ≤ 98 := by simpa [q_tyok] using ha
    dsimp only [q_ex] at h ⊢
    split at h
    · rename_i v o st2
      obtain ⟨e1, e2⟩ := hs.isO (o := o) ha
      rw [e1]
      revert h e2
      generalize q_isO ν.1 o a = bb
      intro h e2
      cases bb with
      | false => cases h
      | true =>
        have h0 := e2 rfl
        refine q_onB_ev (fun h => ?_) h
        revert h
        generalize q_fk (q_tyf a b) = f
        intro h
        split at h
        · exact q_onI_ev (fun _ => hP _ _ _ _ _ _ _ (hs.sI h0)) h
        · exact q_onI_ev (fun _ h => ⟨(q_gd_ev h).1, hP _ _ _ _ _ _ _ (hs.sI h0) (q_gd_ev h).2⟩) h
        · rw [hs.len]
          exact q_onR_ev (fun _ => q_onB_ev (hP _ _ _ _ _ _ _ (hs.sR h0))) h
        · cases h
    · cases h
  case iaload =>
    dsimp only [q_ex] at h ⊢
    split at h
    · rename_i x o st2
      obtain ⟨e1, e2⟩ := hs.ard (j := j) (o := o) hj
      rw [e1]
      refine q_onS_ev (fun N hN h => ?_) h
      rw [(hs.2 o (e2 N hN)).1]
      exact ⟨(q_gd_ev h).1, hP _ _ _ _ _ _ _ hs (q_gd_ev h).2⟩
    · cases h
  case laload =>
    dsimp only [q_ex] at h ⊢
    split at h
    · rename_i x o st2
      obtain ⟨e1, e2⟩ := hs.arr (o := o) (k := 101) (by decide)
      rw [e1]
      refine q_onS_ev (fun N hN h => ?_) h
      rw [(hs.2 o (e2 N hN)).2.1]
      exact ⟨(q_gd_ev h).1, hP _ _ _ _ _ _ _ hs (q_gd_ev h).2⟩
    · cases h
  case iastore =>
    dsimp only [q_ex] at h ⊢
    split at h
    · rename_i y x o st2
      obtain ⟨e1, e2⟩ := hs.arr (o := o) (k := 100) (by decide)
      rw [e1]
      exact q_onS_ev (fun N hN h => ⟨(q_gd_ev h).1, hP _ _ _ _ _ _ _ (hs.sI (e2 N hN)) (q_gd_ev h).2⟩) h
    · cases h
  case lastore =>
    dsimp only [q_ex] at h ⊢
    split at h
    · rename_i y x o st2
      obtain ⟨e1, e2⟩ := hs.arr (o := o) (k := 101) (by decide)
      rw [e1]
      exact q_onS_ev (fun N hN h => ⟨(q_gd_ev h).1, hP _ _ _ _ _ _ _ (hs.sL (e2 N hN)) (q_gd_ev h).2⟩) h
    · cases h
  case aaload =>
    dsimp only [q_ex] at h ⊢
    split at h
    · rename_i x o st2
      obtain ⟨e1, e2⟩ := hs.arq (o := o)
      rw [e1]
      refine q_onS_ev (fun N hN h => ?_) h
      rw [(hs.2 o (e2 N hN)).2.2]
      exact ⟨(q_gd_ev h).1, q_onS_ev (fun _ _ => hP _ _ _ _ _ _ _ hs) (q_gd_ev h).2⟩
    · cases h
  case aastore =>
    dsimp only [q_ex] at h ⊢
    split at h
    · rename_i y x o st2
      obtain ⟨e1, e2⟩ := hs.arq (o := o)
      rw [e1]
      refine q_onS_ev (fun N hN h => ?_) h
      have hN2 : N.1 ≤ 98 := by
        have h9 := q_okA_cases (q_arq_spec hN).2
        omega
      rw [(hs.isO (o := y) hN2).1]
      exact q_onB_ev (fun h => ⟨(q_gd_ev h).1, hP _ _ _ _ _ _ _ (hs.sR (e2 N hN)) (q_gd_ev h).2⟩) h
    · cases h
  case arraylength =>
    dsimp only [q_ex] at h ⊢
    split at h
    · rw [hs.arl hj]
      exact q_onS_ev (fun _ _ => hP _ _ _ _ _ _ _ hs) h
    · cases h
  case new k =>
    dsimp only [q_ex] at h ⊢
    rw [hs.len]
    exact q_onB_ev (hP _ _ _ _ _ _ _ hs.new) h
  case newarray t =>
    dsimp only [q_ex] at h ⊢
    split at h
    · rw [hs.len]
      refine ⟨(q_gd_ev h).1, q_onB_ev (fun h => ?_) (q_gd_ev h).2⟩
      cases t <;> first | exact hP _ _ _ _ _ _ _ hs.new h | cases h
    · cases h
  case anewarray k =>
    dsimp only [q_ex] at h ⊢
    split at h
    · rw [hs.len]
      exact ⟨(q_gd_ev h).1, q_onB_ev (hP _ _ _ _ _ _ _ hs.new) (q_gd_ev h).2⟩
    · cases h
  case invokevirtual k =>
    have ha : (q_m a).2.1.2.2.1 ≤ 98 := by simpa [q_tyok] using ha
    dsimp only [q_ex] at h ⊢
    refine q_onS_ev (fun q _ h => ?_) h
    revert h
    generalize q.2 = z
    intro h
    split at h
    · rename_i o rest
      rw [(hs.isO (o := o) ha).1]
      refine q_onB_ev (fun h => ?_) h
      unfold q_call at h ⊢
      rw [hs.len]
      exact q_onB_ev (fun h => hcl _ _ _ _ _ _ hs (fun v μ' ν' hs2 => q_back_ev (fun _ => hP _ _ _ _ _ _ _ hs2)) h) h
    · cases h
  case invokestatic k =>
    dsimp only [q_ex] at h ⊢
    revert h
    generalize (a == 301) = a1
    generalize (a == 302) = a2
    generalize (a == 303) = a3
    intro h
    cases a1
    · cases a2
      · cases a3
        · refine q_onS_ev (fun q _ h => ?_) h
          unfold q_call at h ⊢
          rw [hs.len]
          exact q_onB_ev (fun h => hcl _ _ _ _ _ _ hs (fun v μ' ν' hs2 => q_back_ev (fun _ => hP _ _ _ _ _ _ _ hs2)) h) h
        · dsimp only at h ⊢
          split at h
          · exact q_onB_ev (hP _ _ _ _ _ _ _ hs) h
          · cases h
      · dsimp only at h ⊢
        split at h
        · exact q_onB_ev (hP _ _ _ _ _ _ _ hs) h
        · cases h
    · dsimp only at h ⊢
      unfold q_copy at h ⊢
      split at h
      · rename_i n2 dp o2 sp o1 rest
        refine q_onB_ev (fun h => ?_) h
        obtain ⟨e1, e2⟩ := hs.arr (o := o1) (k := 100) (by decide)
        obtain ⟨e3, e4⟩ := hs.arr (o := o2) (k := 100) (by decide)
        obtain ⟨e5, e6⟩ := hs.arr (o := o1) (k := 101) (by decide)
        obtain ⟨e7, e8⟩ := hs.arr (o := o2) (k := 101) (by decide)
        rw [e1, e3, e5, e7]
        cases hz : q_arr ν.1 o1 100 with
        | none =>
          rw [hz] at h
          exact q_onS_ev (fun n5 h5 => q_onS_ev (fun n6 h6 h => ⟨(q_gd_ev h).1, hP _ _ _ _ _ _ _ (hs.cL (e6 n5 h5) (e8 n6 h6)) (q_gd_ev h).2⟩)) h
        | some n5 =>
          rw [hz] at h
          exact q_onS_ev (fun n6 h6 h => ⟨(q_gd_ev h).1, hP _ _ _ _ _ _ _ (hs.cI (e2 n5 hz) (e4 n6 h6)) (q_gd_ev h).2⟩) h
      · cases h
  case invokespecial k =>
    dsimp only [q_ex] at h ⊢
    revert h
    generalize (a == 300) = a1
    intro h
    cases a1
    · refine q_onS_ev (fun q _ h => ?_) h
      revert h
      generalize q.2 = z
      intro h
      split at h
      · unfold q_call at h ⊢
        rw [hs.len]
        exact q_onB_ev (fun h => hcl _ _ _ _ _ _ hs (fun v μ' ν' hs2 => q_back_ev (fun _ => hP _ _ _ _ _ _ _ hs2)) h) h
      · cases h
    · dsimp only at h ⊢
      split at h
      · exact q_onB_ev (hP _ _ _ _ _ _ _ hs) h
      · cases h
  all_goals cases h
