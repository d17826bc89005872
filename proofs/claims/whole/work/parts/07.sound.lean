/-! soundness: what the small machine does, the machine does (all but calls) -/
def q_gw : List Cond := lw_tbl.filter goodWord
theorem q_gw_in {w : Cond} (h : w ∈ lw_tbl) (hg : goodWord w = true) : w ∈ q_gw := List.mem_filter.mpr ⟨h, hg⟩
theorem q_uwg : ∀ c, c < 11 → ∀ w ∈ u_ws (q_cn c) (q_T c) (q_N c), w ∈ q_gw := fun c h w hw => q_gw_in (q_uws c h w hw) (by
  obtain ⟨k, -, rfl⟩ := List.mem_map.mp hw
  unfold u_lay
  split <;> rfl)
/-- the facts that do not ride with every state: constructors of nest mates, arrays of objects -/
def q_nest : List Cond := lw_tbl.filter fun w => match w with
  | .methodLinkNest _ _ _ _ => true
  | _ => false
def q_KK (dC : Nat → ClassId) (dI : Nat → Nat → Nat) (kA : Nat → ClassId) (U : State) : Prop := va_K (dC, dI) vwCl (q_TY kA) U ∧ (∀ w ∈ q_nest, va_Nw w U) ∧ (va_AO RX5 U ∧ va_AO RX2 U ∧ va_AO RX6 U)
theorem q_KK.warm {dC : Nat → ClassId} {dI : Nat → Nat → Nat} {kA : Nat → ClassId} {s U : State} (h : q_KK dC dI kA s) (hW : s.WarmedH U.vm) : q_KK dC dI kA U := by
  refine ⟨va_K.moved hW.alike h.1, fun w hw => ?_, va_AO.moved hW.alike h.2.2.1, va_AO.moved hW.alike h.2.2.2.1, va_AO.moved hW.alike h.2.2.2.2⟩
  have h1 := h.2.1 w hw
  have h2 := (List.mem_filter.mp hw).2
  cases w <;> first | (cases h2; done) | exact va_Nw.warmM hW h1
theorem q_KK.same {dC : Nat → ClassId} {dI : Nat → Nat → Nat} {kA : Nat → ClassId} {s U : State} (h : q_KK dC dI kA s) (hW : s.vm = U.vm) : q_KK dC dI kA U := by
  have ha : s.vm.Alike U.vm := hW ▸ Vm.Alike.refl s.vm
  refine ⟨va_K.moved ha h.1, fun w hw => ?_, va_AO.moved ha h.2.2.1, va_AO.moved ha h.2.2.2.1, va_AO.moved ha h.2.2.2.2⟩
  have h1 := h.2.1 w hw
  have h2 := (List.mem_filter.mp hw).2
  cases w <;> first | (cases h2; done) | exact va_Nw.same rfl hW h1
def q_mc (j : Nat) : Nat := (q_m j).2.1.2.2.2.1
def q_ms (j : Nat) : Nat := (q_m j).2.1.2.2.2.2
/-- the frame of method j: what holds from its entry on -/
def q_Fr (p : Program) (R : Room) (s : State) (m : MethodId) (args : Array Value) (meth : Method) (c : Code) (dC : Nat → ClassId) (dI : Nat → Nat → Nat) (kA : Nat → ClassId) (A : Nat → Prop) (L b0 : Nat) (xs : Nat → Int32) (n0 : Nat) (ad0 : Nat → Nat) (j : Nat) : Prop :=
  (p.tables.exec = Jvm.exec ∧ c.code = (q_m j).1.2.1 ∧ c.maxLocals = (q_m j).1.2.2.1 ∧ s.vm.findClass (q_own j) = some m.cls) ∧ (∀ w ∈ q_gw, w.before args s = true) ∧ q_KK dC dI kA s ∧ (∀ q, s.heap.size ≤ q → A q) ∧
  (j = 226 → va_X b0 L xs s s.heap ∧ b0 < s.heap.size ∧ ¬ A b0 ∧ ad0 0 = b0 ∧ 0 < n0) ∧ (1 ≤ R.frames ∧ 64 ≤ R.locals ∧ q_mc j ≤ R.cells ∧ q_ms j ≤ R.slots) ∧ ((q_m j).1.1.name = "<init>" → meth.name = "<init>")
/-- how the memory lies in the heap -/
def q_Re (s : State) (dC : Nat → ClassId) (dI : Nat → Nat → Nat) (kA : Nat → ClassId) (A : Nat → Prop) (L : Nat) (xs : Nat → Int32) (n0 : Nat) (ad0 : Nat → Nat) (j : Nat) (ad : Nat → Nat) (H : Heap) (locs : List Loc) (lsR : Array Slot) (ls : List (Option Value)) (μ : q_Mem) : Prop :=
  (q_ok L xs μ ∧ n0 ≤ μ.1.length ∧ (∀ k, k < n0 → ad k = ad0 k) ∧ (q_mc j = 0 → ad = ad0)) ∧ (va_P (dC, dI) vwCl (q_world ad kA μ) H ∧ va_D A (q_world ad kA μ) ∧ va_S A s.heap H locs) ∧ q_LS ad (q_m j).2.2.1 ls lsR (q_m j).1.2.2.1
def q_V (p : Program) (l : Launch) (e : Env) (R : Room) (s : State) (m : MethodId) (args : Array Value) (below : List Frame) (meth : Method) (c : Code) (Qf : State → Prop) (dC : Nat → ClassId) (dI : Nat → Nat → Nat) (kA : Nat → ClassId) (A : Nat → Prop) (L : Nat) (xs : Nat → Int32) (n0 : Nat) (ad0 : Nat → Nat) (j : Nat) (z : q_St) : Prop :=
  ∀ (ad : Nat → Nat) (H : Heap) (locs : List Loc) (lsR : Array Slot), q_Re s dC dI kA A L xs n0 ad0 j ad H locs lsR z.2.1 z.2.2.2.1 → W p l e R s m args below meth c H locs z.2.2.2.2.1 z.2.2.2.2.2 Qf (F0 m z.1 lsR (z.2.2.1.map (q_rn ad)))
section SND
variable {p : Program} {l : Launch} {e : Env} {R : Room} {s : State} {m : MethodId} {args : Array Value} {below : List Frame} {meth : Method} {c : Code} {Qf : State → Prop} {dC : Nat → ClassId} {dI : Nat → Nat → Nat} {kA : Nat → ClassId} {A : Nat → Prop} {L b0 : Nat} {xs : Nat → Int32} {n0 : Nat} {ad0 : Nat → Nat} {j : Nat}
theorem q_Re.ls {ad : Nat → Nat} {H : Heap} {locs : List Loc} {lsR : Array Slot} {ls : List (Option Value)} {μ : q_Mem} (r : q_Re s dC dI kA A L xs n0 ad0 j ad H locs lsR ls μ) {i : Nat} {v : Value} (h : ls[i]? = some (some v)) : lsR[i]? = some (.val (q_rn ad v)) := (r.2.2.2.2.2 i v h).1
theorem q_Re.put1 {ad : Nat → Nat} {H : Heap} {locs : List Loc} {lsR lsR' : Array Slot} {ls : List (Option Value)} {μ : q_Mem} (r : q_Re s dC dI kA A L xs n0 ad0 j ad H locs lsR ls μ) {i : Nat} {v : Value} (hi : Nat.blt i ls.length = true) (hc : v.category = 1) (h' : lv_has lsR' (q_m j).1.2.2.1 ((i, q_rn ad v) :: (q_as ad ls).filter (fun q => !(q.1 == i) && !(q.1 + 1 == i && q.2.category == 2)))) : q_Re s dC dI kA A L xs n0 ad0 j ad H locs lsR' (q_put1 (q_m j).2.2.1 ls i v) μ :=
  ⟨r.1, r.2.1, r.2.2.put1 (by rw [← r.2.2.1]; exact Nat.ble_eq.mp hi) hc h'⟩
theorem q_Re.put2 {ad : Nat → Nat} {H : Heap} {locs : List Loc} {lsR lsR' : Array Slot} {ls : List (Option Value)} {μ : q_Mem} (r : q_Re s dC dI kA A L xs n0 ad0 j ad H locs lsR ls μ) {i : Nat} {v : Value} (hi : Nat.blt (i + 1) ls.length = true) (hg : (q_m j).2.2.1.contains i = true) (h' : lv_has lsR' (q_m j).1.2.2.1 ((i, q_rn ad v) :: (q_as ad ls).filter (fun q => !(q.1 == i) && (!(q.1 == i + 1) && !(q.1 + 1 == i && q.2.category == 2))))) : q_Re s dC dI kA A L xs n0 ad0 j ad H locs lsR' (q_put2 (q_m j).2.2.1 ls i v) μ :=
  ⟨r.1, r.2.1, r.2.2.put2 (by rw [← r.2.2.1]; exact Nat.ble_eq.mp hi) hg h'⟩
theorem q_Re.lt {ad : Nat → Nat} {H : Heap} {locs : List Loc} {lsR : Array Slot} {ls : List (Option Value)} {μ : q_Mem} (r : q_Re s dC dI kA A L xs n0 ad0 j ad H locs lsR ls μ) {i : Nat} (hi : Nat.blt i ls.length = true) : i < (q_m j).1.2.2.1 := by rw [← r.2.2.1]; exact Nat.ble_eq.mp hi
/-- the questions of a switch -/
theorem q_sw_spec {go : Int → Prop} {d : Int} {x : Int32} : ∀ {ps : List (Int × Int)}, q_sw (fun c _ x y => (c → x) ∧ (¬ c → y)) go d x ps → go (Op.lookupswitch.offset ps d x.toInt)
  | [], h => h
  | (a, o) :: l, h => by
    rw [Op.lookupswitch.offset_cons]
    by_cases hx : a = x.toInt
    · rw [if_pos hx]
      exact h.1 hx.symm
    · rw [if_neg hx]
      exact q_sw_spec (h.2 (fun e => hx e.symm))
theorem q_tab_spec (d : Int) : ∀ (os : List Int) (lo k : Int), Op.lookupswitch.offset (q_tab lo os) d k = if k < lo then d else (os[(k - lo).toNat]?).getD d
  | [], lo, k => by simp [q_tab, Op.lookupswitch.offset_nil]
  | o :: l, lo, k => by
    rw [q_tab, Op.lookupswitch.offset_cons, q_tab_spec d l (lo + 1) k]
    by_cases h : lo = k
    · subst h
      simp
    · rw [if_neg h]
      by_cases h1 : k < lo
      · rw [if_pos h1, if_pos (by omega)]
      · rw [if_neg h1, if_neg (by omega)]
        have e : (k - lo).toNat = (k - (lo + 1)).toNat + 1 := by omega
        rw [e, List.getElem?_cons_succ]
theorem q_jmp_spec {k : Nat → Prop} {pc : Nat} {off : Int} (h : q_jmp False k pc off) : ∃ t : Nat, (pc : Int) + off = (t : Int) ∧ k t := by
  unfold q_jmp q_onB at h
  split at h
  · rename_i hb
    exact ⟨_, of_decide_eq_true hb, h⟩
  · exact h.elim
theorem q_onB_spec {b : Bool} {x : Prop} (h : q_onB False b x) : b = true ∧ x := by
  unfold q_onB at h
  split at h
  · exact ⟨rfl, h⟩
  · exact h.elim
theorem q_onS_spec {α : Type} {y : Option α} {k : α → Prop} (h : q_onS False y k) : ∃ a, y = some a ∧ k a := by
  unfold q_onS at h
  split at h
  · exact ⟨_, rfl, h⟩
  · exact h.elim
theorem q_onI_spec {v : Value} {k : Int32 → Prop} (h : q_onI False v k) : ∃ x, v = .int x ∧ k x := by
  unfold q_onI at h
  split at h
  · exact ⟨_, rfl, h⟩
  · exact h.elim
theorem q_onJ_spec {v : Value} {k : Int64 → Prop} (h : q_onJ False v k) : ∃ x, v = .long x ∧ k x := by
  unfold q_onJ at h
  split at h
  · exact ⟨_, rfl, h⟩
  · exact h.elim
theorem q_onR_spec {v : Value} {k : Nat → Prop} (h : q_onR False v k) : ∃ x, v = .ref x ∧ k x := by
  unfold q_onR at h
  split at h
  · exact ⟨_, rfl, h⟩
  · exact h.elim
end SND
