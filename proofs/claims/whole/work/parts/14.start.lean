/-! THE CLAIM OUT OF ONE WALK OF THE LAW'S BODY. Your part is whole_start (and what it stands on); all else here is the same for every law, but numbers. -/
def R_law : String := "PluginChainsLaw"
def lw_P (b : Addr) (xs : List Int32) (args : Array Value) (s : State) : Prop := args = #[.ref b] ∧ s.IntsAt b xs ∧ xs.length ≤ 3584 ∧ (Jvm.Cond.and given_1 narrow_1).before args s = true
def lw_Q (_ : Array Value) (s : State) (o : Outcome) (t : State) : Prop := o = .returned (some (.int 1)) ∧ Framed s o t [] 600000 7302250
def lw_Z (below : List Frame) (a : Array Value) (s : State) : State → Prop := fun t => ∃ o, t.status = .running ∧ Ended t below o ∧ lw_Q a s o t
/-- the law's own end, with 1 on the stack, nothing written that was there before, its room as the claim has it -/
theorem lw_ret {p : Program} {l : Launch} {e : Env} {s : State} {m : MethodId} {below : List Frame} {meth : Method} {c : Code} {b : Nat} (hx : p.tables.exec = Jvm.exec) (hb : c.code = code) (hr : meth.sig.returnType = ret) (hlocks : meth.locks = false) {pc : Nat} {H : Heap} {ls : Array Slot} (hdg : decode code pc = .ok (.ireturn, 1)) : W p l e room_1 s m #[Value.ref b] below meth c H [] 600000 7302250 (lw_Z below #[Value.ref b] s) (F0 m pc ls [.int 1]) := by
  intro T hT X
  obtain ⟨fs, hret, hrun, hended, hW, hframe⟩ := X.leave (v := some (.int 1)) (hlocks := hlocks) (fun h => by rw [hr] at h; cases h)
  have hmeth' : T.vm.method? m = some meth := X.method'
  refine ⟨T.setFrames fs, ?_, .returned (some (.int 1)), hrun, hended, rfl, ⟨_, rfl⟩, hW, hframe⟩
  jvm_step X.here [X.here.top, hx, hb, hdg, hmeth', hr, ret, narrow_b1]
  (try refine ⟨rfl, ?_⟩); (try refine ⟨rfl, ?_⟩)
  first | (intro acts; rw [hret _ acts rfl rfl rfl]) | rw [hret _ _ rfl rfl rfl]
  exact Steps.refl _
/-- what holds at the law's entry: the machine, the code, the tables' words (any of lw_tbl by 'hts w (by decide +kernel)'), the script of L ints xs at the cell b, what the Statement gives of the start (any of its parts by flat_of_before) -/
def lw_At (p : Program) (s : State) (m : MethodId) (meth : Method) (c : Code) (b L : Nat) (xs : Nat → Int32) : Prop :=
  p.tables.exec = Jvm.exec ∧ c.code = code ∧ meth.sig.returnType = ret ∧ c.maxLocals = 4 ∧ s.vm.findClass R_law = some m.cls ∧ (∀ w ∈ lw_tbl, w.before #[Value.ref b] s = true) ∧ va_X b L xs s s.heap ∧ b < s.heap.size ∧ meth.locks = false ∧ (Jvm.Cond.and given_1 narrow_1).before #[Value.ref b] s = true

def q_mu0 (L : Nat) (xs : Nat → Int32) : q_Mem := ([(99, L)], (fun o i => if o = 0 then xs i else 0), (fun _ _ => 0), fun _ _ => none)
theorem q_arrAt {s : State} {args : Array Value} {ty : FieldType} (h : (Cond.arrayClass ty).before args s = true) (hn : ∀ C, ty ≠ .object C) : ∃ cA, ArrOfT s cA ty ∧ va_RA s cA ty := by
  obtain ⟨cA, k, comp, h1, h2, h3⟩ := Cond.arrayClass_spec h
  refine ⟨cA, fun n z => ⟨fun k h => (by cases h), k, h2, comp, h3⟩, ?_⟩
  cases ty <;> first | exact absurd rfl (hn _) | exact h1
theorem q_arrAo {s : State} {C : String} (h : va_AO C s) : ∃ cA, ArrOfT s cA (.object C) ∧ va_RA s cA (.object C) := by
  obtain ⟨comp, cA, k, h1, h2, h3, h4, h5⟩ := Cond.arrayOver_spec h
  exact ⟨cA, fun n z => ⟨fun k h => (by cases h), k, h3, comp, h4⟩, k, comp, h3, h4, h1, h5⟩
theorem q_KK_start {s : State} {b : Nat} (hts : ∀ w ∈ lw_tbl, w.before #[Value.ref b] s = true) : ∃ (dC : Nat → ClassId) (dI : Nat → Nat → Nat) (kA : Nat → ClassId), q_KK dC dI kA s := by
  have hk : ∀ k : Nat, ∃ x : ClassId × (Nat → Nat), k < 11 → u_Kn s (q_cn k) (q_T k) (q_N k) x.1 x.2 := by
    intro k
    by_cases hk : k < 11
    · have hck := List.all_eq_true.mp q_ckN_ok k (List.mem_range.mpr hk)
      simp only [Bool.and_eq_true, decide_eq_true_eq] at hck
      obtain ⟨cC, iS, h⟩ := u_known (C := q_cn k) (T := q_T k) (N := q_N k) (n := q_N k) hts (q_uws k hk) (hts _ hck.1)
      exact ⟨(cC, iS), fun _ => h⟩
    · exact ⟨(0, fun _ => 0), fun h => absurd h hk⟩
  have ao5 : va_AO RX5 s := (va_AO.of (hts _ q_mmw.2.2.2.2.2.2.2.2.2.1))
  have ao2 : va_AO RX2 s := (va_AO.of (hts _ q_mmw.2.2.2.2.2.2.2.2.2.2.1))
  have ao6 : va_AO RX6 s := (va_AO.of (hts _ q_mmw.2.2.2.2.2.2.2.2.2.2.2))
  obtain ⟨c0, g0⟩ := q_arrAt (hts _ q_mmw.2.2.2.2.2.2.2.1) (fun C h => by cases h)
  obtain ⟨c1, g1⟩ := q_arrAt (hts _ q_mmw.2.2.2.2.2.2.2.2.1) (fun C h => by cases h)
  obtain ⟨c2, g2⟩ := q_arrAo ao5
  obtain ⟨c3, g3⟩ := q_arrAo ao2
  obtain ⟨c4, g4⟩ := q_arrAo ao6
  refine ⟨fun k => (Classical.choose (hk k)).1, fun k => (Classical.choose (hk k)).2, fun k => if k = 100 then c0 else if k = 101 then c1 else if k = 107 then c2 else if k = 104 then c3 else c4, ⟨fun c q hc => ?_, fun k q hq => ?_⟩, fun w hw => ?_, ao5, ao2, ao6⟩
  · have hl : c < 11 := (List.getElem?_eq_some_iff.mp hc).1
    rw [q_clc c hl] at hc
    cases hc
    exact Classical.choose_spec (hk c) hl
  · have hl : k < 5 := (List.getElem?_eq_some_iff.mp hq).1
    match k, hl with
    | 0, _ => cases hq; exact g0
    | 1, _ => cases hq; exact g1
    | 2, _ => cases hq; exact g2
    | 3, _ => cases hq; exact g3
    | 4, _ => cases hq; exact g4
  · have h2 := List.mem_filter.mp hw
    have h3 := hts w h2.1
    have h4 := h2.2
    cases w <;> first | (cases h4; done) | exact va_Nw.of rfl h3
set_option maxHeartbeats 4000000 in
/-- the law's walk out of its run on the small machine -/
theorem q_whole (HH : ∀ (L : Nat) (xs : Nat → Int32), L ≤ 3584 → q_X (q_W 100) (fun v _ _ _ => v = .int 1) 226 (0, q_ent 226 [.ref 0], [], q_mu0 L xs, 0, 0)) {p : Program} {e : Env} {s : State} {m : MethodId} {below : List Frame} {meth : Method} {c : Code} (l : Launch) {b L : Nat} {xs : Nat → Int32} (hL : L ≤ 3584) (C0 : lw_At p s m meth c b L xs) : W p l e room_1 s m #[Value.ref b] below meth c s.heap [] 0 0 (lw_Z below #[Value.ref b] s) (entryFrame m ([Value.ref b] : List Value).toArray 4) := by
  obtain ⟨hx, hb, hr, hml, hown, hts, hX, hbl, hlocks, hgv⟩ := id C0
  obtain ⟨dC, dI, kA, hKK⟩ := q_KK_start hts
  have F : q_Fr p room_1 s m #[Value.ref b] meth c dC dI kA (fun q => s.heap.size ≤ q) L b xs 1 (fun _ => b) 226 :=
    ⟨⟨hx, hb, hml, hown⟩, fun w hw => hts w (List.mem_filter.mp hw).1, hKK, fun q hq => hq, fun _ => ⟨hX, hbl, Nat.not_le.mpr hbl, rfl, Nat.one_pos⟩, ⟨Nat.le_of_ble_eq_true rfl, Nat.le_of_ble_eq_true rfl, Nat.le_of_ble_eq_true rfl, Nat.le_of_ble_eq_true rfl⟩, fun h => absurd h (by decide +kernel)⟩
  have hrt : q_RH p l e room_1 s m #[Value.ref b] below meth c (lw_Z below #[Value.ref b] s) dC dI kA (fun q => s.heap.size ≤ q) L xs 1 (fun _ => b) 226 (fun v _ _ _ => v = .int 1) := by
    refine ⟨fun pc ls x μ uc us ty _ _ hv hc hs hdg => fun ad H locs lsR r => ?_, fun pc ls x μ uc us h => absurd h (by decide +kernel), fun pc ls μ uc us h => absurd h (by decide +kernel)⟩
    have hv2 : x = 1 := by injection hv
    subst hv2
    exact va_forget r.2.1.2.2.2.2 (W.widen (Nat.le_trans hc (Nat.le_of_ble_eq_true rfl)) (Nat.le_trans hs (Nat.le_of_ble_eq_true rfl)) (lw_ret hx hb hr hlocks hdg))
  have hV := q_snd_X (d := 100) (by omega) F ⟨Nat.le_of_ble_eq_true rfl, Nat.le_of_ble_eq_true rfl⟩ (q_sound l dC dI kA L xs 100) hrt (HH L xs hL)
  have hok : q_ok L xs (q_mu0 L xs) := ⟨rfl, fun i => rfl, fun o k t h => by cases h⟩
  have h1 := hV (fun _ => b) s.heap [] _ ⟨⟨hok, Nat.le_refl _, fun _ _ => rfl, fun _ => rfl⟩, ⟨fun k q h => by simp [q_world, q_mu0] at h, ⟨fun i j p q h => by simp [q_world, q_mu0] at h, fun k q h => by simp [q_world, q_mu0] at h⟩, va_S.rf⟩, q_LS_entry (as := [.ref 0]) (by decide +kernel) (by decide +kernel)⟩
  rw [lg_entry_eq]
  exact h1
