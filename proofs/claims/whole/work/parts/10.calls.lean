def q_ws (y : Nat) : List Cond := .code (q_m y).1.1 (q_m y).1.2.1 (q_m y).1.2.2.1 (q_m y).1.2.2.2 :: q_gw
def q_rm (d y : Nat) : Room := { frames := d, cells := q_mc y, slots := q_ms y, locals := 64 * d }
def q_rv (ret : Option FieldType) (v : Value) : Option Value := match ret with
  | none => none
  | some _ => some v
def q_Po (dC : Nat → ClassId) (dI : Nat → Nat → Nat) (kA : Nat → ClassId) (L : Nat) (xs : Nat → Int32) (y : Nat) (Q : Value → q_Mem → Prop) (μ : q_Mem) (ad : Nat → Nat) (sz : Nat) : Array Value → State → Outcome → State → Prop := fun _ st oc t => (∃ (v : Value) (μ' : q_Mem) (ad' : Nat → Nat), oc = .returned (q_rv (q_m y).1.2.2.2 v) ∧ Q v μ' ∧ q_ok L xs μ' ∧ μ.1.length ≤ μ'.1.length ∧ (∀ k, k < μ.1.length → ad' k = ad k) ∧ (q_mc y = 0 → ad' = ad) ∧ va_P (dC, dI) vwCl (q_world ad' kA μ') t.heap ∧ va_D (va_A (q_world ad kA μ) sz) (q_world ad' kA μ')) ∧ va_F (va_A (q_world ad kA μ) sz) st t
def q_Pr (dC : Nat → ClassId) (dI : Nat → Nat → Nat) (kA : Nat → ClassId) (as : List Value) (μ : q_Mem) (ad : Nat → Nat) (sz : Nat) : Array Value → State → Prop := va_Pc (as.map (q_rn ad)) fun U => U.heap.size = sz ∧ va_P (dC, dI) vwCl (q_world ad kA μ) U.heap ∧ q_KK dC dI kA U ∧ va_D (fun _ => True) (q_world ad kA μ)
def q_MetS (l : Launch) (dC : Nat → ClassId) (dI : Nat → Nat → Nat) (kA : Nat → ClassId) (L : Nat) (xs : Nat → Int32) (d y : Nat) (as : List Value) (μ : q_Mem) (Q : Value → q_Mem → Prop) : Prop := ∀ (ad : Nat → Nat) (sz : Nat), q_ok L xs μ → Met l (q_m y).1.1 (q_ws y) (q_rm d y) (q_Pr dC dI kA as μ ad sz) (q_Po dC dI kA L xs y Q μ ad sz) (q_mc y) (q_ms y) (va_A (q_world ad kA μ) sz)
theorem q_Pr_blind {dC : Nat → ClassId} {dI : Nat → Nat → Nat} {kA : Nat → ClassId} {as : List Value} {μ : q_Mem} {ad : Nat → Nat} {sz : Nat} : FrameBlind (q_Pr dC dI kA as μ ad sz) := fun a U g mk q => by
  obtain ⟨q0, q1, qP, qK, qD⟩ := q
  exact ⟨q0, q1, qP, q_KK.same (s := U) (U := U.calling g mk a) qK rfl, qD⟩
theorem q_pop_spec {n : Nat} {st as rest : List Value} (h : q_pop n st = some (as, rest)) : as.length = n ∧ st = as.reverse ++ rest := by
  unfold q_pop at h
  split at h
  · rename_i hb
    cases h
    have hl := Nat.ble_eq.mp hb
    exact ⟨by simp [hl], by simp⟩
  · cases h
/-- what the tables say of method y -/
theorem q_ckM_get {y : Nat} (hy : y < 226) : q_ckM y = true := List.all_eq_true.mp q_ckM_ok y (List.mem_range.mpr hy)
theorem q_code_in {y : Nat} (hy : y < 226) : Cond.code (q_m y).1.1 (q_m y).1.2.1 (q_m y).1.2.2.1 (q_m y).1.2.2.2 ∈ lw_tbl := q_tb_in (List.mem_of_getElem? (q_cw_ok y hy))
theorem q_good {y : Nat} (hy : y < 226) : GoodIn q_gw (q_ws y) := by
  intro w hw
  rcases List.mem_cons.mp hw with rfl | h
  · exact ⟨q_gw_in (q_code_in hy) rfl, Or.inl rfl⟩
  · exact ⟨h, good_of_word (List.mem_filter.mp h).2⟩
section CALLS
variable {p : Program} {l : Launch} {e : Env} {R : Room} {s : State} {m : MethodId} {args : Array Value} {below : List Frame} {meth : Method} {c : Code} {Qf : State → Prop} {dC : Nat → ClassId} {dI : Nat → Nat → Nat} {kA : Nat → ClassId} {A : Nat → Prop} {L b0 : Nat} {xs : Nat → Int32} {n0 : Nat} {ad0 : Nat → Nat} {j pc a b uc us idx y d o : Nat} {ls : List (Option Value)} {st rest as : List Value} {μ : q_Mem} {x z : Int32} {Q : Value → q_Mem → Prop}
theorem q_after {ad : Nat → Nat} {H : Heap} {locs : List Loc} {lsR : Array Slot} {stk : List Value} {aa : Array Value} (hA : ∀ q, s.heap.size ≤ q → A q) (r : q_Re s dC dI kA A L xs n0 ad0 j ad H locs lsR ls μ) (hrun : va_Run p l e R s m args below meth c H locs uc us (q_mc y) (q_ms y) (F0 m pc lsR stk) (rest.map (q_rn ad)) (q_Po dC dI kA L xs y Q μ ad H.size aa) (va_A (q_world ad kA μ) H.size)) (hcl : q_mc y = 0 ∨ q_clo μ.1.length ls rest = true) (hmj : q_mc y ≤ q_mc j)
    (hQ : ∀ v μ', Q v μ' → q_back False (q_m y).1.2.2.2 v fun rr => (q_V p l e R s m args below meth c Qf dC dI kA A L xs n0 ad0 j) (pc + 3, ls, rr ++ rest, μ', uc + q_mc y, us + q_ms y)) : W p l e R s m args below meth c H locs uc us Qf (F0 m pc lsR stk) := by
  intro T hT X
  obtain ⟨v, st₀, t, T', Lc, h0, X', hL, e1, e2, ⟨⟨w, μ', ad', hv, hq, hok', hlen, hag, had, hP', hD'⟩, hz, hk⟩, st⟩ := hrun T hT X
  have hv2 : v = q_rv (q_m y).1.2.2.2 w := by injection hv
  subst hv2
  rw [h0] at hz hk
  obtain ⟨⟨hok, hn0, hagn, hmc⟩, ⟨hP, hD, hS⟩, hLS⟩ := r
  have hF : ∀ q, va_A (q_world ad kA μ) H.size q → A q := by
    intro q h
    rcases h with ⟨k, ev, h⟩ | h
    · exact hD.2 k (q, ev) h
    · exact hA q (Nat.le_trans hS.1 h)
  have hS' : va_S A s.heap T'.heap (locs ++ Lc) := ⟨Nat.le_trans hS.1 (by rw [e1]; exact hz), fun q h1 h2 => by
      rw [e1, hk q (Nat.lt_of_lt_of_le h1 hS.1) (fun z => h2 (hF q z))]
      exact hS.2.1 q h1 h2, fun q hq => by
      rcases List.mem_append.mp hq with h | h
      · exact hS.2.2 q h
      · exact hF _ (hL q h)⟩
  have hrn : rest.map (q_rn ad') = rest.map (q_rn ad) ∧ q_LS ad' (q_m j).2.2.1 ls lsR (q_m j).1.2.2.1 := by
    rcases hcl with h | h
    · have := had h
      subst this
      exact ⟨rfl, hLS⟩
    · obtain ⟨g1, g2⟩ := q_clo_rn hag h
      exact ⟨g1, g2 _ _ _ hLS⟩
  have r' : q_Re s dC dI kA A L xs n0 ad0 j ad' T'.heap (locs ++ Lc) lsR ls μ' := ⟨⟨hok', Nat.le_trans hn0 hlen, fun k hk => (hag k (Nat.lt_of_lt_of_le hk hn0)).trans (hagn k hk), fun h => (had (Nat.le_zero.mp (h ▸ hmj))).trans (hmc h)⟩, ⟨by rw [e1]; exact hP', hD'.weaken (fun _ q _ h => hF q.1 h), hS'⟩, hrn.2⟩
  have hV := hQ w μ' hq
  have key : ∀ rr : List Value, ((q_V p l e R s m args below meth c Qf dC dI kA A L xs n0 ad0 j) (pc + 3, ls, rr ++ rest, μ', uc + q_mc y, us + q_ms y)) → (q_rv (q_m y).1.2.2.2 w).toList = rr.map (q_rn ad') → ∃ t, Steps p.tables e below (T.setTop (F0 m pc lsR stk)) t ∧ Qf t := by
    intro rr hh he
    have h1 := hh ad' T'.heap (locs ++ Lc) lsR r'
    dsimp only at h1
    rw [List.map_append, hrn.1, ← he] at h1
    obtain ⟨t2, a1, b1⟩ := h1 T' rfl X'
    exact ⟨t2, st t2 a1, b1⟩
  cases hr : (q_m y).1.2.2.2 with
  | none =>
    rw [hr] at hV key
    exact key [] hV rfl
  | some ty =>
    rw [hr] at hV key
    cases ty <;> first | exact hV.elim | skip
    · obtain ⟨x, rfl, hV⟩ := q_onI_spec hV
      exact key [.int x] hV rfl
    · obtain ⟨x, rfl, hV⟩ := q_onJ_spec hV
      exact key [.long x] hV rfl
    · obtain ⟨x, rfl, hV⟩ := q_onI_spec hV
      exact key [.int x] hV rfl
theorem q_roomy (hy : y < 226) (hR : d + 1 ≤ R.frames ∧ 64 * (d + 1) ≤ R.locals) : (q_rm d y).frames + 1 ≤ R.frames ∧ 8 + ((q_m y).1.2.2.1 + 11) + (q_rm d y).locals ≤ R.locals := by
  have h := q_ckM_get hy
  unfold q_ckM at h
  simp only [Bool.and_eq_true] at h
  have h4 := Nat.ble_eq.mp h.2.2.2.1
  have e1 : (q_rm d y).frames = d := rfl
  have e2 : (q_rm d y).locals = 64 * d := rfl
  rw [e1, e2]
  omega
theorem q_callB (F : q_Fr p R s m args meth c dC dI kA A L b0 xs n0 ad0 j) (hy : y < 226) (hR : d + 1 ≤ R.frames ∧ 64 * (d + 1) ≤ R.locals) (hw : Cond.methodLink (q_own j) idx (q_m y).1.1 ∈ lw_tbl) : CallB R s args (q_own j) idx (q_m y).1.1 (q_m y).1.2.1 (q_m y).1.2.2.1 (q_m y).1.2.2.2 (q_ws y) (q_rm d y) (q_mc y) (q_ms y) (q_m y).2.1.1 := by
  have h := q_ckM_get hy
  unfold q_ckM at h
  simp only [Bool.and_eq_true, decide_eq_true_eq] at h
  exact callB_of (q_m y).2.1.1 F.2.1 (q_good hy) rfl rfl rfl (q_hts F (q_tb_in (List.mem_of_getElem? h.2.2.2.2.1)) rfl) (q_hts F hw rfl) ⟨h.2.1.1, h.2.1.2, h.2.2.1⟩ (q_roomy hy hR)
theorem q_fix (F : q_Fr p R s m args meth c dC dI kA A L b0 xs n0 ad0 j) : CallFix p m c (q_m j).1.2.1 (q_m j).1.2.2.1 s args q_gw (q_own j) := ⟨F.1.1, F.1.2.1, F.1.2.2.1, F.1.2.2.2, F.2.1⟩
theorem q_room {ad : Nat → Nat} {lsR : Array Slot} {stk : List Value} (h : Nat.ble (q_cats rest) 8 = true) : 2 * (F0 m pc lsR stk).monitorRoom + ((rest.map (q_rn ad)).map fun v => v.category).sum ≤ 8 := lv_room (by rw [q_cats_rn]; exact Nat.ble_eq.mp h)
theorem q_i_callV (F : q_Fr p R s m args meth c dC dI kA A L b0 xs n0 ad0 j) (hM : q_MetS l dC dI kA L xs d y (.ref o :: as) μ Q) (hy : y < 226) (hk : (q_m y).2.1.2.1 = 0) (hR : d + 1 ≤ R.frames ∧ 64 * (d + 1) ≤ R.locals) (hw : Cond.methodLink (q_own j) idx (q_m y).1.1 ∈ lw_tbl) (ho : q_isO μ.1 o (q_m y).2.1.2.2.1 = true) (has : as.length = (q_m y).2.1.1) (hst : st = as.reverse ++ .ref o :: rest) (hcl : q_mc y = 0 ∨ q_clo μ.1.length ls rest = true) (hcat : Nat.ble (q_cats rest) 8 = true) (hc : uc + q_mc y ≤ q_mc j) (hs : us + q_ms y ≤ q_ms j)
    (hdg : decode (q_m j).1.2.1 pc = .ok (.invokevirtual idx, 3)) (hQ : ∀ v μ', Q v μ' → q_back False (q_m y).1.2.2.2 v fun rr => (q_V p l e R s m args below meth c Qf dC dI kA A L xs n0 ad0 j) (pc + 3, ls, rr ++ rest, μ', uc + q_mc y, us + q_ms y)) : (q_V p l e R s m args below meth c Qf dC dI kA A L xs n0 ad0 j) (pc, ls, st, μ, uc, us) := fun ad H locs lsR r => by
  have h := q_ckM_get hy
  unfold q_ckM at h
  rw [hk] at h
  simp only [Bool.and_eq_true, decide_eq_true_eq] at h
  obtain ⟨hin, hse, hco, hcn⟩ := h.2.2.2.2.2
  have hC : (q_m y).2.1.2.2.1 < 11 := Nat.ble_eq.mp hco
  obtain ⟨n, hn⟩ := q_isO_spec ho
  obtain ⟨h0, hwd⟩ := q_world_at (ad := ad) (kA := kA) r.1.1 hn (show (q_m y).2.1.2.2.1 ≠ 99 by omega)
  have hce : q_cell ad kA μ o ((q_m y).2.1.2.2.1, n) = .inr ((q_m y).2.1.2.2.1, (List.range (q_N (q_m y).2.1.2.2.1)).map fun k => q_fv ad μ o (q_m y).2.1.2.2.1 k) := by
    unfold q_cell
    rw [if_pos (show (q_m y).2.1.2.2.1 ≤ 10 by omega)]
  rw [hce] at hwd
  have hrc := va_recv F.2.2.1.1 r.2.1.1 (q_clc _ hC) hwd
  rw [hcn] at hrc
  refine q_after F.2.2.2.1 r (va_runV (As := as.map (q_rn ad)) (q_fix F) (hM ad H.size r.1.1) ⟨q_callB F hy hR hw, q_hts F (q_tb_in (List.mem_of_getElem? hin)) rfl, q_hts F (q_tb_in (List.mem_of_getElem? hse)) rfl⟩ ⟨q_Pr_blind, hrc, fun U hU hW => ⟨rfl, by rw [hU], by rw [hU]; exact r.2.1.1, F.2.2.1.warm hW, r.2.1.2.1.weaken (fun _ _ _ _ => trivial)⟩⟩ rfl (by rw [List.length_map]; exact has) r.2.2.2.1 (by rw [hst, List.map_append, List.map_reverse]; rfl) (q_room hcat) hdg ⟨Nat.le_trans hc F.2.2.2.2.2.1.2.2.1, Nat.le_trans hs F.2.2.2.2.2.1.2.2.2⟩) hcl (by omega) hQ
theorem q_i_callS (F : q_Fr p R s m args meth c dC dI kA A L b0 xs n0 ad0 j) (hM : q_MetS l dC dI kA L xs d y as μ Q) (hy : y < 226) (hk : (q_m y).2.1.2.1 = 1) (hR : d + 1 ≤ R.frames ∧ 64 * (d + 1) ≤ R.locals) (hw : Cond.methodLink (q_own j) idx (q_m y).1.1 ∈ lw_tbl) (has : as.length = (q_m y).2.1.1) (hst : st = as.reverse ++ rest) (hcl : q_mc y = 0 ∨ q_clo μ.1.length ls rest = true) (hcat : Nat.ble (q_cats rest) 8 = true) (hc : uc + q_mc y ≤ q_mc j) (hs : us + q_ms y ≤ q_ms j)
    (hdg : decode (q_m j).1.2.1 pc = .ok (.invokestatic idx, 3)) (hQ : ∀ v μ', Q v μ' → q_back False (q_m y).1.2.2.2 v fun rr => (q_V p l e R s m args below meth c Qf dC dI kA A L xs n0 ad0 j) (pc + 3, ls, rr ++ rest, μ', uc + q_mc y, us + q_ms y)) : (q_V p l e R s m args below meth c Qf dC dI kA A L xs n0 ad0 j) (pc, ls, st, μ, uc, us) := fun ad H locs lsR r => by
  have h := q_ckM_get hy
  unfold q_ckM at h
  rw [hk] at h
  simp only [Bool.and_eq_true, decide_eq_true_eq] at h
  exact q_after F.2.2.2.1 r (va_runS (As := as.map (q_rn ad)) (q_fix F) (hM ad H.size r.1.1) ⟨q_callB F hy hR hw, q_hts F (q_tb_in (List.mem_of_getElem? h.2.2.2.2.2)) rfl⟩ ⟨q_Pr_blind, fun U hU hW => ⟨rfl, by rw [hU], by rw [hU]; exact r.2.1.1, F.2.2.1.warm hW, r.2.1.2.1.weaken (fun _ _ _ _ => trivial)⟩⟩ rfl (by rw [List.length_map]; exact has) r.2.2.2.1 (by rw [hst, List.map_append, List.map_reverse]) (q_room hcat) hdg ⟨Nat.le_trans hc F.2.2.2.2.2.1.2.2.1, Nat.le_trans hs F.2.2.2.2.2.1.2.2.2⟩) hcl (by omega) hQ
theorem q_i_callI (F : q_Fr p R s m args meth c dC dI kA A L b0 xs n0 ad0 j) (hM : q_MetS l dC dI kA L xs d y (.ref o :: as) μ Q) (hy : y < 226) (hk : (q_m y).2.1.2.1 = 2) (hR : d + 1 ≤ R.frames ∧ 64 * (d + 1) ≤ R.locals) (hw : Cond.methodLink (q_own j) idx (q_m y).1.1 ∈ lw_tbl ∨ Cond.methodLinkNest (q_own j) idx (q_m y).1.1 "PluginChains" ∈ lw_tbl) (has : as.length = (q_m y).2.1.1) (hst : st = as.reverse ++ .ref o :: rest) (hcl : q_mc y = 0 ∨ q_clo μ.1.length ls rest = true) (hcat : Nat.ble (q_cats rest) 8 = true) (hc : uc + q_mc y ≤ q_mc j) (hs : us + q_ms y ≤ q_ms j)
    (hdg : decode (q_m j).1.2.1 pc = .ok (.invokespecial idx, 3)) (hQ : ∀ v μ', Q v μ' → q_back False (q_m y).1.2.2.2 v fun rr => (q_V p l e R s m args below meth c Qf dC dI kA A L xs n0 ad0 j) (pc + 3, ls, rr ++ rest, μ', uc + q_mc y, us + q_ms y)) : (q_V p l e R s m args below meth c Qf dC dI kA A L xs n0 ad0 j) (pc, ls, st, μ, uc, us) := fun ad H locs lsR r => by
  have h := q_ckM_get hy
  unfold q_ckM at h
  rw [hk] at h
  simp only [Bool.and_eq_true, decide_eq_true_eq] at h
  obtain ⟨hin, hnm, hre⟩ := h.2.2.2.2.2
  have hws : q_ws y = .code (q_m y).1.1 (q_m y).1.2.1 (q_m y).1.2.2.1 none :: q_gw := by unfold q_ws; rw [hre]
  have hini := q_hts F (q_tb_in (List.mem_of_getElem? h.2.2.2.2.1)) rfl
  have hinst := q_hts F (q_tb_in (List.mem_of_getElem? hin)) rfl
  have hd : (q_m y).1.1.cls ≠ "java/lang/invoke/MethodHandle" ∧ (q_m y).1.1.cls ≠ "java/lang/invoke/VarHandle" ∧ (parseMethodDescriptor (q_m y).1.1.desc).map (fun d => d.parameters.length) = some (q_m y).2.1.1 := ⟨h.2.1.1, h.2.1.2, h.2.2.1⟩
  have hp : PreS s H (q_Pr dC dI kA (.ref o :: as) μ ad H.size) (.ref (ad o) :: as.map (q_rn ad)) := ⟨q_Pr_blind, fun U hU hW => ⟨rfl, by rw [hU], by rw [hU]; exact r.2.1.1, F.2.2.1.warm hW, r.2.1.2.1.weaken (fun _ _ _ _ => trivial)⟩⟩
  have hstk : (F0 m pc lsR (st.map (q_rn ad))).stack = (as.map (q_rn ad)).reverse ++ .ref (ad o) :: rest.map (q_rn ad) := by
    show st.map (q_rn ad) = _
    rw [hst, List.map_append, List.map_reverse]
    rfl
  rcases hw with hw | hw
  · exact q_after F.2.2.2.1 r (va_runI (As := as.map (q_rn ad)) (q_fix F) (hM ad H.size r.1.1) ⟨callB_of (ret := none) (q_m y).2.1.1 F.2.1 (q_good hy) hws rfl rfl hini (q_hts F hw rfl) hd (q_roomy hy hR), hnm, hinst⟩ hp rfl (by rw [List.length_map]; exact has) r.2.2.2.1 hstk (q_room hcat) hdg ⟨Nat.le_trans hc F.2.2.2.2.2.1.2.2.1, Nat.le_trans hs F.2.2.2.2.2.1.2.2.2⟩) hcl (by omega) hQ
  · exact q_after F.2.2.2.1 r (va_runIN (As := as.map (q_rn ad)) (q_fix F) (hM ad H.size r.1.1) ⟨va_cnB (ret := none) (q_m y).2.1.1 F.2.1 (q_good hy) hws rfl rfl (F.2.2.1.2.1 _ (List.mem_filter.mpr ⟨hw, rfl⟩)) hini hd (q_roomy hy hR), hnm, hinst⟩ hp rfl (by rw [List.length_map]; exact has) r.2.2.2.1 hstk (q_room hcat) hdg ⟨Nat.le_trans hc F.2.2.2.2.2.1.2.2.1, Nat.le_trans hs F.2.2.2.2.2.1.2.2.2⟩) hcl (by omega) hQ
theorem q_i_objInit (F : q_Fr p R s m args meth c dC dI kA A L b0 xs n0 ad0 j) (hw : Cond.methodLink (q_own j) idx Lib.objectInit ∈ lw_tbl) (hcat : Nat.ble (q_cats st) 8 = true) (hdg : decode (q_m j).1.2.1 pc = .ok (.invokespecial idx, 3)) (h : (q_V p l e R s m args below meth c Qf dC dI kA A L xs n0 ad0 j) (pc + 3, ls, st, μ, uc, us)) : (q_V p l e R s m args below meth c Qf dC dI kA A L xs n0 ad0 j) (pc, ls, .ref o :: st, μ, uc, us) := fun ad H locs lsR r => by
  refine W.objInit F.1.1 F.1.2.1 F.1.2.2.2 (q_hts F hw rfl) (q_hts F q_mmw.2.2.2.2.2.2.1 rfl) (q_hts F q_mmc.2.2 rfl) rfl (r.2.2.2.1.trans F.1.2.2.1.symm) rfl hdg F.2.2.2.2.2.1.1 ?_ (h ad H locs lsR r)
  have h1 := q_cats_rn ad st
  have h2 := Nat.ble_eq.mp hcat
  have h3 := F.2.2.2.2.2.1.2.1
  show 2 * 0 + ((st.map (q_rn ad)).map fun v => v.category).sum + 12 ≤ R.locals
  omega
theorem q_i_max (F : q_Fr p R s m args meth c dC dI kA A L b0 xs n0 ad0 j) (hw : Cond.methodLink (q_own j) idx Lib.Math.max.name ∈ lw_tbl) (hcat : Nat.ble (q_cats st) 8 = true) (hc : uc ≤ q_mc j) (hs : us ≤ q_ms j) (hdg : decode (q_m j).1.2.1 pc = .ok (.invokestatic idx, 3)) (h : (q_V p l e R s m args below meth c Qf dC dI kA A L xs n0 ad0 j) (pc + 3, ls, .int (if x < z then z else x) :: st, μ, uc, us)) : (q_V p l e R s m args below meth c Qf dC dI kA A L xs n0 ad0 j) (pc, ls, .int z :: .int x :: st, μ, uc, us) := fun ad H locs lsR r => by
  refine va_mmax F.1.1 F.1.2.1 (F.1.2.2.1.trans r.2.2.2.1.symm) F.1.2.2.2 (q_hts F hw rfl) (q_hts F q_mmw.1 rfl) (q_hts F q_mmw.2.2.1 rfl) (q_hts F q_mmc.1 rfl) F.2.2.2.2.2.1.1 ?_ (Nat.le_trans hc F.2.2.2.2.2.1.2.2.1) (Nat.le_trans hs F.2.2.2.2.2.1.2.2.2) hdg (h ad H locs lsR r)
  have h1 := q_cats_rn ad st
  have h2 := Nat.ble_eq.mp hcat
  have h3 := F.2.2.2.2.2.1.2.1
  omega
theorem q_i_min (F : q_Fr p R s m args meth c dC dI kA A L b0 xs n0 ad0 j) (hw : Cond.methodLink (q_own j) idx Lib.Math.min.name ∈ lw_tbl) (hcat : Nat.ble (q_cats st) 8 = true) (hc : uc ≤ q_mc j) (hs : us ≤ q_ms j) (hdg : decode (q_m j).1.2.1 pc = .ok (.invokestatic idx, 3)) (h : (q_V p l e R s m args below meth c Qf dC dI kA A L xs n0 ad0 j) (pc + 3, ls, .int (if z < x then z else x) :: st, μ, uc, us)) : (q_V p l e R s m args below meth c Qf dC dI kA A L xs n0 ad0 j) (pc, ls, .int z :: .int x :: st, μ, uc, us) := fun ad H locs lsR r => by
  refine va_mmin F.1.1 F.1.2.1 (F.1.2.2.1.trans r.2.2.2.1.symm) F.1.2.2.2 (q_hts F hw rfl) (q_hts F q_mmw.2.1 rfl) (q_hts F q_mmw.2.2.1 rfl) (q_hts F q_mmc.2.1 rfl) F.2.2.2.2.2.1.1 ?_ (Nat.le_trans hc F.2.2.2.2.2.1.2.2.1) (Nat.le_trans hs F.2.2.2.2.2.1.2.2.2) hdg (h ad H locs lsR r)
  have h1 := q_cats_rn ad st
  have h2 := Nat.ble_eq.mp hcat
  have h3 := F.2.2.2.2.2.1.2.1
  omega
theorem q_natw : nativeFrameWords "java/lang/System" "arraycopy" 5 ≤ 20 := by decide +kernel
theorem q_i_copyI {sp dp n : Int32} {o' n1 n2 : Nat} (F : q_Fr p R s m args meth c dC dI kA A L b0 xs n0 ad0 j) (hw : Cond.methodLink (q_own j) idx arraycopyName ∈ lw_tbl) (hcat : Nat.ble (q_cats st) 8 = true) (h0 : q_arr μ.1 o 100 = some n1) (h1 : q_arr μ.1 o' 100 = some n2) (hh : ¬ sp < 0 ∧ ¬ dp < 0 ∧ ¬ n < 0 ∧ sp.toNatClampNeg + n.toNatClampNeg ≤ n1 ∧ dp.toNatClampNeg + n.toNatClampNeg ≤ n2) (hdg : decode (q_m j).1.2.1 pc = .ok (.invokestatic idx, 3)) (h : (q_V p l e R s m args below meth c Qf dC dI kA A L xs n0 ad0 j) (pc + 3, ls, st, q_cI μ o o' sp.toNatClampNeg dp.toNatClampNeg n.toNatClampNeg, uc, us)) : (q_V p l e R s m args below meth c Qf dC dI kA A L xs n0 ad0 j) (pc, ls, .int n :: .int dp :: .ref o' :: .int sp :: .ref o :: st, μ, uc, us) := fun ad H locs lsR r => by
  have g1 := q_arr_spec h0
  have g2 := q_arr_spec h1
  obtain ⟨z1, w1⟩ := q_world_at (ad := ad) (kA := kA) r.1.1 g1 (by dsimp only; decide)
  obtain ⟨z2, w2⟩ := q_world_at (ad := ad) (kA := kA) r.1.1 g2 (by dsimp only; decide)
  have c1 : q_cell ad kA μ o (100, n1) = .inl (kA 100, n1, .inl (μ.2.1 o)) := rfl
  have c2 : q_cell ad kA μ o' (100, n2) = .inl (kA 100, n2, .inl (μ.2.1 o')) := rfl
  rw [c1] at w1
  rw [c2] at w2
  have ew := q_world_set (ad := ad) (kA := kA) (μ' := q_cI μ o o' sp.toNatClampNeg dp.toNatClampNeg n.toNatClampNeg) z2 g2 rfl (fun a q ha => q_cell_congr (by funext b; simp [q_cI, ha]) rfl rfl)
  have c3 : q_cell ad kA (q_cI μ o o' sp.toNatClampNeg dp.toNatClampNeg n.toNatClampNeg) o' (100, n2) = .inl (kA 100, n2, .inl (va_cpy (μ.2.1 o) (μ.2.1 o') sp.toNatClampNeg dp.toNatClampNeg n.toNatClampNeg)) := by
    have ee : (q_cI μ o o' sp.toNatClampNeg dp.toNatClampNeg n.toNatClampNeg).2.1 o' = va_cpy (μ.2.1 o) (μ.2.1 o') sp.toNatClampNeg dp.toNatClampNeg n.toNatClampNeg := by
      funext b
      simp [q_cI]
    show Sum.inl (kA 100, n2, Sum.inl ((q_cI μ o o' sp.toNatClampNeg dp.toNatClampNeg n.toNatClampNeg).2.1 o')) = _
    rw [ee]
  rw [c3] at ew
  have hr2 := F.2.2.2.2.2.1
  have k1 := q_cats_rn ad st
  have k2 := Nat.ble_eq.mp hcat
  have k3 := q_natw
  refine va_copyi F.1.1 F.1.2.1 (F.1.2.2.1.trans r.2.2.2.1.symm) F.1.2.2.2 (q_hts F hw rfl) (q_hts F q_mmw.2.2.2.1 rfl) (q_hts F q_mmw.2.2.2.2.1 rfl) (q_hts F q_mmw.2.2.2.2.2.1 rfl) F.2.2.1.1 r.2.1.1 r.2.1.2.1 r.2.1.2.2 (o - 1) (o' - 1) 0 0 w1 w2 rfl rfl rfl hh.1 hh.2.1 hh.2.2.1 hh.2.2.2.1 hh.2.2.2.2 (fun _ _ => rfl) hr2.1 (by omega) hdg fun H1 locs1 hP hD hS => ?_
  rw [← ew] at hP hD
  exact h ad H1 locs1 lsR ⟨⟨⟨r.1.1.1, fun i => by
    show (if 0 = o' then _ else μ.2.1 0 i) = xs i
    rw [if_neg (Ne.symm z2)]
    exact r.1.1.2.1 i, r.1.1.2.2⟩, r.1.2⟩, ⟨hP, hD, hS⟩, r.2.2⟩
theorem q_i_copyL {sp dp n : Int32} {o' n1 n2 : Nat} (F : q_Fr p R s m args meth c dC dI kA A L b0 xs n0 ad0 j) (hw : Cond.methodLink (q_own j) idx arraycopyName ∈ lw_tbl) (hcat : Nat.ble (q_cats st) 8 = true) (h0 : q_arr μ.1 o 101 = some n1) (h1 : q_arr μ.1 o' 101 = some n2) (hh : ¬ sp < 0 ∧ ¬ dp < 0 ∧ ¬ n < 0 ∧ sp.toNatClampNeg + n.toNatClampNeg ≤ n1 ∧ dp.toNatClampNeg + n.toNatClampNeg ≤ n2) (hdg : decode (q_m j).1.2.1 pc = .ok (.invokestatic idx, 3)) (h : (q_V p l e R s m args below meth c Qf dC dI kA A L xs n0 ad0 j) (pc + 3, ls, st, q_cL μ o o' sp.toNatClampNeg dp.toNatClampNeg n.toNatClampNeg, uc, us)) : (q_V p l e R s m args below meth c Qf dC dI kA A L xs n0 ad0 j) (pc, ls, .int n :: .int dp :: .ref o' :: .int sp :: .ref o :: st, μ, uc, us) := fun ad H locs lsR r => by
  have g1 := q_arr_spec h0
  have g2 := q_arr_spec h1
  obtain ⟨z1, w1⟩ := q_world_at (ad := ad) (kA := kA) r.1.1 g1 (by dsimp only; decide)
  obtain ⟨z2, w2⟩ := q_world_at (ad := ad) (kA := kA) r.1.1 g2 (by dsimp only; decide)
  have c1 : q_cell ad kA μ o (101, n1) = .inl (kA 101, n1, .inr (.inl (μ.2.2.1 o))) := rfl
  have c2 : q_cell ad kA μ o' (101, n2) = .inl (kA 101, n2, .inr (.inl (μ.2.2.1 o'))) := rfl
  rw [c1] at w1
  rw [c2] at w2
  have ew := q_world_set (ad := ad) (kA := kA) (μ' := q_cL μ o o' sp.toNatClampNeg dp.toNatClampNeg n.toNatClampNeg) z2 g2 rfl (fun a q ha => q_cell_congr rfl (by funext b; simp [q_cL, ha]) rfl)
  have c3 : q_cell ad kA (q_cL μ o o' sp.toNatClampNeg dp.toNatClampNeg n.toNatClampNeg) o' (101, n2) = .inl (kA 101, n2, .inr (.inl (va_cpy (μ.2.2.1 o) (μ.2.2.1 o') sp.toNatClampNeg dp.toNatClampNeg n.toNatClampNeg))) := by
    have ee : (q_cL μ o o' sp.toNatClampNeg dp.toNatClampNeg n.toNatClampNeg).2.2.1 o' = va_cpy (μ.2.2.1 o) (μ.2.2.1 o') sp.toNatClampNeg dp.toNatClampNeg n.toNatClampNeg := by
      funext b
      simp [q_cL]
    show Sum.inl (kA 101, n2, Sum.inr (Sum.inl ((q_cL μ o o' sp.toNatClampNeg dp.toNatClampNeg n.toNatClampNeg).2.2.1 o'))) = _
    rw [ee]
  rw [c3] at ew
  have hr2 := F.2.2.2.2.2.1
  have k1 := q_cats_rn ad st
  have k2 := Nat.ble_eq.mp hcat
  have k3 := q_natw
  refine va_copyl F.1.1 F.1.2.1 (F.1.2.2.1.trans r.2.2.2.1.symm) F.1.2.2.2 (q_hts F hw rfl) (q_hts F q_mmw.2.2.2.1 rfl) (q_hts F q_mmw.2.2.2.2.1 rfl) (q_hts F q_mmw.2.2.2.2.2.1 rfl) F.2.2.1.1 r.2.1.1 r.2.1.2.1 r.2.1.2.2 (o - 1) (o' - 1) 1 1 w1 w2 rfl rfl rfl hh.1 hh.2.1 hh.2.2.1 hh.2.2.2.1 hh.2.2.2.2 (fun _ _ => rfl) hr2.1 (by omega) hdg fun H1 locs1 hP hD hS => ?_
  rw [← ew] at hP hD
  exact h ad H1 locs1 lsR ⟨⟨r.1.1, r.1.2⟩, ⟨hP, hD, hS⟩, r.2.2⟩
end CALLS
