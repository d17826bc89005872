/-! soundness of whole frames: what q_W says of a method is its contract -/
section FRAMES
variable {p : Program} {l : Launch} {e : Env} {R : Room} {s : State} {m : MethodId} {args : Array Value} {below : List Frame} {meth : Method} {c : Code} {Qf : State → Prop} {dC : Nat → ClassId} {dI : Nat → Nat → Nat} {kA : Nat → ClassId} {A : Nat → Prop} {L b0 : Nat} {xs : Nat → Int32} {n0 : Nat} {ad0 : Nat → Nat} {j d : Nat}
/-- from any state of a frame that the small machine brings to its end -/
theorem q_snd_X (hj : j < 227) (F : q_Fr p R s m args meth c dC dI kA A L b0 xs n0 ad0 j) (hR : d + 1 ≤ R.frames ∧ 64 * (d + 1) ≤ R.locals) {cl : Nat → List Value → q_Mem → (Value → q_Mem → Prop) → Prop} (hcl : ∀ y as μ Q, cl y as μ Q → q_MetS l dC dI kA L xs d y as μ Q) {rt : Value → q_Mem → Nat → Nat → Prop} (hrt : q_RH p l e R s m args below meth c Qf dC dI kA A L xs n0 ad0 j rt) {z : q_St} (h : q_X cl rt j z) : q_V p l e R s m args below meth c Qf dC dI kA A L xs n0 ad0 j z := by
  refine h _ fun t ht => ?_
  obtain ⟨pc, ls, st, μ, uc, us⟩ := t
  obtain ⟨⟨i, n, a, b, pl⟩, he, hx⟩ := q_onS_spec ht
  exact q_snd_ex F hR hcl hrt i (q_ckI_all j hj pc _ he) hx
end FRAMES
theorem q_lg_cons (v : Value) (t : List Value) : lg_sl (v :: t) = (if v.category = 2 then [.val v, .second] else [.val v]) ++ lg_sl t := rfl
theorem q_lay_len (as : List Value) : (q_lay as).length = (lg_sl as).length := by
  induction as with
  | nil => rfl
  | cons v t ih =>
    rw [q_lg_cons, List.length_append, ← ih]
    cases v <;> simp [q_lay, Value.category] <;> omega
theorem q_lay_get : ∀ (as : List Value) (i k : Nat) (v : Value) (n : Nat), (q_lay as ++ List.replicate n none)[k]? = some (some v) → (i + k, v) ∈ lv_args i as
  | [], i, k, v, n, h => by
    simp only [q_lay, List.nil_append] at h
    rw [List.getElem?_replicate] at h
    split at h <;> cases h
  | w :: t, i, k, v, n, h => by
    unfold lv_args
    have key1 : ∀ (hc : w.category = 1), (some w :: (q_lay t ++ List.replicate n none))[k]? = some (some v) → (i + k, v) ∈ (i, w) :: lv_args (if w.category = 2 then i + 2 else i + 1) t := by
      intro hc h
      cases k with
      | zero =>
        cases h
        exact List.mem_cons_self
      | succ k =>
        rw [List.getElem?_cons_succ] at h
        have h2 := q_lay_get t (i + 1) k v n h
        rw [if_neg (by omega)]
        refine List.mem_cons_of_mem _ ?_
        have e : i + (k + 1) = i + 1 + k := by omega
        rw [e]
        exact h2
    have key2 : ∀ (hc : w.category = 2), (some w :: none :: (q_lay t ++ List.replicate n none))[k]? = some (some v) → (i + k, v) ∈ (i, w) :: lv_args (if w.category = 2 then i + 2 else i + 1) t := by
      intro hc h
      cases k with
      | zero =>
        cases h
        exact List.mem_cons_self
      | succ k =>
        cases k with
        | zero => cases h
        | succ k =>
          have h1 : (q_lay t ++ List.replicate n none)[k]? = some (some v) := h
          have h2 := q_lay_get t (i + 2) k v n h1
          refine List.mem_cons_of_mem _ ?_
          rw [if_pos hc]
          have e : i + (k + 1 + 1) = i + 2 + k := by omega
          rw [e]
          exact h2
    cases w <;> first | exact key1 rfl h | exact key2 rfl h
theorem q_lv_args_rn (ad : Nat → Nat) : ∀ (as : List Value) (i : Nat), lv_args i (as.map (q_rn ad)) = (lv_args i as).map (fun q => (q.1, q_rn ad q.2))
  | [], _ => rfl
  | v :: t, i => by
    simp only [List.map_cons, lv_args]
    rw [q_rn_cat, q_lv_args_rn ad t]
theorem q_lg_rn (ad : Nat → Nat) (as : List Value) : (lg_sl (as.map (q_rn ad))).length = (lg_sl as).length := by
  induction as with
  | nil => rfl
  | cons v t ih =>
    rw [List.map_cons, q_lg_cons, q_lg_cons, List.length_append, List.length_append, ih, q_rn_cat]
    split <;> rfl
theorem q_LS_entry {ad : Nat → Nat} {lg : List Nat} {as : List Value} {nL : Nat} (h : (q_lay as).length ≤ nL) (hg : q_lgok lg as = true) : q_LS ad lg (q_lay as ++ List.replicate (nL - (q_lay as).length) none) ((lg_sl (as.map (q_rn ad)) ++ List.replicate (nL - (lg_sl (as.map (q_rn ad))).length) Slot.unset).toArray) nL := by
  have hl := lv_entry (as.map (q_rn ad)) (n := nL) (by rw [q_lg_rn, ← q_lay_len]; exact h)
  refine ⟨by rw [List.length_append, List.length_replicate]; omega, hl.1, hl.2.1, fun i v hi => ?_⟩
  have h1 := q_lay_get as 0 i v _ hi
  rw [Nat.zero_add] at h1
  refine ⟨?_, fun hc => ?_⟩
  · have h2 := hl.2.2 (i, q_rn ad v) (by rw [q_lv_args_rn]; exact List.mem_map.mpr ⟨(i, v), h1, rfl⟩)
    exact h2
  · have h3 := List.all_eq_true.mp hg (i, v) h1
    simp only [Bool.or_eq_true, Bool.not_eq_true', beq_eq_false_iff_ne] at h3
    exact h3.resolve_left (fun h => h hc)
