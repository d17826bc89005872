/-! a run that ends as a program ends in Prop -/
theorem q_ck_ty {j pc n a b pl : Nat} {i : Instr} (h : q_ckI j pc (i, n, a, b, pl) = true) : q_tyok i a b = true := by
  cases i <;> first | rfl | skip
  · simp only [q_ckI, Bool.and_eq_true, decide_eq_true_eq] at h
    exact decide_eq_true (by have := h.2.2.1; omega)
  · simp only [q_ckI, Bool.and_eq_true, beq_iff_eq, decide_eq_true_eq] at h
    have hy := h.2.2.1.1
    have hM := q_ckM_get hy
    unfold q_ckM at hM
    rw [h.2.2.1.2] at hM
    simp only [Bool.and_eq_true, decide_eq_true_eq] at hM
    have h9 := Nat.ble_eq.mp hM.2.2.2.2.2.2.2.1
    exact decide_eq_true (by omega)
  · simp only [q_ckI, Bool.and_eq_true, decide_eq_true_eq] at h
    exact decide_eq_true (by have := h.2.2.1.1; omega)
theorem q_ev_W (n : Nat) : ∀ (d j : Nat) (as : List Value) (μ ν : q_Mem) (v : Value) (ν' : q_Mem), q_sim μ ν → q_ev d n j as ν = some (v, ν') → q_W d j as μ (fun w μ' => w = v ∧ q_sim μ' ν') := by
  intro d
  induction d with
  | zero => intro j as μ ν v ν' _ h; cases h
  | succ d ih =>
    intro j as μ ν v ν' hs h
    unfold q_ev at h
    split at h
    · rename_i hb
      have hb2 := hb
      rw [Bool.and_eq_true, Bool.and_eq_true] at hb2
      have hj : j < 226 := Nat.ble_eq.mp hb2.1
      refine ⟨hb2, ?_⟩
      have key : ∀ (k pc : Nat) (ls : List (Option Value)) (st : List Value) (μ ν : q_Mem) (uc us : Nat), q_sim μ ν → (Nat.rec (motive := fun _ => q_St → Option (Value × q_Mem)) (fun _ => none) (fun _ P => q_step none (fun c _ x => if c then x else none) (fun c _ x y => if c then x else y) (fun y as μ k => match q_ev d n y as μ with
        | some r => k r.1 r.2
        | none => none) (fun v μ' _ _ => some (v, μ')) j P) k) (pc, ls, st, ν, uc, us) = some (v, ν') → q_X (q_W d) (fun w μ' _ _ => w = v ∧ q_sim μ' ν') j (pc, ls, st, μ, uc, us) := by
        intro k
        induction k with
        | zero => intro pc ls st μ ν uc us _ h; cases h
        | succ k ihk =>
          intro pc ls st μ ν uc us hs h
          refine q_X_of (q_W_mono d) ?_
          refine q_onS_ev (r := (v, ν')) (fun e he h => ?_) h
          obtain ⟨i, nn, a, b, pl⟩ := e
          refine q_ex_sim (r := (v, ν')) ?_ ?_ (show j ≠ 226 by omega) (fun pc ls st μ ν uc us hs h => ihk pc ls st μ ν uc us hs h) i hs (q_ck_ty (q_ckI_all j (by omega) pc _ he)) h
          · intro y as μ ν k K hs hk h
            split at h
            · rename_i r hr
              obtain ⟨v1, ν1⟩ := r
              refine q_W_mono d _ _ _ _ _ (fun w μ' hw => ?_) (ih y as μ ν v1 ν1 hs hr)
              obtain ⟨rfl, hw2⟩ := hw
              exact hk _ _ _ hw2 h
            · cases h
          · intro w μ ν uc us hs h
            cases h
            exact ⟨rfl, hs⟩
      exact key n 0 _ _ μ ν 0 0 hs h
    · cases h
def q_nu0 : q_Mem := ([(99, 0)], (fun _ _ => 0), (fun _ _ => 0), fun _ _ => none)
