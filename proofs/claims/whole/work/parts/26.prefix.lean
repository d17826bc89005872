/-! the law's entry: both objects are made -/
theorem q_onB_in {b : Bool} {x : Prop} (h : b = true) (hx : x) : q_onB False b x := by
  rw [h]
  exact hx
theorem q_evC_get : q_ev 100 1500 77 [.ref 1] (q_new q_nu0 9 14) = some ((q_evC.getD (.null, q_nu0)).1, q_nu1) := by
  have h := q_evC_ok
  show q_evC = _
  unfold q_nu1
  revert h
  generalize q_evC = z
  intro h
  cases z with
  | none => cases h
  | some r => rfl
theorem q_evM_get : q_ev 100 1500 132 [.ref 130] (q_new q_nu1 10 37) = some ((q_evM.getD (.null, q_nu0)).1, q_nu2) := by
  have h := q_evM_ok
  show q_evM = _
  unfold q_nu2
  revert h
  generalize q_evM = z
  intro h
  cases z with
  | none => cases h
  | some r => rfl
theorem q_sim0 {L : Nat} {xs : Nat → Int32} : q_sim (q_mu0 L xs) q_nu0 := ⟨⟨L, 0, [], rfl, rfl⟩, fun o h => ⟨by funext k; show (if o = 0 then xs k else 0) = 0; rw [if_neg h], rfl, rfl⟩⟩
theorem q_sim_L {μ ν : q_Mem} {L : Nat} (h : q_sim μ ν) (h0 : μ.1[0]? = some (99, L)) (k n : Nat) : (q_new μ k n).1[0]? = some (99, L) := by
  show (μ.1 ++ [(k, n)])[0]? = _
  rw [List.getElem?_append_left (List.getElem?_eq_some_iff.mp h0).1]
  exact h0
set_option maxRecDepth 20000 in
theorem q_prefix {L : Nat} {xs : Nat → Int32} {P : q_St → Prop} {rt : Value → q_Mem → Nat → Nat → Prop} (C : ∀ t, q_stepP (q_W 100) rt 226 P t → P t) (e18 : ∀ μ, q_sim μ q_nu2 → P (18, [some (.ref 0), some (.ref 1), some (.ref 130), some (.int 0)], [], μ, 147, 4805)) : P (0, q_ent 226 [.ref 0], [], q_mu0 L xs, 0, 0) := by
  have e17 : ∀ μ, q_sim μ q_nu2 → P (17, [some (.ref 0), some (.ref 1), some (.ref 130), none], [.int 0], μ, 147, 4805) := fun μ hs => C _ (e18 μ hs)
  have e16 : ∀ μ, q_sim μ q_nu2 → P (16, [some (.ref 0), some (.ref 1), some (.ref 130), none], [], μ, 147, 4805) := fun μ hs => C _ (e17 μ hs)
  have e15 : ∀ μ, q_sim μ q_nu2 → P (15, [some (.ref 0), some (.ref 1), none, none], [.ref 130], μ, 147, 4805) := fun μ hs => C _ (e16 μ hs)
  have e12 : ∀ μ, μ.1.length = 131 → q_sim μ (q_new q_nu1 10 37) → P (12, [some (.ref 0), some (.ref 1), none, none], [.ref 130, .ref 130], μ, 130, 2577) := by
    intro μ hl hs
    refine C _ (q_onB_in (x := q_W 100 132 [.ref 130] μ fun v μ' => P (15, [some (.ref 0), some (.ref 1), none, none], [.ref 130], μ', 147, 4805)) ?_ ?_)
    · rw [hl]
      rfl
    · exact q_W_mono 100 _ _ _ _ _ (fun v μ' h => e15 μ' h.2) (q_ev_W 1500 100 _ _ _ _ _ _ hs q_evM_get)
  have e11 : ∀ μ, μ.1.length = 131 → q_sim μ (q_new q_nu1 10 37) → P (11, [some (.ref 0), some (.ref 1), none, none], [.ref 130], μ, 130, 2577) := fun μ hl hs => C _ (e12 μ hl hs)
  have e8 : ∀ μ, μ.1.length = 130 → q_sim μ q_nu1 → P (8, [some (.ref 0), some (.ref 1), none, none], [], μ, 129, 2540) := by
    intro μ hl hs
    refine C _ (q_onB_in (x := P (11, [some (.ref 0), some (.ref 1), none, none], [.ref μ.1.length], q_new μ 10 37, 130, 2577)) ?_ ?_)
    · rw [hl]
      rfl
    · rw [hl]
      exact e11 _ (by show (μ.1 ++ [(10, 37)]).length = 131; rw [List.length_append, hl]; rfl) hs.new
  have e7 : ∀ μ, μ.1.length = 130 → q_sim μ q_nu1 → P (7, [some (.ref 0), none, none, none], [.ref 1], μ, 129, 2540) := fun μ hl hs => C _ (e8 μ hl hs)
  have e4 : P (4, [some (.ref 0), none, none, none], [.ref 1, .ref 1], q_new (q_mu0 L xs) 9 14, 1, 14) := by
    refine C _ (q_onB_in (x := q_W 100 77 [.ref 1] (q_new (q_mu0 L xs) 9 14) fun v μ' => P (7, [some (.ref 0), none, none, none], [.ref 1], μ', 129, 2540)) rfl ?_)
    refine q_W_mono 100 _ _ _ _ _ (fun v μ' h => e7 μ' ?_ h.2) (q_ev_W 1500 100 _ _ _ _ _ _ (q_sim0 (L := L) (xs := xs)).new q_evC_get)
    rw [h.2.len]
    exact q_nu1_len
  have e3 : P (3, [some (.ref 0), none, none, none], [.ref 1], q_new (q_mu0 L xs) 9 14, 1, 14) := C _ e4
  exact C _ e3
