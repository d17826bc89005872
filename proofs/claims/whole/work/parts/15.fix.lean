/-! one step as an equation; the memory's lasting form -/
theorem q_onB_mono {b : Bool} {x x' : Prop} (hx : x → x') (h : q_onB False b x) : q_onB False b x' := by
  obtain ⟨h1, h2⟩ := q_onB_spec h
  rw [h1]
  exact hx h2
theorem q_onS_mono {α : Type} {y : Option α} {k k' : α → Prop} (hx : ∀ a, k a → k' a) (h : q_onS False y k) : q_onS False y k' := by
  obtain ⟨a, h1, h2⟩ := q_onS_spec h
  rw [h1]
  exact hx a h2
theorem q_onI_mono {v : Value} {k k' : Int32 → Prop} (hx : ∀ a, k a → k' a) (h : q_onI False v k) : q_onI False v k' := by
  obtain ⟨a, h1, h2⟩ := q_onI_spec h
  rw [h1]
  exact hx a h2
theorem q_onJ_mono {v : Value} {k k' : Int64 → Prop} (hx : ∀ a, k a → k' a) (h : q_onJ False v k) : q_onJ False v k' := by
  obtain ⟨a, h1, h2⟩ := q_onJ_spec h
  rw [h1]
  exact hx a h2
theorem q_onR_mono {v : Value} {k k' : Nat → Prop} (hx : ∀ a, k a → k' a) (h : q_onR False v k) : q_onR False v k' := by
  obtain ⟨a, h1, h2⟩ := q_onR_spec h
  rw [h1]
  exact hx a h2
theorem q_back_mono {r : Option FieldType} {v : Value} {k k' : List Value → Prop} (hx : ∀ a, k a → k' a) (h : q_back False r v k) : q_back False r v k' := by
  unfold q_back at h ⊢
  cases r with
  | none => exact hx _ h
  | some ty => cases ty <;> first | exact h.elim | exact q_onI_mono (fun _ => hx _) h | exact q_onJ_mono (fun _ => hx _) h
theorem q_sw_mono {go go' : Int → Prop} (hg : ∀ z, go z → go' z) {d : Int} {x : Int32} : ∀ {ps : List (Int × Int)}, q_sw (fun c _ x y => (c → x) ∧ (¬ c → y)) go d x ps → q_sw (fun c _ x y => (c → x) ∧ (¬ c → y)) go' d x ps
  | [], h => hg _ h
  | (a, o) :: l, h => ⟨fun q => hg _ (h.1 q), fun q => q_sw_mono hg (h.2 q)⟩
def q_mono (cl : Nat → List Value → q_Mem → (Value → q_Mem → Prop) → Prop) : Prop := ∀ y as μ (Q Q' : Value → q_Mem → Prop), (∀ v μ', Q v μ' → Q' v μ') → cl y as μ Q → cl y as μ Q'
theorem q_ex_mono {cl : Nat → List Value → q_Mem → (Value → q_Mem → Prop) → Prop} (hcl : q_mono cl) {rt rt' : Value → q_Mem → Nat → Nat → Prop} (hrt : ∀ v μ uc us, rt v μ uc us → rt' v μ uc us) {j : Nat} {P P' : q_St → Prop} (hP : ∀ z, P z → P' z) (i : Instr) {n a b pc uc us : Nat} {ls : List (Option Value)} {st : List Value} {μ : q_Mem} (h : q_ex False (fun c _ x => c ∧ x) (fun c _ x y => (c → x) ∧ (¬ c → y)) cl rt j P i n a b pc ls st μ uc us) : q_ex False (fun c _ x => c ∧ x) (fun c _ x y => (c → x) ∧ (¬ c → y)) cl rt' j P' i n a b pc ls st μ uc us := by
  cases i
  case iconst k =>
    exact hP _ h
  case bipush k =>
    exact hP _ h
  case sipush k =>
    exact hP _ h
  case lconst k =>
    exact hP _ h
  case ldc k =>
    exact hP _ h
  case ldc_w k =>
    exact hP _ h
  case ldc2_w k =>
    exact hP _ h
  case goto k =>
    exact hP _ h
  case iload_n k =>
    dsimp only [q_ex] at h ⊢
    revert h
    generalize ls[(k : Nat)]? = q
    intro h
    split at h
    · exact hP _ h
    · exact h.elim
  case iload k =>
    dsimp only [q_ex] at h ⊢
    revert h
    generalize ls[k]? = q
    intro h
    split at h
    · exact hP _ h
    · exact h.elim
  case lload_n k =>
    dsimp only [q_ex] at h ⊢
    revert h
    generalize ls[(k : Nat)]? = q
    intro h
    split at h
    · exact hP _ h
    · exact h.elim
  case lload k =>
    dsimp only [q_ex] at h ⊢
    revert h
    generalize ls[k]? = q
    intro h
    split at h
    · exact hP _ h
    · exact h.elim
  case aload_n k =>
    dsimp only [q_ex] at h ⊢
    revert h
    generalize ls[(k : Nat)]? = q
    intro h
    split at h
    · exact hP _ h
    · exact h.elim
  case aload k =>
    dsimp only [q_ex] at h ⊢
    revert h
    generalize ls[k]? = q
    intro h
    split at h
    · exact hP _ h
    · exact h.elim
  case istore_n k =>
    dsimp only [q_ex] at h ⊢
    split at h
    · exact q_onB_mono (hP _) h
    · exact h.elim
  case istore k =>
    dsimp only [q_ex] at h ⊢
    split at h
    · exact q_onB_mono (hP _) h
    · exact h.elim
  case astore_n k =>
    dsimp only [q_ex] at h ⊢
    split at h
    · exact q_onB_mono (hP _) h
    · exact h.elim
  case astore k =>
    dsimp only [q_ex] at h ⊢
    split at h
    · exact q_onB_mono (hP _) h
    · exact h.elim
  case lstore_n k =>
    dsimp only [q_ex] at h ⊢
    split at h
    · exact q_onB_mono (hP _) h
    · exact h.elim
  case lstore k =>
    dsimp only [q_ex] at h ⊢
    split at h
    · exact q_onB_mono (hP _) h
    · exact h.elim
  case iinc k d =>
    dsimp only [q_ex] at h ⊢
    revert h
    generalize ls[k]? = q
    intro h
    split at h
    · exact q_onB_mono (hP _) h
    · exact h.elim
  case iadd =>
    dsimp only [q_ex] at h ⊢
    split at h
    · exact hP _ h
    · exact h.elim
  case isub =>
    dsimp only [q_ex] at h ⊢
    split at h
    · exact hP _ h
    · exact h.elim
  case imul =>
    dsimp only [q_ex] at h ⊢
    split at h
    · exact hP _ h
    · exact h.elim
  case iand =>
    dsimp only [q_ex] at h ⊢
    split at h
    · exact hP _ h
    · exact h.elim
  case ior =>
    dsimp only [q_ex] at h ⊢
    split at h
    · exact hP _ h
    · exact h.elim
  case ixor =>
    dsimp only [q_ex] at h ⊢
    split at h
    · exact hP _ h
    · exact h.elim
  case ishl =>
    dsimp only [q_ex] at h ⊢
    split at h
    · exact hP _ h
    · exact h.elim
  case ishr =>
    dsimp only [q_ex] at h ⊢
    split at h
    · exact hP _ h
    · exact h.elim
  case iushr =>
    dsimp only [q_ex] at h ⊢
    split at h
    · exact hP _ h
    · exact h.elim
  case ineg =>
    dsimp only [q_ex] at h ⊢
    split at h
    · exact hP _ h
    · exact h.elim
  case ladd =>
    dsimp only [q_ex] at h ⊢
    split at h
    · exact hP _ h
    · exact h.elim
  case lsub =>
    dsimp only [q_ex] at h ⊢
    split at h
    · exact hP _ h
    · exact h.elim
  case lmul =>
    dsimp only [q_ex] at h ⊢
    split at h
    · exact hP _ h
    · exact h.elim
  case land =>
    dsimp only [q_ex] at h ⊢
    split at h
    · exact hP _ h
    · exact h.elim
  case lor =>
    dsimp only [q_ex] at h ⊢
    split at h
    · exact hP _ h
    · exact h.elim
  case lshl =>
    dsimp only [q_ex] at h ⊢
    split at h
    · exact hP _ h
    · exact h.elim
  case lcmp =>
    dsimp only [q_ex] at h ⊢
    split at h
    · exact hP _ h
    · exact h.elim
  case i2l =>
    dsimp only [q_ex] at h ⊢
    split at h
    · exact hP _ h
    · exact h.elim
  case l2i =>
    dsimp only [q_ex] at h ⊢
    split at h
    · exact hP _ h
    · exact h.elim
  case i2b =>
    dsimp only [q_ex] at h ⊢
    split at h
    · exact hP _ h
    · exact h.elim
  case i2s =>
    dsimp only [q_ex] at h ⊢
    split at h
    · exact hP _ h
    · exact h.elim
  case idiv =>
    dsimp only [q_ex] at h ⊢
    split at h
    · exact ⟨h.1, hP _ h.2⟩
    · exact h.elim
  case irem =>
    dsimp only [q_ex] at h ⊢
    split at h
    · exact ⟨h.1, hP _ h.2⟩
    · exact h.elim
  case dup =>
    dsimp only [q_ex] at h ⊢
    split at h
    · exact q_onB_mono (hP _) h
    · exact h.elim
  case pop =>
    dsimp only [q_ex] at h ⊢
    split at h
    · exact q_onB_mono (hP _) h
    · exact h.elim
  case dup_x1 =>
    dsimp only [q_ex] at h ⊢
    split at h
    · exact q_onB_mono (hP _) h
    · exact h.elim
  case dup2 =>
    dsimp only [q_ex] at h ⊢
    split at h
    · exact q_onB_mono (hP _) h
    · exact h.elim
  case ifCond cc off =>
    dsimp only [q_ex] at h ⊢
    split at h
    · cases cc <;> exact ⟨fun q => hP _ (h.1 q), fun q => hP _ (h.2 q)⟩
    · exact h.elim
  case if_icmp cc off =>
    dsimp only [q_ex] at h ⊢
    split at h
    · cases cc <;> exact ⟨fun q => hP _ (h.1 q), fun q => hP _ (h.2 q)⟩
    · exact h.elim
  case tableswitch d lo hi os =>
    dsimp only [q_ex] at h ⊢
    split at h
    · exact q_sw_mono (fun z hz => q_onB_mono (hP _) hz) h
    · exact h.elim
  case lookupswitch d ps =>
    dsimp only [q_ex] at h ⊢
    split at h
    · exact q_sw_mono (fun z hz => q_onB_mono (hP _) hz) h
    · exact h.elim
  case ireturn =>
    dsimp only [q_ex] at h ⊢
    split at h
    · revert h
      generalize (q_m j).1.2.2.2 = r
      intro h
      split at h
      · exact q_onB_mono (hrt _ _ _ _) h
      · exact q_onB_mono (fun h => ⟨h.1, hrt _ _ _ _ h.2⟩) h
      · exact h.elim
    · exact h.elim
  case lreturn =>
    dsimp only [q_ex] at h ⊢
    split at h
    · revert h
      generalize (q_m j).1.2.2.2 = r
      intro h
      split at h
      · exact q_onB_mono (hrt _ _ _ _) h
      · exact h.elim
    · exact h.elim
  case return_ =>
    dsimp only [q_ex] at h ⊢
    split at h
    · revert h
      generalize (q_m j).1.2.2.2 = r
      intro h
      split at h
      · exact q_onB_mono (hrt _ _ _ _) h
      · exact h.elim
    · exact h.elim
  case getfield k =>
    dsimp only [q_ex] at h ⊢
    split at h
    · refine q_onB_mono (fun h => ?_) h
      revert h
      generalize q_fk (q_tyf a b) = f
      intro h
      split at h
      · exact hP _ h
      · exact hP _ h
      · exact q_onS_mono (fun _ => hP _) h
      · exact h.elim
    · exact h.elim
  case putfield k =>
    dsimp only [q_ex] at h ⊢
    split at h
    · refine q_onB_mono (fun h => ?_) h
      revert h
      generalize q_fk (q_tyf a b) = f
      intro h
      split at h
      · exact q_onI_mono (fun _ => hP _) h
      · exact q_onI_mono (fun _ h => ⟨h.1, hP _ h.2⟩) h
      · exact q_onR_mono (fun _ => q_onB_mono (hP _)) h
      · exact h.elim
    · exact h.elim
  case iaload =>
    dsimp only [q_ex] at h ⊢
    split at h
    · exact q_onS_mono (fun _ h => ⟨h.1, hP _ h.2⟩) h
    · exact h.elim
  case laload =>
    dsimp only [q_ex] at h ⊢
    split at h
    · exact q_onS_mono (fun _ h => ⟨h.1, hP _ h.2⟩) h
    · exact h.elim
  case iastore =>
    dsimp only [q_ex] at h ⊢
    split at h
    · exact q_onS_mono (fun _ h => ⟨h.1, hP _ h.2⟩) h
    · exact h.elim
  case lastore =>
    dsimp only [q_ex] at h ⊢
    split at h
    · exact q_onS_mono (fun _ h => ⟨h.1, hP _ h.2⟩) h
    · exact h.elim
  case aaload =>
    dsimp only [q_ex] at h ⊢
    split at h
    · exact q_onS_mono (fun _ h => ⟨h.1, q_onS_mono (fun _ => hP _) h.2⟩) h
    · exact h.elim
  case aastore =>
    dsimp only [q_ex] at h ⊢
    split at h
    · exact q_onS_mono (fun _ => q_onB_mono (fun h => ⟨h.1, hP _ h.2⟩)) h
    · exact h.elim
  case arraylength =>
    dsimp only [q_ex] at h ⊢
    split at h
    · exact q_onS_mono (fun _ => hP _) h
    · exact h.elim
  case new k =>
    dsimp only [q_ex] at h ⊢
    exact q_onB_mono (hP _) h
  case newarray t =>
    dsimp only [q_ex] at h ⊢
    split at h
    · refine ⟨h.1, q_onB_mono (fun h => ?_) h.2⟩
      cases t <;> first | exact hP _ h | exact h.elim
    · exact h.elim
  case anewarray k =>
    dsimp only [q_ex] at h ⊢
    split at h
    · exact ⟨h.1, q_onB_mono (hP _) h.2⟩
    · exact h.elim
  case invokevirtual k =>
    dsimp only [q_ex] at h ⊢
    refine q_onS_mono (fun q h => ?_) h
    revert h
    generalize q.2 = z
    intro h
    split at h
    · refine q_onB_mono (fun h => ?_) h
      unfold q_call at h ⊢
      exact q_onB_mono (fun h => hcl _ _ _ _ _ (fun v μ' => q_back_mono (fun _ => hP _)) h) h
    · exact h.elim
  case invokestatic k =>
    dsimp only [q_ex] at h ⊢
    revert h
    generalize (a == 301) = a1
    generalize (a == 302) = a2
    generalize (a == 303) = a3
    intro h
    cases a1
    · cases a2
      · cases a3
        · refine q_onS_mono (fun q h => ?_) h
          unfold q_call at h ⊢
          exact q_onB_mono (fun h => hcl _ _ _ _ _ (fun v μ' => q_back_mono (fun _ => hP _)) h) h
        · dsimp only at h ⊢
          split at h
          · exact q_onB_mono (hP _) h
          · exact h.elim
      · dsimp only at h ⊢
        split at h
        · exact q_onB_mono (hP _) h
        · exact h.elim
    · dsimp only at h ⊢
      unfold q_copy at h ⊢
      split at h
      · refine q_onB_mono (fun h => ?_) h
        revert h
        generalize q_arr μ.1 _ 100 = z
        intro h
        cases z
        · exact q_onS_mono (fun _ => q_onS_mono (fun _ h => ⟨h.1, hP _ h.2⟩)) h
        · exact q_onS_mono (fun _ h => ⟨h.1, hP _ h.2⟩) h
      · exact h.elim
  case invokespecial k =>
    dsimp only [q_ex] at h ⊢
    revert h
    generalize (a == 300) = a1
    intro h
    cases a1
    · refine q_onS_mono (fun q h => ?_) h
      revert h
      generalize q.2 = z
      intro h
      split at h
      · unfold q_call at h ⊢
        exact q_onB_mono (fun h => hcl _ _ _ _ _ (fun v μ' => q_back_mono (fun _ => hP _)) h) h
      · exact h.elim
    · dsimp only at h ⊢
      split at h
      · exact q_onB_mono (hP _) h
      · exact h.elim
  all_goals exact h.elim
theorem q_step_mono {cl : Nat → List Value → q_Mem → (Value → q_Mem → Prop) → Prop} (hcl : q_mono cl) {rt rt' : Value → q_Mem → Nat → Nat → Prop} (hrt : ∀ v μ uc us, rt v μ uc us → rt' v μ uc us) {j : Nat} {P P' : q_St → Prop} (hP : ∀ z, P z → P' z) (z : q_St) (h : q_stepP cl rt j P z) : q_stepP cl rt' j P' z := by
  obtain ⟨pc, ls, st, μ, uc, us⟩ := z
  exact q_onS_mono (fun e => q_ex_mono hcl hrt hP e.1) h
theorem q_X_of {cl : Nat → List Value → q_Mem → (Value → q_Mem → Prop) → Prop} (hcl : q_mono cl) {rt : Value → q_Mem → Nat → Nat → Prop} {j : Nat} {z : q_St} (h : q_stepP cl rt j (q_X cl rt j) z) : q_X cl rt j z := fun P hP => hP z (q_step_mono hcl (fun _ _ _ _ h => h) (fun z hz => hz P hP) z h)
theorem q_X_fix {cl : Nat → List Value → q_Mem → (Value → q_Mem → Prop) → Prop} (hcl : q_mono cl) {rt : Value → q_Mem → Nat → Nat → Prop} {j : Nat} (z : q_St) : q_X cl rt j z = q_stepP cl rt j (q_X cl rt j) z := propext ⟨fun h => h (fun z => q_stepP cl rt j (q_X cl rt j) z) (fun t ht => q_step_mono hcl (fun _ _ _ _ h => h) (fun z hz => q_X_of hcl hz) t ht), q_X_of hcl⟩
theorem q_X_rt {cl : Nat → List Value → q_Mem → (Value → q_Mem → Prop) → Prop} (hcl : q_mono cl) {rt rt' : Value → q_Mem → Nat → Nat → Prop} (hrt : ∀ v μ uc us, rt v μ uc us → rt' v μ uc us) {j : Nat} {z : q_St} (h : q_X cl rt j z) : q_X cl rt' j z := fun P hP => h P fun t ht => hP t (q_step_mono hcl hrt (fun _ h => h) t ht)
theorem q_W_mono : ∀ d, q_mono (q_W d)
  | 0 => fun _ _ _ _ _ _ h => h
  | d + 1 => fun y as μ Q Q' hQ h => ⟨h.1, q_X_rt (q_W_mono d) (fun v μ _ _ => hQ v μ) h.2⟩
/-- a call, opened -/
theorem q_W_eq {d j : Nat} {as : List Value} {μ : q_Mem} {Q : Value → q_Mem → Prop} (h : (Nat.blt j 226 && (Nat.ble (q_lay as).length (q_m j).1.2.2.1 && q_lgok (q_m j).2.2.1 as)) = true) : q_W (d + 1) j as μ Q = q_X (q_W d) (fun v μ' _ _ => Q v μ') j (0, q_ent j as, [], μ, 0, 0) := by
  rw [Bool.and_eq_true, Bool.and_eq_true] at h
  exact propext ⟨fun h1 => h1.2, fun h1 => ⟨h, h1⟩⟩
/-- many steps, up to the cuts -/
def q_run (cl : Nat → List Value → q_Mem → (Value → q_Mem → Prop) → Prop) (rt : Value → q_Mem → Nat → Nat → Prop) (j : Nat) (cuts : List Nat) : Nat → q_St → Prop
  | 0, z => q_X cl rt j z
  | n + 1, z => q_stepP cl rt j (fun z' => match z' with
    | (pc, r) => match cuts.contains pc with
      | true => q_X cl rt j (pc, r)
      | false => q_run cl rt j cuts n (pc, r)) z
theorem q_run_eq {d : Nat} {rt : Value → q_Mem → Nat → Nat → Prop} {j : Nat} (cuts : List Nat) : ∀ (n : Nat) (z : q_St), q_run (q_W d) rt j cuts n z = q_X (q_W d) rt j z
  | 0, z => rfl
  | n + 1, z => by
    rw [q_X_fix (q_W_mono d)]
    unfold q_run
    congr 1
    funext z'
    obtain ⟨pc, r⟩ := z'
    dsimp only
    rw [q_run_eq cuts n (pc, r)]
    split <;> rfl
/-- the shapes of all objects that the law makes -/
def q_SH (L : Nat) : List (Nat × Nat) := (99, L) :: [(9, 14), (108, 8), (3, 6), (107, 12), (104, 24), (5, 11), (5, 11), (5, 11), (5, 11), (5, 11), (5, 11), (5, 11), (5, 11), (5, 11), (5, 11), (5, 11), (5, 11), (2, 5), (2, 5), (2, 5), (2, 5), (2, 5), (2, 5), (2, 5), (2, 5), (2, 5), (2, 5), (2, 5), (2, 5), (2, 5), (2, 5), (2, 5), (2, 5), (2, 5), (2, 5), (2, 5), (2, 5), (2, 5), (2, 5), (2, 5), (2, 5), (3, 6), (107, 12), (104, 24), (5, 11), (5, 11), (5, 11), (5, 11), (5, 11), (5, 11), (5, 11), (5, 11), (5, 11), (5, 11), (5, 11), (5, 11), (2, 5), (2, 5), (2, 5), (2, 5), (2, 5), (2, 5), (2, 5), (2, 5), (2, 5), (2, 5), (2, 5), (2, 5), (2, 5), (2, 5), (2, 5), (2, 5), (2, 5), (2, 5), (2, 5), (2, 5), (2, 5), (2, 5), (2, 5), (2, 5), (4, 8), (100, 12), (100, 36), (8, 2), (100, 12), (1, 8), (100, 24), (100, 30), (100, 12), (1, 8), (100, 24), (100, 30), (100, 12), (7, 6), (107, 12), (6, 4), (101, 160), (5, 11), (5, 11), (5, 11), (5, 11), (5, 11), (5, 11), (5, 11), (5, 11), (5, 11), (5, 11), (5, 11), (5, 11), (0, 2), (100, 40), (100, 36), (100, 8), (6, 4), (101, 160), (6, 4), (101, 160), (6, 4), (101, 160), (6, 4), (101, 160), (6, 4), (101, 160), (6, 4), (101, 160), (6, 4), (101, 160), (6, 4), (101, 160), (10, 37), (100, 108), (100, 120), (100, 8), (100, 8), (101, 1280), (100, 36), (100, 36), (100, 12), (100, 40), (100, 12), (100, 24), (100, 30), (100, 12), (100, 30), (100, 8), (100, 232), (100, 232)]
def q_RRt : List (List (Option Nat)) := [[], [some 2, some 3, some 42, none, some 81, some 84, some 86, some 90, some 94, some 110, some 112, none, none, some 113], [some 114, some 116, some 118, some 120, some 122, some 124, some 126, some 128], [some 4, some 5], [some 6, some 7, some 8, some 9, some 10, some 11, some 12, some 13, some 14, some 15, some 16, some 17], [some 18, some 19, some 20, some 21, some 22, some 23, some 24, some 25, some 26, some 27, some 28, some 29, some 30, some 31, some 32, some 33, some 34, some 35, some 36, some 37, some 38, some 39, some 40, some 41], [], [], [], [], [], [], [], [], [], [], [], [], [], [], [], [], [], [], [], [], [], [], [], [], [], [], [], [], [], [], [], [], [], [], [], [], [some 43, some 44], [some 45, some 46, some 47, some 48, some 49, some 50, some 51, some 52, some 53, some 54, some 55, some 56], [some 57, some 58, some 59, some 60, some 61, some 62, some 63, some 64, some 65, some 66, some 67, some 68, some 69, some 70, some 71, some 72, some 73, some 74, some 75, some 76, some 77, some 78, some 79, some 80], [], [], [], [], [], [], [], [], [], [], [], [], [], [], [], [], [], [], [], [], [], [], [], [], [], [], [], [], [], [], [], [], [], [], [], [], [some 3, some 82, none, none, some 83], [], [], [some 3, some 85], [], [some 3, some 87, none, none, none, none, some 88, some 89], [], [], [], [some 3, some 91, none, none, none, none, some 92, some 93], [], [], [], [some 3, some 95, none, some 96], [some 98, some 99, some 100, some 101, some 102, some 103, some 104, some 105, some 106, some 107, some 108, some 109], [some 97], [], [], [], [], [], [], [], [], [], [], [], [], [], [some 111], [], [], [], [some 115], [], [some 117], [], [some 119], [], [some 121], [], [some 123], [], [some 125], [], [some 127], [], [some 129], [], [none, some 131, none, none, none, some 132, some 133, some 134, some 135, none, none, none, none, some 136, none, some 137, none, none, some 138, none, none, some 139, some 140, none, some 141, none, none, none, some 142, some 143, none, some 144, none, some 145, none, some 146, some 147], [], [], [], [], [], [], [], [], [], [], [], [], [], [], [], [], []]
def q_RR (t o k : Nat) : Option Nat := match o == 94 && k == 3 with
  | true => some t
  | false => (q_RRt.getD o []).getD k none
def q_mm (L : Nat) (I : Nat → Nat → Int32) (J : Nat → Nat → Int64) (t : Nat) : q_Mem := (q_SH L, I, J, q_RR t)
def q_u (I : Nat → Nat → Int32) (o k : Nat) (v : Int32) : Nat → Nat → Int32 := fun a b => if a = o ∧ b = k then v else I a b
def q_u8 (J : Nat → Nat → Int64) (o k : Nat) (v : Int64) : Nat → Nat → Int64 := fun a b => if a = o ∧ b = k then v else J a b
def q_cpI (I : Nat → Nat → Int32) (o o' sp dp n : Nat) : Nat → Nat → Int32 := fun a b => if a = o' then va_cpy (I o) (I o') sp dp n b else I a b
def q_cpL (J : Nat → Nat → Int64) (o o' sp dp n : Nat) : Nat → Nat → Int64 := fun a b => if a = o' then va_cpy (J o) (J o') sp dp n b else J a b
theorem q_sR_mm {L : Nat} {I : Nat → Nat → Int32} {J : Nat → Nat → Int64} {t x : Nat} : q_sR (q_mm L I J t) 94 3 (some x) = q_mm L I J x := by
  unfold q_sR q_mm
  congr 3
  funext a b
  unfold q_RR
  by_cases h : a = 94 ∧ b = 3
  · rw [if_pos h, h.1, h.2]
    rfl
  · rw [if_neg h]
    have e : (a == 94 && b == 3) = false := by
      rw [Bool.and_eq_false_iff]
      by_cases h1 : a = 94
      · exact Or.inr (beq_false_of_ne (fun h2 => h ⟨h1, h2⟩))
      · exact Or.inl (beq_false_of_ne h1)
    dsimp only
    rw [e]
theorem q_onB_t {X : Type} {ff x : X} : q_onB ff true x = x := rfl
theorem q_onS_s {α X : Type} {ff : X} {a : α} {k : α → X} : q_onS ff (some a) k = k a := rfl
theorem q_onI_i {X : Type} {ff : X} {a : Int32} {k : Int32 → X} : q_onI ff (.int a) k = k a := rfl
theorem q_onJ_j {X : Type} {ff : X} {a : Int64} {k : Int64 → X} : q_onJ ff (.long a) k = k a := rfl
