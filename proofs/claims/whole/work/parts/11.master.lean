section MASTER
variable {p : Program} {l : Launch} {e : Env} {R : Room} {s : State} {m : MethodId} {args : Array Value} {below : List Frame} {meth : Method} {c : Code} {Qf : State → Prop} {dC : Nat → ClassId} {dI : Nat → Nat → Nat} {kA : Nat → ClassId} {A : Nat → Prop} {L b0 : Nat} {xs : Nat → Int32} {n0 : Nat} {ad0 : Nat → Nat} {j d : Nat}
/-- what a return must do -/
def q_RH (p : Program) (l : Launch) (e : Env) (R : Room) (s : State) (m : MethodId) (args : Array Value) (below : List Frame) (meth : Method) (c : Code) (Qf : State → Prop) (dC : Nat → ClassId) (dI : Nat → Nat → Nat) (kA : Nat → ClassId) (A : Nat → Prop) (L : Nat) (xs : Nat → Int32) (n0 : Nat) (ad0 : Nat → Nat) (j : Nat) (rt : Value → q_Mem → Nat → Nat → Prop) : Prop :=
  (∀ (pc : Nat) (ls : List (Option Value)) (x : Int32) (μ : q_Mem) (uc us : Nat) (ty : FieldType), (q_m j).1.2.2.2 = some ty → narrow ty (.int x) = .int x → rt (.int x) μ uc us → uc ≤ q_mc j → us ≤ q_ms j → decode (q_m j).1.2.1 pc = .ok (.ireturn, 1) → q_V p l e R s m args below meth c Qf dC dI kA A L xs n0 ad0 j (pc, ls, [.int x], μ, uc, us)) ∧
  (∀ (pc : Nat) (ls : List (Option Value)) (x : Int64) (μ : q_Mem) (uc us : Nat), (q_m j).1.2.2.2 = some .long → rt (.long x) μ uc us → uc ≤ q_mc j → us ≤ q_ms j → decode (q_m j).1.2.1 pc = .ok (.lreturn, 1) → q_V p l e R s m args below meth c Qf dC dI kA A L xs n0 ad0 j (pc, ls, [.long x], μ, uc, us)) ∧
  (∀ (pc : Nat) (ls : List (Option Value)) (μ : q_Mem) (uc us : Nat), (q_m j).1.2.2.2 = none → rt .null μ uc us → uc ≤ q_mc j → us ≤ q_ms j → decode (q_m j).1.2.1 pc = .ok (.return_, 1) → q_V p l e R s m args below meth c Qf dC dI kA A L xs n0 ad0 j (pc, ls, [], μ, uc, us))
theorem q_ble2 {a b c d : Nat} (h : (Nat.ble a b && Nat.ble c d) = true) : a ≤ b ∧ c ≤ d := by rw [Bool.and_eq_true] at h; exact ⟨Nat.le_of_ble_eq_true h.1, Nat.le_of_ble_eq_true h.2⟩
theorem q_fk_int {t : FieldType} (h : q_fk t = 0) : t = .int := by cases t <;> first | rfl | cases h
theorem q_fk_bool {t : FieldType} (h : q_fk t = 1) : t = .boolean := by cases t <;> first | rfl | cases h
theorem q_fk_ref {t : FieldType} (h : q_fk t = 2) : (∃ n, t = .object n) ∨ ∃ n, t = .array n := by cases t <;> first | exact Or.inl ⟨_, rfl⟩ | exact Or.inr ⟨_, rfl⟩ | cases h
theorem q_nb {x : Int32} (h : x = 0 ∨ x = 1) : narrow .boolean (.int x) = .int x := by rcases h with rfl | rfl <;> decide
theorem q_fb {x : Int32} (h : x = 0 ∨ x = 1) : fits .boolean (.int x) = true := by rcases h with rfl | rfl <;> decide
theorem q_fvI_ne {ad : Nat → Nat} {μ : q_Mem} {o a b k : Nat} {x : Int32} (hk : k ≠ b) : q_fv ad (q_sI μ o b x) o a k = q_fv ad μ o a k := by
  unfold q_fv
  have e1 : (q_sI μ o b x).2.1 o k = μ.2.1 o k := by simp [q_sI, hk]
  have e2 : (q_sI μ o b x).2.2.2 o k = μ.2.2.2 o k := rfl
  rw [e1, e2]
theorem q_fvR_ne {ad : Nat → Nat} {μ : q_Mem} {o a b k : Nat} {x : Option Nat} (hk : k ≠ b) : q_fv ad (q_sR μ o b x) o a k = q_fv ad μ o a k := by
  unfold q_fv
  have e1 : (q_sR μ o b x).2.2.2 o k = μ.2.2.2 o k := by simp [q_sR, hk]
  have e2 : (q_sR μ o b x).2.1 o k = μ.2.1 o k := rfl
  rw [e1, e2]
theorem q_fvI_eq {ad : Nat → Nat} {μ : q_Mem} {o a b : Nat} {x : Int32} (hf : q_fk (q_tyf a b) = 0 ∨ q_fk (q_tyf a b) = 1) : q_fv ad (q_sI μ o b x) o a b = q_rn ad (.int x) := by
  unfold q_fv
  have e1 : (q_sI μ o b x).2.1 o b = x := by simp [q_sI]
  rcases hf with hf | hf <;> (rw [e1, hf]; rfl)
theorem q_fvR_eq {ad : Nat → Nat} {μ : q_Mem} {o a b x : Nat} (hf : q_fk (q_tyf a b) = 2) : q_fv ad (q_sR μ o b (some x)) o a b = q_rn ad (.ref x) := by
  unfold q_fv
  have e1 : (q_sR μ o b (some x)).2.2.2 o b = some x := by simp [q_sR]
  rw [e1, hf]
  rfl
theorem q_snd_ex (F : q_Fr p R s m args meth c dC dI kA A L b0 xs n0 ad0 j) (hR : d + 1 ≤ R.frames ∧ 64 * (d + 1) ≤ R.locals) {cl : Nat → List Value → q_Mem → (Value → q_Mem → Prop) → Prop} (hcl : ∀ y as μ Q, cl y as μ Q → q_MetS l dC dI kA L xs d y as μ Q) {rt : Value → q_Mem → Nat → Nat → Prop} (hrt : q_RH p l e R s m args below meth c Qf dC dI kA A L xs n0 ad0 j rt) {pc n a b pl uc us : Nat} {ls : List (Option Value)} {st : List Value} {μ : q_Mem} (i : Instr) (hck : q_ckI j pc (i, n, a, b, pl) = true)
    (h : q_ex False (fun c _ x => c ∧ x) (fun c _ x y => (c → x) ∧ (¬ c → y)) cl rt j (q_V p l e R s m args below meth c Qf dC dI kA A L xs n0 ad0 j) i n a b pc ls st μ uc us) : q_V p l e R s m args below meth c Qf dC dI kA A L xs n0 ad0 j (pc, ls, st, μ, uc, us) := by
  obtain ⟨hdg, hln⟩ := q_ck_dec hck
  cases i
  case iconst k =>
    have hn : n = 1 := hln.elim (fun h0 => absurd h0 (show ¬ ((1 : Nat) = 0) from by decide)) (fun h0 => h0.symm)
    subst hn
    exact q_i_iconst F hdg h
  case bipush k =>
    have hn : n = 2 := hln.elim (fun h0 => absurd h0 (show ¬ ((2 : Nat) = 0) from by decide)) (fun h0 => h0.symm)
    subst hn
    exact q_i_bipush F hdg h
  case sipush k =>
    have hn : n = 3 := hln.elim (fun h0 => absurd h0 (show ¬ ((3 : Nat) = 0) from by decide)) (fun h0 => h0.symm)
    subst hn
    exact q_i_sipush F hdg h
  case lconst k =>
    have hn : n = 1 := hln.elim (fun h0 => absurd h0 (show ¬ ((1 : Nat) = 0) from by decide)) (fun h0 => h0.symm)
    subst hn
    exact q_i_lconst F hdg h
  case ldc idx =>
    have hn : n = 2 := hln.elim (fun h0 => absurd h0 (show ¬ ((2 : Nat) = 0) from by decide)) (fun h0 => h0.symm)
    subst hn
    simp only [q_ckI, Bool.and_eq_true, decide_eq_true_eq] at hck
    exact q_i_ldc F (q_tb_in (List.mem_of_getElem? hck.2.2)) hdg h
  case ldc_w idx =>
    have hn : n = 3 := hln.elim (fun h0 => absurd h0 (show ¬ ((3 : Nat) = 0) from by decide)) (fun h0 => h0.symm)
    subst hn
    simp only [q_ckI, Bool.and_eq_true, decide_eq_true_eq] at hck
    exact q_i_ldcw F (q_tb_in (List.mem_of_getElem? hck.2.2)) hdg h
  case ldc2_w idx =>
    have hn : n = 3 := hln.elim (fun h0 => absurd h0 (show ¬ ((3 : Nat) = 0) from by decide)) (fun h0 => h0.symm)
    subst hn
    simp only [q_ckI, Bool.and_eq_true, decide_eq_true_eq] at hck
    exact q_i_ldc2 F (q_tb_in (List.mem_of_getElem? hck.2.2)) hdg h
  case iload_n k =>
    have hn : n = 1 := hln.elim (fun h0 => absurd h0 (show ¬ ((1 : Nat) = 0) from by decide)) (fun h0 => h0.symm)
    subst hn
    dsimp only [q_ex] at h
    split at h
    · exact q_i_iload_n (t := 0) F (by assumption) hdg h
    · exact h.elim
  case iload k =>
    have hn : n = 2 := hln.elim (fun h0 => absurd h0 (show ¬ ((2 : Nat) = 0) from by decide)) (fun h0 => h0.symm)
    subst hn
    dsimp only [q_ex] at h
    split at h
    · exact q_i_iload (t := 0) F (by assumption) hdg h
    · exact h.elim
  case lload_n k =>
    have hn : n = 1 := hln.elim (fun h0 => absurd h0 (show ¬ ((1 : Nat) = 0) from by decide)) (fun h0 => h0.symm)
    subst hn
    dsimp only [q_ex] at h
    split at h
    · exact q_i_lload_n (t := 0) F (by assumption) hdg h
    · exact h.elim
  case lload k =>
    have hn : n = 2 := hln.elim (fun h0 => absurd h0 (show ¬ ((2 : Nat) = 0) from by decide)) (fun h0 => h0.symm)
    subst hn
    dsimp only [q_ex] at h
    split at h
    · exact q_i_lload (t := 0) F (by assumption) hdg h
    · exact h.elim
  case aload_n k =>
    have hn : n = 1 := hln.elim (fun h0 => absurd h0 (show ¬ ((1 : Nat) = 0) from by decide)) (fun h0 => h0.symm)
    subst hn
    dsimp only [q_ex] at h
    split at h
    · exact q_i_aload_n F (by assumption) hdg h
    · exact h.elim
  case aload k =>
    have hn : n = 2 := hln.elim (fun h0 => absurd h0 (show ¬ ((2 : Nat) = 0) from by decide)) (fun h0 => h0.symm)
    subst hn
    dsimp only [q_ex] at h
    split at h
    · exact q_i_aload F (by assumption) hdg h
    · exact h.elim
  case istore_n k =>
    have hn : n = 1 := hln.elim (fun h0 => absurd h0 (show ¬ ((1 : Nat) = 0) from by decide)) (fun h0 => h0.symm)
    subst hn
    dsimp only [q_ex] at h
    split at h
    · obtain ⟨h1, h2⟩ := q_onB_spec h
      exact q_i_istore_n (t := 0) F h1 hdg h2
    · exact h.elim
  case istore k =>
    have hn : n = 2 := hln.elim (fun h0 => absurd h0 (show ¬ ((2 : Nat) = 0) from by decide)) (fun h0 => h0.symm)
    subst hn
    dsimp only [q_ex] at h
    split at h
    · obtain ⟨h1, h2⟩ := q_onB_spec h
      exact q_i_istore (t := 0) F h1 hdg h2
    · exact h.elim
  case astore_n k =>
    have hn : n = 1 := hln.elim (fun h0 => absurd h0 (show ¬ ((1 : Nat) = 0) from by decide)) (fun h0 => h0.symm)
    subst hn
    dsimp only [q_ex] at h
    split at h
    · obtain ⟨h1, h2⟩ := q_onB_spec h
      exact q_i_astore_n F h1 hdg h2
    · exact h.elim
  case astore k =>
    have hn : n = 2 := hln.elim (fun h0 => absurd h0 (show ¬ ((2 : Nat) = 0) from by decide)) (fun h0 => h0.symm)
    subst hn
    dsimp only [q_ex] at h
    split at h
    · obtain ⟨h1, h2⟩ := q_onB_spec h
      exact q_i_astore F h1 hdg h2
    · exact h.elim
  case lstore_n k =>
    have hn : n = 1 := hln.elim (fun h0 => absurd h0 (show ¬ ((1 : Nat) = 0) from by decide)) (fun h0 => h0.symm)
    subst hn
    dsimp only [q_ex] at h
    split at h
    · obtain ⟨h1, h2⟩ := q_onB_spec h
      rw [Bool.and_eq_true] at h1
      exact q_i_lstore_n F h1.1 h1.2 hdg h2
    · exact h.elim
  case lstore k =>
    have hn : n = 2 := hln.elim (fun h0 => absurd h0 (show ¬ ((2 : Nat) = 0) from by decide)) (fun h0 => h0.symm)
    subst hn
    dsimp only [q_ex] at h
    split at h
    · obtain ⟨h1, h2⟩ := q_onB_spec h
      rw [Bool.and_eq_true] at h1
      exact q_i_lstore F h1.1 h1.2 hdg h2
    · exact h.elim
  case iinc k q =>
    have hn : n = 3 := hln.elim (fun h0 => absurd h0 (show ¬ ((3 : Nat) = 0) from by decide)) (fun h0 => h0.symm)
    subst hn
    dsimp only [q_ex] at h
    split at h
    · obtain ⟨h1, h2⟩ := q_onB_spec h
      exact q_i_iinc F (by assumption) h1 hdg h2
    · exact h.elim
  case iadd =>
    have hn : n = 1 := hln.elim (fun h0 => absurd h0 (show ¬ ((1 : Nat) = 0) from by decide)) (fun h0 => h0.symm)
    subst hn
    dsimp only [q_ex] at h
    split at h
    · exact q_i_iadd F hdg h
    · exact h.elim
  case isub =>
    have hn : n = 1 := hln.elim (fun h0 => absurd h0 (show ¬ ((1 : Nat) = 0) from by decide)) (fun h0 => h0.symm)
    subst hn
    dsimp only [q_ex] at h
    split at h
    · exact q_i_isub F hdg h
    · exact h.elim
  case imul =>
    have hn : n = 1 := hln.elim (fun h0 => absurd h0 (show ¬ ((1 : Nat) = 0) from by decide)) (fun h0 => h0.symm)
    subst hn
    dsimp only [q_ex] at h
    split at h
    · exact q_i_imul F hdg h
    · exact h.elim
  case iand =>
    have hn : n = 1 := hln.elim (fun h0 => absurd h0 (show ¬ ((1 : Nat) = 0) from by decide)) (fun h0 => h0.symm)
    subst hn
    dsimp only [q_ex] at h
    split at h
    · exact q_i_iand F hdg h
    · exact h.elim
  case ior =>
    have hn : n = 1 := hln.elim (fun h0 => absurd h0 (show ¬ ((1 : Nat) = 0) from by decide)) (fun h0 => h0.symm)
    subst hn
    dsimp only [q_ex] at h
    split at h
    · exact q_i_ior F hdg h
    · exact h.elim
  case ixor =>
    have hn : n = 1 := hln.elim (fun h0 => absurd h0 (show ¬ ((1 : Nat) = 0) from by decide)) (fun h0 => h0.symm)
    subst hn
    dsimp only [q_ex] at h
    split at h
    · exact q_i_ixor F hdg h
    · exact h.elim
  case ishl =>
    have hn : n = 1 := hln.elim (fun h0 => absurd h0 (show ¬ ((1 : Nat) = 0) from by decide)) (fun h0 => h0.symm)
    subst hn
    dsimp only [q_ex] at h
    split at h
    · exact q_i_ishl F hdg h
    · exact h.elim
  case ishr =>
    have hn : n = 1 := hln.elim (fun h0 => absurd h0 (show ¬ ((1 : Nat) = 0) from by decide)) (fun h0 => h0.symm)
    subst hn
    dsimp only [q_ex] at h
    split at h
    · exact q_i_ishr F hdg h
    · exact h.elim
  case iushr =>
    have hn : n = 1 := hln.elim (fun h0 => absurd h0 (show ¬ ((1 : Nat) = 0) from by decide)) (fun h0 => h0.symm)
    subst hn
    dsimp only [q_ex] at h
    split at h
    · exact q_i_iushr F hdg h
    · exact h.elim
  case ineg =>
    have hn : n = 1 := hln.elim (fun h0 => absurd h0 (show ¬ ((1 : Nat) = 0) from by decide)) (fun h0 => h0.symm)
    subst hn
    dsimp only [q_ex] at h
    split at h
    · exact q_i_ineg F hdg h
    · exact h.elim
  case ladd =>
    have hn : n = 1 := hln.elim (fun h0 => absurd h0 (show ¬ ((1 : Nat) = 0) from by decide)) (fun h0 => h0.symm)
    subst hn
    dsimp only [q_ex] at h
    split at h
    · exact q_i_ladd F hdg h
    · exact h.elim
  case lsub =>
    have hn : n = 1 := hln.elim (fun h0 => absurd h0 (show ¬ ((1 : Nat) = 0) from by decide)) (fun h0 => h0.symm)
    subst hn
    dsimp only [q_ex] at h
    split at h
    · exact q_i_lsub F hdg h
    · exact h.elim
  case lmul =>
    have hn : n = 1 := hln.elim (fun h0 => absurd h0 (show ¬ ((1 : Nat) = 0) from by decide)) (fun h0 => h0.symm)
    subst hn
    dsimp only [q_ex] at h
    split at h
    · exact q_i_lmul F hdg h
    · exact h.elim
  case land =>
    have hn : n = 1 := hln.elim (fun h0 => absurd h0 (show ¬ ((1 : Nat) = 0) from by decide)) (fun h0 => h0.symm)
    subst hn
    dsimp only [q_ex] at h
    split at h
    · exact q_i_land F hdg h
    · exact h.elim
  case lor =>
    have hn : n = 1 := hln.elim (fun h0 => absurd h0 (show ¬ ((1 : Nat) = 0) from by decide)) (fun h0 => h0.symm)
    subst hn
    dsimp only [q_ex] at h
    split at h
    · exact q_i_lor F hdg h
    · exact h.elim
  case lshl =>
    have hn : n = 1 := hln.elim (fun h0 => absurd h0 (show ¬ ((1 : Nat) = 0) from by decide)) (fun h0 => h0.symm)
    subst hn
    dsimp only [q_ex] at h
    split at h
    · exact q_i_lshl F hdg h
    · exact h.elim
  case lcmp =>
    have hn : n = 1 := hln.elim (fun h0 => absurd h0 (show ¬ ((1 : Nat) = 0) from by decide)) (fun h0 => h0.symm)
    subst hn
    dsimp only [q_ex] at h
    split at h
    · exact q_i_lcmp F hdg h
    · exact h.elim
  case i2l =>
    have hn : n = 1 := hln.elim (fun h0 => absurd h0 (show ¬ ((1 : Nat) = 0) from by decide)) (fun h0 => h0.symm)
    subst hn
    dsimp only [q_ex] at h
    split at h
    · exact q_i_i2l F hdg h
    · exact h.elim
  case l2i =>
    have hn : n = 1 := hln.elim (fun h0 => absurd h0 (show ¬ ((1 : Nat) = 0) from by decide)) (fun h0 => h0.symm)
    subst hn
    dsimp only [q_ex] at h
    split at h
    · exact q_i_l2i F hdg h
    · exact h.elim
  case i2b =>
    have hn : n = 1 := hln.elim (fun h0 => absurd h0 (show ¬ ((1 : Nat) = 0) from by decide)) (fun h0 => h0.symm)
    subst hn
    dsimp only [q_ex] at h
    split at h
    · exact q_i_i2b F hdg h
    · exact h.elim
  case i2s =>
    have hn : n = 1 := hln.elim (fun h0 => absurd h0 (show ¬ ((1 : Nat) = 0) from by decide)) (fun h0 => h0.symm)
    subst hn
    dsimp only [q_ex] at h
    split at h
    · exact q_i_i2s F hdg h
    · exact h.elim
  case idiv =>
    have hn : n = 1 := hln.elim (fun h0 => absurd h0 (show ¬ ((1 : Nat) = 0) from by decide)) (fun h0 => h0.symm)
    subst hn
    dsimp only [q_ex] at h
    split at h
    · exact q_i_idiv h.1 F hdg h.2
    · exact h.elim
  case irem =>
    have hn : n = 1 := hln.elim (fun h0 => absurd h0 (show ¬ ((1 : Nat) = 0) from by decide)) (fun h0 => h0.symm)
    subst hn
    dsimp only [q_ex] at h
    split at h
    · exact q_i_irem h.1 F hdg h.2
    · exact h.elim
  case dup =>
    have hn : n = 1 := hln.elim (fun h0 => absurd h0 (show ¬ ((1 : Nat) = 0) from by decide)) (fun h0 => h0.symm)
    subst hn
    dsimp only [q_ex] at h
    split at h
    · obtain ⟨h1, h2⟩ := q_onB_spec h
      exact q_i_dup (eq_of_beq h1) F hdg h2
    · exact h.elim
  case pop =>
    have hn : n = 1 := hln.elim (fun h0 => absurd h0 (show ¬ ((1 : Nat) = 0) from by decide)) (fun h0 => h0.symm)
    subst hn
    dsimp only [q_ex] at h
    split at h
    · obtain ⟨h1, h2⟩ := q_onB_spec h
      exact q_i_pop (eq_of_beq h1) F hdg h2
    · exact h.elim
  case dup_x1 =>
    have hn : n = 1 := hln.elim (fun h0 => absurd h0 (show ¬ ((1 : Nat) = 0) from by decide)) (fun h0 => h0.symm)
    subst hn
    dsimp only [q_ex] at h
    split at h
    · obtain ⟨h1, h2⟩ := q_onB_spec h
      rw [Bool.and_eq_true] at h1
      exact q_i_dup_x1 (eq_of_beq h1.1) (eq_of_beq h1.2) F hdg h2
    · exact h.elim
  case dup2 =>
    have hn : n = 1 := hln.elim (fun h0 => absurd h0 (show ¬ ((1 : Nat) = 0) from by decide)) (fun h0 => h0.symm)
    subst hn
    dsimp only [q_ex] at h
    split at h
    · obtain ⟨h1, h2⟩ := q_onB_spec h
      rw [Bool.and_eq_true] at h1
      exact q_i_dup2 (eq_of_beq h1.1) (eq_of_beq h1.2) F hdg h2
    · exact h.elim
  case goto off =>
    have hn : n = 3 := hln.elim (fun h0 => absurd h0 (show ¬ ((3 : Nat) = 0) from by decide)) (fun h0 => h0.symm)
    subst hn
    simp only [q_ckI, Bool.and_eq_true, decide_eq_true_eq] at hck
    exact q_i_goto F hck.2.2 hdg h
  case ifCond cc off =>
    have hn : n = 3 := hln.elim (fun h0 => absurd h0 (show ¬ ((3 : Nat) = 0) from by decide)) (fun h0 => h0.symm)
    subst hn
    simp only [q_ckI, Bool.and_eq_true, decide_eq_true_eq] at hck
    dsimp only [q_ex] at h
    split at h
    · cases cc
      · exact q_i_ifCond_eq F hck.2.2 hdg h
      · exact q_i_ifCond_ne F hck.2.2 hdg h
      · exact q_i_ifCond_lt F hck.2.2 hdg h
      · exact q_i_ifCond_ge F hck.2.2 hdg h
      · exact q_i_ifCond_gt F hck.2.2 hdg h
      · exact q_i_ifCond_le F hck.2.2 hdg h
    · exact h.elim
  case if_icmp cc off =>
    have hn : n = 3 := hln.elim (fun h0 => absurd h0 (show ¬ ((3 : Nat) = 0) from by decide)) (fun h0 => h0.symm)
    subst hn
    simp only [q_ckI, Bool.and_eq_true, decide_eq_true_eq] at hck
    dsimp only [q_ex] at h
    split at h
    · cases cc
      · exact q_i_if_icmp_eq F hck.2.2 hdg h
      · exact q_i_if_icmp_ne F hck.2.2 hdg h
      · exact q_i_if_icmp_lt F hck.2.2 hdg h
      · exact q_i_if_icmp_ge F hck.2.2 hdg h
      · exact q_i_if_icmp_gt F hck.2.2 hdg h
      · exact q_i_if_icmp_le F hck.2.2 hdg h
    · exact h.elim
  case tableswitch d lo hi os =>
    simp only [q_ckI, Bool.and_eq_true, decide_eq_true_eq] at hck
    dsimp only [q_ex] at h
    split at h
    · exact q_i_table F hdg hck.2.2 h
    · exact h.elim
  case lookupswitch d ps =>
    have hck2 := hck
    unfold q_ckI at hck2
    rw [Bool.and_eq_true, Bool.and_eq_true] at hck2
    dsimp only [q_ex] at h
    split at h
    · exact q_i_lookup F hdg hck2.2.2 h
    · exact h.elim
  case ireturn =>
    have hn : n = 1 := hln.elim (fun h0 => absurd h0 (show ¬ ((1 : Nat) = 0) from by decide)) (fun h0 => h0.symm)
    subst hn
    dsimp only [q_ex] at h
    split at h
    · split at h
      · rename_i hr
        obtain ⟨h1, h2⟩ := q_onB_spec h
        exact hrt.1 _ _ _ _ _ _ _ hr rfl h2 (q_ble2 h1).1 (q_ble2 h1).2 hdg
      · rename_i hr
        obtain ⟨h1, h2⟩ := q_onB_spec h
        exact hrt.1 _ _ _ _ _ _ _ hr (by rcases h2.1 with rfl | rfl <;> decide) h2.2 (q_ble2 h1).1 (q_ble2 h1).2 hdg
      · exact h.elim
    · exact h.elim
  case lreturn =>
    have hn : n = 1 := hln.elim (fun h0 => absurd h0 (show ¬ ((1 : Nat) = 0) from by decide)) (fun h0 => h0.symm)
    subst hn
    dsimp only [q_ex] at h
    split at h
    · split at h
      · rename_i hr
        obtain ⟨h1, h2⟩ := q_onB_spec h
        exact hrt.2.1 _ _ _ _ _ _ hr h2 (q_ble2 h1).1 (q_ble2 h1).2 hdg
      · exact h.elim
    · exact h.elim
  case return_ =>
    have hn : n = 1 := hln.elim (fun h0 => absurd h0 (show ¬ ((1 : Nat) = 0) from by decide)) (fun h0 => h0.symm)
    subst hn
    dsimp only [q_ex] at h
    split at h
    · split at h
      · rename_i hr
        obtain ⟨h1, h2⟩ := q_onB_spec h
        exact hrt.2.2 _ _ _ _ _ hr h2 (q_ble2 h1).1 (q_ble2 h1).2 hdg
      · exact h.elim
    · exact h.elim
  case getfield idx =>
    have hn : n = 3 := hln.elim (fun h0 => absurd h0 (show ¬ ((3 : Nat) = 0) from by decide)) (fun h0 => h0.symm)
    subst hn
    simp only [q_ckI, Bool.and_eq_true, decide_eq_true_eq] at hck
    dsimp only [q_ex] at h
    split at h
    · obtain ⟨h1, h2⟩ := q_onB_spec h
      split at h2
      · rename_i hf
        exact q_i_get F hck.2.2.1 hck.2.2.2.1 (q_tb_in (List.mem_of_getElem? hck.2.2.2.2)) h1 (fun ad => by unfold q_fv; rw [hf]; rfl) hdg h2
      · rename_i hf
        exact q_i_get F hck.2.2.1 hck.2.2.2.1 (q_tb_in (List.mem_of_getElem? hck.2.2.2.2)) h1 (fun ad => by unfold q_fv; rw [hf]; rfl) hdg h2
      · rename_i hf
        obtain ⟨t, h3, h4⟩ := q_onS_spec h2
        exact q_i_get F hck.2.2.1 hck.2.2.2.1 (q_tb_in (List.mem_of_getElem? hck.2.2.2.2)) h1 (fun ad => by unfold q_fv; rw [hf, h3]; rfl) hdg h4
      · exact h2.elim
    · exact h.elim
  case putfield idx =>
    have hn : n = 3 := hln.elim (fun h0 => absurd h0 (show ¬ ((3 : Nat) = 0) from by decide)) (fun h0 => h0.symm)
    subst hn
    simp only [q_ckI, Bool.and_eq_true, Bool.or_eq_true, Bool.not_eq_true', decide_eq_true_eq] at hck
    obtain ⟨-, -, ⟨ha, hb, hw⟩, hfi⟩ := hck
    try dsimp only at ha hb hw hfi
    have hw := q_tb_in (List.mem_of_getElem? hw)
    have hfi : (q_T a b).2.2.2 = true → (q_T a b).1 = q_own j ∧ (q_m j).1.1.name = "<init>" := fun q => by
      rcases hfi with h0 | h0
      · rw [q] at h0; cases h0
      · exact h0
    dsimp only [q_ex] at h
    split at h
    · rename_i v o st2
      obtain ⟨h1, h2⟩ := q_onB_spec h
      split at h2
      · rename_i hf
        obtain ⟨x, rfl, h3⟩ := q_onI_spec h2
        exact q_i_put (μ' := q_sI μ o b x) F ha hb hw hfi h1 (fun h0 hk => q_ok_sI hk h0) rfl (fun ad o2 q2 hne => q_cell_congr (q_sI_ne hne) rfl rfl) (fun ad k hk => q_fvI_ne hk) (fun ad => q_fvI_eq (Or.inl hf)) (fun ad => by rw [q_fk_int hf]; rfl) (fun ad => by rw [q_fk_int hf]; rfl) hdg h3
      · rename_i hf
        obtain ⟨x, rfl, h3⟩ := q_onI_spec h2
        exact q_i_put (μ' := q_sI μ o b x) F ha hb hw hfi h1 (fun h0 hk => q_ok_sI hk h0) rfl (fun ad o2 q2 hne => q_cell_congr (q_sI_ne hne) rfl rfl) (fun ad k hk => q_fvI_ne hk) (fun ad => q_fvI_eq (Or.inr hf)) (fun ad => by rw [q_fk_bool hf]; exact q_nb h3.1) (fun ad => by rw [q_fk_bool hf]; exact q_fb h3.1) hdg h3.2
      · rename_i hf
        obtain ⟨x, rfl, h3⟩ := q_onR_spec h2
        obtain ⟨h4, h5⟩ := q_onB_spec h3
        exact q_i_put (μ' := q_sR μ o b (some x)) F ha hb hw hfi h1 (fun h0 hk => q_ok_sR hk (Nat.ble_eq.mp h4)) rfl (fun ad o2 q2 hne => q_cell_congr rfl rfl (q_sR_ne hne)) (fun ad k hk => q_fvR_ne hk) (fun ad => q_fvR_eq hf) (fun ad => by rcases q_fk_ref hf with ⟨q, hq⟩ | ⟨q, hq⟩ <;> (rw [hq]; rfl)) (fun ad => by rcases q_fk_ref hf with ⟨q, hq⟩ | ⟨q, hq⟩ <;> (rw [hq]; rfl)) hdg h5
      · exact h2.elim
    · exact h.elim
  case iaload =>
    have hn : n = 1 := hln.elim (fun h0 => absurd h0 (show ¬ ((1 : Nat) = 0) from by decide)) (fun h0 => h0.symm)
    subst hn
    dsimp only [q_ex] at h
    split at h
    · obtain ⟨N, h1, h2⟩ := q_onS_spec h
      exact q_i_iaload F h1 h2.1 hdg h2.2
    · exact h.elim
  case laload =>
    have hn : n = 1 := hln.elim (fun h0 => absurd h0 (show ¬ ((1 : Nat) = 0) from by decide)) (fun h0 => h0.symm)
    subst hn
    dsimp only [q_ex] at h
    split at h
    · obtain ⟨N, h1, h2⟩ := q_onS_spec h
      exact q_i_laload F h1 h2.1 hdg h2.2
    · exact h.elim
  case iastore =>
    have hn : n = 1 := hln.elim (fun h0 => absurd h0 (show ¬ ((1 : Nat) = 0) from by decide)) (fun h0 => h0.symm)
    subst hn
    dsimp only [q_ex] at h
    split at h
    · obtain ⟨N, h1, h2⟩ := q_onS_spec h
      exact q_i_iastore F h1 h2.1 hdg h2.2
    · exact h.elim
  case lastore =>
    have hn : n = 1 := hln.elim (fun h0 => absurd h0 (show ¬ ((1 : Nat) = 0) from by decide)) (fun h0 => h0.symm)
    subst hn
    dsimp only [q_ex] at h
    split at h
    · obtain ⟨N, h1, h2⟩ := q_onS_spec h
      exact q_i_lastore F h1 h2.1 hdg h2.2
    · exact h.elim
  case arraylength =>
    have hn : n = 1 := hln.elim (fun h0 => absurd h0 (show ¬ ((1 : Nat) = 0) from by decide)) (fun h0 => h0.symm)
    subst hn
    dsimp only [q_ex] at h
    split at h
    · obtain ⟨N, h1, h2⟩ := q_onS_spec h
      exact q_i_arraylength F h1 hdg h2
    · exact h.elim
  case aaload =>
    have hn : n = 1 := hln.elim (fun h0 => absurd h0 (show ¬ ((1 : Nat) = 0) from by decide)) (fun h0 => h0.symm)
    subst hn
    dsimp only [q_ex] at h
    split at h
    · obtain ⟨N, h1, h2⟩ := q_onS_spec h
      obtain ⟨t, h3, h4⟩ := q_onS_spec h2.2
      exact q_i_aaload F h1 h2.1 h3 hdg h4
    · exact h.elim
  case aastore =>
    have hn : n = 1 := hln.elim (fun h0 => absurd h0 (show ¬ ((1 : Nat) = 0) from by decide)) (fun h0 => h0.symm)
    subst hn
    dsimp only [q_ex] at h
    split at h
    · obtain ⟨N, h1, h2⟩ := q_onS_spec h
      obtain ⟨h3, h4⟩ := q_onB_spec h2
      exact q_i_aastore F h1 h3 h4.1 hdg h4.2
    · exact h.elim
  case new idx =>
    have hn : n = 3 := hln.elim (fun h0 => absurd h0 (show ¬ ((3 : Nat) = 0) from by decide)) (fun h0 => h0.symm)
    subst hn
    simp only [q_ckI, Bool.and_eq_true, decide_eq_true_eq] at hck
    dsimp only [q_ex] at h
    obtain ⟨h1, h2⟩ := q_onB_spec h
    rw [Bool.and_eq_true] at h1
    exact q_i_new F hck.2.2.1 (q_tb_in (List.mem_of_getElem? hck.2.2.2)) h1.1 (q_ble2 h1.2).1 (q_ble2 h1.2).2 hdg h2
  case newarray t =>
    have hn : n = 2 := hln.elim (fun h0 => absurd h0 (show ¬ ((2 : Nat) = 0) from by decide)) (fun h0 => h0.symm)
    subst hn
    dsimp only [q_ex] at h
    split at h
    · obtain ⟨h0, h⟩ := h
      obtain ⟨h1, h2⟩ := q_onB_spec h
      rw [Bool.and_eq_true] at h1
      split at h2
      · exact q_i_newI F q_mmw.2.2.2.2.2.2.2.1 h0.1 h0.2 h1.1 (q_ble2 h1.2).1 (q_ble2 h1.2).2 hdg h2
      · exact q_i_newJ F q_mmw.2.2.2.2.2.2.2.2.1 h0.1 h0.2 h1.1 (q_ble2 h1.2).1 (q_ble2 h1.2).2 hdg h2
      · exact h2.elim
    · exact h.elim
  case anewarray idx =>
    have hn : n = 3 := hln.elim (fun h0 => absurd h0 (show ¬ ((3 : Nat) = 0) from by decide)) (fun h0 => h0.symm)
    subst hn
    simp only [q_ckI, Bool.and_eq_true, Bool.or_eq_true, beq_iff_eq, decide_eq_true_eq] at hck
    dsimp only [q_ex] at h
    split at h
    · obtain ⟨h0, h⟩ := h
      obtain ⟨h1, h2⟩ := q_onB_spec h
      rw [Bool.and_eq_true] at h1
      have hao : va_AO (q_cn a) s ∧ q_okA (102 + a) = true := by
        rcases hck.2.2.1 with rfl | rfl | rfl
        · exact ⟨F.2.2.1.2.2.1, rfl⟩
        · exact ⟨F.2.2.1.2.2.2.1, rfl⟩
        · exact ⟨F.2.2.1.2.2.2.2, rfl⟩
      exact q_i_newA F hao.2 hao.1 (q_tb_in (List.mem_of_getElem? hck.2.2.2)) h0.1 h0.2 h1.1 (q_ble2 h1.2).1 (q_ble2 h1.2).2 hdg h2
    · exact h.elim
  case invokevirtual idx =>
    have hn : n = 3 := hln.elim (fun h0 => absurd h0 (show ¬ ((3 : Nat) = 0) from by decide)) (fun h0 => h0.symm)
    subst hn
    simp only [q_ckI, Bool.and_eq_true, beq_iff_eq, decide_eq_true_eq] at hck
    dsimp only [q_ex] at h
    obtain ⟨⟨as, rs⟩, h1, h2⟩ := q_onS_spec h
    dsimp only at h2
    split at h2
    · rename_i o rest
      obtain ⟨ho, h2⟩ := q_onB_spec h2
      unfold q_call at h2
      obtain ⟨h3, h4⟩ := q_onB_spec h2
      rw [Bool.and_eq_true, Bool.and_eq_true] at h3
      have hcc : q_mc a = 0 ∨ q_clo μ.1.length ls rest = true := by
        rcases Bool.or_eq_true_iff.mp h3.1 with h5 | h5
        · exact Or.inl (eq_of_beq h5)
        · exact Or.inr h5
      obtain ⟨g1, g2⟩ := q_pop_spec h1
      exact q_i_callV F (hcl _ _ _ _ h4) hck.2.2.1.1 hck.2.2.1.2 hR (q_tb_in (List.mem_of_getElem? hck.2.2.2)) ho g1 g2 hcc h3.2.1 (q_ble2 h3.2.2).1 (q_ble2 h3.2.2).2 hdg (fun v μ2 hq => hq)
    · exact h2.elim
  case invokestatic idx =>
    have hn : n = 3 := hln.elim (fun h0 => absurd h0 (show ¬ ((3 : Nat) = 0) from by decide)) (fun h0 => h0.symm)
    subst hn
    dsimp only [q_ex] at h
    split at h
    · rename_i e1
      have e1 : a = 301 := eq_of_beq e1
      subst e1
      simp only [q_ckI, Bool.and_eq_true, decide_eq_true_eq, if_true] at hck
      have hw := q_tb_in (List.mem_of_getElem? hck.2.2)
      unfold q_copy at h
      split at h
      · obtain ⟨hcat, h⟩ := q_onB_spec h
        split at h
        · rename_i ha
          obtain ⟨n2, h1, h2⟩ := q_onS_spec h
          exact q_i_copyI F hw hcat ha h1 h2.1 hdg h2.2
        · obtain ⟨n1, h0, h⟩ := q_onS_spec h
          obtain ⟨n2, h1, h2⟩ := q_onS_spec h
          exact q_i_copyL F hw hcat h0 h1 h2.1 hdg h2.2
      · exact h.elim
    · rename_i e1
      split at h
      · rename_i e2
        have e2 : a = 302 := eq_of_beq e2
        subst e2
        simp only [q_ckI, Bool.and_eq_true, decide_eq_true_eq] at hck
        have hw := q_tb_in (List.mem_of_getElem? (of_decide_eq_true hck.2.2))
        split at h
        · obtain ⟨h1, h2⟩ := q_onB_spec h
          rw [Bool.and_eq_true] at h1
          exact q_i_max F hw h1.1 (q_ble2 h1.2).1 (q_ble2 h1.2).2 hdg h2
        · exact h.elim
      · rename_i e2
        split at h
        · rename_i e3
          have e3 : a = 303 := eq_of_beq e3
          subst e3
          simp only [q_ckI, Bool.and_eq_true, decide_eq_true_eq] at hck
          have hw := q_tb_in (List.mem_of_getElem? (of_decide_eq_true hck.2.2))
          split at h
          · obtain ⟨h1, h2⟩ := q_onB_spec h
            rw [Bool.and_eq_true] at h1
            exact q_i_min F hw h1.1 (q_ble2 h1.2).1 (q_ble2 h1.2).2 hdg h2
          · exact h.elim
        · rename_i e3
          have n1 : a ≠ 301 := ne_of_beq_false e1
          have n2 : a ≠ 302 := ne_of_beq_false e2
          have n3 : a ≠ 303 := ne_of_beq_false e3
          simp only [q_ckI, Bool.and_eq_true, decide_eq_true_eq, if_neg n1, if_neg n2, if_neg n3, beq_iff_eq] at hck
          obtain ⟨⟨as, rest⟩, h1, h2⟩ := q_onS_spec h
          unfold q_call at h2
          obtain ⟨h3, h4⟩ := q_onB_spec h2
          dsimp only at h3 h4
          rw [Bool.and_eq_true, Bool.and_eq_true] at h3
          have hcc : q_mc a = 0 ∨ q_clo μ.1.length ls rest = true := by
            rcases Bool.or_eq_true_iff.mp h3.1 with h5 | h5
            · exact Or.inl (eq_of_beq h5)
            · exact Or.inr h5
          obtain ⟨g1, g2⟩ := q_pop_spec h1
          exact q_i_callS F (hcl _ _ _ _ h4) hck.2.2.1.1 hck.2.2.1.2 hR (q_tb_in (List.mem_of_getElem? hck.2.2.2)) g1 g2 hcc h3.2.1 (q_ble2 h3.2.2).1 (q_ble2 h3.2.2).2 hdg (fun v μ2 hq => hq)
  case invokespecial idx =>
    have hn : n = 3 := hln.elim (fun h0 => absurd h0 (show ¬ ((3 : Nat) = 0) from by decide)) (fun h0 => h0.symm)
    subst hn
    dsimp only [q_ex] at h
    split at h
    · rename_i e1
      have e1 : a = 300 := eq_of_beq e1
      subst e1
      simp only [q_ckI, Bool.and_eq_true, decide_eq_true_eq, if_true] at hck
      split at h
      · obtain ⟨h1, h2⟩ := q_onB_spec h
        exact q_i_objInit F (q_tb_in (List.mem_of_getElem? hck.2.2)) h1 hdg h2
      · exact h.elim
    · rename_i e1
      have n1 : a ≠ 300 := ne_of_beq_false e1
      simp only [q_ckI, Bool.and_eq_true, decide_eq_true_eq, if_neg n1, beq_iff_eq] at hck
      have hw : Cond.methodLink (q_own j) idx (q_m a).1.1 ∈ lw_tbl ∨ Cond.methodLinkNest (q_own j) idx (q_m a).1.1 "PluginChains" ∈ lw_tbl := by
        have h9 := hck.2.2.2
        split at h9
        · exact Or.inr (q_tb_in (List.mem_of_getElem? (of_decide_eq_true h9)))
        · exact Or.inl (q_tb_in (List.mem_of_getElem? (of_decide_eq_true h9)))
      obtain ⟨⟨as, rs⟩, h1, h2⟩ := q_onS_spec h
      dsimp only at h2
      split at h2
      · rename_i o rest
        unfold q_call at h2
        obtain ⟨h3, h4⟩ := q_onB_spec h2
        rw [Bool.and_eq_true, Bool.and_eq_true] at h3
        have hcc : q_mc a = 0 ∨ q_clo μ.1.length ls rest = true := by
          rcases Bool.or_eq_true_iff.mp h3.1 with h5 | h5
          · exact Or.inl (eq_of_beq h5)
          · exact Or.inr h5
        obtain ⟨g1, g2⟩ := q_pop_spec h1
        exact q_i_callI F (hcl _ _ _ _ h4) hck.2.2.1.1 hck.2.2.1.2 hR hw g1 g2 hcc h3.2.1 (q_ble2 h3.2.2).1 (q_ble2 h3.2.2).2 hdg (fun v μ2 hq => hq)
      · exact h2.elim
  all_goals exact h.elim
end MASTER
