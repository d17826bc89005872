def q_cn (c : Nat) : String := match c with
  | 0 => RX0
  | 1 => RX1
  | 2 => RX2
  | 3 => RX3
  | 4 => RX4
  | 5 => RX5
  | 6 => RX6
  | 7 => RX7
  | 8 => RX8
  | 9 => RX9
  | _ => RX10
def q_T (c : Nat) : u_T := match c with
  | 0 => TX0
  | 1 => TX1
  | 2 => TX2
  | 3 => TX3
  | 4 => TX4
  | 5 => TX5
  | 6 => TX6
  | 7 => TX7
  | 8 => TX8
  | 9 => TX9
  | _ => TX10
def q_tyf (c : Nat) : Nat → FieldType := match c with
  | 0 => tyX0
  | 1 => tyX1
  | 2 => tyX2
  | 3 => tyX3
  | 4 => tyX4
  | 5 => tyX5
  | 6 => tyX6
  | 7 => tyX7
  | 8 => tyX8
  | 9 => tyX9
  | _ => tyX10
def q_N (c : Nat) : Nat := match c with
  | 0 => 2
  | 1 => 8
  | 2 => 5
  | 3 => 6
  | 4 => 8
  | 5 => 11
  | 6 => 4
  | 7 => 6
  | 8 => 2
  | 9 => 14
  | _ => 37
def q_own (j : Nat) : String := (q_m j).1.1.cls
def q_tb (k : Nat) : List Cond := match k with
  | 0 => k2_sels lw_privs
  | 1 => tables_1_1
  | 2 => tables_1_2
  | 3 => tables_1_3
  | 4 => tables_1_4
  | 5 => tables_1_5
  | _ => tables_1_6
theorem q_tb_in {k : Nat} {w : Cond} (h : w ∈ q_tb k) : w ∈ lw_tbl := by
  unfold q_tb at h
  unfold lw_tbl tables_1
  simp only [List.mem_append]
  split at h
  · exact Or.inl h
  · exact Or.inr (Or.inl h)
  · exact Or.inr (Or.inr (Or.inl h))
  · exact Or.inr (Or.inr (Or.inr (Or.inl h)))
  · exact Or.inr (Or.inr (Or.inr (Or.inr (Or.inl h))))
  · exact Or.inr (Or.inr (Or.inr (Or.inr (Or.inr (Or.inl h)))))
  · exact Or.inr (Or.inr (Or.inr (Or.inr (Or.inr (Or.inr h)))))
/-- an instruction's length; 0: a switch, or not used -/
def q_ln (i : Instr) : Nat := match i with
  | .bipush _ | .ldc _ | .iload _ | .lload _ | .aload _ | .istore _ | .lstore _ | .astore _ | .newarray _ => 2
  | .sipush _ | .ldc_w _ | .ldc2_w _ | .iinc _ _ | .goto _ | .ifCond _ _ | .if_icmp _ _ | .getfield _ | .putfield _ | .invokevirtual _ | .invokestatic _ | .invokespecial _ | .new _ | .anewarray _ => 3
  | .tableswitch _ _ _ _ | .lookupswitch _ _ => 0
  | _ => 1
/-- one instruction of a method: it decodes so, and its word is among the tables' -/
def q_ckI (j pc : Nat) (e : q_In) : Bool :=
  (match decode (q_m j).1.2.1 pc with
    | .ok (i, n) => decide (i = e.1) && (n == e.2.1)
    | _ => false) && ((q_ln e.1 == 0 || q_ln e.1 == e.2.1) &&
  (match e.1 with
    | .getfield idx => decide (e.2.2.1 < 11) && (decide (e.2.2.2.1 < q_N e.2.2.1) && decide ((q_tb (e.2.2.2.2 / 1000))[e.2.2.2.2 % 1000]? = some (.fieldLink (q_own j) idx (q_T e.2.2.1 e.2.2.2.1).1 (q_T e.2.2.1 e.2.2.2.1).2.1 (q_T e.2.2.1 e.2.2.2.1).2.2.1)))
    | .putfield idx => decide (e.2.2.1 < 11) && (decide (e.2.2.2.1 < q_N e.2.2.1) && decide ((q_tb (e.2.2.2.2 / 1000))[e.2.2.2.2 % 1000]? = some (.fieldLink (q_own j) idx (q_T e.2.2.1 e.2.2.2.1).1 (q_T e.2.2.1 e.2.2.2.1).2.1 (q_T e.2.2.1 e.2.2.2.1).2.2.1))) && (!(q_T e.2.2.1 e.2.2.2.1).2.2.2 || (decide ((q_T e.2.2.1 e.2.2.2.1).1 = q_own j) && decide ((q_m j).1.1.name = "<init>")))
    | .invokevirtual idx => decide (e.2.2.1 < 226) && ((q_m e.2.2.1).2.1.2.1 == 0) && decide ((q_tb (e.2.2.2.2 / 1000))[e.2.2.2.2 % 1000]? = some (.methodLink (q_own j) idx (q_m e.2.2.1).1.1))
    | .invokestatic idx => if e.2.2.1 = 301 then decide ((q_tb (e.2.2.2.2 / 1000))[e.2.2.2.2 % 1000]? = some (.methodLink (q_own j) idx arraycopyName)) else if e.2.2.1 = 302 then decide ((q_tb (e.2.2.2.2 / 1000))[e.2.2.2.2 % 1000]? = some (.methodLink (q_own j) idx Lib.Math.max.name)) else if e.2.2.1 = 303 then decide ((q_tb (e.2.2.2.2 / 1000))[e.2.2.2.2 % 1000]? = some (.methodLink (q_own j) idx Lib.Math.min.name)) else decide (e.2.2.1 < 226) && ((q_m e.2.2.1).2.1.2.1 == 1) && decide ((q_tb (e.2.2.2.2 / 1000))[e.2.2.2.2 % 1000]? = some (.methodLink (q_own j) idx (q_m e.2.2.1).1.1))
    | .invokespecial idx => if e.2.2.1 = 300 then decide ((q_tb (e.2.2.2.2 / 1000))[e.2.2.2.2 % 1000]? = some (.methodLink (q_own j) idx Lib.objectInit)) else decide (e.2.2.1 < 226) && ((q_m e.2.2.1).2.1.2.1 == 2) && (if e.2.2.2.1 = 1 then decide ((q_tb (e.2.2.2.2 / 1000))[e.2.2.2.2 % 1000]? = some (.methodLinkNest (q_own j) idx (q_m e.2.2.1).1.1 "PluginChains")) else decide ((q_tb (e.2.2.2.2 / 1000))[e.2.2.2.2 % 1000]? = some (.methodLink (q_own j) idx (q_m e.2.2.1).1.1)))
    | .new idx => decide (e.2.2.1 < 11) && decide ((q_tb (e.2.2.2.2 / 1000))[e.2.2.2.2 % 1000]? = some (.classLink (q_own j) idx (q_cn e.2.2.1)))
    | .anewarray idx => (e.2.2.1 == 5 || (e.2.2.1 == 2 || e.2.2.1 == 6)) && decide ((q_tb (e.2.2.2.2 / 1000))[e.2.2.2.2 % 1000]? = some (.classLink (q_own j) idx (q_cn e.2.2.1)))
    | .ldc idx => decide ((q_tb (e.2.2.2.2 / 1000))[e.2.2.2.2 % 1000]? = some (.constant (q_own j) idx (Int32.ofNat e.2.2.1)))
    | .ldc_w idx => decide ((q_tb (e.2.2.2.2 / 1000))[e.2.2.2.2 % 1000]? = some (.constant (q_own j) idx (Int32.ofNat e.2.2.1)))
    | .ldc2_w idx => decide ((q_tb (e.2.2.2.2 / 1000))[e.2.2.2.2 % 1000]? = some (.constantLong (q_own j) idx (Int64.ofNat e.2.2.1)))
    | .lookupswitch _ ps => (ps.toList.zip (ps.toList.drop 1)).all (fun (a, next) => a.1 < next.1)
    | .tableswitch _ lo hi os => decide ((os.size : Int) = hi - lo + 1)
    | .goto off => decide ((pc : Int) + off = (e.2.2.1 : Int))
    | .ifCond _ off => decide ((pc : Int) + off = (e.2.2.1 : Int))
    | .if_icmp _ off => decide ((pc : Int) + off = (e.2.2.1 : Int))
    | _ => true))
def q_len (j : Nat) : Nat := ((q_fs.getD (j / 16) []).getD (j % 16) []).length
def q_ck (j : Nat) : Bool := (List.range (16 * q_len j)).all fun pc => match q_fe j pc with
  | none => true
  | some e => q_ckI j pc e
def q_cw (j : Nat) : Prop := (q_tb ((q_m j).2.2.2.1 / 1000))[(q_m j).2.2.2.1 % 1000]? = some (.code (q_m j).1.1 (q_m j).1.2.1 (q_m j).1.2.2.1 (q_m j).1.2.2.2)
theorem q_mmw : Cond.static Lib.Math.max.name ∈ lw_tbl ∧ Cond.static Lib.Math.min.name ∈ lw_tbl ∧ Cond.initialized "java/lang/Math" ∈ lw_tbl ∧ Cond.native arraycopyName ∈ lw_tbl ∧ Cond.static arraycopyName ∈ lw_tbl ∧ Cond.initialized "java/lang/System" ∈ lw_tbl ∧ Cond.instanceMethod Lib.objectInit ∈ lw_tbl ∧ Cond.arrayClass .int ∈ lw_tbl ∧ Cond.arrayClass .long ∈ lw_tbl ∧ Cond.arrayOver (.object RX5) ∈ lw_tbl ∧ Cond.arrayOver (.object RX2) ∈ lw_tbl ∧ Cond.arrayOver (.object RX6) ∈ lw_tbl := ⟨by decide +kernel, by decide +kernel, by decide +kernel, by decide +kernel, by decide +kernel, by decide +kernel, by decide +kernel, by decide +kernel, by decide +kernel, by decide +kernel, by decide +kernel, by decide +kernel⟩
theorem q_mmc : Cond.code Lib.Math.max.name Lib.Math.max.code 2 (some .int) ∈ lw_tbl ∧ Cond.code Lib.Math.min.name Lib.Math.min.code 2 (some .int) ∈ lw_tbl ∧ Cond.code Lib.objectInit ⟨#[0xb1]⟩ 1 none ∈ lw_tbl := ⟨q_tb_in (k := 3) (List.mem_of_getElem? (i := 19) rfl), q_tb_in (k := 4) (List.mem_of_getElem? (i := 128) rfl), q_tb_in (k := 1) (List.mem_of_getElem? (i := 23) rfl)⟩
theorem q_uws : ∀ c, c < 11 → ∀ w ∈ u_ws (q_cn c) (q_T c) (q_N c), w ∈ lw_tbl := fun c h => match c, h with
  | 0, _ => by decide +kernel
  | 1, _ => by decide +kernel
  | 2, _ => by decide +kernel
  | 3, _ => by decide +kernel
  | 4, _ => by decide +kernel
  | 5, _ => by decide +kernel
  | 6, _ => by decide +kernel
  | 7, _ => by decide +kernel
  | 8, _ => by decide +kernel
  | 9, _ => by decide +kernel
  | 10, _ => by decide +kernel
  | c + 11, h => absurd h (by omega)
theorem q_clc : ∀ c, c < 11 → vwCl[c]? = some (q_cn c, q_T c, q_N c) := fun c h => match c, h with
  | 0, _ => rfl
  | 1, _ => rfl
  | 2, _ => rfl
  | 3, _ => rfl
  | 4, _ => rfl
  | 5, _ => rfl
  | 6, _ => rfl
  | 7, _ => rfl
  | 8, _ => rfl
  | 9, _ => rfl
  | 10, _ => rfl
  | c + 11, h => absurd h (by omega)
theorem q_tys : ∀ c, c < 11 → ∀ k, k < q_N c → parseFieldDescriptor (q_T c k).2.2.1 = some (q_tyf c k) := fun c h => match c, h with
  | 0, _ => tyX0_ok
  | 1, _ => tyX1_ok
  | 2, _ => tyX2_ok
  | 3, _ => tyX3_ok
  | 4, _ => tyX4_ok
  | 5, _ => tyX5_ok
  | 6, _ => tyX6_ok
  | 7, _ => tyX7_ok
  | 8, _ => tyX8_ok
  | 9, _ => tyX9_ok
  | 10, _ => tyX10_ok
  | c + 11, h => absurd h (by omega)
theorem q_nms : ∀ c, c < 11 → ∀ a, a < q_N c → ∀ b, b < q_N c → a ≠ b → (q_T c a).2.1 ≠ (q_T c b).2.1 := fun c h => match c, h with
  | 0, _ => nmX0
  | 1, _ => nmX1
  | 2, _ => nmX2
  | 3, _ => nmX3
  | 4, _ => nmX4
  | 5, _ => nmX5
  | 6, _ => nmX6
  | 7, _ => nmX7
  | 8, _ => nmX8
  | 9, _ => nmX9
  | 10, _ => nmX10
  | c + 11, h => absurd h (by omega)
theorem q_fks : ∀ c, c < 11 → ∀ k, k < q_N c → (match q_tyf c k with | .int => True | .boolean => True | .object _ => True | .array _ => True | _ => False) := fun c h => match c, h with
  | 0, _ => by intro k hk; have hk : k < 2 := hk; match k, hk with | 0, _ => exact trivial | 1, _ => exact trivial | n + 2, h => exact absurd h (by omega)
  | 1, _ => by intro k hk; have hk : k < 8 := hk; match k, hk with | 0, _ => exact trivial | 1, _ => exact trivial | 2, _ => exact trivial | 3, _ => exact trivial | 4, _ => exact trivial | 5, _ => exact trivial | 6, _ => exact trivial | 7, _ => exact trivial | n + 8, h => exact absurd h (by omega)
  | 2, _ => by intro k hk; have hk : k < 5 := hk; match k, hk with | 0, _ => exact trivial | 1, _ => exact trivial | 2, _ => exact trivial | 3, _ => exact trivial | 4, _ => exact trivial | n + 5, h => exact absurd h (by omega)
  | 3, _ => by intro k hk; have hk : k < 6 := hk; match k, hk with | 0, _ => exact trivial | 1, _ => exact trivial | 2, _ => exact trivial | 3, _ => exact trivial | 4, _ => exact trivial | 5, _ => exact trivial | n + 6, h => exact absurd h (by omega)
  | 4, _ => by intro k hk; have hk : k < 8 := hk; match k, hk with | 0, _ => exact trivial | 1, _ => exact trivial | 2, _ => exact trivial | 3, _ => exact trivial | 4, _ => exact trivial | 5, _ => exact trivial | 6, _ => exact trivial | 7, _ => exact trivial | n + 8, h => exact absurd h (by omega)
  | 5, _ => by intro k hk; have hk : k < 11 := hk; match k, hk with | 0, _ => exact trivial | 1, _ => exact trivial | 2, _ => exact trivial | 3, _ => exact trivial | 4, _ => exact trivial | 5, _ => exact trivial | 6, _ => exact trivial | 7, _ => exact trivial | 8, _ => exact trivial | 9, _ => exact trivial | 10, _ => exact trivial | n + 11, h => exact absurd h (by omega)
  | 6, _ => by intro k hk; have hk : k < 4 := hk; match k, hk with | 0, _ => exact trivial | 1, _ => exact trivial | 2, _ => exact trivial | 3, _ => exact trivial | n + 4, h => exact absurd h (by omega)
  | 7, _ => by intro k hk; have hk : k < 6 := hk; match k, hk with | 0, _ => exact trivial | 1, _ => exact trivial | 2, _ => exact trivial | 3, _ => exact trivial | 4, _ => exact trivial | 5, _ => exact trivial | n + 6, h => exact absurd h (by omega)
  | 8, _ => by intro k hk; have hk : k < 2 := hk; match k, hk with | 0, _ => exact trivial | 1, _ => exact trivial | n + 2, h => exact absurd h (by omega)
  | 9, _ => by intro k hk; have hk : k < 14 := hk; match k, hk with | 0, _ => exact trivial | 1, _ => exact trivial | 2, _ => exact trivial | 3, _ => exact trivial | 4, _ => exact trivial | 5, _ => exact trivial | 6, _ => exact trivial | 7, _ => exact trivial | 8, _ => exact trivial | 9, _ => exact trivial | 10, _ => exact trivial | 11, _ => exact trivial | 12, _ => exact trivial | 13, _ => exact trivial | n + 14, h => exact absurd h (by omega)
  | 10, _ => by intro k hk; have hk : k < 37 := hk; match k, hk with | 0, _ => exact trivial | 1, _ => exact trivial | 2, _ => exact trivial | 3, _ => exact trivial | 4, _ => exact trivial | 5, _ => exact trivial | 6, _ => exact trivial | 7, _ => exact trivial | 8, _ => exact trivial | 9, _ => exact trivial | 10, _ => exact trivial | 11, _ => exact trivial | 12, _ => exact trivial | 13, _ => exact trivial | 14, _ => exact trivial | 15, _ => exact trivial | 16, _ => exact trivial | 17, _ => exact trivial | 18, _ => exact trivial | 19, _ => exact trivial | 20, _ => exact trivial | 21, _ => exact trivial | 22, _ => exact trivial | 23, _ => exact trivial | 24, _ => exact trivial | 25, _ => exact trivial | 26, _ => exact trivial | 27, _ => exact trivial | 28, _ => exact trivial | 29, _ => exact trivial | 30, _ => exact trivial | 31, _ => exact trivial | 32, _ => exact trivial | 33, _ => exact trivial | 34, _ => exact trivial | 35, _ => exact trivial | 36, _ => exact trivial | n + 37, h => exact absurd h (by omega)
  | c + 11, h => absurd h (by omega)
/-- what the tables say of a method -/
def q_ckM (j : Nat) : Bool :=
  plainFor (q_m j).1.1 && (decide ((q_own j) ≠ "java/lang/invoke/MethodHandle" ∧ (q_own j) ≠ "java/lang/invoke/VarHandle") && (decide ((parseMethodDescriptor (q_m j).1.1.desc).map (fun d => d.parameters.length) = some (q_m j).2.1.1) && (Nat.ble (q_m j).1.2.2.1 30 &&
  (decide ((q_tb ((q_m j).2.2.2.2.2.2 / 1000))[(q_m j).2.2.2.2.2.2 % 1000]? = some (.initialized (q_own j))) &&
  (match (q_m j).2.1.2.1 with
    | 0 => decide ((q_tb ((q_m j).2.2.2.2.1 / 1000))[(q_m j).2.2.2.2.1 % 1000]? = some (.instanceMethod (q_m j).1.1)) && (decide ((q_tb ((q_m j).2.2.2.2.2.1 / 1000))[(q_m j).2.2.2.2.2.1 % 1000]? = some (.selects (q_own j) (q_m j).1.1 (q_m j).1.1)) && (Nat.blt (q_m j).2.1.2.2.1 11 && decide (q_cn (q_m j).2.1.2.2.1 = q_own j)))
    | 1 => decide ((q_tb ((q_m j).2.2.2.2.1 / 1000))[(q_m j).2.2.2.2.1 % 1000]? = some (.static (q_m j).1.1))
    | 2 => decide ((q_tb ((q_m j).2.2.2.2.1 / 1000))[(q_m j).2.2.2.2.1 % 1000]? = some (.instanceMethod (q_m j).1.1)) && (decide ((q_m j).1.1.name = "<init>") && decide ((q_m j).1.2.2.2 = none))
    | _ => false)))))
theorem q_ckM_ok : ((List.range 226).all q_ckM) = true := by decide +kernel
theorem q_ckN_ok : ((List.range 11).all fun c => (decide (Cond.instantiable (q_cn c) (q_N c) ∈ lw_tbl) && decide (Cond.initialized (q_cn c) ∈ lw_tbl))) = true := by decide +kernel
theorem q_ck_dec {j pc : Nat} {e : q_In} (h : q_ckI j pc e = true) : decode (q_m j).1.2.1 pc = .ok (e.1, e.2.1) ∧ (q_ln e.1 = 0 ∨ q_ln e.1 = e.2.1) := by
  unfold q_ckI at h
  simp only [Bool.and_eq_true, Bool.or_eq_true, beq_iff_eq] at h
  obtain ⟨h1, h2, -⟩ := h
  refine ⟨?_, h2⟩
  split at h1
  · rename_i i n hd
    simp only [Bool.and_eq_true, decide_eq_true_eq, beq_iff_eq] at h1
    rw [hd, h1.1, h1.2]
  · cases h1
def q_ckB (j c : Nat) : Bool := (List.range 16).all fun k => match q_fe j (16 * c + k) with
  | none => true
  | some e => q_ckI j (16 * c + k) e
