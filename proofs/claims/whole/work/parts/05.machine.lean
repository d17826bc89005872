/-! A SMALL MACHINE OF MY OWN over the printed instructions: objects by number, a flat memory; q_step says one instruction in a chosen kind of answer X. -/
/-- shapes (kind, length): a kind below 11 is a class; 99 the script, 100 an int array, 101 a long array, 102 + c an array of objects of class c; then ints, longs, references -/
abbrev q_Mem : Type := List (Nat × Nat) × (Nat → Nat → Int32) × (Nat → Nat → Int64) × (Nat → Nat → Option Nat)
/-- pc, locals, stack, memory, cells and slots made -/
abbrev q_St : Type := Nat × List (Option Value) × List Value × q_Mem × Nat × Nat
def q_sI (μ : q_Mem) (o k : Nat) (v : Int32) : q_Mem := (μ.1, (fun a b => if a = o ∧ b = k then v else μ.2.1 a b), μ.2.2.1, μ.2.2.2)
def q_sL (μ : q_Mem) (o k : Nat) (v : Int64) : q_Mem := (μ.1, μ.2.1, (fun a b => if a = o ∧ b = k then v else μ.2.2.1 a b), μ.2.2.2)
def q_sR (μ : q_Mem) (o k : Nat) (v : Option Nat) : q_Mem := (μ.1, μ.2.1, μ.2.2.1, fun a b => if a = o ∧ b = k then v else μ.2.2.2 a b)
def q_cI (μ : q_Mem) (o o' : Nat) (sp dp n : Nat) : q_Mem := (μ.1, (fun a b => if a = o' then va_cpy (μ.2.1 o) (μ.2.1 o') sp dp n b else μ.2.1 a b), μ.2.2.1, μ.2.2.2)
def q_cL (μ : q_Mem) (o o' : Nat) (sp dp n : Nat) : q_Mem := (μ.1, μ.2.1, (fun a b => if a = o' then va_cpy (μ.2.2.1 o) (μ.2.2.1 o') sp dp n b else μ.2.2.1 a b), μ.2.2.2)
def q_new (μ : q_Mem) (k n : Nat) : q_Mem := (μ.1 ++ [(k, n)], (fun a b => if a = μ.1.length then 0 else μ.2.1 a b), (fun a b => if a = μ.1.length then 0 else μ.2.2.1 a b), fun a b => if a = μ.1.length then none else μ.2.2.2 a b)
def q_isO (sh : List (Nat × Nat)) (o c : Nat) : Bool := match sh[o]? with
  | some q => q.1 == c
  | none => false
def q_arr (sh : List (Nat × Nat)) (o k : Nat) : Option Nat := match sh[o]? with
  | some q => (match q.1 == k with
    | true => some q.2
    | false => none)
  | none => none
def q_okA (k : Nat) : Bool := k == 107 || (k == 104 || k == 108)
/-- an array of ints to read from; the script (99) is the law's alone -/
def q_ard (j : Nat) (sh : List (Nat × Nat)) (o : Nat) : Option Nat := match sh[o]? with
  | some q => (match (q.1 == 100 || (q.1 == 99 && (j == 226 && o == 0))) with
    | true => some q.2
    | false => none)
  | none => none
def q_arq (sh : List (Nat × Nat)) (o : Nat) : Option (Nat × Nat) := match sh[o]? with
  | some q => (match q_okA q.1 with
    | true => some (q.1 - 102, q.2)
    | false => none)
  | none => none
def q_arl (j : Nat) (sh : List (Nat × Nat)) (o : Nat) : Option Nat := match sh[o]? with
  | some q => (match (q.1 == 100 || (q.1 == 101 || (q_okA q.1 || (q.1 == 99 && (j == 226 && o == 0))))) with
    | true => some q.2
    | false => none)
  | none => none
def q_obj (sh : List (Nat × Nat)) (o : Nat) : Option Nat := match sh[o]? with
  | some q => (match Nat.ble q.1 10 with
    | true => some q.1
    | false => none)
  | none => none
def q_fk (t : FieldType) : Nat := match t with
  | .int => 0
  | .boolean => 1
  | .object _ => 2
  | .array _ => 2
  | _ => 3
def q_onB {X : Type} (ff : X) (b : Bool) (x : X) : X := match b with
  | true => x
  | false => ff
def q_onS {α : Type} {X : Type} (ff : X) (y : Option α) (k : α → X) : X := match y with
  | some a => k a
  | none => ff
def q_onI {X : Type} (ff : X) (v : Value) (k : Int32 → X) : X := match v with
  | .int x => k x
  | _ => ff
def q_onJ {X : Type} (ff : X) (v : Value) (k : Int64 → X) : X := match v with
  | .long x => k x
  | _ => ff
def q_onR {X : Type} (ff : X) (v : Value) (k : Nat → X) : X := match v with
  | .ref x => k x
  | _ => ff
def q_pop (n : Nat) (st : List Value) : Option (List Value × List Value) := match Nat.ble n st.length with
  | true => some ((st.take n).reverse, st.drop n)
  | false => none
/-- the references in the frame are of objects that exist -/
def q_vlt (n : Nat) (v : Value) : Bool := match v with
  | .ref a => Nat.blt a n
  | _ => true
def q_clo (n : Nat) (ls : List (Option Value)) (st : List Value) : Bool := (ls.all fun v => match v with
  | some v => q_vlt n v
  | none => true) && st.all (q_vlt n)
def q_cats (st : List Value) : Nat := (st.map fun v => v.category).sum
def q_back {X : Type} (ff : X) (r : Option FieldType) (v : Value) (k : List Value → X) : X := match r with
  | none => k []
  | some .int => q_onI ff v fun x => k [.int x]
  | some .boolean => q_onI ff v fun x => k [.int x]
  | some .long => q_onJ ff v fun x => k [.long x]
  | _ => ff
/-- slot k holds no long any more when slot k + 1 is written; lg: the slots that ever hold longs -/
def q_kill (lg : List Nat) (ls : List (Option Value)) (i : Nat) : List (Option Value) := match i with
  | 0 => ls
  | k + 1 => match lg.contains k with
    | true => ls.set k none
    | false => ls
def q_put1 (lg : List Nat) (ls : List (Option Value)) (i : Nat) (v : Value) : List (Option Value) := (q_kill lg ls i).set i (some v)
def q_put2 (lg : List Nat) (ls : List (Option Value)) (i : Nat) (v : Value) : List (Option Value) := ((q_kill lg ls i).set (i + 1) none).set i (some v)
def q_jmp {X : Type} (ff : X) (k : Nat → X) (pc : Nat) (off : Int) : X := q_onB ff (decide ((pc : Int) + off = (((pc : Int) + off).toNat : Int))) (k ((pc : Int) + off).toNat)
/-- a switch as a chain of questions -/
def q_sw {X : Type} (br : (c : Prop) → [Decidable c] → X → X → X) (go : Int → X) (dflt : Int) (x : Int32) : List (Int × Int) → X
  | [] => go dflt
  | q :: l => br (x.toInt = q.1) (go q.2) (q_sw br go dflt x l)
def q_tab (lo : Int) : List Int → List (Int × Int)
  | [] => []
  | o :: l => (lo, o) :: q_tab (lo + 1) l
abbrev q_Gd (X : Type) : Type := (c : Prop) → [Decidable c] → X → X
abbrev q_Br (X : Type) : Type := (c : Prop) → [Decidable c] → X → X → X
section QM
variable {X : Type} (ff : X) (gd : q_Gd X) (br : q_Br X) (cl : Nat → List Value → q_Mem → (Value → q_Mem → X) → X) (rt : Value → q_Mem → Nat → Nat → X) (j : Nat) (P : q_St → X)
/-- a call: the callee's arguments are off the stack, its answer goes on -/
def q_call (y : Nat) (as rest : List Value) (pc : Nat) (ls : List (Option Value)) (μ : q_Mem) (uc us : Nat) : X :=
  q_onB ff (((q_m y).2.1.2.2.2.1 == 0 || q_clo μ.1.length ls rest) && (Nat.ble (q_cats rest) 8 && (Nat.ble (uc + (q_m y).2.1.2.2.2.1) (q_m j).2.1.2.2.2.1 && Nat.ble (us + (q_m y).2.1.2.2.2.2) (q_m j).2.1.2.2.2.2)))
    (cl y as μ fun v μ' => q_back ff (q_m y).1.2.2.2 v fun r => P (pc + 3, ls, r ++ rest, μ', uc + (q_m y).2.1.2.2.2.1, us + (q_m y).2.1.2.2.2.2))
def q_copy (st : List Value) (pc : Nat) (ls : List (Option Value)) (μ : q_Mem) (uc us : Nat) : X := match st with
  | .int n :: .int dp :: .ref a :: .int sp :: .ref a0 :: rest => q_onB ff (Nat.ble (q_cats rest) 8)
    (match q_arr μ.1 a0 100 with
    | some n0 => q_onS ff (q_arr μ.1 a 100) fun n1 => gd (¬ sp < 0 ∧ ¬ dp < 0 ∧ ¬ n < 0 ∧ sp.toNatClampNeg + n.toNatClampNeg ≤ n0 ∧ dp.toNatClampNeg + n.toNatClampNeg ≤ n1) (P (pc + 3, ls, rest, q_cI μ a0 a sp.toNatClampNeg dp.toNatClampNeg n.toNatClampNeg, uc, us))
    | none => q_onS ff (q_arr μ.1 a0 101) fun n0 => q_onS ff (q_arr μ.1 a 101) fun n1 => gd (¬ sp < 0 ∧ ¬ dp < 0 ∧ ¬ n < 0 ∧ sp.toNatClampNeg + n.toNatClampNeg ≤ n0 ∧ dp.toNatClampNeg + n.toNatClampNeg ≤ n1) (P (pc + 3, ls, rest, q_cL μ a0 a sp.toNatClampNeg dp.toNatClampNeg n.toNatClampNeg, uc, us)))
  | _ => ff
def q_ex (i : Instr) (n a b : Nat) (pc : Nat) (ls : List (Option Value)) (st : List Value) (μ : q_Mem) (uc us : Nat) : X := match i with
  | .iconst k => P (pc + n, ls, .int (Int32.ofInt k) :: st, μ, uc, us)
  | .bipush k => P (pc + n, ls, .int ((Int8.ofInt k).toInt32) :: st, μ, uc, us)
  | .sipush k => P (pc + n, ls, .int ((Int16.ofInt k).toInt32) :: st, μ, uc, us)
  | .lconst k => P (pc + n, ls, .long (Int64.ofNat (k : Nat)) :: st, μ, uc, us)
  | .ldc _ => P (pc + n, ls, .int (Int32.ofNat a) :: st, μ, uc, us)
  | .ldc_w _ => P (pc + n, ls, .int (Int32.ofNat a) :: st, μ, uc, us)
  | .ldc2_w _ => P (pc + n, ls, .long (Int64.ofNat a) :: st, μ, uc, us)
  | .iload_n k => (match ls[(k : Nat)]? with
    | some (some (.int x)) => P (pc + n, ls, .int x :: st, μ, uc, us)
    | _ => ff)
  | .iload k => (match ls[k]? with
    | some (some (.int x)) => P (pc + n, ls, .int x :: st, μ, uc, us)
    | _ => ff)
  | .lload_n k => (match ls[(k : Nat)]? with
    | some (some (.long x)) => P (pc + n, ls, .long x :: st, μ, uc, us)
    | _ => ff)
  | .lload k => (match ls[k]? with
    | some (some (.long x)) => P (pc + n, ls, .long x :: st, μ, uc, us)
    | _ => ff)
  | .aload_n k => (match ls[(k : Nat)]? with
    | some (some (.ref x)) => P (pc + n, ls, .ref x :: st, μ, uc, us)
    | _ => ff)
  | .aload k => (match ls[k]? with
    | some (some (.ref x)) => P (pc + n, ls, .ref x :: st, μ, uc, us)
    | _ => ff)
  | .istore_n k => (match st with
    | .int x :: st' => q_onB ff (Nat.blt (k : Nat) ls.length) (P (pc + n, q_put1 (q_m j).2.2.1 ls (k : Nat) (.int x), st', μ, uc, us))
    | _ => ff)
  | .istore k => (match st with
    | .int x :: st' => q_onB ff (Nat.blt k ls.length) (P (pc + n, q_put1 (q_m j).2.2.1 ls k (.int x), st', μ, uc, us))
    | _ => ff)
  | .astore_n k => (match st with
    | .ref x :: st' => q_onB ff (Nat.blt (k : Nat) ls.length) (P (pc + n, q_put1 (q_m j).2.2.1 ls (k : Nat) (.ref x), st', μ, uc, us))
    | _ => ff)
  | .astore k => (match st with
    | .ref x :: st' => q_onB ff (Nat.blt k ls.length) (P (pc + n, q_put1 (q_m j).2.2.1 ls k (.ref x), st', μ, uc, us))
    | _ => ff)
  | .lstore_n k => (match st with
    | .long x :: st' => q_onB ff (Nat.blt ((k : Nat) + 1) ls.length && (q_m j).2.2.1.contains (k : Nat)) (P (pc + n, q_put2 (q_m j).2.2.1 ls (k : Nat) (.long x), st', μ, uc, us))
    | _ => ff)
  | .lstore k => (match st with
    | .long x :: st' => q_onB ff (Nat.blt (k + 1) ls.length && (q_m j).2.2.1.contains k) (P (pc + n, q_put2 (q_m j).2.2.1 ls k (.long x), st', μ, uc, us))
    | _ => ff)
  | .iinc k d => (match ls[k]? with
    | some (some (.int x)) => q_onB ff (Nat.blt k ls.length) (P (pc + n, q_put1 (q_m j).2.2.1 ls k (.int (x + Int32.ofInt d)), st, μ, uc, us))
    | _ => ff)
  | .iadd => (match st with
    | .int y :: .int x :: st' => P (pc + n, ls, .int (x + y) :: st', μ, uc, us)
    | _ => ff)
  | .isub => (match st with
    | .int y :: .int x :: st' => P (pc + n, ls, .int (x - y) :: st', μ, uc, us)
    | _ => ff)
  | .imul => (match st with
    | .int y :: .int x :: st' => P (pc + n, ls, .int (x * y) :: st', μ, uc, us)
    | _ => ff)
  | .iand => (match st with
    | .int y :: .int x :: st' => P (pc + n, ls, .int (x &&& y) :: st', μ, uc, us)
    | _ => ff)
  | .ior => (match st with
    | .int y :: .int x :: st' => P (pc + n, ls, .int (x ||| y) :: st', μ, uc, us)
    | _ => ff)
  | .ixor => (match st with
    | .int y :: .int x :: st' => P (pc + n, ls, .int (x ^^^ y) :: st', μ, uc, us)
    | _ => ff)
  | .ishl => (match st with
    | .int y :: .int x :: st' => P (pc + n, ls, .int (x <<< (y &&& 31)) :: st', μ, uc, us)
    | _ => ff)
  | .ishr => (match st with
    | .int y :: .int x :: st' => P (pc + n, ls, .int (x >>> (y &&& 31)) :: st', μ, uc, us)
    | _ => ff)
  | .iushr => (match st with
    | .int y :: .int x :: st' => P (pc + n, ls, .int (x.toUInt32 >>> (y.toUInt32 &&& Int32.toUInt32 31)).toInt32 :: st', μ, uc, us)
    | _ => ff)
  | .idiv => (match st with
    | .int y :: .int x :: st' => gd (¬ y = 0) (P (pc + n, ls, .int (x / y) :: st', μ, uc, us))
    | _ => ff)
  | .irem => (match st with
    | .int y :: .int x :: st' => gd (¬ y = 0) (P (pc + n, ls, .int (x - x / y * y) :: st', μ, uc, us))
    | _ => ff)
  | .ineg => (match st with
    | .int x :: st' => P (pc + n, ls, .int (-x) :: st', μ, uc, us)
    | _ => ff)
  | .ladd => (match st with
    | .long y :: .long x :: st' => P (pc + n, ls, .long (x + y) :: st', μ, uc, us)
    | _ => ff)
  | .lsub => (match st with
    | .long y :: .long x :: st' => P (pc + n, ls, .long (x - y) :: st', μ, uc, us)
    | _ => ff)
  | .lmul => (match st with
    | .long y :: .long x :: st' => P (pc + n, ls, .long (x * y) :: st', μ, uc, us)
    | _ => ff)
  | .land => (match st with
    | .long y :: .long x :: st' => P (pc + n, ls, .long (x &&& y) :: st', μ, uc, us)
    | _ => ff)
  | .lor => (match st with
    | .long y :: .long x :: st' => P (pc + n, ls, .long (x ||| y) :: st', μ, uc, us)
    | _ => ff)
  | .lshl => (match st with
    | .int y :: .long x :: st' => P (pc + n, ls, .long (x <<< (y.toInt64 &&& 63)) :: st', μ, uc, us)
    | _ => ff)
  | .lcmp => (match st with
    | .long y :: .long x :: st' => P (pc + n, ls, .int (lg_cmp x y) :: st', μ, uc, us)
    | _ => ff)
  | .i2l => (match st with
    | .int x :: st' => P (pc + n, ls, .long x.toInt64 :: st', μ, uc, us)
    | _ => ff)
  | .l2i => (match st with
    | .long x :: st' => P (pc + n, ls, .int x.toInt32 :: st', μ, uc, us)
    | _ => ff)
  | .i2b => (match st with
    | .int x :: st' => P (pc + n, ls, .int x.toInt8.toInt32 :: st', μ, uc, us)
    | _ => ff)
  | .i2s => (match st with
    | .int x :: st' => P (pc + n, ls, .int x.toInt16.toInt32 :: st', μ, uc, us)
    | _ => ff)
  | .dup => (match st with
    | v :: st' => q_onB ff (v.category == 1) (P (pc + n, ls, v :: v :: st', μ, uc, us))
    | _ => ff)
  | .dup_x1 => (match st with
    | v :: w :: st' => q_onB ff ((v.category == 1) && (w.category == 1)) (P (pc + n, ls, v :: w :: v :: st', μ, uc, us))
    | _ => ff)
  | .dup2 => (match st with
    | v :: w :: st' => q_onB ff ((v.category == 1) && (w.category == 1)) (P (pc + n, ls, v :: w :: v :: w :: st', μ, uc, us))
    | _ => ff)
  | .pop => (match st with
    | v :: st' => q_onB ff (v.category == 1) (P (pc + n, ls, st', μ, uc, us))
    | _ => ff)
  | .goto _ => P (a, ls, st, μ, uc, us)
  | .ifCond c _ => (match st with
    | .int x :: st' => (match c with
      | .eq => br (x = 0) (P (a, ls, st', μ, uc, us)) (P (pc + n, ls, st', μ, uc, us))
      | .ne => br (x = 0) (P (pc + n, ls, st', μ, uc, us)) (P (a, ls, st', μ, uc, us))
      | .lt => br (x < 0) (P (a, ls, st', μ, uc, us)) (P (pc + n, ls, st', μ, uc, us))
      | .ge => br (0 ≤ x) (P (a, ls, st', μ, uc, us)) (P (pc + n, ls, st', μ, uc, us))
      | .gt => br (0 < x) (P (a, ls, st', μ, uc, us)) (P (pc + n, ls, st', μ, uc, us))
      | .le => br (x ≤ 0) (P (a, ls, st', μ, uc, us)) (P (pc + n, ls, st', μ, uc, us)))
    | _ => ff)
  | .if_icmp c _ => (match st with
    | .int y :: .int x :: st' => (match c with
      | .eq => br (x = y) (P (a, ls, st', μ, uc, us)) (P (pc + n, ls, st', μ, uc, us))
      | .ne => br (x = y) (P (pc + n, ls, st', μ, uc, us)) (P (a, ls, st', μ, uc, us))
      | .lt => br (x < y) (P (a, ls, st', μ, uc, us)) (P (pc + n, ls, st', μ, uc, us))
      | .ge => br (y ≤ x) (P (a, ls, st', μ, uc, us)) (P (pc + n, ls, st', μ, uc, us))
      | .gt => br (y < x) (P (a, ls, st', μ, uc, us)) (P (pc + n, ls, st', μ, uc, us))
      | .le => br (x ≤ y) (P (a, ls, st', μ, uc, us)) (P (pc + n, ls, st', μ, uc, us)))
    | _ => ff)
  | .tableswitch d lo _ offs => (match st with
    | .int x :: st' => q_sw br (fun off => q_jmp ff (fun t => P (t, ls, st', μ, uc, us)) pc off) d x (q_tab lo offs.toList)
    | _ => ff)
  | .lookupswitch d ps => (match st with
    | .int x :: st' => q_sw br (fun off => q_jmp ff (fun t => P (t, ls, st', μ, uc, us)) pc off) d x ps.toList
    | _ => ff)
  | .ireturn => (match st with
    | [.int x] => (match (q_m j).1.2.2.2 with
      | some .int => q_onB ff (Nat.ble uc (q_m j).2.1.2.2.2.1 && Nat.ble us (q_m j).2.1.2.2.2.2) (rt (.int x) μ uc us)
      | some .boolean => q_onB ff (Nat.ble uc (q_m j).2.1.2.2.2.1 && Nat.ble us (q_m j).2.1.2.2.2.2) (gd (x = 0 ∨ x = 1) (rt (.int x) μ uc us))
      | _ => ff)
    | _ => ff)
  | .lreturn => (match st with
    | [.long x] => (match (q_m j).1.2.2.2 with
      | some .long => q_onB ff (Nat.ble uc (q_m j).2.1.2.2.2.1 && Nat.ble us (q_m j).2.1.2.2.2.2) (rt (.long x) μ uc us)
      | _ => ff)
    | _ => ff)
  | .return_ => (match st with
    | [] => (match (q_m j).1.2.2.2 with
      | none => q_onB ff (Nat.ble uc (q_m j).2.1.2.2.2.1 && Nat.ble us (q_m j).2.1.2.2.2.2) (rt .null μ uc us)
      | _ => ff)
    | _ => ff)
  | .getfield _ => (match st with
    | .ref o :: st' => q_onB ff (q_isO μ.1 o a) (match q_fk (q_tyf a b) with
      | 0 => P (pc + n, ls, .int (μ.2.1 o b) :: st', μ, uc, us)
      | 1 => P (pc + n, ls, .int (μ.2.1 o b) :: st', μ, uc, us)
      | 2 => q_onS ff (μ.2.2.2 o b) fun t => P (pc + n, ls, .ref t :: st', μ, uc, us)
      | _ => ff)
    | _ => ff)
  | .putfield _ => (match st with
    | v :: .ref o :: st' => q_onB ff (q_isO μ.1 o a) (match q_fk (q_tyf a b) with
      | 0 => q_onI ff v fun x => P (pc + n, ls, st', q_sI μ o b x, uc, us)
      | 1 => q_onI ff v fun x => gd (x = 0 ∨ x = 1) (P (pc + n, ls, st', q_sI μ o b x, uc, us))
      | 2 => q_onR ff v fun t => q_onB ff (Nat.blt t μ.1.length) (P (pc + n, ls, st', q_sR μ o b (some t), uc, us))
      | _ => ff)
    | _ => ff)
  | .iaload => (match st with
    | .int i :: .ref o :: st' => q_onS ff (q_ard j μ.1 o) fun N => gd (¬ (i < 0 ∨ N ≤ i.toNatClampNeg)) (P (pc + n, ls, .int (μ.2.1 o i.toNatClampNeg) :: st', μ, uc, us))
    | _ => ff)
  | .laload => (match st with
    | .int i :: .ref o :: st' => q_onS ff (q_arr μ.1 o 101) fun N => gd (¬ (i < 0 ∨ N ≤ i.toNatClampNeg)) (P (pc + n, ls, .long (μ.2.2.1 o i.toNatClampNeg) :: st', μ, uc, us))
    | _ => ff)
  | .aaload => (match st with
    | .int i :: .ref o :: st' => q_onS ff (q_arq μ.1 o) fun N => gd (¬ (i < 0 ∨ N.2 ≤ i.toNatClampNeg)) (q_onS ff (μ.2.2.2 o i.toNatClampNeg) fun t => P (pc + n, ls, .ref t :: st', μ, uc, us))
    | _ => ff)
  | .iastore => (match st with
    | .int x :: .int i :: .ref o :: st' => q_onS ff (q_arr μ.1 o 100) fun N => gd (¬ (i < 0 ∨ N ≤ i.toNatClampNeg)) (P (pc + n, ls, st', q_sI μ o i.toNatClampNeg x, uc, us))
    | _ => ff)
  | .lastore => (match st with
    | .long x :: .int i :: .ref o :: st' => q_onS ff (q_arr μ.1 o 101) fun N => gd (¬ (i < 0 ∨ N ≤ i.toNatClampNeg)) (P (pc + n, ls, st', q_sL μ o i.toNatClampNeg x, uc, us))
    | _ => ff)
  | .aastore => (match st with
    | .ref x :: .int i :: .ref o :: st' => q_onS ff (q_arq μ.1 o) fun N => q_onB ff (q_isO μ.1 x N.1) (gd (¬ (i < 0 ∨ N.2 ≤ i.toNatClampNeg)) (P (pc + n, ls, st', q_sR μ o i.toNatClampNeg (some x), uc, us)))
    | _ => ff)
  | .arraylength => (match st with
    | .ref o :: st' => q_onS ff (q_arl j μ.1 o) fun N => P (pc + n, ls, .int (Int32.ofNat N) :: st', μ, uc, us)
    | _ => ff)
  | .new _ => q_onB ff (q_clo μ.1.length ls st && (Nat.ble (uc + 1) (q_m j).2.1.2.2.2.1 && Nat.ble (us + q_N a) (q_m j).2.1.2.2.2.2)) (P (pc + n, ls, .ref μ.1.length :: st, q_new μ a (q_N a), uc + 1, us + q_N a))
  | .newarray t => (match st with
    | .int k :: st' => gd (¬ k < 0 ∧ k.toNatClampNeg ≤ 60000) (q_onB ff (q_clo μ.1.length ls st' && (Nat.ble (uc + 1) (q_m j).2.1.2.2.2.1 && Nat.ble (us + k.toNatClampNeg) (q_m j).2.1.2.2.2.2)) (match t with
      | .int => P (pc + n, ls, .ref μ.1.length :: st', q_new μ 100 k.toNatClampNeg, uc + 1, us + k.toNatClampNeg)
      | .long => P (pc + n, ls, .ref μ.1.length :: st', q_new μ 101 k.toNatClampNeg, uc + 1, us + k.toNatClampNeg)
      | _ => ff))
    | _ => ff)
  | .anewarray _ => (match st with
    | .int k :: st' => gd (¬ k < 0 ∧ k.toNatClampNeg ≤ 60000) (q_onB ff (q_clo μ.1.length ls st' && (Nat.ble (uc + 1) (q_m j).2.1.2.2.2.1 && Nat.ble (us + k.toNatClampNeg) (q_m j).2.1.2.2.2.2)) (P (pc + n, ls, .ref μ.1.length :: st', q_new μ (102 + a) k.toNatClampNeg, uc + 1, us + k.toNatClampNeg)))
    | _ => ff)
  | .invokevirtual _ => q_onS ff (q_pop (q_m a).2.1.1 st) fun q => (match q.2 with
    | .ref o :: rest => q_onB ff (q_isO μ.1 o (q_m a).2.1.2.2.1) (q_call ff cl j P a (.ref o :: q.1) rest pc ls μ uc us)
    | _ => ff)
  | .invokestatic _ => (match a == 301 with
    | true => q_copy ff gd P st pc ls μ uc us
    | false => match a == 302 with
    | true => (match st with
      | .int y :: .int x :: rest => q_onB ff (Nat.ble (q_cats rest) 8 && (Nat.ble uc (q_m j).2.1.2.2.2.1 && Nat.ble us (q_m j).2.1.2.2.2.2)) (P (pc + n, ls, .int (if x < y then y else x) :: rest, μ, uc, us))
      | _ => ff)
    | false => match a == 303 with
    | true => (match st with
      | .int y :: .int x :: rest => q_onB ff (Nat.ble (q_cats rest) 8 && (Nat.ble uc (q_m j).2.1.2.2.2.1 && Nat.ble us (q_m j).2.1.2.2.2.2)) (P (pc + n, ls, .int (if y < x then y else x) :: rest, μ, uc, us))
      | _ => ff)
    | false => q_onS ff (q_pop (q_m a).2.1.1 st) fun q => q_call ff cl j P a q.1 q.2 pc ls μ uc us)
  | .invokespecial _ => (match a == 300 with
    | true => (match st with
      | .ref _ :: st' => q_onB ff (Nat.ble (q_cats st') 8) (P (pc + n, ls, st', μ, uc, us))
      | _ => ff)
    | false => q_onS ff (q_pop (q_m a).2.1.1 st) fun q => (match q.2 with
      | .ref o :: rest => q_call ff cl j P a (.ref o :: q.1) rest pc ls μ uc us
      | _ => ff))
  | _ => ff
def q_step (s : q_St) : X := match s with
  | (pc, ls, st, μ, uc, us) => q_onS ff (q_fe j pc) fun e => q_ex ff gd br cl rt j P e.1 e.2.1 e.2.2.1 e.2.2.2.1 pc ls st μ uc us
end QM
/-- the machine in Prop: what must hold for every run to come to its end with Q -/
abbrev q_gP (c : Prop) [Decidable c] (x : Prop) : Prop := c ∧ x
abbrev q_bP (c : Prop) [Decidable c] (x y : Prop) : Prop := (c → x) ∧ (¬ c → y)
abbrev q_stepP (cl : Nat → List Value → q_Mem → (Value → q_Mem → Prop) → Prop) (rt : Value → q_Mem → Nat → Nat → Prop) (j : Nat) (P : q_St → Prop) (s : q_St) : Prop := q_step False (fun c _ x => c ∧ x) (fun c _ x y => (c → x) ∧ (¬ c → y)) cl rt j P s
/-- it ends, by the least set that is closed under the steps -/
def q_X (cl : Nat → List Value → q_Mem → (Value → q_Mem → Prop) → Prop) (rt : Value → q_Mem → Nat → Nat → Prop) (j : Nat) (s : q_St) : Prop := ∀ P : q_St → Prop, (∀ t, q_stepP cl rt j P t → P t) → P s
/-- the locals at a method's entry -/
def q_lay : List Value → List (Option Value)
  | [] => []
  | .long x :: l => some (.long x) :: none :: q_lay l
  | .double x :: l => some (.double x) :: none :: q_lay l
  | v :: l => some v :: q_lay l
def q_ent (j : Nat) (as : List Value) : List (Option Value) := q_lay as ++ List.replicate ((q_m j).1.2.2.1 - (q_lay as).length) none
/-- longs among the arguments stand in slots that are known to hold longs -/
def q_lgok (lg : List Nat) (as : List Value) : Bool := (lv_args 0 as).all fun q => !(q.2.category == 2) || lg.contains q.1
def q_W : Nat → Nat → List Value → q_Mem → (Value → q_Mem → Prop) → Prop
  | 0, _, _, _, _ => False
  | d + 1, j, as, μ, Q => (Nat.blt j 226 = true ∧ Nat.ble (q_lay as).length (q_m j).1.2.2.1 = true ∧ q_lgok (q_m j).2.2.1 as = true) ∧ q_X (q_W d) (fun v μ' _ _ => Q v μ') j (0, q_ent j as, [], μ, 0, 0)
/-- the machine as a program, for runs that are known whole -/
def q_ev (d n : Nat) : Nat → List Value → q_Mem → Option (Value × q_Mem) := match d with
  | 0 => fun _ _ _ => none
  | d + 1 => fun j as μ => match Nat.blt j 226 && (Nat.ble (q_lay as).length (q_m j).1.2.2.1 && q_lgok (q_m j).2.2.1 as) with
    | true => (Nat.rec (motive := fun _ => q_St → Option (Value × q_Mem)) (fun _ => none) (fun _ P => q_step none (fun c _ x => if c then x else none) (fun c _ x y => if c then x else y) (fun y as μ k => match q_ev d n y as μ with
        | some r => k r.1 r.2
        | none => none) (fun v μ' _ _ => some (v, μ')) j P) n) (0, q_ent j as, [], μ, 0, 0)
    | false => none
