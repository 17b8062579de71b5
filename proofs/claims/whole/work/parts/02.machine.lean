/-! ===== the abstract machine: a pure picture of the bytecode. Cells by their number as they come; an object's fields as a list of values; refs are numbers of cells (from am_RO on: what was there before the start, never written) ===== -/
abbrev am_C : Type := (Nat × List Int32) ⊕ ((Nat × List (Option Nat)) ⊕ (Nat × List Value))
abbrev am_H : Type := List am_C
abbrev am_L : Type := List (Option Value)
abbrev am_Cf : Type := Nat × am_L × List Value × am_H
/-- a method: the class of which it is a constructor (99: none), whether it answers a boolean, its code in rows of sixteen places -/
abbrev am_M : Type := Nat × Bool × List (List (Option (Instr × Nat)))
def am_RO : Nat := 1048576
def am_fi (M : am_M) (pc : Nat) : Option (Instr × Nat) := match M.2.2[pc / 16]? with
  | some row => match row[pc % 16]? with
    | some (some q) => some q
    | _ => none
  | none => none
def am_ld (L : am_L) (i : Nat) : Option Value := match L[i]? with
  | some (some v) => some v
  | _ => none
def am_clr (L : am_L) (i : Nat) : am_L := match i with
  | 0 => L
  | j + 1 => match L[j]? with
    | some (some (.long _)) => L.set j none
    | some (some (.double _)) => L.set j none
    | _ => L
def am_st1 (L : am_L) (i : Nat) (v : Value) : Option am_L := if i < L.length then some ((am_clr L i).set i (some v)) else none
def am_st2 (L : am_L) (i : Nat) (v : Value) : Option am_L := if i + 1 < L.length then some (((am_clr L i).set i (some v)).set (i + 1) none) else none
abbrev am_R : Type := Option (am_L × List Value)
def am_li (L : am_L) (st : List Value) (i : Nat) : am_R := match am_ld L i with
  | some (.int x) => some (L, .int x :: st)
  | _ => none
def am_ll (L : am_L) (st : List Value) (i : Nat) : am_R := match am_ld L i with
  | some (.long x) => some (L, .long x :: st)
  | _ => none
def am_la (L : am_L) (st : List Value) (i : Nat) : am_R := match am_ld L i with
  | some (.ref x) => some (L, .ref x :: st)
  | some .null => some (L, .null :: st)
  | _ => none
def am_si (L : am_L) (st : List Value) (i : Nat) : am_R := match st with
  | .int x :: r => match am_st1 L i (.int x) with
    | some L' => some (L', r)
    | none => none
  | _ => none
def am_sl (L : am_L) (st : List Value) (i : Nat) : am_R := match st with
  | .long x :: r => match am_st2 L i (.long x) with
    | some L' => some (L', r)
    | none => none
  | _ => none
def am_sa (L : am_L) (st : List Value) (i : Nat) : am_R := match st with
  | .ref x :: r => match am_st1 L i (.ref x) with
    | some L' => some (L', r)
    | none => none
  | _ => none
def am_b (f : Int32 → Int32 → Int32) (L : am_L) (st : List Value) : am_R := match st with
  | .int y :: .int x :: r => some (L, .int (f x y) :: r)
  | _ => none
def am_u (f : Int32 → Int32) (L : am_L) (st : List Value) : am_R := match st with
  | .int x :: r => some (L, .int (f x) :: r)
  | _ => none
def am_bl (f : Int64 → Int64 → Int64) (L : am_L) (st : List Value) : am_R := match st with
  | .long y :: .long x :: r => some (L, .long (f x y) :: r)
  | _ => none
def am_sh (f : Int64 → Int32 → Int64) (L : am_L) (st : List Value) : am_R := match st with
  | .int y :: .long x :: r => some (L, .long (f x y) :: r)
  | _ => none
def am_dv (f : Int32 → Int32 → Int32) (L : am_L) (st : List Value) : am_R := match st with
  | .int y :: .int x :: r => if y = 0 then none else some (L, .int (f x y) :: r)
  | _ => none
/-- what touches neither heap nor course -/
def am_pure (i : Instr) (L : am_L) (st : List Value) : am_R := match i with
  | .iconst n => some (L, .int (Int32.ofInt n) :: st)
  | .bipush n => some (L, .int (Int8.ofInt n).toInt32 :: st)
  | .sipush n => some (L, .int (Int16.ofInt n).toInt32 :: st)
  | .lconst n => some (L, .long (Int64.ofNat (n : Nat)) :: st)
  | .aconst_null => some (L, .null :: st)
  | .iload k => am_li L st k
  | .iload_n k => am_li L st (k : Nat)
  | .lload k => am_ll L st k
  | .lload_n k => am_ll L st (k : Nat)
  | .aload k => am_la L st k
  | .aload_n k => am_la L st (k : Nat)
  | .istore k => am_si L st k
  | .istore_n k => am_si L st (k : Nat)
  | .lstore k => am_sl L st k
  | .lstore_n k => am_sl L st (k : Nat)
  | .astore k => am_sa L st k
  | .astore_n k => am_sa L st (k : Nat)
  | .iinc k n => match am_ld L k with
    | some (.int x) => match am_st1 L k (.int (x + Int32.ofInt n)) with
      | some L' => some (L', st)
      | none => none
    | _ => none
  | .iadd => am_b (fun x y => x + y) L st
  | .isub => am_b (fun x y => x - y) L st
  | .imul => am_b (fun x y => x * y) L st
  | .iand => am_b (fun x y => x &&& y) L st
  | .ior => am_b (fun x y => x ||| y) L st
  | .ixor => am_b (fun x y => x ^^^ y) L st
  | .ishl => am_b (fun x y => x <<< (y &&& 31)) L st
  | .ishr => am_b (fun x y => x >>> (y &&& 31)) L st
  | .iushr => am_b (fun x y => (x.toUInt32 >>> (y.toUInt32 &&& Int32.toUInt32 31)).toInt32) L st
  | .idiv => am_dv (fun x y => x / y) L st
  | .irem => am_dv (fun x y => x - x / y * y) L st
  | .ineg => am_u (fun x => -x) L st
  | .i2b => am_u (fun x => x.toInt8.toInt32) L st
  | .i2s => am_u (fun x => x.toInt16.toInt32) L st
  | .ladd => am_bl (fun x y => x + y) L st
  | .land => am_bl (fun x y => x &&& y) L st
  | .lor => am_bl (fun x y => x ||| y) L st
  | .lshl => am_sh (fun x y => x <<< (y.toInt64 &&& 63)) L st
  | .lshr => am_sh (fun x y => x >>> (y.toInt64 &&& 63)) L st
  | .lcmp => match st with
    | .long y :: .long x :: r => some (L, .int (lg_cmp x y) :: r)
    | _ => none
  | .i2l => match st with
    | .int x :: r => some (L, .long x.toInt64 :: r)
    | _ => none
  | .l2i => match st with
    | .long x :: r => some (L, .int x.toInt32 :: r)
    | _ => none
  | .dup => match st with
    | v :: r => if v.category = 1 then some (L, v :: v :: r) else none
    | _ => none
  | .pop => match st with
    | v :: r => if v.category = 1 then some (L, r) else none
    | _ => none
  | .dup_x1 => match st with
    | v :: w :: r => if v.category = 1 ∧ w.category = 1 then some (L, v :: w :: v :: r) else none
    | _ => none
  | .dup2 => match st with
    | v :: w :: r => if v.category = 1 ∧ w.category = 1 then some (L, v :: w :: v :: w :: r) else none
    | _ => none
  | _ => none
/-- where a branch goes -/
def am_tg (pc : Nat) (off : Int) : Nat := ((pc : Int) + off).toNat
def am_cc (c : Jvm.ClassFile.Cond) (x y : Int32) (a b : Nat) : Nat := match c with
  | .eq => if x = y then a else b
  | .ne => if ¬ x = y then a else b
  | .lt => if x < y then a else b
  | .ge => if y ≤ x then a else b
  | .gt => if y < x then a else b
  | .le => if x ≤ y then a else b
def am_ok (pc : Nat) (off : Int) : Bool := decide (0 ≤ (pc : Int) + off)
def am_sw (pc : Nat) (dflt lo hi : Int) (offs : Array Int) (x : Int32) : Option Nat :=
  if x.toInt < lo ∨ hi < x.toInt then (if am_ok pc dflt = true then some (am_tg pc dflt) else none)
  else match offs[(x.toInt - lo).toNat]? with
    | some off => if am_ok pc off = true then some (am_tg pc off) else none
    | none => none
def am_br (i : Instr) (pc : Nat) (st : List Value) : Option (Nat × List Value) := match i with
  | .goto off => if am_ok pc off = true then some (am_tg pc off, st) else none
  | .ifCond c off => match st with
    | .int x :: r => if am_ok pc off = true then some (am_cc c x 0 (am_tg pc off) (pc + 3), r) else none
    | _ => none
  | .if_icmp c off => match st with
    | .int y :: .int x :: r => if am_ok pc off = true then some (am_cc c x y (am_tg pc off) (pc + 3), r) else none
    | _ => none
  | .ifnonnull off => match st with
    | .ref _ :: r => if am_ok pc off = true then some (am_tg pc off, r) else none
    | .null :: r => some (pc + 3, r)
    | _ => none
  | .tableswitch d lo hi offs => match st with
    | .int x :: r => match am_sw pc d lo hi offs x with
      | some t => some (t, r)
      | none => none
    | _ => none
  | _ => none
def am_w (st : List Value) : Nat := (st.map fun v => v.category).sum
