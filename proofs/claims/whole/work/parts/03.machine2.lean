/-! ===== the abstract machine: heap, calls, returns ===== -/
/-- types of fields, by class and field: the kit's tables -/
def am_fty (ci k : Nat) : FieldType := match ci with
  | 0 => tyX0 k
  | 1 => tyX1 k
  | 2 => tyX2 k
  | 3 => tyX3 k
  | 4 => tyX4 k
  | 5 => tyX5 k
  | 6 => tyX6 k
  | 7 => tyX7 k
  | 8 => tyX8 k
  | 9 => tyX9 k
  | 10 => tyX10 k
  | 11 => tyX11 k
  | _ => tyX12 k
def am_fin (ci k : Nat) : Bool := match vwCl[ci]? with
  | some q => (q.2.1 k).2.2.2
  | none => true
def am_nf (ci : Nat) : Nat := match vwCl[ci]? with
  | some q => q.2.2
  | none => 0
def am_ft (ty : FieldType) (v : Value) : Bool := match v with
  | .int _ => match ty with
    | .int => true
    | _ => false
  | .ref _ => ty.isReference
  | .null => ty.isReference
  | _ => false
def am_dfv (ty : FieldType) : Value := match ty with
  | .int => .int 0
  | _ => .null
def am_at (xs : List Int32) (i : Int32) : Option Int32 := if i < 0 then none else xs[i.toNatClampNeg]?
def am_atr (xs : List (Option Nat)) (i : Int32) : Option (Option Nat) := if i < 0 then none else xs[i.toNatClampNeg]?
def am_up (xs : List Int32) (i v : Int32) : Option (List Int32) := if i < 0 then none else if i.toNatClampNeg < xs.length then some (xs.set i.toNatClampNeg v) else none
def am_upr (xs : List (Option Nat)) (i : Int32) (v : Option Nat) : Option (List (Option Nat)) := if i < 0 then none else if i.toNatClampNeg < xs.length then some (xs.set i.toNatClampNeg v) else none
abbrev am_Q : Type := Option (List Value × am_H)
def am_getf (z : Nat) (st : List Value) (h : am_H) : am_Q := match st with
  | .ref a :: r => match h[a]? with
    | some (.inr (.inr (ci, fs))) => if ci = z / 64 then (match fs[z % 64]? with
      | some v => some (v :: r, h)
      | none => none) else none
    | _ => none
  | _ => none
def am_putf (cn : Nat) (z : Nat) (st : List Value) (h : am_H) : am_Q := match st with
  | v :: .ref a :: r => match h[a]? with
    | some (.inr (.inr (ci, fs))) => if ci = z / 64 ∧ z % 64 < am_nf (z / 64) ∧ z % 64 < fs.length ∧ am_ft (am_fty (z / 64) (z % 64)) v = true ∧ (am_fin (z / 64) (z % 64) = true → cn = z / 64) then some (r, h.set a (.inr (.inr (ci, fs.set (z % 64) v)))) else none
    | _ => none
  | _ => none
/-- reading an int array: one of the machine's, or one that was there before -/
def am_ial (ro : Nat → Option (List Int32)) (st : List Value) (h : am_H) : am_Q := match st with
  | .int i :: .ref a :: r => if a < am_RO then (match h[a]? with
      | some (.inl (0, xs)) => (match am_at xs i with
        | some v => some (.int v :: r, h)
        | none => none)
      | _ => none)
    else (match ro a with
      | some xs => (match am_at xs i with
        | some v => some (.int v :: r, h)
        | none => none)
      | none => none)
  | _ => none
def am_bal (st : List Value) (h : am_H) : am_Q := match st with
  | .int i :: .ref a :: r => match h[a]? with
    | some (.inl (t, xs)) => if t = 1 ∨ t = 2 then (match am_at xs i with
      | some v => some (.int v :: r, h)
      | none => none) else none
    | _ => none
  | _ => none
def am_aal (st : List Value) (h : am_H) : am_Q := match st with
  | .int i :: .ref a :: r => match h[a]? with
    | some (.inr (.inl (_, xs))) => (match am_atr xs i with
      | some v => some (va_rf v :: r, h)
      | none => none)
    | _ => none
  | _ => none
def am_ias (st : List Value) (h : am_H) : am_Q := match st with
  | .int x :: .int i :: .ref a :: r => match h[a]? with
    | some (.inl (0, xs)) => (match am_up xs i x with
      | some ys => some (r, h.set a (.inl (0, ys)))
      | none => none)
    | _ => none
  | _ => none
def am_nar (t : Nat) (x : Int32) : Int32 := if t = 1 then x.toInt8.toInt32 else x &&& 1
def am_bas (st : List Value) (h : am_H) : am_Q := match st with
  | .int x :: .int i :: .ref a :: r => match h[a]? with
    | some (.inl (t, xs)) => if t = 1 ∨ t = 2 then (match am_up xs i (am_nar t x) with
      | some ys => some (r, h.set a (.inl (t, ys)))
      | none => none) else none
    | _ => none
  | _ => none
/-- storing a ref into an array: Formula[] (4, class 5), Sheet[] (5, class 10) -/
def am_aas (st : List Value) (h : am_H) : am_Q := match st with
  | .ref v :: .int i :: .ref a :: r => match h[a]? with
    | some (.inr (.inl (t, xs))) => (match h[v]? with
      | some (.inr (.inr (ci, _))) => if (t = 4 ∧ ci = 5) ∨ (t = 5 ∧ ci = 10) then (match am_upr xs i (some v) with
        | some ys => some (r, h.set a (.inr (.inl (t, ys))))
        | none => none) else none
      | _ => none)
    | _ => none
  | _ => none
def am_len (ro : Nat → Option (List Int32)) (st : List Value) (h : am_H) : am_Q := match st with
  | .ref a :: r => if a < am_RO then (match h[a]? with
      | some (.inl (_, xs)) => some (.int (Int32.ofNat xs.length) :: r, h)
      | some (.inr (.inl (_, xs))) => some (.int (Int32.ofNat xs.length) :: r, h)
      | _ => none)
    else if a = am_RO + 15 then (match ro a with
      | some xs => some (.int (Int32.ofNat xs.length) :: r, h)
      | none => none) else none
  | _ => none
def am_new (ci : Nat) (st : List Value) (h : am_H) : am_Q :=
  some (.ref h.length :: st, h ++ [.inr (.inr (ci, (List.range (am_nf ci)).map (fun k => am_dfv (am_fty ci k))))])
def am_nt (t : ArrayType) : Option Nat := match t with
  | .int => some 0
  | .byte => some 1
  | .boolean => some 2
  | _ => none
def am_newa (t : ArrayType) (st : List Value) (h : am_H) : am_Q := match st with
  | .int n :: r => match am_nt t with
    | some k => if n < 0 ∨ 65536 < n.toNatClampNeg then none else some (.ref h.length :: r, h ++ [.inl (k, List.replicate n.toNatClampNeg 0)])
    | none => none
  | _ => none
/-- anewarray: z 4 Formula[], 5 Sheet[] -/
def am_anew (z : Nat) (st : List Value) (h : am_H) : am_Q := match st with
  | .int n :: r => if (n < 0 ∨ 65536 < n.toNatClampNeg) ∨ ¬ (z = 4 ∨ z = 5) then none else some (.ref h.length :: r, h ++ [.inr (.inl (z, List.replicate n.toNatClampNeg none))])
  | _ => none
/-- new int[n][k] -/
def am_mna (st : List Value) (h : am_H) : am_Q := match st with
  | .int k :: .int n :: r => if n < 0 ∨ k < 0 ∨ 256 < n.toNatClampNeg ∨ 256 < k.toNatClampNeg then none else
      some (.ref h.length :: r, (h ++ [.inr (.inl (3, (List.range n.toNatClampNeg).map (fun j => some (h.length + 1 + j))))]) ++ List.replicate n.toNatClampNeg (.inl (0, List.replicate k.toNatClampNeg 0)))
  | _ => none
/-- System.arraycopy of int arrays -/
def am_cpy (xs ys : List Int32) (i j n : Nat) : List Int32 := ys.take j ++ (xs.drop i).take n ++ ys.drop (j + n)
def am_acp (st : List Value) (h : am_H) : am_Q := match st with
  | .int n :: .int j :: .ref b :: .int i :: .ref a :: r => match h[a]? with
    | some (.inl (0, xs)) => (match h[b]? with
      | some (.inl (0, ys)) => if n < 0 ∨ i < 0 ∨ j < 0 ∨ xs.length < i.toNatClampNeg + n.toNatClampNeg ∨ ys.length < j.toNatClampNeg + n.toNatClampNeg ∨ 8 < am_w r then none
          else some (r, h.set b (.inl (0, am_cpy xs ys i.toNatClampNeg j.toNatClampNeg n.toNatClampNeg)))
      | _ => none)
    | _ => none
  | _ => none
/-- int[].clone() -/
def am_cln (st : List Value) (h : am_H) : am_Q := match st with
  | .ref a :: r => match h[a]? with
    | some (.inl (0, xs)) => if 8 < am_w r then none else some (.ref h.length :: r, h ++ [.inl (0, xs)])
    | _ => none
  | _ => none
/-- String constants: number j of the eleven is am_RO + 16 + j -/
def am_str (j : Nat) : List Int32 := match j with
  | 0 => [107, 105, 110, 100]
  | 1 => [100, 97, 121]
  | 2 => [114, 97, 110, 107]
  | 3 => [115, 97, 109, 101]
  | 4 => [104, 97, 110, 103, 115]
  | 5 => [102, 97, 105, 116, 104]
  | 6 => [98, 105, 110, 100, 115]
  | 7 => [115, 97, 118, 101, 100]
  | 8 => [111, 114]
  | 9 => [97, 110, 100]
  | 10 => [110, 111, 116]
  | _ => []
def am_slen (st : List Value) (h : am_H) : am_Q := match st with
  | .ref a :: r => if am_RO + 16 ≤ a ∧ a < am_RO + 27 ∧ am_w r ≤ 8 then some (.int (Int32.ofNat (am_str (a - (am_RO + 16))).length) :: r, h) else none
  | _ => none
def am_sat (st : List Value) (h : am_H) : am_Q := match st with
  | .int i :: .ref a :: r => if am_RO + 16 ≤ a ∧ a < am_RO + 27 ∧ am_w r ≤ 8 then (match am_at (am_str (a - (am_RO + 16))) i with
    | some v => some (.int v :: r, h)
    | none => none) else none
  | _ => none
/-- Math.min -/
def am_mmin (st : List Value) (h : am_H) : am_Q := match st with
  | .int y :: .int x :: r => if 8 < am_w r then none else some (.int (if y < x then y else x) :: r, h)
  | _ => none
/-- what touches the heap; fields, classes, constants by the numbers of the resolved code: ldc z pushes the int z; getstatic z the ref am_RO + z; invokedynamic: 0 arraycopy, 1 clone, 2 length, 3 charAt, 4 Math.min -/
def am_heap (ro : Nat → Option (List Int32)) (cn : Nat) (i : Instr) (st : List Value) (h : am_H) : am_Q := match i with
  | .getfield z => am_getf z st h
  | .putfield z => am_putf cn z st h
  | .iaload => am_ial ro st h
  | .baload => am_bal st h
  | .aaload => am_aal st h
  | .iastore => am_ias st h
  | .bastore => am_bas st h
  | .aastore => am_aas st h
  | .arraylength => am_len ro st h
  | .new z => am_new z st h
  | .newarray t => am_newa t st h
  | .anewarray z => am_anew z st h
  | .multianewarray _ _ => am_mna st h
  | .getstatic z => some (.ref (am_RO + z) :: st, h)
  | .ldc z => some (.ref (am_RO + 16 + z) :: st, h)
  | .ldc_w z => some (.int (Int32.ofNat z) :: st, h)
  | .ldc2_w z => some (.long (Int64.ofNat z) :: st, h)
  | .checkcast _ => match st with
    | .ref a :: r => match h[a]? with
      | some (.inl (0, _)) => some (.ref a :: r, h)
      | _ => none
    | _ => none
  | .invokedynamic 0 => am_acp st h
  | .invokedynamic 1 => am_cln st h
  | .invokedynamic 2 => am_slen st h
  | .invokedynamic 3 => am_sat st h
  | .invokedynamic 4 => am_mmin st h
  | _ => none
