/-! ===== methods as functions (by wip/whole/dec.py) ===== -/
def f_J6_bitCount_0f7a4 (a1 : Int32) : Option (Int32) :=
  some ((((((((a1 - ((Int32.toUInt32 a1 >>> (Int32.toUInt32 1 &&& Int32.toUInt32 31)).toInt32 &&& 1431655765)) &&& 858993459) + ((Int32.toUInt32 (a1 - ((Int32.toUInt32 a1 >>> (Int32.toUInt32 1 &&& Int32.toUInt32 31)).toInt32 &&& 1431655765)) >>> (Int32.toUInt32 2 &&& Int32.toUInt32 31)).toInt32 &&& 858993459)) + (Int32.toUInt32 (((a1 - ((Int32.toUInt32 a1 >>> (Int32.toUInt32 1 &&& Int32.toUInt32 31)).toInt32 &&& 1431655765)) &&& 858993459) + ((Int32.toUInt32 (a1 - ((Int32.toUInt32 a1 >>> (Int32.toUInt32 1 &&& Int32.toUInt32 31)).toInt32 &&& 1431655765)) >>> (Int32.toUInt32 2 &&& Int32.toUInt32 31)).toInt32 &&& 858993459)) >>> (Int32.toUInt32 4 &&& Int32.toUInt32 31)).toInt32) &&& 252645135) + (Int32.toUInt32 (((((a1 - ((Int32.toUInt32 a1 >>> (Int32.toUInt32 1 &&& Int32.toUInt32 31)).toInt32 &&& 1431655765)) &&& 858993459) + ((Int32.toUInt32 (a1 - ((Int32.toUInt32 a1 >>> (Int32.toUInt32 1 &&& Int32.toUInt32 31)).toInt32 &&& 1431655765)) >>> (Int32.toUInt32 2 &&& Int32.toUInt32 31)).toInt32 &&& 858993459)) + (Int32.toUInt32 (((a1 - ((Int32.toUInt32 a1 >>> (Int32.toUInt32 1 &&& Int32.toUInt32 31)).toInt32 &&& 1431655765)) &&& 858993459) + ((Int32.toUInt32 (a1 - ((Int32.toUInt32 a1 >>> (Int32.toUInt32 1 &&& Int32.toUInt32 31)).toInt32 &&& 1431655765)) >>> (Int32.toUInt32 2 &&& Int32.toUInt32 31)).toInt32 &&& 858993459)) >>> (Int32.toUInt32 4 &&& Int32.toUInt32 31)).toInt32) &&& 252645135) >>> (Int32.toUInt32 8 &&& Int32.toUInt32 31)).toInt32) + (Int32.toUInt32 ((((((a1 - ((Int32.toUInt32 a1 >>> (Int32.toUInt32 1 &&& Int32.toUInt32 31)).toInt32 &&& 1431655765)) &&& 858993459) + ((Int32.toUInt32 (a1 - ((Int32.toUInt32 a1 >>> (Int32.toUInt32 1 &&& Int32.toUInt32 31)).toInt32 &&& 1431655765)) >>> (Int32.toUInt32 2 &&& Int32.toUInt32 31)).toInt32 &&& 858993459)) + (Int32.toUInt32 (((a1 - ((Int32.toUInt32 a1 >>> (Int32.toUInt32 1 &&& Int32.toUInt32 31)).toInt32 &&& 1431655765)) &&& 858993459) + ((Int32.toUInt32 (a1 - ((Int32.toUInt32 a1 >>> (Int32.toUInt32 1 &&& Int32.toUInt32 31)).toInt32 &&& 1431655765)) >>> (Int32.toUInt32 2 &&& Int32.toUInt32 31)).toInt32 &&& 858993459)) >>> (Int32.toUInt32 4 &&& Int32.toUInt32 31)).toInt32) &&& 252645135) + (Int32.toUInt32 (((((a1 - ((Int32.toUInt32 a1 >>> (Int32.toUInt32 1 &&& Int32.toUInt32 31)).toInt32 &&& 1431655765)) &&& 858993459) + ((Int32.toUInt32 (a1 - ((Int32.toUInt32 a1 >>> (Int32.toUInt32 1 &&& Int32.toUInt32 31)).toInt32 &&& 1431655765)) >>> (Int32.toUInt32 2 &&& Int32.toUInt32 31)).toInt32 &&& 858993459)) + (Int32.toUInt32 (((a1 - ((Int32.toUInt32 a1 >>> (Int32.toUInt32 1 &&& Int32.toUInt32 31)).toInt32 &&& 1431655765)) &&& 858993459) + ((Int32.toUInt32 (a1 - ((Int32.toUInt32 a1 >>> (Int32.toUInt32 1 &&& Int32.toUInt32 31)).toInt32 &&& 1431655765)) >>> (Int32.toUInt32 2 &&& Int32.toUInt32 31)).toInt32 &&& 858993459)) >>> (Int32.toUInt32 4 &&& Int32.toUInt32 31)).toInt32) &&& 252645135) >>> (Int32.toUInt32 8 &&& Int32.toUInt32 31)).toInt32) >>> (Int32.toUInt32 16 &&& Int32.toUInt32 31)).toInt32) &&& 63)
set_option maxRecDepth 100000 in
set_option maxHeartbeats 4000000 in
theorem t_J6_bitCount_0f7a4 {xs : List Int32} {h : am_H} (a1 : Int32) {z : Int32} (hz : f_J6_bitCount_0f7a4 a1 = some z) : am_Rt (am_ro xs) 1 ix_J6_bitCount_0f7a4 [.int a1] h (some (.int z), h) := by
  refine am_Rt.J (k := ix_J6_bitCount_0f7a4) (M := mc_J6_bitCount_0f7a4) (nL := 1) (d := 0) (as := [.int a1]) (res := fun z => (some (.int z), h)) rfl (Nat.le_of_ble_eq_true rfl) (fun r => ?_) hz
  unfold f_J6_bitCount_0f7a4
  refine am_J.go 41 rfl ?_
  exact am_J.ret rfl (fun k => k)

def f_X0_add (A : Nat → List Int32) (I : Nat → Int32) (a1 : Int32) : Option (Int32 × (List Int32) × Int32) :=
  ((am_up (A 62) (I 3907) a1).bind fun y1 =>
  some ((I 3907), y1, ((I 3907) + 1)))
set_option maxRecDepth 100000 in
set_option maxHeartbeats 4000000 in
theorem t_X0_add {xs : List Int32} (A : Nat → List Int32) (I : Nat → Int32) (x : am_X) (a1 : Int32) {z : Int32 × (List Int32) × Int32} (hz : f_X0_add A I a1 = some z) : am_Rt (am_ro xs) 1 ix_X0_add [.ref 61, .int a1] (hp A I x) (some (.int z.1), hp (up A 62 z.2.1) (up I 3907 z.2.2) x) := by
  refine am_Rt.J (k := ix_X0_add) (M := mc_X0_add) (nL := 2) (d := 0) (as := [.ref 61, .int a1]) (res := fun z => (some (.int z.1), hp (up A 62 z.2.1) (up I 3907 z.2.2) x)) rfl (Nat.le_of_ble_eq_true rfl) (fun r => ?_) hz
  unfold f_X0_add
  refine am_J.go 5 rfl ?_
  refine am_J.ias (xs := (A 62)) (h' := fun y1 => hp (up A 62 y1) I x) rfl rfl (fun _ => rfl) (fun y1 => ?_)
  refine am_J.go 7 rfl ?_
  exact am_J.ret rfl (fun k => k)

def f_X11_count (A : Nat → List Int32) (I : Nat → Int32) (a1 : Int32) : Option (Int32) :=
  (if a1 = 0 then
    some (I 1601)
  else
  (if a1 = 1 then
    some (I 1863)
  else
  (if a1 = 2 then
    some (I 69)
  else
  (if a1 = 3 then
    some (I 3012)
  else
  (if a1 = 4 then
    some (I 3715)
  else
  (if a1 = 5 then
    some (I 3907)
  else
  (if a1 = 6 then
    some (I 2373)
  else
  (if a1 = 7 then
    some (I 3329)
  else
  (if a1 = 8 then
    ((am_at (A 40) 0).bind fun v1 =>
    some v1)
  else
  (if a1 = 9 then
    ((am_at (A 40) 1).bind fun v2 =>
    some v2)
  else
  (if a1 = 10 then
    ((am_at (A 40) 2).bind fun v3 =>
    some v3)
  else
  some (-2))))))))))))
set_option maxRecDepth 100000 in
set_option maxHeartbeats 4000000 in
theorem t_X11_count {xs : List Int32} (A : Nat → List Int32) (I : Nat → Int32) (x : am_X) (a1 : Int32) {z : Int32} (hz : f_X11_count A I a1 = some z) : am_Rt (am_ro xs) 1 ix_X11_count [.ref 0, .int a1] (hp A I x) (some (.int z), hp A I x) := by
  refine am_Rt.J (k := ix_X11_count) (M := mc_X11_count) (nL := 2) (d := 0) (as := [.ref 0, .int a1]) (res := fun z => (some (.int z), hp A I x)) rfl (Nat.le_of_ble_eq_true rfl) (fun r => ?_) hz
  unfold f_X11_count
  refine am_J.go 1 rfl ?_
  refine am_J.sw (c := 0) (fun v => (1, [some (.ref 0), some (.int a1)], [.int v], hp A I x)) ?_ (fun hs0 => ?_)
  · refine am_J.go 1 rfl ?_
    refine am_J.go 3 rfl ?_
    exact am_J.ret rfl (fun k => k)
  refine am_J.sw (c := 1) (fun v => (1, [some (.ref 0), some (.int a1)], [.int v], hp A I x)) ?_ (fun hs1 => ?_)
  · refine am_J.go 1 rfl ?_
    refine am_J.go 3 rfl ?_
    exact am_J.ret rfl (fun k => k)
  refine am_J.sw (c := 2) (fun v => (1, [some (.ref 0), some (.int a1)], [.int v], hp A I x)) ?_ (fun hs2 => ?_)
  · refine am_J.go 1 rfl ?_
    refine am_J.go 3 rfl ?_
    exact am_J.ret rfl (fun k => k)
  refine am_J.sw (c := 3) (fun v => (1, [some (.ref 0), some (.int a1)], [.int v], hp A I x)) ?_ (fun hs3 => ?_)
  · refine am_J.go 1 rfl ?_
    refine am_J.go 3 rfl ?_
    exact am_J.ret rfl (fun k => k)
  refine am_J.sw (c := 4) (fun v => (1, [some (.ref 0), some (.int a1)], [.int v], hp A I x)) ?_ (fun hs4 => ?_)
  · refine am_J.go 1 rfl ?_
    refine am_J.go 3 rfl ?_
    exact am_J.ret rfl (fun k => k)
  refine am_J.sw (c := 5) (fun v => (1, [some (.ref 0), some (.int a1)], [.int v], hp A I x)) ?_ (fun hs5 => ?_)
  · refine am_J.go 1 rfl ?_
    refine am_J.go 3 rfl ?_
    exact am_J.ret rfl (fun k => k)
  refine am_J.sw (c := 6) (fun v => (1, [some (.ref 0), some (.int a1)], [.int v], hp A I x)) ?_ (fun hs6 => ?_)
  · refine am_J.go 1 rfl ?_
    refine am_J.go 3 rfl ?_
    exact am_J.ret rfl (fun k => k)
  refine am_J.sw (c := 7) (fun v => (1, [some (.ref 0), some (.int a1)], [.int v], hp A I x)) ?_ (fun hs7 => ?_)
  · refine am_J.go 1 rfl ?_
    refine am_J.go 3 rfl ?_
    exact am_J.ret rfl (fun k => k)
  refine am_J.sw (c := 8) (fun v => (1, [some (.ref 0), some (.int a1)], [.int v], hp A I x)) ?_ (fun hs8 => ?_)
  · refine am_J.go 1 rfl ?_
    refine am_J.go 4 rfl ?_
    refine am_J.ial (xs := (A 40)) rfl (Nat.le_of_ble_eq_true rfl) rfl (fun v1 => ?_)
    exact am_J.ret rfl (fun k => k)
  refine am_J.sw (c := 9) (fun v => (1, [some (.ref 0), some (.int a1)], [.int v], hp A I x)) ?_ (fun hs9 => ?_)
  · refine am_J.go 1 rfl ?_
    refine am_J.go 4 rfl ?_
    refine am_J.ial (xs := (A 40)) rfl (Nat.le_of_ble_eq_true rfl) rfl (fun v2 => ?_)
    exact am_J.ret rfl (fun k => k)
  refine am_J.sw (c := 10) (fun v => (1, [some (.ref 0), some (.int a1)], [.int v], hp A I x)) ?_ (fun hs10 => ?_)
  · refine am_J.go 1 rfl ?_
    refine am_J.go 4 rfl ?_
    refine am_J.ial (xs := (A 40)) rfl (Nat.le_of_ble_eq_true rfl) rfl (fun v3 => ?_)
    exact am_J.ret rfl (fun k => k)
  refine am_J.swd rfl (am_out (0) (10) (fun c h1 h2 q => ?_)) rfl ?_
  · rcases (show c = 0 ∨ c = 1 ∨ c = 2 ∨ c = 3 ∨ c = 4 ∨ c = 5 ∨ c = 6 ∨ c = 7 ∨ c = 8 ∨ c = 9 ∨ c = 10 by omega) with rfl | rfl | rfl | rfl | rfl | rfl | rfl | rfl | rfl | rfl | rfl
    · exact hs0 (Int32.toInt_inj.mp (q.trans (by decide)))
    · exact hs1 (Int32.toInt_inj.mp (q.trans (by decide)))
    · exact hs2 (Int32.toInt_inj.mp (q.trans (by decide)))
    · exact hs3 (Int32.toInt_inj.mp (q.trans (by decide)))
    · exact hs4 (Int32.toInt_inj.mp (q.trans (by decide)))
    · exact hs5 (Int32.toInt_inj.mp (q.trans (by decide)))
    · exact hs6 (Int32.toInt_inj.mp (q.trans (by decide)))
    · exact hs7 (Int32.toInt_inj.mp (q.trans (by decide)))
    · exact hs8 (Int32.toInt_inj.mp (q.trans (by decide)))
    · exact hs9 (Int32.toInt_inj.mp (q.trans (by decide)))
    · exact hs10 (Int32.toInt_inj.mp (q.trans (by decide)))
  · refine am_J.go 1 rfl ?_
    exact am_J.ret rfl (fun k => k)

def f_X11_has (a1 : Int32) (a2 : Int32) : Option (Int32) :=
  (if ((a1 >>> (a2 &&& 31)) &&& 1) = 0 then
    some 0
  else
    some 1)
set_option maxRecDepth 100000 in
set_option maxHeartbeats 4000000 in
theorem t_X11_has {xs : List Int32} {h : am_H} (a1 : Int32) (a2 : Int32) {z : Int32} (hz : f_X11_has a1 a2 = some z) : am_Rt (am_ro xs) 1 ix_X11_has [.int a1, .int a2] h (some (.int z), h) := by
  refine am_Rt.J (k := ix_X11_has) (M := mc_X11_has) (nL := 2) (d := 0) (as := [.int a1, .int a2]) (res := fun z => (some (.int z), h)) rfl (Nat.le_of_ble_eq_true rfl) (fun r => ?_) hz
  unfold f_X11_has
  refine am_J.go 5 rfl ?_
  refine am_J.eq rfl ?_ ?_
  · refine am_J.go 1 rfl ?_
    exact am_J.retz rfl (Or.inl rfl) (fun k => k)
  · refine am_J.go 2 rfl ?_
    exact am_J.retz rfl (Or.inr rfl) (fun k => k)

def f_X11_isUnder_l1 (a2 : Int32) : (Int32 × Int32) → Option ((Int32 × Int32) ⊕ (Int32)) := fun q => match q with
    | (s1, s2) =>
    (if 6 ≤ s2 then
      some (.inr s1)
    else
      (if s1 = a2 then
        some (.inr s1)
      else
        (if s1 < 0 then
          some (.inr s1)
        else
          ((am_at (am_sta 0) s1).bind fun v3 =>
          some (.inl (v3, (s2 + 1)))))))
def f_X11_isUnder (a1 : Int32) (a2 : Int32) : Option (Int32) :=
  ((wl (f_X11_isUnder_l1 a2) 100000 (a1, 0)).bind (fun e4 =>
  (if e4 = a2 then
    some 1
  else
    some 0)))
set_option maxRecDepth 100000 in
set_option maxHeartbeats 4000000 in
theorem t_X11_isUnder {xs : List Int32} {h : am_H} (a1 : Int32) (a2 : Int32) {z : Int32} (hz : f_X11_isUnder a1 a2 = some z) : am_Rt (am_ro xs) 1 ix_X11_isUnder [.int a1, .int a2] h (some (.int z), h) := by
  refine am_Rt.J (k := ix_X11_isUnder) (M := mc_X11_isUnder) (nL := 4) (d := 0) (as := [.int a1, .int a2]) (res := fun z => (some (.int z), h)) rfl (Nat.le_of_ble_eq_true rfl) (fun r => ?_) hz
  unfold f_X11_isUnder
  refine am_J.go (cf' := (4, [some (.int a1), some (.int a2), some (.int a1), some (.int 0)], [], h)) 4 rfl ?_
  refine am_J.weak (L' := [none, some (.int a2), some (.int a1), some (.int 0)]) (am_Lle.o (am_Lle.k (am_Lle.k (am_Lle.k am_Lle.nil)))) ?_
  refine am_J.loop (cl := fun q => match q with | (s1, s2) => (4, [none, some (.int a2), some (.int s1), some (.int s2)], [], h)) (GX := fun e4 => am_Ev (am_ro xs) 0 mc_X11_isUnder (31, [none, some (.int a2), some (.int e4), none], [], h) r) ?_ ?_
  · rintro ⟨s1, s2⟩
    unfold f_X11_isUnder_l1
    refine am_J.go 2 rfl ?_
    refine am_J.ge rfl ?_ ?_
    · refine am_J.go (cf' := (31, [none, some (.int a2), some (.int s1), some (.int s2)], [], h)) 0 rfl ?_
      exact am_J.leaf (fun k => am_Ev.weak (L' := [none, some (.int a2), some (.int s1), none]) (am_Lle.o (am_Lle.k (am_Lle.k (am_Lle.o am_Lle.nil)))) k)
    · refine am_J.go 2 rfl ?_
      refine am_J.eq rfl ?_ ?_
      · refine am_J.go (cf' := (31, [none, some (.int a2), some (.int s1), some (.int s2)], [], h)) 0 rfl ?_
        exact am_J.leaf (fun k => am_Ev.weak (L' := [none, some (.int a2), some (.int s1), none]) (am_Lle.o (am_Lle.k (am_Lle.k (am_Lle.o am_Lle.nil)))) k)
      · refine am_J.go 1 rfl ?_
        refine am_J.lt rfl ?_ ?_
        · refine am_J.go (cf' := (31, [none, some (.int a2), some (.int s1), some (.int s2)], [], h)) 0 rfl ?_
          exact am_J.leaf (fun k => am_Ev.weak (L' := [none, some (.int a2), some (.int s1), none]) (am_Lle.o (am_Lle.k (am_Lle.k (am_Lle.o am_Lle.nil)))) k)
        · refine am_J.go 2 rfl ?_
          refine am_J.iar (xs := (am_sta 0)) rfl (Nat.not_lt.mpr (Nat.le_add_right _ _)) rfl (fun v3 => ?_)
          refine am_J.go (cf' := (4, [none, some (.int a2), some (.int v3), some (.int (s2 + 1))], [], h)) 3 rfl ?_
          exact am_J.leaf (fun k => am_Ev.weak (L' := [none, some (.int a2), some (.int v3), some (.int (s2 + 1))]) (am_Lle.o (am_Lle.k (am_Lle.k (am_Lle.k am_Lle.nil)))) k)
  · rintro e4
    refine (?_ : am_J (am_ro xs) 0 mc_X11_isUnder r (31, [none, some (.int a2), some (.int e4), none], [], h) _ _)
    refine am_J.go 2 rfl ?_
    refine am_J.ne rfl ?_ ?_
    · refine am_J.go 2 rfl ?_
      exact am_J.retz rfl (Or.inr rfl) (fun k => k)
    · refine am_J.go 1 rfl ?_
      exact am_J.retz rfl (Or.inl rfl) (fun k => k)

def f_X11_isWithin (a1 : Int32) (a2 : Int32) (a3 : Int32) : Option (Int32) :=
  (if a1 < a2 then
    some 0
  else
    (if a3 < a1 then
      some 0
    else
      some 1))
set_option maxRecDepth 100000 in
set_option maxHeartbeats 4000000 in
theorem t_X11_isWithin {xs : List Int32} {h : am_H} (a1 : Int32) (a2 : Int32) (a3 : Int32) {z : Int32} (hz : f_X11_isWithin a1 a2 a3 = some z) : am_Rt (am_ro xs) 1 ix_X11_isWithin [.int a1, .int a2, .int a3] h (some (.int z), h) := by
  refine am_Rt.J (k := ix_X11_isWithin) (M := mc_X11_isWithin) (nL := 3) (d := 0) (as := [.int a1, .int a2, .int a3]) (res := fun z => (some (.int z), h)) rfl (Nat.le_of_ble_eq_true rfl) (fun r => ?_) hz
  unfold f_X11_isWithin
  refine am_J.go 2 rfl ?_
  refine am_J.lt rfl ?_ ?_
  · refine am_J.go 1 rfl ?_
    exact am_J.retz rfl (Or.inl rfl) (fun k => k)
  · refine am_J.go 2 rfl ?_
    refine am_J.gt rfl ?_ ?_
    · refine am_J.go 1 rfl ?_
      exact am_J.retz rfl (Or.inl rfl) (fun k => k)
    · refine am_J.go 2 rfl ?_
      exact am_J.retz rfl (Or.inr rfl) (fun k => k)

def f_X11_sumOver_l1 (ys : List Int32) (a2 : Int32) : (Int32 × Int32) → Option ((Int32 × Int32) ⊕ (Int32)) := fun q => match q with
    | (s1, s2) =>
    (if (Int32.ofNat ys.length) ≤ s2 then
      some (.inr s1)
    else
      ((f_X11_has a2 s2).bind fun r3 =>
      (((if r3 = 0 then
          some 0
        else
          ((am_at ys s2).bind fun v4 =>
          some v4)) : Option (Int32)).bind (fun j5 =>
      some (.inl ((s1 + j5), (s2 + 1)))))))
def f_X11_sumOver (ys : List Int32) (a2 : Int32) : Option (Int32) :=
  ((wl (f_X11_sumOver_l1 ys a2) 100000 (0, 0)).bind (fun e6 =>
  some e6))
set_option maxRecDepth 100000 in
set_option maxHeartbeats 4000000 in
theorem t_X11_sumOver {xs : List Int32} {h : am_H} {a : Nat} {ys : List Int32} (a2 : Int32) (ha : a < am_RO) (hh : h[a]? = some (.inl (0, ys))) {z : Int32} (hz : f_X11_sumOver ys a2 = some z) : am_Rt (am_ro xs) 2 ix_X11_sumOver [.ref a, .int a2] h (some (.int z), h) := by
  refine am_Rt.J (k := ix_X11_sumOver) (M := mc_X11_sumOver) (nL := 4) (d := 1) (as := [.ref a, .int a2]) (res := fun z => (some (.int z), h)) rfl (Nat.le_of_ble_eq_true rfl) (fun r => ?_) hz
  unfold f_X11_sumOver
  refine am_J.go (cf' := (4, [some (.ref a), some (.int a2), some (.int 0), some (.int 0)], [], h)) 4 rfl ?_
  refine am_J.weak (L' := [some (.ref a), some (.int a2), some (.int 0), some (.int 0)]) (am_Lle.k (am_Lle.k (am_Lle.k (am_Lle.k am_Lle.nil)))) ?_
  refine am_J.loop (cl := fun q => match q with | (s1, s2) => (4, [some (.ref a), some (.int a2), some (.int s1), some (.int s2)], [], h)) (GX := fun e6 => am_Ev (am_ro xs) 1 mc_X11_sumOver (34, [none, none, some (.int e6), none], [], h) r) ?_ ?_
  · rintro ⟨s1, s2⟩
    unfold f_X11_sumOver_l1
    refine am_J.go 2 rfl ?_
    refine am_J.len (xs := ys) rfl ha hh ?_
    refine am_J.ge rfl ?_ ?_
    · refine am_J.go (cf' := (34, [some (.ref a), some (.int a2), some (.int s1), some (.int s2)], [], h)) 0 rfl ?_
      exact am_J.leaf (fun k => am_Ev.weak (L' := [none, none, some (.int s1), none]) (am_Lle.o (am_Lle.o (am_Lle.k (am_Lle.o am_Lle.nil)))) k)
    · refine am_J.go 3 rfl ?_
      refine am_J.callz (v := fun r3 => r3) (h' := fun r3 => h) rfl rfl rfl (fun r3 hw => (t_X11_has (h := h) a2 s2 hw)) (fun r3 hr3 => ?_)
      refine am_J.join (β := Int32) (cj := fun j5 => (26, [some (.ref a), some (.int a2), none, some (.int s2)], [.int j5, .int s1], h)) ?_ ?_
      · refine am_J.eq rfl ?_ ?_
        · refine am_J.go (cf' := (26, [some (.ref a), some (.int a2), some (.int s1), some (.int s2)], [.int 0, .int s1], h)) 1 rfl ?_
          exact am_J.leaf (fun k => am_Ev.weak (L' := [some (.ref a), some (.int a2), none, some (.int s2)]) (am_Lle.k (am_Lle.k (am_Lle.o (am_Lle.k am_Lle.nil)))) k)
        · refine am_J.go 2 rfl ?_
          refine am_J.ial (xs := ys) rfl ha hh (fun v4 => ?_)
          refine am_J.go (cf' := (26, [some (.ref a), some (.int a2), some (.int s1), some (.int s2)], [.int v4, .int s1], h)) 1 rfl ?_
          exact am_J.leaf (fun k => am_Ev.weak (L' := [some (.ref a), some (.int a2), none, some (.int s2)]) (am_Lle.k (am_Lle.k (am_Lle.o (am_Lle.k am_Lle.nil)))) k)
      · rintro j5
        refine am_J.go (cf' := (4, [some (.ref a), some (.int a2), some (.int (s1 + j5)), some (.int (s2 + 1))], [], h)) 4 rfl ?_
        exact am_J.leaf (fun k => am_Ev.weak (L' := [some (.ref a), some (.int a2), some (.int (s1 + j5)), some (.int (s2 + 1))]) (am_Lle.k (am_Lle.k (am_Lle.k (am_Lle.k am_Lle.nil)))) k)
  · rintro e6
    refine (?_ : am_J (am_ro xs) 1 mc_X11_sumOver r (34, [none, none, some (.int e6), none], [], h) _ _)
    refine am_J.go 1 rfl ?_
    exact am_J.ret rfl (fun k => k)

def f_X12_both (A : Nat → List Int32) (I : Nat → Int32) (a1 : Int32) (a2 : Int32) (a3 : Int32) : Option (Int32) :=
  (if a1 = (-7) then
    some (a2 - a3)
  else
  (if a1 = (-6) then
    some (a2 + a3)
  else
  (if a1 = (-5) then
    (if a2 = a3 then
      some 1
    else
      some 0)
  else
  (if a1 = (-4) then
    (if a3 ≤ a2 then
      some 0
    else
      some 1)
  else
  (if a1 = (-3) then
    some (a2 * a3)
  else
  (if a1 = (-2) then
    (if a2 = 0 then
      some 0
    else
      (if a3 = 0 then
        some 0
      else
        some 1))
  else
  (if a1 = (-1) then
    (if a2 = 0 then
      (if a3 = 0 then
        some 0
      else
        some 1)
    else
      some 1)
  else
  some (a2 * a3))))))))
set_option maxRecDepth 100000 in
set_option maxHeartbeats 4000000 in
theorem t_X12_both {xs : List Int32} (A : Nat → List Int32) (I : Nat → Int32) (x : am_X) (a1 : Int32) (a2 : Int32) (a3 : Int32) {z : Int32} (hz : f_X12_both A I a1 a2 a3 = some z) : am_Rt (am_ro xs) 1 ix_X12_both [.ref 85, .int a1, .int a2, .int a3] (hp A I x) (some (.int z), hp A I x) := by
  refine am_Rt.J (k := ix_X12_both) (M := mc_X12_both) (nL := 4) (d := 0) (as := [.ref 85, .int a1, .int a2, .int a3]) (res := fun z => (some (.int z), hp A I x)) rfl (Nat.le_of_ble_eq_true rfl) (fun r => ?_) hz
  unfold f_X12_both
  refine am_J.go 1 rfl ?_
  refine am_J.sw (c := (-7)) (fun v => (1, [some (.ref 85), some (.int a1), some (.int a2), some (.int a3)], [.int v], hp A I x)) ?_ (fun hs0 => ?_)
  · refine am_J.go 1 rfl ?_
    refine am_J.go 3 rfl ?_
    exact am_J.ret rfl (fun k => k)
  refine am_J.sw (c := (-6)) (fun v => (1, [some (.ref 85), some (.int a1), some (.int a2), some (.int a3)], [.int v], hp A I x)) ?_ (fun hs1 => ?_)
  · refine am_J.go 1 rfl ?_
    refine am_J.go 3 rfl ?_
    exact am_J.ret rfl (fun k => k)
  refine am_J.sw (c := (-5)) (fun v => (1, [some (.ref 85), some (.int a1), some (.int a2), some (.int a3)], [.int v], hp A I x)) ?_ (fun hs2 => ?_)
  · refine am_J.go 1 rfl ?_
    refine am_J.go 2 rfl ?_
    refine am_J.ne rfl ?_ ?_
    · refine am_J.go 2 rfl ?_
      exact am_J.ret rfl (fun k => k)
    · refine am_J.go 1 rfl ?_
      exact am_J.ret rfl (fun k => k)
  refine am_J.sw (c := (-4)) (fun v => (1, [some (.ref 85), some (.int a1), some (.int a2), some (.int a3)], [.int v], hp A I x)) ?_ (fun hs3 => ?_)
  · refine am_J.go 1 rfl ?_
    refine am_J.go 2 rfl ?_
    refine am_J.ge rfl ?_ ?_
    · refine am_J.go 1 rfl ?_
      exact am_J.ret rfl (fun k => k)
    · refine am_J.go 2 rfl ?_
      exact am_J.ret rfl (fun k => k)
  refine am_J.sw (c := (-3)) (fun v => (1, [some (.ref 85), some (.int a1), some (.int a2), some (.int a3)], [.int v], hp A I x)) ?_ (fun hs4 => ?_)
  · refine am_J.go 1 rfl ?_
    refine am_J.go 3 rfl ?_
    exact am_J.ret rfl (fun k => k)
  refine am_J.sw (c := (-2)) (fun v => (1, [some (.ref 85), some (.int a1), some (.int a2), some (.int a3)], [.int v], hp A I x)) ?_ (fun hs5 => ?_)
  · refine am_J.go 1 rfl ?_
    refine am_J.go 1 rfl ?_
    refine am_J.eq rfl ?_ ?_
    · refine am_J.go 1 rfl ?_
      exact am_J.ret rfl (fun k => k)
    · refine am_J.go 1 rfl ?_
      refine am_J.eq rfl ?_ ?_
      · refine am_J.go 1 rfl ?_
        exact am_J.ret rfl (fun k => k)
      · refine am_J.go 2 rfl ?_
        exact am_J.ret rfl (fun k => k)
  refine am_J.sw (c := (-1)) (fun v => (1, [some (.ref 85), some (.int a1), some (.int a2), some (.int a3)], [.int v], hp A I x)) ?_ (fun hs6 => ?_)
  · refine am_J.go 1 rfl ?_
    refine am_J.go 1 rfl ?_
    refine am_J.ne rfl ?_ ?_
    · refine am_J.go 1 rfl ?_
      refine am_J.eq rfl ?_ ?_
      · refine am_J.go 1 rfl ?_
        exact am_J.ret rfl (fun k => k)
      · refine am_J.go 2 rfl ?_
        exact am_J.ret rfl (fun k => k)
    · refine am_J.go 2 rfl ?_
      exact am_J.ret rfl (fun k => k)
  refine am_J.swd rfl (am_out (-7) (-1) (fun c h1 h2 q => ?_)) rfl ?_
  · rcases (show c = -7 ∨ c = -6 ∨ c = -5 ∨ c = -4 ∨ c = -3 ∨ c = -2 ∨ c = -1 by omega) with rfl | rfl | rfl | rfl | rfl | rfl | rfl
    · exact hs0 (Int32.toInt_inj.mp (q.trans (by decide)))
    · exact hs1 (Int32.toInt_inj.mp (q.trans (by decide)))
    · exact hs2 (Int32.toInt_inj.mp (q.trans (by decide)))
    · exact hs3 (Int32.toInt_inj.mp (q.trans (by decide)))
    · exact hs4 (Int32.toInt_inj.mp (q.trans (by decide)))
    · exact hs5 (Int32.toInt_inj.mp (q.trans (by decide)))
    · exact hs6 (Int32.toInt_inj.mp (q.trans (by decide)))
  · refine am_J.go 3 rfl ?_
    exact am_J.ret rfl (fun k => k)

def f_X12_count (A : Nat → List Int32) (I : Nat → Int32) (a1 : Int32) : Option (Int32) :=
  (if a1 = 0 then
    some (I 5442)
  else
  (if a1 = 1 then
    some (I 5450)
  else
  (if a1 = 2 then
    some (I 5443)
  else
  (if a1 = 3 then
    some (I 5476)
  else
  (if a1 = 4 then
    some (I 5481)
  else
  (if a1 = 5 then
    some (I 5486)
  else
  (if a1 = 6 then
    some (I 5460)
  else
  (if a1 = 7 then
    some (I 5459)
  else
  (if a1 = 8 then
    ((am_at (A 102) (a1 - 8)).bind fun v1 =>
    some v1)
  else
  (if a1 = 9 then
    ((am_at (A 102) (a1 - 8)).bind fun v2 =>
    some v2)
  else
  (if a1 = 10 then
    ((am_at (A 102) (a1 - 8)).bind fun v3 =>
    some v3)
  else
  some (-2))))))))))))
set_option maxRecDepth 100000 in
set_option maxHeartbeats 4000000 in
theorem t_X12_count {xs : List Int32} (A : Nat → List Int32) (I : Nat → Int32) (x : am_X) (a1 : Int32) {z : Int32} (hz : f_X12_count A I a1 = some z) : am_Rt (am_ro xs) 1 ix_X12_count [.ref 85, .int a1] (hp A I x) (some (.int z), hp A I x) := by
  refine am_Rt.J (k := ix_X12_count) (M := mc_X12_count) (nL := 2) (d := 0) (as := [.ref 85, .int a1]) (res := fun z => (some (.int z), hp A I x)) rfl (Nat.le_of_ble_eq_true rfl) (fun r => ?_) hz
  unfold f_X12_count
  refine am_J.go 1 rfl ?_
  refine am_J.sw (c := 0) (fun v => (1, [some (.ref 85), some (.int a1)], [.int v], hp A I x)) ?_ (fun hs0 => ?_)
  · refine am_J.go 1 rfl ?_
    refine am_J.go 2 rfl ?_
    exact am_J.ret rfl (fun k => k)
  refine am_J.sw (c := 1) (fun v => (1, [some (.ref 85), some (.int a1)], [.int v], hp A I x)) ?_ (fun hs1 => ?_)
  · refine am_J.go 1 rfl ?_
    refine am_J.go 2 rfl ?_
    exact am_J.ret rfl (fun k => k)
  refine am_J.sw (c := 2) (fun v => (1, [some (.ref 85), some (.int a1)], [.int v], hp A I x)) ?_ (fun hs2 => ?_)
  · refine am_J.go 1 rfl ?_
    refine am_J.go 2 rfl ?_
    exact am_J.ret rfl (fun k => k)
  refine am_J.sw (c := 3) (fun v => (1, [some (.ref 85), some (.int a1)], [.int v], hp A I x)) ?_ (fun hs3 => ?_)
  · refine am_J.go 1 rfl ?_
    refine am_J.go 2 rfl ?_
    exact am_J.ret rfl (fun k => k)
  refine am_J.sw (c := 4) (fun v => (1, [some (.ref 85), some (.int a1)], [.int v], hp A I x)) ?_ (fun hs4 => ?_)
  · refine am_J.go 1 rfl ?_
    refine am_J.go 2 rfl ?_
    exact am_J.ret rfl (fun k => k)
  refine am_J.sw (c := 5) (fun v => (1, [some (.ref 85), some (.int a1)], [.int v], hp A I x)) ?_ (fun hs5 => ?_)
  · refine am_J.go 1 rfl ?_
    refine am_J.go 2 rfl ?_
    exact am_J.ret rfl (fun k => k)
  refine am_J.sw (c := 6) (fun v => (1, [some (.ref 85), some (.int a1)], [.int v], hp A I x)) ?_ (fun hs6 => ?_)
  · refine am_J.go 1 rfl ?_
    refine am_J.go 2 rfl ?_
    exact am_J.ret rfl (fun k => k)
  refine am_J.sw (c := 7) (fun v => (1, [some (.ref 85), some (.int a1)], [.int v], hp A I x)) ?_ (fun hs7 => ?_)
  · refine am_J.go 1 rfl ?_
    refine am_J.go 2 rfl ?_
    exact am_J.ret rfl (fun k => k)
  refine am_J.sw (c := 8) (fun v => (1, [some (.ref 85), some (.int a1)], [.int v], hp A I x)) ?_ (fun hs8 => ?_)
  · refine am_J.go 1 rfl ?_
    refine am_J.go 5 rfl ?_
    refine am_J.ial (xs := (A 102)) rfl (Nat.le_of_ble_eq_true rfl) rfl (fun v1 => ?_)
    exact am_J.ret rfl (fun k => k)
  refine am_J.sw (c := 9) (fun v => (1, [some (.ref 85), some (.int a1)], [.int v], hp A I x)) ?_ (fun hs9 => ?_)
  · refine am_J.go 1 rfl ?_
    refine am_J.go 5 rfl ?_
    refine am_J.ial (xs := (A 102)) rfl (Nat.le_of_ble_eq_true rfl) rfl (fun v2 => ?_)
    exact am_J.ret rfl (fun k => k)
  refine am_J.sw (c := 10) (fun v => (1, [some (.ref 85), some (.int a1)], [.int v], hp A I x)) ?_ (fun hs10 => ?_)
  · refine am_J.go 1 rfl ?_
    refine am_J.go 5 rfl ?_
    refine am_J.ial (xs := (A 102)) rfl (Nat.le_of_ble_eq_true rfl) rfl (fun v3 => ?_)
    exact am_J.ret rfl (fun k => k)
  refine am_J.swd rfl (am_out (0) (10) (fun c h1 h2 q => ?_)) rfl ?_
  · rcases (show c = 0 ∨ c = 1 ∨ c = 2 ∨ c = 3 ∨ c = 4 ∨ c = 5 ∨ c = 6 ∨ c = 7 ∨ c = 8 ∨ c = 9 ∨ c = 10 by omega) with rfl | rfl | rfl | rfl | rfl | rfl | rfl | rfl | rfl | rfl | rfl
    · exact hs0 (Int32.toInt_inj.mp (q.trans (by decide)))
    · exact hs1 (Int32.toInt_inj.mp (q.trans (by decide)))
    · exact hs2 (Int32.toInt_inj.mp (q.trans (by decide)))
    · exact hs3 (Int32.toInt_inj.mp (q.trans (by decide)))
    · exact hs4 (Int32.toInt_inj.mp (q.trans (by decide)))
    · exact hs5 (Int32.toInt_inj.mp (q.trans (by decide)))
    · exact hs6 (Int32.toInt_inj.mp (q.trans (by decide)))
    · exact hs7 (Int32.toInt_inj.mp (q.trans (by decide)))
    · exact hs8 (Int32.toInt_inj.mp (q.trans (by decide)))
    · exact hs9 (Int32.toInt_inj.mp (q.trans (by decide)))
    · exact hs10 (Int32.toInt_inj.mp (q.trans (by decide)))
  · refine am_J.go 1 rfl ?_
    exact am_J.ret rfl (fun k => k)

def f_X12_findFar_l1 (A : Nat → List Int32) (I : Nat → Int32) : (Int32 × (List Int32)) → Option ((Int32 × (List Int32)) ⊕ ((List Int32))) := fun q => match q with
    | (s1, s2) =>
    (if 64 ≤ s1 then
      some (.inr s2)
    else
      ((am_at (A 86) s1).bind fun v3 =>
      ((am_up s2 s1 v3).bind fun y4 =>
      some (.inl ((s1 + 1), y4)))))
def f_X12_findFar_l4 (A : Nat → List Int32) (I : Nat → Int32) (s6 : Int32) (s8 : Int32) : (Int32 × (List Int32)) → Option ((Int32 × (List Int32)) ⊕ ((List Int32))) := fun q => match q with
    | (s10, s11) =>
    (if 8 ≤ s10 then
      some (.inr s11)
    else
      ((am_at s11 ((8 * s8) + s6)).bind fun v12 =>
      ((am_at s11 ((8 * s6) + s10)).bind fun v13 =>
      ((am_at s11 ((8 * s8) + s10)).bind fun v14 =>
      (((if v14 ≤ (v12 + v13) then
          some s11
        else
          ((am_up s11 ((8 * s8) + s10) (v12 + v13)).bind fun y15 =>
          some y15)) : Option ((List Int32))).bind (fun j16 =>
      some (.inl ((s10 + 1), j16))))))))
def f_X12_findFar_l3 (A : Nat → List Int32) (I : Nat → Int32) (s6 : Int32) : (Int32 × (List Int32)) → Option ((Int32 × (List Int32)) ⊕ ((List Int32))) := fun q => match q with
    | (s8, s9) =>
    (if 8 ≤ s8 then
      some (.inr s9)
    else
      ((wl (f_X12_findFar_l4 (up A 87 s9) I s6 s8) 100000 (0, s9)).bind (fun e17 =>
      some (.inl ((s8 + 1), e17)))))
def f_X12_findFar_l2 (A : Nat → List Int32) (I : Nat → Int32) : (Int32 × (List Int32)) → Option ((Int32 × (List Int32)) ⊕ ((List Int32))) := fun q => match q with
    | (s6, s7) =>
    (if 8 ≤ s6 then
      some (.inr s7)
    else
      ((wl (f_X12_findFar_l3 (up A 87 s7) I s6) 100000 (0, s7)).bind (fun e18 =>
      some (.inl ((s6 + 1), e18)))))
def f_X12_findFar (A : Nat → List Int32) (I : Nat → Int32) : Option ((List Int32)) :=
  ((wl (f_X12_findFar_l1 A I) 100000 (0, (A 87))).bind (fun e5 =>
  ((wl (f_X12_findFar_l2 (up A 87 e5) I) 100000 (0, e5)).bind (fun e19 =>
  some e19))))
set_option maxRecDepth 100000 in
set_option maxHeartbeats 4000000 in
theorem t_X12_findFar {xs : List Int32} (A : Nat → List Int32) (I : Nat → Int32) (x : am_X) {z : (List Int32)} (hz : f_X12_findFar A I = some z) : am_Rt (am_ro xs) 1 ix_X12_findFar [.ref 85] (hp A I x) (none, hp (up A 87 z) I x) := by
  refine am_Rt.J (k := ix_X12_findFar) (M := mc_X12_findFar) (nL := 5) (d := 0) (as := [.ref 85]) (res := fun z => (none, hp (up A 87 z) I x)) rfl (Nat.le_of_ble_eq_true rfl) (fun r => ?_) hz
  unfold f_X12_findFar
  refine am_J.go (cf' := (2, [some (.ref 85), some (.int 0), none, none, none], [], hp A I x)) 2 rfl ?_
  refine am_J.weak (L' := [some (.ref 85), some (.int 0), none, none, none]) (am_Lle.k (am_Lle.k (am_Lle.o (am_Lle.o (am_Lle.o am_Lle.nil))))) ?_
  refine am_J.loop (cl := fun q => match q with | (s1, s2) => (2, [some (.ref 85), some (.int s1), none, none, none], [], hp (up A 87 s2) I x)) (GX := fun e5 => am_Ev (am_ro xs) 0 mc_X12_findFar (26, [some (.ref 85), none, none, none, none], [], hp (up A 87 e5) I x) r) ?_ ?_
  · rintro ⟨s1, s2⟩
    unfold f_X12_findFar_l1
    refine am_J.go 2 rfl ?_
    refine am_J.ge rfl ?_ ?_
    · refine am_J.go (cf' := (26, [some (.ref 85), some (.int s1), none, none, none], [], hp (up A 87 s2) I x)) 0 rfl ?_
      exact am_J.leaf (fun k => am_Ev.weak (L' := [some (.ref 85), none, none, none, none]) (am_Lle.k (am_Lle.o (am_Lle.o (am_Lle.o (am_Lle.o am_Lle.nil))))) k)
    · refine am_J.go 6 rfl ?_
      refine am_J.ial (xs := (A 86)) rfl (Nat.le_of_ble_eq_true rfl) rfl (fun v3 => ?_)
      refine am_J.ias (xs := s2) (h' := fun y4 => hp (up A 87 y4) I x) rfl rfl (fun _ => rfl) (fun y4 => ?_)
      refine am_J.go (cf' := (2, [some (.ref 85), some (.int (s1 + 1)), none, none, none], [], hp (up A 87 y4) I x)) 2 rfl ?_
      exact am_J.leaf (fun k => am_Ev.weak (L' := [some (.ref 85), some (.int (s1 + 1)), none, none, none]) (am_Lle.k (am_Lle.k (am_Lle.o (am_Lle.o (am_Lle.o am_Lle.nil))))) k)
  · rintro e5
    refine (?_ : am_J (am_ro xs) 0 mc_X12_findFar r (26, [some (.ref 85), none, none, none, none], [], hp (up A 87 e5) I x) _ _)
    refine am_J.go (cf' := (28, [some (.ref 85), some (.int 0), none, none, none], [], hp (up A 87 e5) I x)) 2 rfl ?_
    refine am_J.weak (L' := [some (.ref 85), some (.int 0), none, none, none]) (am_Lle.k (am_Lle.k (am_Lle.o (am_Lle.o (am_Lle.o am_Lle.nil))))) ?_
    refine am_J.loop (cl := fun q => match q with | (s6, s7) => (28, [some (.ref 85), some (.int s6), none, none, none], [], hp (up A 87 s7) I x)) (GX := fun e19 => am_Ev (am_ro xs) 0 mc_X12_findFar (122, [none, none, none, none, none], [], hp (up A 87 e19) I x) r) ?_ ?_
    · rintro ⟨s6, s7⟩
      unfold f_X12_findFar_l2
      refine am_J.go 2 rfl ?_
      refine am_J.ge rfl ?_ ?_
      · refine am_J.go (cf' := (122, [some (.ref 85), some (.int s6), none, none, none], [], hp (up (up A 87 e5) 87 s7) I x)) 0 rfl ?_
        exact am_J.leaf (fun k => am_Ev.weak (L' := [none, none, none, none, none]) (am_Lle.o (am_Lle.o (am_Lle.o (am_Lle.o (am_Lle.o am_Lle.nil))))) k)
      · refine am_J.go (cf' := (36, [some (.ref 85), some (.int s6), some (.int 0), none, none], [], hp (up (up A 87 e5) 87 s7) I x)) 2 rfl ?_
        refine am_J.weak (L' := [some (.ref 85), some (.int s6), some (.int 0), none, none]) (am_Lle.k (am_Lle.k (am_Lle.k (am_Lle.o (am_Lle.o am_Lle.nil))))) ?_
        refine am_J.loop (cl := fun q => match q with | (s8, s9) => (36, [some (.ref 85), some (.int s6), some (.int s8), none, none], [], hp (up (up A 87 e5) 87 s9) I x)) (GX := fun e18 => am_Ev (am_ro xs) 0 mc_X12_findFar (116, [some (.ref 85), some (.int s6), none, none, none], [], hp (up (up A 87 e5) 87 e18) I x) r) ?_ ?_
        · rintro ⟨s8, s9⟩
          unfold f_X12_findFar_l3
          refine am_J.go 2 rfl ?_
          refine am_J.ge rfl ?_ ?_
          · refine am_J.go (cf' := (116, [some (.ref 85), some (.int s6), some (.int s8), none, none], [], hp (up (up (up A 87 e5) 87 s7) 87 s9) I x)) 0 rfl ?_
            exact am_J.leaf (fun k => am_Ev.weak (L' := [some (.ref 85), some (.int s6), none, none, none]) (am_Lle.k (am_Lle.k (am_Lle.o (am_Lle.o (am_Lle.o am_Lle.nil))))) k)
          · refine am_J.go (cf' := (44, [some (.ref 85), some (.int s6), some (.int s8), some (.int 0), none], [], hp (up (up (up A 87 e5) 87 s7) 87 s9) I x)) 2 rfl ?_
            refine am_J.weak (L' := [some (.ref 85), some (.int s6), some (.int s8), some (.int 0), none]) (am_Lle.k (am_Lle.k (am_Lle.k (am_Lle.k (am_Lle.o am_Lle.nil))))) ?_
            refine am_J.loop (cl := fun q => match q with | (s10, s11) => (44, [some (.ref 85), some (.int s6), some (.int s8), some (.int s10), none], [], hp (up (up (up A 87 e5) 87 s7) 87 s11) I x)) (GX := fun e17 => am_Ev (am_ro xs) 0 mc_X12_findFar (110, [some (.ref 85), some (.int s6), some (.int s8), none, none], [], hp (up (up (up A 87 e5) 87 s7) 87 e17) I x) r) ?_ ?_
            · rintro ⟨s10, s11⟩
              unfold f_X12_findFar_l4
              refine am_J.go 2 rfl ?_
              refine am_J.ge rfl ?_ ?_
              · refine am_J.go (cf' := (110, [some (.ref 85), some (.int s6), some (.int s8), some (.int s10), none], [], hp (up (up (up (up A 87 e5) 87 s7) 87 s9) 87 s11) I x)) 0 rfl ?_
                exact am_J.leaf (fun k => am_Ev.weak (L' := [some (.ref 85), some (.int s6), some (.int s8), none, none]) (am_Lle.k (am_Lle.k (am_Lle.k (am_Lle.o (am_Lle.o am_Lle.nil))))) k)
              · refine am_J.go 7 rfl ?_
                refine am_J.ial (xs := s11) rfl (Nat.le_of_ble_eq_true rfl) rfl (fun v12 => ?_)
                refine am_J.go 7 rfl ?_
                refine am_J.ial (xs := s11) rfl (Nat.le_of_ble_eq_true rfl) rfl (fun v13 => ?_)
                refine am_J.go 10 rfl ?_
                refine am_J.ial (xs := s11) rfl (Nat.le_of_ble_eq_true rfl) rfl (fun v14 => ?_)
                refine am_J.join (β := (List Int32)) (cj := fun j16 => (104, [some (.ref 85), some (.int s6), some (.int s8), some (.int s10), none], [], hp (up (up (up (up A 87 e5) 87 s7) 87 s9) 87 j16) I x)) ?_ ?_
                · refine am_J.ge rfl ?_ ?_
                  · refine am_J.go (cf' := (104, [some (.ref 85), some (.int s6), some (.int s8), some (.int s10), some (.int (v12 + v13))], [], hp (up (up (up (up A 87 e5) 87 s7) 87 s9) 87 s11) I x)) 0 rfl ?_
                    exact am_J.leaf (fun k => am_Ev.weak (L' := [some (.ref 85), some (.int s6), some (.int s8), some (.int s10), none]) (am_Lle.k (am_Lle.k (am_Lle.k (am_Lle.k (am_Lle.o am_Lle.nil))))) k)
                  · refine am_J.go 8 rfl ?_
                    refine am_J.ias (xs := s11) (h' := fun y15 => hp (up (up (up (up A 87 e5) 87 s7) 87 s9) 87 y15) I x) rfl rfl (fun _ => rfl) (fun y15 => ?_)
                    refine am_J.go (cf' := (104, [some (.ref 85), some (.int s6), some (.int s8), some (.int s10), some (.int (v12 + v13))], [], hp (up (up (up (up A 87 e5) 87 s7) 87 s9) 87 y15) I x)) 0 rfl ?_
                    exact am_J.leaf (fun k => am_Ev.weak (L' := [some (.ref 85), some (.int s6), some (.int s8), some (.int s10), none]) (am_Lle.k (am_Lle.k (am_Lle.k (am_Lle.k (am_Lle.o am_Lle.nil))))) k)
                · rintro j16
                  refine am_J.go (cf' := (44, [some (.ref 85), some (.int s6), some (.int s8), some (.int (s10 + 1)), none], [], hp (up (up (up (up A 87 e5) 87 s7) 87 s9) 87 j16) I x)) 2 rfl ?_
                  exact am_J.leaf (fun k => am_Ev.weak (L' := [some (.ref 85), some (.int s6), some (.int s8), some (.int (s10 + 1)), none]) (am_Lle.k (am_Lle.k (am_Lle.k (am_Lle.k (am_Lle.o am_Lle.nil))))) k)
            · rintro e17
              refine (?_ : am_J (am_ro xs) 0 mc_X12_findFar r (110, [some (.ref 85), some (.int s6), some (.int s8), none, none], [], hp (up (up (up A 87 e5) 87 s7) 87 e17) I x) _ _)
              refine am_J.go (cf' := (36, [some (.ref 85), some (.int s6), some (.int (s8 + 1)), none, none], [], hp (up (up (up A 87 e5) 87 s7) 87 e17) I x)) 2 rfl ?_
              exact am_J.leaf (fun k => am_Ev.weak (L' := [some (.ref 85), some (.int s6), some (.int (s8 + 1)), none, none]) (am_Lle.k (am_Lle.k (am_Lle.k (am_Lle.o (am_Lle.o am_Lle.nil))))) k)
        · rintro e18
          refine (?_ : am_J (am_ro xs) 0 mc_X12_findFar r (116, [some (.ref 85), some (.int s6), none, none, none], [], hp (up (up A 87 e5) 87 e18) I x) _ _)
          refine am_J.go (cf' := (28, [some (.ref 85), some (.int (s6 + 1)), none, none, none], [], hp (up (up A 87 e5) 87 e18) I x)) 2 rfl ?_
          exact am_J.leaf (fun k => am_Ev.weak (L' := [some (.ref 85), some (.int (s6 + 1)), none, none, none]) (am_Lle.k (am_Lle.k (am_Lle.o (am_Lle.o (am_Lle.o am_Lle.nil))))) k)
    · rintro e19
      refine (?_ : am_J (am_ro xs) 0 mc_X12_findFar r (122, [none, none, none, none, none], [], hp (up A 87 e19) I x) _ _)
      exact am_J.ret rfl (fun k => k)

def f_X12_firmOf_l2 (A : Nat → List Int32) (I : Nat → Int32) (a1 : Int32) (a2 : Int32) : (Int32 × Int32 × Int32) → Option ((Int32 × Int32 × Int32) ⊕ (Int32 × Int32)) := fun q => match q with
    | (s3, s4, s5) =>
    (if (I 5450) ≤ s5 then
      some (.inr (s3, s4))
    else
      (((if ((s3 >>> (s5 &&& 31)) &&& 1) = 1 then
          some (s3, s4)
        else
          (if ((a1 >>> (s5 &&& 31)) &&& 1) = 0 then
            some (s3, s4)
          else
            (if ((a2 >>> (s5 &&& 31)) &&& 1) = 0 then
              ((am_at (A 99) s5).bind fun v6 =>
              (if (v6 &&& (s3 ^^^ (-1))) = 0 then
                some ((s3 ||| (1 <<< (s5 &&& 31))), 1)
              else
                some (s3, s4)))
            else
              some ((s3 ||| (1 <<< (s5 &&& 31))), 1)))) : Option (Int32 × Int32)).bind (fun q => match q with
      | (j7, j8) =>
      some (.inl (j7, j8, (s5 + 1))))))
def f_X12_firmOf_l1 (A : Nat → List Int32) (I : Nat → Int32) (a1 : Int32) (a2 : Int32) : (Int32 × Int32) → Option ((Int32 × Int32) ⊕ (Int32)) := fun q => match q with
    | (s1, s2) =>
    (if s2 = 0 then
      some (.inr s1)
    else
      ((wl (f_X12_firmOf_l2 A I a1 a2) 100000 (s1, 0, 0)).bind (fun q => match q with
      | (e9, e10) =>
      some (.inl (e9, e10)))))
def f_X12_firmOf (A : Nat → List Int32) (I : Nat → Int32) (a1 : Int32) (a2 : Int32) : Option (Int32) :=
  ((wl (f_X12_firmOf_l1 A I a1 a2) 100000 (0, 1)).bind (fun e11 =>
  some e11))
set_option maxRecDepth 100000 in
set_option maxHeartbeats 4000000 in
theorem t_X12_firmOf {xs : List Int32} (A : Nat → List Int32) (I : Nat → Int32) (x : am_X) (a1 : Int32) (a2 : Int32) {z : Int32} (hz : f_X12_firmOf A I a1 a2 = some z) : am_Rt (am_ro xs) 1 ix_X12_firmOf [.ref 85, .int a1, .int a2] (hp A I x) (some (.int z), hp A I x) := by
  refine am_Rt.J (k := ix_X12_firmOf) (M := mc_X12_firmOf) (nL := 6) (d := 0) (as := [.ref 85, .int a1, .int a2]) (res := fun z => (some (.int z), hp A I x)) rfl (Nat.le_of_ble_eq_true rfl) (fun r => ?_) hz
  unfold f_X12_firmOf
  refine am_J.go (cf' := (5, [some (.ref 85), some (.int a1), some (.int a2), some (.int 0), some (.int 1), none], [], hp A I x)) 4 rfl ?_
  refine am_J.weak (L' := [some (.ref 85), some (.int a1), some (.int a2), some (.int 0), some (.int 1), none]) (am_Lle.k (am_Lle.k (am_Lle.k (am_Lle.k (am_Lle.k (am_Lle.o am_Lle.nil)))))) ?_
  refine am_J.loop (cl := fun q => match q with | (s1, s2) => (5, [some (.ref 85), some (.int a1), some (.int a2), some (.int s1), some (.int s2), none], [], hp A I x)) (GX := fun e11 => am_Ev (am_ro xs) 0 mc_X12_firmOf (89, [none, none, none, some (.int e11), none, none], [], hp A I x) r) ?_ ?_
  · rintro ⟨s1, s2⟩
    unfold f_X12_firmOf_l1
    refine am_J.go 1 rfl ?_
    refine am_J.eq rfl ?_ ?_
    · refine am_J.go (cf' := (89, [some (.ref 85), some (.int a1), some (.int a2), some (.int s1), some (.int s2), none], [], hp A I x)) 0 rfl ?_
      exact am_J.leaf (fun k => am_Ev.weak (L' := [none, none, none, some (.int s1), none, none]) (am_Lle.o (am_Lle.o (am_Lle.o (am_Lle.k (am_Lle.o (am_Lle.o am_Lle.nil)))))) k)
    · refine am_J.go (cf' := (16, [some (.ref 85), some (.int a1), some (.int a2), some (.int s1), some (.int 0), some (.int 0)], [], hp A I x)) 4 rfl ?_
      refine am_J.weak (L' := [some (.ref 85), some (.int a1), some (.int a2), some (.int s1), some (.int 0), some (.int 0)]) (am_Lle.k (am_Lle.k (am_Lle.k (am_Lle.k (am_Lle.k (am_Lle.k am_Lle.nil)))))) ?_
      refine am_J.loop (cl := fun q => match q with | (s3, s4, s5) => (16, [some (.ref 85), some (.int a1), some (.int a2), some (.int s3), some (.int s4), some (.int s5)], [], hp A I x)) (GX := fun q => match q with | (e9, e10) => am_Ev (am_ro xs) 0 mc_X12_firmOf (86, [some (.ref 85), some (.int a1), some (.int a2), some (.int e9), some (.int e10), none], [], hp A I x) r) ?_ ?_
      · rintro ⟨s3, s4, s5⟩
        unfold f_X12_firmOf_l2
        refine am_J.go 3 rfl ?_
        refine am_J.ge rfl ?_ ?_
        · refine am_J.go (cf' := (86, [some (.ref 85), some (.int a1), some (.int a2), some (.int s3), some (.int s4), some (.int s5)], [], hp A I x)) 0 rfl ?_
          exact am_J.leaf (fun k => am_Ev.weak (L' := [some (.ref 85), some (.int a1), some (.int a2), some (.int s3), some (.int s4), none]) (am_Lle.k (am_Lle.k (am_Lle.k (am_Lle.k (am_Lle.k (am_Lle.o am_Lle.nil)))))) k)
        · refine am_J.go 6 rfl ?_
          refine am_J.join (β := Int32 × Int32) (cj := fun q => match q with | (j7, j8) => (80, [some (.ref 85), some (.int a1), some (.int a2), some (.int j7), some (.int j8), some (.int s5)], [], hp A I x)) ?_ ?_
          · refine am_J.eq rfl ?_ ?_
            · refine am_J.go (cf' := (80, [some (.ref 85), some (.int a1), some (.int a2), some (.int s3), some (.int s4), some (.int s5)], [], hp A I x)) 0 rfl ?_
              exact am_J.leaf (fun k => am_Ev.weak (L' := [some (.ref 85), some (.int a1), some (.int a2), some (.int s3), some (.int s4), some (.int s5)]) (am_Lle.k (am_Lle.k (am_Lle.k (am_Lle.k (am_Lle.k (am_Lle.k am_Lle.nil)))))) k)
            · refine am_J.go 5 rfl ?_
              refine am_J.eq rfl ?_ ?_
              · refine am_J.go (cf' := (80, [some (.ref 85), some (.int a1), some (.int a2), some (.int s3), some (.int s4), some (.int s5)], [], hp A I x)) 0 rfl ?_
                exact am_J.leaf (fun k => am_Ev.weak (L' := [some (.ref 85), some (.int a1), some (.int a2), some (.int s3), some (.int s4), some (.int s5)]) (am_Lle.k (am_Lle.k (am_Lle.k (am_Lle.k (am_Lle.k (am_Lle.k am_Lle.nil)))))) k)
              · refine am_J.go 5 rfl ?_
                refine am_J.ne rfl ?_ ?_
                · refine am_J.go 3 rfl ?_
                  refine am_J.ial (xs := (A 99)) rfl (Nat.le_of_ble_eq_true rfl) rfl (fun v6 => ?_)
                  refine am_J.go 4 rfl ?_
                  refine am_J.eq rfl ?_ ?_
                  · refine am_J.go (cf' := (80, [some (.ref 85), some (.int a1), some (.int a2), some (.int (s3 ||| (1 <<< (s5 &&& 31)))), some (.int 1), some (.int s5)], [], hp A I x)) 8 rfl ?_
                    exact am_J.leaf (fun k => am_Ev.weak (L' := [some (.ref 85), some (.int a1), some (.int a2), some (.int (s3 ||| (1 <<< (s5 &&& 31)))), some (.int 1), some (.int s5)]) (am_Lle.k (am_Lle.k (am_Lle.k (am_Lle.k (am_Lle.k (am_Lle.k am_Lle.nil)))))) k)
                  · refine am_J.go (cf' := (80, [some (.ref 85), some (.int a1), some (.int a2), some (.int s3), some (.int s4), some (.int s5)], [], hp A I x)) 1 rfl ?_
                    exact am_J.leaf (fun k => am_Ev.weak (L' := [some (.ref 85), some (.int a1), some (.int a2), some (.int s3), some (.int s4), some (.int s5)]) (am_Lle.k (am_Lle.k (am_Lle.k (am_Lle.k (am_Lle.k (am_Lle.k am_Lle.nil)))))) k)
                · refine am_J.go (cf' := (80, [some (.ref 85), some (.int a1), some (.int a2), some (.int (s3 ||| (1 <<< (s5 &&& 31)))), some (.int 1), some (.int s5)], [], hp A I x)) 8 rfl ?_
                  exact am_J.leaf (fun k => am_Ev.weak (L' := [some (.ref 85), some (.int a1), some (.int a2), some (.int (s3 ||| (1 <<< (s5 &&& 31)))), some (.int 1), some (.int s5)]) (am_Lle.k (am_Lle.k (am_Lle.k (am_Lle.k (am_Lle.k (am_Lle.k am_Lle.nil)))))) k)
          · rintro ⟨j7, j8⟩
            refine am_J.go (cf' := (16, [some (.ref 85), some (.int a1), some (.int a2), some (.int j7), some (.int j8), some (.int (s5 + 1))], [], hp A I x)) 2 rfl ?_
            exact am_J.leaf (fun k => am_Ev.weak (L' := [some (.ref 85), some (.int a1), some (.int a2), some (.int j7), some (.int j8), some (.int (s5 + 1))]) (am_Lle.k (am_Lle.k (am_Lle.k (am_Lle.k (am_Lle.k (am_Lle.k am_Lle.nil)))))) k)
      · rintro ⟨e9, e10⟩
        refine (?_ : am_J (am_ro xs) 0 mc_X12_firmOf r (86, [some (.ref 85), some (.int a1), some (.int a2), some (.int e9), some (.int e10), none], [], hp A I x) _ _)
        refine am_J.go (cf' := (5, [some (.ref 85), some (.int a1), some (.int a2), some (.int e9), some (.int e10), none], [], hp A I x)) 1 rfl ?_
        exact am_J.leaf (fun k => am_Ev.weak (L' := [some (.ref 85), some (.int a1), some (.int a2), some (.int e9), some (.int e10), none]) (am_Lle.k (am_Lle.k (am_Lle.k (am_Lle.k (am_Lle.k (am_Lle.o am_Lle.nil)))))) k)
  · rintro e11
    refine (?_ : am_J (am_ro xs) 0 mc_X12_firmOf r (89, [none, none, none, some (.int e11), none, none], [], hp A I x) _ _)
    refine am_J.go 1 rfl ?_
    exact am_J.ret rfl (fun k => k)

def f_X12_goTogether_l1 (A : Nat → List Int32) (I : Nat → Int32) (a1 : Int32) : (Int32 × Int32) → Option ((Int32 × Int32) ⊕ (Int32)) := fun q => match q with
    | (s1, s2) =>
    (if (I 5486) ≤ s2 then
      some (.inr s1)
    else
      (((if s1 = 0 then
          some 0
        else
          (if ((a1 >>> (s2 &&& 31)) &&& 1) = 0 then
            some 1
          else
            ((am_at (A 119) s2).bind fun v3 =>
            (if (v3 &&& a1) = 0 then
              some 1
            else
              some 0)))) : Option (Int32)).bind (fun j4 =>
      some (.inl (j4, (s2 + 1))))))
def f_X12_goTogether (A : Nat → List Int32) (I : Nat → Int32) (a1 : Int32) : Option (Int32) :=
  ((wl (f_X12_goTogether_l1 A I a1) 100000 (1, 0)).bind (fun e5 =>
  (if e5 = 0 ∨ e5 = 1 then some e5 else none)))
set_option maxRecDepth 100000 in
set_option maxHeartbeats 4000000 in
theorem t_X12_goTogether {xs : List Int32} (A : Nat → List Int32) (I : Nat → Int32) (x : am_X) (a1 : Int32) {z : Int32} (hz : f_X12_goTogether A I a1 = some z) : am_Rt (am_ro xs) 1 ix_X12_goTogether [.ref 85, .int a1] (hp A I x) (some (.int z), hp A I x) := by
  refine am_Rt.J (k := ix_X12_goTogether) (M := mc_X12_goTogether) (nL := 4) (d := 0) (as := [.ref 85, .int a1]) (res := fun z => (some (.int z), hp A I x)) rfl (Nat.le_of_ble_eq_true rfl) (fun r => ?_) hz
  unfold f_X12_goTogether
  refine am_J.go (cf' := (4, [some (.ref 85), some (.int a1), some (.int 1), some (.int 0)], [], hp A I x)) 4 rfl ?_
  refine am_J.weak (L' := [some (.ref 85), some (.int a1), some (.int 1), some (.int 0)]) (am_Lle.k (am_Lle.k (am_Lle.k (am_Lle.k am_Lle.nil)))) ?_
  refine am_J.loop (cl := fun q => match q with | (s1, s2) => (4, [some (.ref 85), some (.int a1), some (.int s1), some (.int s2)], [], hp A I x)) (GX := fun e5 => am_Ev (am_ro xs) 0 mc_X12_goTogether (47, [none, none, some (.int e5), none], [], hp A I x) r) ?_ ?_
  · rintro ⟨s1, s2⟩
    unfold f_X12_goTogether_l1
    refine am_J.go 3 rfl ?_
    refine am_J.ge rfl ?_ ?_
    · refine am_J.go (cf' := (47, [some (.ref 85), some (.int a1), some (.int s1), some (.int s2)], [], hp A I x)) 0 rfl ?_
      exact am_J.leaf (fun k => am_Ev.weak (L' := [none, none, some (.int s1), none]) (am_Lle.o (am_Lle.o (am_Lle.k (am_Lle.o am_Lle.nil)))) k)
    · refine am_J.go 1 rfl ?_
      refine am_J.join (β := Int32) (cj := fun j4 => (40, [some (.ref 85), some (.int a1), none, some (.int s2)], [.int j4], hp A I x)) ?_ ?_
      · refine am_J.eq rfl ?_ ?_
        · refine am_J.go (cf' := (40, [some (.ref 85), some (.int a1), some (.int s1), some (.int s2)], [.int 0], hp A I x)) 1 rfl ?_
          exact am_J.leaf (fun k => am_Ev.weak (L' := [some (.ref 85), some (.int a1), none, some (.int s2)]) (am_Lle.k (am_Lle.k (am_Lle.o (am_Lle.k am_Lle.nil)))) k)
        · refine am_J.go 5 rfl ?_
          refine am_J.eq rfl ?_ ?_
          · refine am_J.go (cf' := (40, [some (.ref 85), some (.int a1), some (.int s1), some (.int s2)], [.int 1], hp A I x)) 2 rfl ?_
            exact am_J.leaf (fun k => am_Ev.weak (L' := [some (.ref 85), some (.int a1), none, some (.int s2)]) (am_Lle.k (am_Lle.k (am_Lle.o (am_Lle.k am_Lle.nil)))) k)
          · refine am_J.go 3 rfl ?_
            refine am_J.ial (xs := (A 119)) rfl (Nat.le_of_ble_eq_true rfl) rfl (fun v3 => ?_)
            refine am_J.go 2 rfl ?_
            refine am_J.ne rfl ?_ ?_
            · refine am_J.go (cf' := (40, [some (.ref 85), some (.int a1), some (.int s1), some (.int s2)], [.int 1], hp A I x)) 2 rfl ?_
              exact am_J.leaf (fun k => am_Ev.weak (L' := [some (.ref 85), some (.int a1), none, some (.int s2)]) (am_Lle.k (am_Lle.k (am_Lle.o (am_Lle.k am_Lle.nil)))) k)
            · refine am_J.go (cf' := (40, [some (.ref 85), some (.int a1), some (.int s1), some (.int s2)], [.int 0], hp A I x)) 1 rfl ?_
              exact am_J.leaf (fun k => am_Ev.weak (L' := [some (.ref 85), some (.int a1), none, some (.int s2)]) (am_Lle.k (am_Lle.k (am_Lle.o (am_Lle.k am_Lle.nil)))) k)
      · rintro j4
        refine am_J.go (cf' := (4, [some (.ref 85), some (.int a1), some (.int j4), some (.int (s2 + 1))], [], hp A I x)) 3 rfl ?_
        exact am_J.leaf (fun k => am_Ev.weak (L' := [some (.ref 85), some (.int a1), some (.int j4), some (.int (s2 + 1))]) (am_Lle.k (am_Lle.k (am_Lle.k (am_Lle.k am_Lle.nil)))) k)
  · rintro e5
    refine (?_ : am_J (am_ro xs) 0 mc_X12_goTogether r (47, [none, none, some (.int e5), none], [], hp A I x) _ _)
    refine am_J.go 1 rfl ?_
    exact am_J.retc rfl (fun k => k)

def f_X12_goodOf_l2 (A : Nat → List Int32) (I : Nat → Int32) (a2 : Int32) : (Int32 × Int32 × Int32) → Option ((Int32 × Int32 × Int32) ⊕ (Int32 × Int32)) := fun q => match q with
    | (s3, s4, s5) =>
    (if (I 5450) ≤ s5 then
      some (.inr (s3, s4))
    else
      (((if ((s3 >>> (s5 &&& 31)) &&& 1) = 0 then
          some (s3, s4)
        else
          (if ((a2 >>> (s5 &&& 31)) &&& 1) = 1 then
            some (s3, s4)
          else
            ((am_at (A 99) s5).bind fun v6 =>
            (if (v6 &&& (s3 ^^^ (-1))) = 0 then
              some (s3, s4)
            else
              some ((s3 &&& ((1 <<< (s5 &&& 31)) ^^^ (-1))), 1))))) : Option (Int32 × Int32)).bind (fun q => match q with
      | (j7, j8) =>
      some (.inl (j7, j8, (s5 + 1))))))
def f_X12_goodOf_l1 (A : Nat → List Int32) (I : Nat → Int32) (a2 : Int32) : (Int32 × Int32) → Option ((Int32 × Int32) ⊕ (Int32)) := fun q => match q with
    | (s1, s2) =>
    (if s2 = 0 then
      some (.inr s1)
    else
      ((wl (f_X12_goodOf_l2 A I a2) 100000 (s1, 0, 0)).bind (fun q => match q with
      | (e9, e10) =>
      some (.inl (e9, e10)))))
def f_X12_goodOf (A : Nat → List Int32) (I : Nat → Int32) (a1 : Int32) (a2 : Int32) : Option (Int32) :=
  ((wl (f_X12_goodOf_l1 A I a2) 100000 (a1, 1)).bind (fun e11 =>
  some e11))
set_option maxRecDepth 100000 in
set_option maxHeartbeats 4000000 in
theorem t_X12_goodOf {xs : List Int32} (A : Nat → List Int32) (I : Nat → Int32) (x : am_X) (a1 : Int32) (a2 : Int32) {z : Int32} (hz : f_X12_goodOf A I a1 a2 = some z) : am_Rt (am_ro xs) 1 ix_X12_goodOf [.ref 85, .int a1, .int a2] (hp A I x) (some (.int z), hp A I x) := by
  refine am_Rt.J (k := ix_X12_goodOf) (M := mc_X12_goodOf) (nL := 6) (d := 0) (as := [.ref 85, .int a1, .int a2]) (res := fun z => (some (.int z), hp A I x)) rfl (Nat.le_of_ble_eq_true rfl) (fun r => ?_) hz
  unfold f_X12_goodOf
  refine am_J.go (cf' := (5, [some (.ref 85), some (.int a1), some (.int a2), some (.int a1), some (.int 1), none], [], hp A I x)) 4 rfl ?_
  refine am_J.weak (L' := [some (.ref 85), none, some (.int a2), some (.int a1), some (.int 1), none]) (am_Lle.k (am_Lle.o (am_Lle.k (am_Lle.k (am_Lle.k (am_Lle.o am_Lle.nil)))))) ?_
  refine am_J.loop (cl := fun q => match q with | (s1, s2) => (5, [some (.ref 85), none, some (.int a2), some (.int s1), some (.int s2), none], [], hp A I x)) (GX := fun e11 => am_Ev (am_ro xs) 0 mc_X12_goodOf (82, [none, none, none, some (.int e11), none, none], [], hp A I x) r) ?_ ?_
  · rintro ⟨s1, s2⟩
    unfold f_X12_goodOf_l1
    refine am_J.go 1 rfl ?_
    refine am_J.eq rfl ?_ ?_
    · refine am_J.go (cf' := (82, [some (.ref 85), none, some (.int a2), some (.int s1), some (.int s2), none], [], hp A I x)) 0 rfl ?_
      exact am_J.leaf (fun k => am_Ev.weak (L' := [none, none, none, some (.int s1), none, none]) (am_Lle.o (am_Lle.o (am_Lle.o (am_Lle.k (am_Lle.o (am_Lle.o am_Lle.nil)))))) k)
    · refine am_J.go (cf' := (16, [some (.ref 85), none, some (.int a2), some (.int s1), some (.int 0), some (.int 0)], [], hp A I x)) 4 rfl ?_
      refine am_J.weak (L' := [some (.ref 85), none, some (.int a2), some (.int s1), some (.int 0), some (.int 0)]) (am_Lle.k (am_Lle.o (am_Lle.k (am_Lle.k (am_Lle.k (am_Lle.k am_Lle.nil)))))) ?_
      refine am_J.loop (cl := fun q => match q with | (s3, s4, s5) => (16, [some (.ref 85), none, some (.int a2), some (.int s3), some (.int s4), some (.int s5)], [], hp A I x)) (GX := fun q => match q with | (e9, e10) => am_Ev (am_ro xs) 0 mc_X12_goodOf (79, [some (.ref 85), none, some (.int a2), some (.int e9), some (.int e10), none], [], hp A I x) r) ?_ ?_
      · rintro ⟨s3, s4, s5⟩
        unfold f_X12_goodOf_l2
        refine am_J.go 3 rfl ?_
        refine am_J.ge rfl ?_ ?_
        · refine am_J.go (cf' := (79, [some (.ref 85), none, some (.int a2), some (.int s3), some (.int s4), some (.int s5)], [], hp A I x)) 0 rfl ?_
          exact am_J.leaf (fun k => am_Ev.weak (L' := [some (.ref 85), none, some (.int a2), some (.int s3), some (.int s4), none]) (am_Lle.k (am_Lle.o (am_Lle.k (am_Lle.k (am_Lle.k (am_Lle.o am_Lle.nil)))))) k)
        · refine am_J.go 5 rfl ?_
          refine am_J.join (β := Int32 × Int32) (cj := fun q => match q with | (j7, j8) => (73, [some (.ref 85), none, some (.int a2), some (.int j7), some (.int j8), some (.int s5)], [], hp A I x)) ?_ ?_
          · refine am_J.eq rfl ?_ ?_
            · refine am_J.go (cf' := (73, [some (.ref 85), none, some (.int a2), some (.int s3), some (.int s4), some (.int s5)], [], hp A I x)) 0 rfl ?_
              exact am_J.leaf (fun k => am_Ev.weak (L' := [some (.ref 85), none, some (.int a2), some (.int s3), some (.int s4), some (.int s5)]) (am_Lle.k (am_Lle.o (am_Lle.k (am_Lle.k (am_Lle.k (am_Lle.k am_Lle.nil)))))) k)
            · refine am_J.go 6 rfl ?_
              refine am_J.eq rfl ?_ ?_
              · refine am_J.go (cf' := (73, [some (.ref 85), none, some (.int a2), some (.int s3), some (.int s4), some (.int s5)], [], hp A I x)) 0 rfl ?_
                exact am_J.leaf (fun k => am_Ev.weak (L' := [some (.ref 85), none, some (.int a2), some (.int s3), some (.int s4), some (.int s5)]) (am_Lle.k (am_Lle.o (am_Lle.k (am_Lle.k (am_Lle.k (am_Lle.k am_Lle.nil)))))) k)
              · refine am_J.go 3 rfl ?_
                refine am_J.ial (xs := (A 99)) rfl (Nat.le_of_ble_eq_true rfl) rfl (fun v6 => ?_)
                refine am_J.go 4 rfl ?_
                refine am_J.ne rfl ?_ ?_
                · refine am_J.go (cf' := (73, [some (.ref 85), none, some (.int a2), some (.int s3), some (.int s4), some (.int s5)], [], hp A I x)) 1 rfl ?_
                  exact am_J.leaf (fun k => am_Ev.weak (L' := [some (.ref 85), none, some (.int a2), some (.int s3), some (.int s4), some (.int s5)]) (am_Lle.k (am_Lle.o (am_Lle.k (am_Lle.k (am_Lle.k (am_Lle.k am_Lle.nil)))))) k)
                · refine am_J.go (cf' := (73, [some (.ref 85), none, some (.int a2), some (.int (s3 &&& ((1 <<< (s5 &&& 31)) ^^^ (-1)))), some (.int 1), some (.int s5)], [], hp A I x)) 10 rfl ?_
                  exact am_J.leaf (fun k => am_Ev.weak (L' := [some (.ref 85), none, some (.int a2), some (.int (s3 &&& ((1 <<< (s5 &&& 31)) ^^^ (-1)))), some (.int 1), some (.int s5)]) (am_Lle.k (am_Lle.o (am_Lle.k (am_Lle.k (am_Lle.k (am_Lle.k am_Lle.nil)))))) k)
          · rintro ⟨j7, j8⟩
            refine am_J.go (cf' := (16, [some (.ref 85), none, some (.int a2), some (.int j7), some (.int j8), some (.int (s5 + 1))], [], hp A I x)) 2 rfl ?_
            exact am_J.leaf (fun k => am_Ev.weak (L' := [some (.ref 85), none, some (.int a2), some (.int j7), some (.int j8), some (.int (s5 + 1))]) (am_Lle.k (am_Lle.o (am_Lle.k (am_Lle.k (am_Lle.k (am_Lle.k am_Lle.nil)))))) k)
      · rintro ⟨e9, e10⟩
        refine (?_ : am_J (am_ro xs) 0 mc_X12_goodOf r (79, [some (.ref 85), none, some (.int a2), some (.int e9), some (.int e10), none], [], hp A I x) _ _)
        refine am_J.go (cf' := (5, [some (.ref 85), none, some (.int a2), some (.int e9), some (.int e10), none], [], hp A I x)) 1 rfl ?_
        exact am_J.leaf (fun k => am_Ev.weak (L' := [some (.ref 85), none, some (.int a2), some (.int e9), some (.int e10), none]) (am_Lle.k (am_Lle.o (am_Lle.k (am_Lle.k (am_Lle.k (am_Lle.o am_Lle.nil)))))) k)
  · rintro e11
    refine (?_ : am_J (am_ro xs) 0 mc_X12_goodOf r (82, [none, none, none, some (.int e11), none, none], [], hp A I x) _ _)
    refine am_J.go 1 rfl ?_
    exact am_J.ret rfl (fun k => k)

def f_X12_hold (A : Nat → List Int32) (I : Nat → Int32) (a1 : Int32) : Option ((List Int32) × Int32 × Int32) :=
  ((am_up (A 105) (I 5470) a1).bind fun y1 =>
  (if a1 = (-3) then
    some (y1, ((I 5470) + 1), ((I 5472) + 1))
  else
    (if a1 = (-9) then
      some (y1, ((I 5470) + 1), ((I 5472) + 1))
    else
      (if a1 = (-10) then
        some (y1, ((I 5470) + 1), ((I 5472) + 1))
      else
        some (y1, ((I 5470) + 1), (I 5472))))))
set_option maxRecDepth 100000 in
set_option maxHeartbeats 4000000 in
theorem t_X12_hold {xs : List Int32} (A : Nat → List Int32) (I : Nat → Int32) (x : am_X) (a1 : Int32) {z : (List Int32) × Int32 × Int32} (hz : f_X12_hold A I a1 = some z) : am_Rt (am_ro xs) 1 ix_X12_hold [.ref 85, .int a1] (hp A I x) (none, hp (up A 105 z.1) (up (up I 5470 z.2.1) 5472 z.2.2) x) := by
  refine am_Rt.J (k := ix_X12_hold) (M := mc_X12_hold) (nL := 2) (d := 0) (as := [.ref 85, .int a1]) (res := fun z => (none, hp (up A 105 z.1) (up (up I 5470 z.2.1) 5472 z.2.2) x)) rfl (Nat.le_of_ble_eq_true rfl) (fun r => ?_) hz
  unfold f_X12_hold
  refine am_J.go 5 rfl ?_
  refine am_J.ias (xs := (A 105)) (h' := fun y1 => hp (up A 105 y1) I x) rfl rfl (fun _ => rfl) (fun y1 => ?_)
  refine am_J.go 8 rfl ?_
  refine am_J.eq rfl ?_ ?_
  · refine am_J.go 6 rfl ?_
    exact am_J.ret rfl (fun k => k)
  · refine am_J.go 2 rfl ?_
    refine am_J.eq rfl ?_ ?_
    · refine am_J.go 6 rfl ?_
      exact am_J.ret rfl (fun k => k)
    · refine am_J.go 2 rfl ?_
      refine am_J.ne rfl ?_ ?_
      · refine am_J.go 6 rfl ?_
        exact am_J.ret rfl (fun k => k)
      · exact am_J.ret rfl (fun k => k)

def f_X12_in (A : Nat → List Int32) (I : Nat → Int32) (a1 : Int32) (a2 : Int32) (a3 : Int32) : Option (Int32) :=
  (if a1 < a2 then
    some 0
  else
    (if a3 < a1 then
      some 0
    else
      some 1))
set_option maxRecDepth 100000 in
set_option maxHeartbeats 4000000 in
theorem t_X12_in {xs : List Int32} (A : Nat → List Int32) (I : Nat → Int32) (x : am_X) (a1 : Int32) (a2 : Int32) (a3 : Int32) {z : Int32} (hz : f_X12_in A I a1 a2 a3 = some z) : am_Rt (am_ro xs) 1 ix_X12_in [.ref 85, .int a1, .int a2, .int a3] (hp A I x) (some (.int z), hp A I x) := by
  refine am_Rt.J (k := ix_X12_in) (M := mc_X12_in) (nL := 4) (d := 0) (as := [.ref 85, .int a1, .int a2, .int a3]) (res := fun z => (some (.int z), hp A I x)) rfl (Nat.le_of_ble_eq_true rfl) (fun r => ?_) hz
  unfold f_X12_in
  refine am_J.go 2 rfl ?_
  refine am_J.lt rfl ?_ ?_
  · refine am_J.go 1 rfl ?_
    exact am_J.retz rfl (Or.inl rfl) (fun k => k)
  · refine am_J.go 2 rfl ?_
    refine am_J.gt rfl ?_ ?_
    · refine am_J.go 1 rfl ?_
      exact am_J.retz rfl (Or.inl rfl) (fun k => k)
    · refine am_J.go 2 rfl ?_
      exact am_J.retz rfl (Or.inr rfl) (fun k => k)

def f_X12_isAct (A : Nat → List Int32) (I : Nat → Int32) (a1 : Int32) : Option (Int32) :=
  ((f_X12_in A I a1 0 ((I 5450) - 1)).bind fun r1 =>
  some r1)
set_option maxRecDepth 100000 in
set_option maxHeartbeats 4000000 in
theorem t_X12_isAct {xs : List Int32} (A : Nat → List Int32) (I : Nat → Int32) (x : am_X) (a1 : Int32) {z : Int32} (hz : f_X12_isAct A I a1 = some z) : am_Rt (am_ro xs) 2 ix_X12_isAct [.ref 85, .int a1] (hp A I x) (some (.int z), hp A I x) := by
  refine am_Rt.J (k := ix_X12_isAct) (M := mc_X12_isAct) (nL := 2) (d := 1) (as := [.ref 85, .int a1]) (res := fun z => (some (.int z), hp A I x)) rfl (Nat.le_of_ble_eq_true rfl) (fun r => ?_) hz
  unfold f_X12_isAct
  refine am_J.go 7 rfl ?_
  refine am_J.callz (v := fun r1 => r1) (h' := fun r1 => hp A I x) rfl rfl rfl (fun r1 hw => (t_X12_in A I x a1 0 ((I 5450) - 1) hw)) (fun r1 hr1 => ?_)
  exact am_J.retz rfl hr1 (fun k => k)

def f_X12_isClause (A : Nat → List Int32) (I : Nat → Int32) (a1 : Int32) : Option (Int32) :=
  ((f_X12_in A I a1 0 ((I 5486) - 1)).bind fun r1 =>
  some r1)
set_option maxRecDepth 100000 in
set_option maxHeartbeats 4000000 in
theorem t_X12_isClause {xs : List Int32} (A : Nat → List Int32) (I : Nat → Int32) (x : am_X) (a1 : Int32) {z : Int32} (hz : f_X12_isClause A I a1 = some z) : am_Rt (am_ro xs) 2 ix_X12_isClause [.ref 85, .int a1] (hp A I x) (some (.int z), hp A I x) := by
  refine am_Rt.J (k := ix_X12_isClause) (M := mc_X12_isClause) (nL := 2) (d := 1) (as := [.ref 85, .int a1]) (res := fun z => (some (.int z), hp A I x)) rfl (Nat.le_of_ble_eq_true rfl) (fun r => ?_) hz
  unfold f_X12_isClause
  refine am_J.go 7 rfl ?_
  refine am_J.callz (v := fun r1 => r1) (h' := fun r1 => hp A I x) rfl rfl rfl (fun r1 hw => (t_X12_in A I x a1 0 ((I 5486) - 1) hw)) (fun r1 hr1 => ?_)
  exact am_J.retz rfl hr1 (fun k => k)

def f_X12_isDay (A : Nat → List Int32) (I : Nat → Int32) (a1 : Int32) : Option (Int32) :=
  ((f_X12_in A I a1 0 9999).bind fun r1 =>
  some r1)
set_option maxRecDepth 100000 in
set_option maxHeartbeats 4000000 in
theorem t_X12_isDay {xs : List Int32} (A : Nat → List Int32) (I : Nat → Int32) (x : am_X) (a1 : Int32) {z : Int32} (hz : f_X12_isDay A I a1 = some z) : am_Rt (am_ro xs) 2 ix_X12_isDay [.ref 85, .int a1] (hp A I x) (some (.int z), hp A I x) := by
  refine am_Rt.J (k := ix_X12_isDay) (M := mc_X12_isDay) (nL := 2) (d := 1) (as := [.ref 85, .int a1]) (res := fun z => (some (.int z), hp A I x)) rfl (Nat.le_of_ble_eq_true rfl) (fun r => ?_) hz
  unfold f_X12_isDay
  refine am_J.go 4 rfl ?_
  refine am_J.callz (v := fun r1 => r1) (h' := fun r1 => hp A I x) rfl rfl rfl (fun r1 hw => (t_X12_in A I x a1 0 9999 hw)) (fun r1 hr1 => ?_)
  exact am_J.retz rfl hr1 (fun k => k)

def f_X12_isDigit (A : Nat → List Int32) (I : Nat → Int32) (a1 : Int32) : Option (Int32) :=
  (if a1 < 48 then
    some 0
  else
    (if 57 < a1 then
      some 0
    else
      some 1))
set_option maxRecDepth 100000 in
set_option maxHeartbeats 4000000 in
theorem t_X12_isDigit {xs : List Int32} (A : Nat → List Int32) (I : Nat → Int32) (x : am_X) (a1 : Int32) {z : Int32} (hz : f_X12_isDigit A I a1 = some z) : am_Rt (am_ro xs) 1 ix_X12_isDigit [.ref 85, .int a1] (hp A I x) (some (.int z), hp A I x) := by
  refine am_Rt.J (k := ix_X12_isDigit) (M := mc_X12_isDigit) (nL := 2) (d := 0) (as := [.ref 85, .int a1]) (res := fun z => (some (.int z), hp A I x)) rfl (Nat.le_of_ble_eq_true rfl) (fun r => ?_) hz
  unfold f_X12_isDigit
  refine am_J.go 2 rfl ?_
  refine am_J.lt rfl ?_ ?_
  · refine am_J.go 1 rfl ?_
    exact am_J.retz rfl (Or.inl rfl) (fun k => k)
  · refine am_J.go 2 rfl ?_
    refine am_J.gt rfl ?_ ?_
    · refine am_J.go 1 rfl ?_
      exact am_J.retz rfl (Or.inl rfl) (fun k => k)
    · refine am_J.go 2 rfl ?_
      exact am_J.retz rfl (Or.inr rfl) (fun k => k)

def f_X12_isKey (A : Nat → List Int32) (I : Nat → Int32) (a1 : Int32) : Option (Int32) :=
  (if (I 5465) = 3 then
    (if (I 5466) = a1 then
      some 1
    else
      some 0)
  else
    some 0)
set_option maxRecDepth 100000 in
set_option maxHeartbeats 4000000 in
theorem t_X12_isKey {xs : List Int32} (A : Nat → List Int32) (I : Nat → Int32) (x : am_X) (a1 : Int32) {z : Int32} (hz : f_X12_isKey A I a1 = some z) : am_Rt (am_ro xs) 1 ix_X12_isKey [.ref 85, .int a1] (hp A I x) (some (.int z), hp A I x) := by
  refine am_Rt.J (k := ix_X12_isKey) (M := mc_X12_isKey) (nL := 2) (d := 0) (as := [.ref 85, .int a1]) (res := fun z => (some (.int z), hp A I x)) rfl (Nat.le_of_ble_eq_true rfl) (fun r => ?_) hz
  unfold f_X12_isKey
  refine am_J.go 3 rfl ?_
  refine am_J.ne rfl ?_ ?_
  · refine am_J.go 3 rfl ?_
    refine am_J.ne rfl ?_ ?_
    · refine am_J.go 2 rfl ?_
      exact am_J.retz rfl (Or.inr rfl) (fun k => k)
    · refine am_J.go 1 rfl ?_
      exact am_J.retz rfl (Or.inl rfl) (fun k => k)
  · refine am_J.go 1 rfl ?_
    exact am_J.retz rfl (Or.inl rfl) (fun k => k)

def f_X12_isLand (A : Nat → List Int32) (I : Nat → Int32) (a1 : Int32) : Option (Int32) :=
  ((f_X12_in A I a1 0 7).bind fun r1 =>
  some r1)
set_option maxRecDepth 100000 in
set_option maxHeartbeats 4000000 in
theorem t_X12_isLand {xs : List Int32} (A : Nat → List Int32) (I : Nat → Int32) (x : am_X) (a1 : Int32) {z : Int32} (hz : f_X12_isLand A I a1 = some z) : am_Rt (am_ro xs) 2 ix_X12_isLand [.ref 85, .int a1] (hp A I x) (some (.int z), hp A I x) := by
  refine am_Rt.J (k := ix_X12_isLand) (M := mc_X12_isLand) (nL := 2) (d := 1) (as := [.ref 85, .int a1]) (res := fun z => (some (.int z), hp A I x)) rfl (Nat.le_of_ble_eq_true rfl) (fun r => ?_) hz
  unfold f_X12_isLand
  refine am_J.go 4 rfl ?_
  refine am_J.callz (v := fun r1 => r1) (h' := fun r1 => hp A I x) rfl rfl rfl (fun r1 hw => (t_X12_in A I x a1 0 7 hw)) (fun r1 hr1 => ?_)
  exact am_J.retz rfl hr1 (fun k => k)

def f_X12_isLetter (A : Nat → List Int32) (I : Nat → Int32) (a1 : Int32) : Option (Int32) :=
  (if a1 < 97 then
    some 0
  else
    (if 122 < a1 then
      some 0
    else
      some 1))
set_option maxRecDepth 100000 in
set_option maxHeartbeats 4000000 in
theorem t_X12_isLetter {xs : List Int32} (A : Nat → List Int32) (I : Nat → Int32) (x : am_X) (a1 : Int32) {z : Int32} (hz : f_X12_isLetter A I a1 = some z) : am_Rt (am_ro xs) 1 ix_X12_isLetter [.ref 85, .int a1] (hp A I x) (some (.int z), hp A I x) := by
  refine am_Rt.J (k := ix_X12_isLetter) (M := mc_X12_isLetter) (nL := 2) (d := 0) (as := [.ref 85, .int a1]) (res := fun z => (some (.int z), hp A I x)) rfl (Nat.le_of_ble_eq_true rfl) (fun r => ?_) hz
  unfold f_X12_isLetter
  refine am_J.go 2 rfl ?_
  refine am_J.lt rfl ?_ ?_
  · refine am_J.go 1 rfl ?_
    exact am_J.retz rfl (Or.inl rfl) (fun k => k)
  · refine am_J.go 2 rfl ?_
    refine am_J.gt rfl ?_ ?_
    · refine am_J.go 1 rfl ?_
      exact am_J.retz rfl (Or.inl rfl) (fun k => k)
    · refine am_J.go 2 rfl ?_
      exact am_J.retz rfl (Or.inr rfl) (fun k => k)

def f_X12_isOffice (A : Nat → List Int32) (I : Nat → Int32) (a1 : Int32) : Option (Int32) :=
  ((f_X12_in A I a1 0 5).bind fun r1 =>
  some r1)
set_option maxRecDepth 100000 in
set_option maxHeartbeats 4000000 in
theorem t_X12_isOffice {xs : List Int32} (A : Nat → List Int32) (I : Nat → Int32) (x : am_X) (a1 : Int32) {z : Int32} (hz : f_X12_isOffice A I a1 = some z) : am_Rt (am_ro xs) 2 ix_X12_isOffice [.ref 85, .int a1] (hp A I x) (some (.int z), hp A I x) := by
  refine am_Rt.J (k := ix_X12_isOffice) (M := mc_X12_isOffice) (nL := 2) (d := 1) (as := [.ref 85, .int a1]) (res := fun z => (some (.int z), hp A I x)) rfl (Nat.le_of_ble_eq_true rfl) (fun r => ?_) hz
  unfold f_X12_isOffice
  refine am_J.go 4 rfl ?_
  refine am_J.callz (v := fun r1 => r1) (h' := fun r1 => hp A I x) rfl rfl rfl (fun r1 hw => (t_X12_in A I x a1 0 5 hw)) (fun r1 hr1 => ?_)
  exact am_J.retz rfl hr1 (fun k => k)

def f_X12_isPerson (A : Nat → List Int32) (I : Nat → Int32) (a1 : Int32) : Option (Int32) :=
  ((f_X12_in A I a1 0 ((I 5442) - 1)).bind fun r1 =>
  some r1)
set_option maxRecDepth 100000 in
set_option maxHeartbeats 4000000 in
theorem t_X12_isPerson {xs : List Int32} (A : Nat → List Int32) (I : Nat → Int32) (x : am_X) (a1 : Int32) {z : Int32} (hz : f_X12_isPerson A I a1 = some z) : am_Rt (am_ro xs) 2 ix_X12_isPerson [.ref 85, .int a1] (hp A I x) (some (.int z), hp A I x) := by
  refine am_Rt.J (k := ix_X12_isPerson) (M := mc_X12_isPerson) (nL := 2) (d := 1) (as := [.ref 85, .int a1]) (res := fun z => (some (.int z), hp A I x)) rfl (Nat.le_of_ble_eq_true rfl) (fun r => ?_) hz
  unfold f_X12_isPerson
  refine am_J.go 7 rfl ?_
  refine am_J.callz (v := fun r1 => r1) (h' := fun r1 => hp A I x) rfl rfl rfl (fun r1 hw => (t_X12_in A I x a1 0 ((I 5442) - 1) hw)) (fun r1 hr1 => ?_)
  exact am_J.retz rfl hr1 (fun k => k)

def f_X12_isSheet (A : Nat → List Int32) (I : Nat → Int32) (a1 : Int32) : Option (Int32) :=
  ((f_X12_in A I a1 0 3).bind fun r1 =>
  some r1)
set_option maxRecDepth 100000 in
set_option maxHeartbeats 4000000 in
theorem t_X12_isSheet {xs : List Int32} (A : Nat → List Int32) (I : Nat → Int32) (x : am_X) (a1 : Int32) {z : Int32} (hz : f_X12_isSheet A I a1 = some z) : am_Rt (am_ro xs) 2 ix_X12_isSheet [.ref 85, .int a1] (hp A I x) (some (.int z), hp A I x) := by
  refine am_Rt.J (k := ix_X12_isSheet) (M := mc_X12_isSheet) (nL := 2) (d := 1) (as := [.ref 85, .int a1]) (res := fun z => (some (.int z), hp A I x)) rfl (Nat.le_of_ble_eq_true rfl) (fun r => ?_) hz
  unfold f_X12_isSheet
  refine am_J.go 4 rfl ?_
  refine am_J.callz (v := fun r1 => r1) (h' := fun r1 => hp A I x) rfl rfl rfl (fun r1 hw => (t_X12_in A I x a1 0 3 hw)) (fun r1 hr1 => ?_)
  exact am_J.retz rfl hr1 (fun k => k)

def f_X12_isSide (A : Nat → List Int32) (I : Nat → Int32) (a1 : Int32) : Option (Int32) :=
  ((f_X12_in A I a1 0 2).bind fun r1 =>
  some r1)
set_option maxRecDepth 100000 in
set_option maxHeartbeats 4000000 in
theorem t_X12_isSide {xs : List Int32} (A : Nat → List Int32) (I : Nat → Int32) (x : am_X) (a1 : Int32) {z : Int32} (hz : f_X12_isSide A I a1 = some z) : am_Rt (am_ro xs) 2 ix_X12_isSide [.ref 85, .int a1] (hp A I x) (some (.int z), hp A I x) := by
  refine am_Rt.J (k := ix_X12_isSide) (M := mc_X12_isSide) (nL := 2) (d := 1) (as := [.ref 85, .int a1]) (res := fun z => (some (.int z), hp A I x)) rfl (Nat.le_of_ble_eq_true rfl) (fun r => ?_) hz
  unfold f_X12_isSide
  refine am_J.go 4 rfl ?_
  refine am_J.callz (v := fun r1 => r1) (h' := fun r1 => hp A I x) rfl rfl rfl (fun r1 hw => (t_X12_in A I x a1 0 2 hw)) (fun r1 hr1 => ?_)
  exact am_J.retz rfl hr1 (fun k => k)

def f_X12_isSign (A : Nat → List Int32) (I : Nat → Int32) (a1 : Int32) : Option (Int32) :=
  (if (I 5465) = 4 then
    (if (I 5466) = a1 then
      some 1
    else
      some 0)
  else
    some 0)
set_option maxRecDepth 100000 in
set_option maxHeartbeats 4000000 in
theorem t_X12_isSign {xs : List Int32} (A : Nat → List Int32) (I : Nat → Int32) (x : am_X) (a1 : Int32) {z : Int32} (hz : f_X12_isSign A I a1 = some z) : am_Rt (am_ro xs) 1 ix_X12_isSign [.ref 85, .int a1] (hp A I x) (some (.int z), hp A I x) := by
  refine am_Rt.J (k := ix_X12_isSign) (M := mc_X12_isSign) (nL := 2) (d := 0) (as := [.ref 85, .int a1]) (res := fun z => (some (.int z), hp A I x)) rfl (Nat.le_of_ble_eq_true rfl) (fun r => ?_) hz
  unfold f_X12_isSign
  refine am_J.go 3 rfl ?_
  refine am_J.ne rfl ?_ ?_
  · refine am_J.go 3 rfl ?_
    refine am_J.ne rfl ?_ ?_
    · refine am_J.go 2 rfl ?_
      exact am_J.retz rfl (Or.inr rfl) (fun k => k)
    · refine am_J.go 1 rfl ?_
      exact am_J.retz rfl (Or.inl rfl) (fun k => k)
  · refine am_J.go 1 rfl ?_
    exact am_J.retz rfl (Or.inl rfl) (fun k => k)

def f_X12_isTurn (A : Nat → List Int32) (I : Nat → Int32) (a1 : Int32) (a2 : Int32) (a3 : Int32) : Option (Int32) :=
  ((f_X12_isLand A I a1).bind fun r1 =>
  (if r1 = 0 then
    some 0
  else
    ((f_X12_isDay A I a2).bind fun r2 =>
    (if r2 = 0 then
      some 0
    else
      ((f_X12_in A I a3 0 1).bind fun r3 =>
      (if r3 = 0 then
        some 0
      else
        some 1))))))
set_option maxRecDepth 100000 in
set_option maxHeartbeats 4000000 in
theorem t_X12_isTurn {xs : List Int32} (A : Nat → List Int32) (I : Nat → Int32) (x : am_X) (a1 : Int32) (a2 : Int32) (a3 : Int32) {z : Int32} (hz : f_X12_isTurn A I a1 a2 a3 = some z) : am_Rt (am_ro xs) 3 ix_X12_isTurn [.ref 85, .int a1, .int a2, .int a3] (hp A I x) (some (.int z), hp A I x) := by
  refine am_Rt.J (k := ix_X12_isTurn) (M := mc_X12_isTurn) (nL := 4) (d := 2) (as := [.ref 85, .int a1, .int a2, .int a3]) (res := fun z => (some (.int z), hp A I x)) rfl (Nat.le_of_ble_eq_true rfl) (fun r => ?_) hz
  unfold f_X12_isTurn
  refine am_J.go 2 rfl ?_
  refine am_J.callz (v := fun r1 => r1) (h' := fun r1 => hp A I x) rfl rfl rfl (fun r1 hw => (t_X12_isLand A I x a1 hw)) (fun r1 hr1 => ?_)
  refine am_J.eq rfl ?_ ?_
  · refine am_J.go 1 rfl ?_
    exact am_J.retz rfl (Or.inl rfl) (fun k => k)
  · refine am_J.go 2 rfl ?_
    refine am_J.callz (v := fun r2 => r2) (h' := fun r2 => hp A I x) rfl rfl rfl (fun r2 hw => (t_X12_isDay A I x a2 hw)) (fun r2 hr2 => ?_)
    refine am_J.eq rfl ?_ ?_
    · refine am_J.go 1 rfl ?_
      exact am_J.retz rfl (Or.inl rfl) (fun k => k)
    · refine am_J.go 4 rfl ?_
      refine am_J.callz (v := fun r3 => r3) (h' := fun r3 => hp A I x) rfl rfl rfl (fun r3 hw => (t_X12_in A I x a3 0 1 hw).mono (Nat.le_of_ble_eq_true rfl)) (fun r3 hr3 => ?_)
      refine am_J.eq rfl ?_ ?_
      · refine am_J.go 1 rfl ?_
        exact am_J.retz rfl (Or.inl rfl) (fun k => k)
      · refine am_J.go 2 rfl ?_
        exact am_J.retz rfl (Or.inr rfl) (fun k => k)

def f_X12_isUnder (A : Nat → List Int32) (I : Nat → Int32) (a1 : Int32) (a2 : Int32) : Option (Int32) :=
  (if a2 = 0 then
    some 1
  else
    (if a1 = a2 then
      some 1
    else
      (if a2 = 2 then
        (if a1 = 4 then
          some 1
        else
          (if a2 = 3 then
            (if a1 = 5 then
              some 1
            else
              some 0)
          else
            some 0))
      else
        (if a2 = 3 then
          (if a1 = 5 then
            some 1
          else
            some 0)
        else
          some 0))))
set_option maxRecDepth 100000 in
set_option maxHeartbeats 4000000 in
theorem t_X12_isUnder {xs : List Int32} (A : Nat → List Int32) (I : Nat → Int32) (x : am_X) (a1 : Int32) (a2 : Int32) {z : Int32} (hz : f_X12_isUnder A I a1 a2 = some z) : am_Rt (am_ro xs) 1 ix_X12_isUnder [.ref 85, .int a1, .int a2] (hp A I x) (some (.int z), hp A I x) := by
  refine am_Rt.J (k := ix_X12_isUnder) (M := mc_X12_isUnder) (nL := 3) (d := 0) (as := [.ref 85, .int a1, .int a2]) (res := fun z => (some (.int z), hp A I x)) rfl (Nat.le_of_ble_eq_true rfl) (fun r => ?_) hz
  unfold f_X12_isUnder
  refine am_J.go 1 rfl ?_
  refine am_J.eq rfl ?_ ?_
  · refine am_J.go 2 rfl ?_
    exact am_J.retz rfl (Or.inr rfl) (fun k => k)
  · refine am_J.go 2 rfl ?_
    refine am_J.eq rfl ?_ ?_
    · refine am_J.go 2 rfl ?_
      exact am_J.retz rfl (Or.inr rfl) (fun k => k)
    · refine am_J.go 2 rfl ?_
      refine am_J.ne rfl ?_ ?_
      · refine am_J.go 2 rfl ?_
        refine am_J.eq rfl ?_ ?_
        · refine am_J.go 2 rfl ?_
          exact am_J.retz rfl (Or.inr rfl) (fun k => k)
        · refine am_J.go 2 rfl ?_
          refine am_J.ne rfl ?_ ?_
          · refine am_J.go 2 rfl ?_
            refine am_J.ne rfl ?_ ?_
            · refine am_J.go 2 rfl ?_
              exact am_J.retz rfl (Or.inr rfl) (fun k => k)
            · refine am_J.go 1 rfl ?_
              exact am_J.retz rfl (Or.inl rfl) (fun k => k)
          · refine am_J.go 1 rfl ?_
            exact am_J.retz rfl (Or.inl rfl) (fun k => k)
      · refine am_J.go 2 rfl ?_
        refine am_J.ne rfl ?_ ?_
        · refine am_J.go 2 rfl ?_
          refine am_J.ne rfl ?_ ?_
          · refine am_J.go 2 rfl ?_
            exact am_J.retz rfl (Or.inr rfl) (fun k => k)
          · refine am_J.go 1 rfl ?_
            exact am_J.retz rfl (Or.inl rfl) (fun k => k)
        · refine am_J.go 1 rfl ?_
          exact am_J.retz rfl (Or.inl rfl) (fun k => k)

def f_X12_isWord_l1 (A : Nat → List Int32) (I : Nat → Int32) : (Int64 × Int32) → Option ((Int64 × Int32) ⊕ (Int64 × Int32)) := fun q => match q with
    | (s1, s2) =>
    (if s2 < (I 5467) then
      some (.inr (s1, s2))
    else
      (if (lg_cmp s1 0) ≤ 0 then
        some (.inr (s1, s2))
      else
        ((am_at (A 101) s2).bind fun v3 =>
        (if (lg_cmp (s1 &&& 31) (Int32.toInt64 (v3 - 96))) = 0 then
          some (.inl ((s1 >>> (Int32.toInt64 5 &&& 63)), (s2 + (-1))))
        else
          some (.inr (s1, s2))))))
def f_X12_isWord (A : Nat → List Int32) (I : Nat → Int32) (a1 : Int64) : Option (Int32) :=
  ((wl (f_X12_isWord_l1 A I) 100000 (a1, ((I 5464) - 1))).bind (fun q => match q with
  | (e4, e5) =>
  (if (lg_cmp e4 0) = 0 then
    (if e5 = ((I 5467) - 1) then
      some 1
    else
      some 0)
  else
    some 0)))
set_option maxRecDepth 100000 in
set_option maxHeartbeats 4000000 in
theorem t_X12_isWord {xs : List Int32} (A : Nat → List Int32) (I : Nat → Int32) (x : am_X) (a1 : Int64) {z : Int32} (hz : f_X12_isWord A I a1 = some z) : am_Rt (am_ro xs) 1 ix_X12_isWord [.ref 85, .long a1] (hp A I x) (some (.int z), hp A I x) := by
  refine am_Rt.J (k := ix_X12_isWord) (M := mc_X12_isWord) (nL := 6) (d := 0) (as := [.ref 85, .long a1]) (res := fun z => (some (.int z), hp A I x)) rfl (Nat.le_of_ble_eq_true rfl) (fun r => ?_) hz
  unfold f_X12_isWord
  refine am_J.go (cf' := (10, [some (.ref 85), some (.long a1), none, some (.long a1), none, some (.int ((I 5464) - 1))], [], hp A I x)) 7 rfl ?_
  refine am_J.weak (L' := [some (.ref 85), none, none, some (.long a1), none, some (.int ((I 5464) - 1))]) (am_Lle.k (am_Lle.o (am_Lle.o (am_Lle.k (am_Lle.o (am_Lle.k am_Lle.nil)))))) ?_
  refine am_J.loop (cl := fun q => match q with | (s1, s2) => (10, [some (.ref 85), none, none, some (.long s1), none, some (.int s2)], [], hp A I x)) (GX := fun q => match q with | (e4, e5) => am_Ev (am_ro xs) 0 mc_X12_isWord (55, [some (.ref 85), none, none, some (.long e4), none, some (.int e5)], [], hp A I x) r) ?_ ?_
  · rintro ⟨s1, s2⟩
    unfold f_X12_isWord_l1
    refine am_J.go 3 rfl ?_
    refine am_J.lt rfl ?_ ?_
    · refine am_J.go (cf' := (55, [some (.ref 85), none, none, some (.long s1), none, some (.int s2)], [], hp A I x)) 0 rfl ?_
      exact am_J.leaf (fun k => am_Ev.weak (L' := [some (.ref 85), none, none, some (.long s1), none, some (.int s2)]) (am_Lle.k (am_Lle.o (am_Lle.o (am_Lle.k (am_Lle.o (am_Lle.k am_Lle.nil)))))) k)
    · refine am_J.go 3 rfl ?_
      refine am_J.le rfl ?_ ?_
      · refine am_J.go (cf' := (55, [some (.ref 85), none, none, some (.long s1), none, some (.int s2)], [], hp A I x)) 0 rfl ?_
        exact am_J.leaf (fun k => am_Ev.weak (L' := [some (.ref 85), none, none, some (.long s1), none, some (.int s2)]) (am_Lle.k (am_Lle.o (am_Lle.o (am_Lle.k (am_Lle.o (am_Lle.k am_Lle.nil)))))) k)
      · refine am_J.go 6 rfl ?_
        refine am_J.bal (xs := (A 101)) (t := 1) rfl (by decide) rfl (fun v3 => ?_)
        refine am_J.go 4 rfl ?_
        refine am_J.ne rfl ?_ ?_
        · refine am_J.go (cf' := (10, [some (.ref 85), none, none, some (.long (s1 >>> (Int32.toInt64 5 &&& 63))), none, some (.int (s2 + (-1)))], [], hp A I x)) 6 rfl ?_
          exact am_J.leaf (fun k => am_Ev.weak (L' := [some (.ref 85), none, none, some (.long (s1 >>> (Int32.toInt64 5 &&& 63))), none, some (.int (s2 + (-1)))]) (am_Lle.k (am_Lle.o (am_Lle.o (am_Lle.k (am_Lle.o (am_Lle.k am_Lle.nil)))))) k)
        · refine am_J.go (cf' := (55, [some (.ref 85), none, none, some (.long s1), none, some (.int s2)], [], hp A I x)) 0 rfl ?_
          exact am_J.leaf (fun k => am_Ev.weak (L' := [some (.ref 85), none, none, some (.long s1), none, some (.int s2)]) (am_Lle.k (am_Lle.o (am_Lle.o (am_Lle.k (am_Lle.o (am_Lle.k am_Lle.nil)))))) k)
  · rintro ⟨e4, e5⟩
    refine (?_ : am_J (am_ro xs) 0 mc_X12_isWord r (55, [some (.ref 85), none, none, some (.long e4), none, some (.int e5)], [], hp A I x) _ _)
    refine am_J.go 3 rfl ?_
    refine am_J.ne rfl ?_ ?_
    · refine am_J.go 5 rfl ?_
      refine am_J.ne rfl ?_ ?_
      · refine am_J.go 2 rfl ?_
        exact am_J.retz rfl (Or.inr rfl) (fun k => k)
      · refine am_J.go 1 rfl ?_
        exact am_J.retz rfl (Or.inl rfl) (fun k => k)
    · refine am_J.go 1 rfl ?_
      exact am_J.retz rfl (Or.inl rfl) (fun k => k)

def f_X12_knownIn (A : Nat → List Int32) (I : Nat → Int32) (a1 : Int32) (a2 : Int32) : Option (Int32) :=
  ((am_at (A 95) a1).bind fun v1 =>
  ((am_at (A 88) v1).bind fun v2 =>
  ((am_at (A 87) ((8 * v2) + a2)).bind fun v3 =>
  (if v3 < 999 then
    ((am_at (A 97) a1).bind fun v4 =>
    some (v4 + v3))
  else
    some (-1)))))
set_option maxRecDepth 100000 in
set_option maxHeartbeats 4000000 in
theorem t_X12_knownIn {xs : List Int32} (A : Nat → List Int32) (I : Nat → Int32) (x : am_X) (a1 : Int32) (a2 : Int32) {z : Int32} (hz : f_X12_knownIn A I a1 a2 = some z) : am_Rt (am_ro xs) 1 ix_X12_knownIn [.ref 85, .int a1, .int a2] (hp A I x) (some (.int z), hp A I x) := by
  refine am_Rt.J (k := ix_X12_knownIn) (M := mc_X12_knownIn) (nL := 4) (d := 0) (as := [.ref 85, .int a1, .int a2]) (res := fun z => (some (.int z), hp A I x)) rfl (Nat.le_of_ble_eq_true rfl) (fun r => ?_) hz
  unfold f_X12_knownIn
  refine am_J.go 8 rfl ?_
  refine am_J.ial (xs := (A 95)) rfl (Nat.le_of_ble_eq_true rfl) rfl (fun v1 => ?_)
  refine am_J.ial (xs := (A 88)) rfl (Nat.le_of_ble_eq_true rfl) rfl (fun v2 => ?_)
  refine am_J.go 3 rfl ?_
  refine am_J.ial (xs := (A 87)) rfl (Nat.le_of_ble_eq_true rfl) rfl (fun v3 => ?_)
  refine am_J.go 3 rfl ?_
  refine am_J.lt rfl ?_ ?_
  · refine am_J.go 3 rfl ?_
    refine am_J.ial (xs := (A 97)) rfl (Nat.le_of_ble_eq_true rfl) rfl (fun v4 => ?_)
    refine am_J.go 2 rfl ?_
    exact am_J.ret rfl (fun k => k)
  · refine am_J.go 2 rfl ?_
    exact am_J.ret rfl (fun k => k)

def f_X12_lastsOf (A : Nat → List Int32) (I : Nat → Int32) (a1 : Int32) : Option (Int32) :=
  ((am_at (A 94) a1).bind fun v1 =>
  (if v1 = 4 then
    ((am_at (A 100) a1).bind fun v6 =>
    (if v6 < 0 then
      ((am_at (A 94) a1).bind fun v7 =>
      (if v7 = 2 then
        some 1000
      else
        ((am_at (A 94) a1).bind fun v8 =>
        (if v8 = 4 then
          some 1000
        else
          ((am_at (A 94) a1).bind fun v9 =>
          (if v9 = 3 then
            some 300
          else
            ((am_at (A 94) a1).bind fun v10 =>
            (if v10 = 5 then
              some 900
            else
              some 9999))))))))
    else
      ((am_at (A 100) a1).bind fun v11 =>
      ((am_at (A 97) a1).bind fun v12 =>
      some (v11 - v12)))))
  else
    ((am_at (A 94) a1).bind fun v2 =>
    (if v2 = 2 then
      some 1000
    else
      ((am_at (A 94) a1).bind fun v3 =>
      (if v3 = 4 then
        some 1000
      else
        ((am_at (A 94) a1).bind fun v4 =>
        (if v4 = 3 then
          some 300
        else
          ((am_at (A 94) a1).bind fun v5 =>
          (if v5 = 5 then
            some 900
          else
            some 9999))))))))))
set_option maxRecDepth 100000 in
set_option maxHeartbeats 4000000 in
theorem t_X12_lastsOf {xs : List Int32} (A : Nat → List Int32) (I : Nat → Int32) (x : am_X) (a1 : Int32) {z : Int32} (hz : f_X12_lastsOf A I a1 = some z) : am_Rt (am_ro xs) 1 ix_X12_lastsOf [.ref 85, .int a1] (hp A I x) (some (.int z), hp A I x) := by
  refine am_Rt.J (k := ix_X12_lastsOf) (M := mc_X12_lastsOf) (nL := 2) (d := 0) (as := [.ref 85, .int a1]) (res := fun z => (some (.int z), hp A I x)) rfl (Nat.le_of_ble_eq_true rfl) (fun r => ?_) hz
  unfold f_X12_lastsOf
  refine am_J.go 3 rfl ?_
  refine am_J.ial (xs := (A 94)) rfl (Nat.le_of_ble_eq_true rfl) rfl (fun v1 => ?_)
  refine am_J.go 1 rfl ?_
  refine am_J.ne rfl ?_ ?_
  · refine am_J.go 3 rfl ?_
    refine am_J.ial (xs := (A 100)) rfl (Nat.le_of_ble_eq_true rfl) rfl (fun v6 => ?_)
    refine am_J.lt rfl ?_ ?_
    · refine am_J.go 3 rfl ?_
      refine am_J.ial (xs := (A 94)) rfl (Nat.le_of_ble_eq_true rfl) rfl (fun v7 => ?_)
      refine am_J.go 1 rfl ?_
      refine am_J.eq rfl ?_ ?_
      · refine am_J.go 2 rfl ?_
        exact am_J.ret rfl (fun k => k)
      · refine am_J.go 3 rfl ?_
        refine am_J.ial (xs := (A 94)) rfl (Nat.le_of_ble_eq_true rfl) rfl (fun v8 => ?_)
        refine am_J.go 1 rfl ?_
        refine am_J.ne rfl ?_ ?_
        · refine am_J.go 2 rfl ?_
          exact am_J.ret rfl (fun k => k)
        · refine am_J.go 3 rfl ?_
          refine am_J.ial (xs := (A 94)) rfl (Nat.le_of_ble_eq_true rfl) rfl (fun v9 => ?_)
          refine am_J.go 1 rfl ?_
          refine am_J.ne rfl ?_ ?_
          · refine am_J.go 2 rfl ?_
            exact am_J.ret rfl (fun k => k)
          · refine am_J.go 3 rfl ?_
            refine am_J.ial (xs := (A 94)) rfl (Nat.le_of_ble_eq_true rfl) rfl (fun v10 => ?_)
            refine am_J.go 1 rfl ?_
            refine am_J.ne rfl ?_ ?_
            · refine am_J.go 2 rfl ?_
              exact am_J.ret rfl (fun k => k)
            · refine am_J.go 1 rfl ?_
              exact am_J.ret rfl (fun k => k)
    · refine am_J.go 3 rfl ?_
      refine am_J.ial (xs := (A 100)) rfl (Nat.le_of_ble_eq_true rfl) rfl (fun v11 => ?_)
      refine am_J.go 3 rfl ?_
      refine am_J.ial (xs := (A 97)) rfl (Nat.le_of_ble_eq_true rfl) rfl (fun v12 => ?_)
      refine am_J.go 1 rfl ?_
      exact am_J.ret rfl (fun k => k)
  · refine am_J.go 3 rfl ?_
    refine am_J.ial (xs := (A 94)) rfl (Nat.le_of_ble_eq_true rfl) rfl (fun v2 => ?_)
    refine am_J.go 1 rfl ?_
    refine am_J.eq rfl ?_ ?_
    · refine am_J.go 2 rfl ?_
      exact am_J.ret rfl (fun k => k)
    · refine am_J.go 3 rfl ?_
      refine am_J.ial (xs := (A 94)) rfl (Nat.le_of_ble_eq_true rfl) rfl (fun v3 => ?_)
      refine am_J.go 1 rfl ?_
      refine am_J.ne rfl ?_ ?_
      · refine am_J.go 2 rfl ?_
        exact am_J.ret rfl (fun k => k)
      · refine am_J.go 3 rfl ?_
        refine am_J.ial (xs := (A 94)) rfl (Nat.le_of_ble_eq_true rfl) rfl (fun v4 => ?_)
        refine am_J.go 1 rfl ?_
        refine am_J.ne rfl ?_ ?_
        · refine am_J.go 2 rfl ?_
          exact am_J.ret rfl (fun k => k)
        · refine am_J.go 3 rfl ?_
          refine am_J.ial (xs := (A 94)) rfl (Nat.le_of_ble_eq_true rfl) rfl (fun v5 => ?_)
          refine am_J.go 1 rfl ?_
          refine am_J.ne rfl ?_ ?_
          · refine am_J.go 2 rfl ?_
            exact am_J.ret rfl (fun k => k)
          · refine am_J.go 1 rfl ?_
            exact am_J.ret rfl (fun k => k)

def f_X12_lift (A : Nat → List Int32) (I : Nat → Int32) (a1 : Int32) (a2 : Int32) : Option (Int32 × (List Int32)) :=
  ((f_X12_isAct A I a1).bind fun r1 =>
  (if r1 = 0 then
    some ((-2), (A 100))
  else
    ((f_X12_isDay A I a2).bind fun r2 =>
    (if r2 = 0 then
      some ((-2), (A 100))
    else
      ((am_at (A 97) a1).bind fun v3 =>
      (if v3 ≤ a2 then
        ((am_at (A 94) a1).bind fun v4 =>
        (if v4 = 4 then
          ((am_at (A 100) a1).bind fun v5 =>
          (if v5 < 0 then
            ((am_up (A 100) a1 a2).bind fun y6 =>
            ((am_at (A 97) a1).bind fun v7 =>
            some ((a2 - v7), y6)))
          else
            some ((-3), (A 100))))
        else
          some ((-13), (A 100))))
      else
        some ((-2), (A 100))))))))
set_option maxRecDepth 100000 in
set_option maxHeartbeats 4000000 in
theorem t_X12_lift {xs : List Int32} (A : Nat → List Int32) (I : Nat → Int32) (x : am_X) (a1 : Int32) (a2 : Int32) {z : Int32 × (List Int32)} (hz : f_X12_lift A I a1 a2 = some z) : am_Rt (am_ro xs) 3 ix_X12_lift [.ref 85, .int a1, .int a2] (hp A I x) (some (.int z.1), hp (up A 100 z.2) I x) := by
  refine am_Rt.J (k := ix_X12_lift) (M := mc_X12_lift) (nL := 3) (d := 2) (as := [.ref 85, .int a1, .int a2]) (res := fun z => (some (.int z.1), hp (up A 100 z.2) I x)) rfl (Nat.le_of_ble_eq_true rfl) (fun r => ?_) hz
  unfold f_X12_lift
  refine am_J.go 2 rfl ?_
  refine am_J.callz (v := fun r1 => r1) (h' := fun r1 => hp A I x) rfl rfl rfl (fun r1 hw => (t_X12_isAct A I x a1 hw)) (fun r1 hr1 => ?_)
  refine am_J.eq rfl ?_ ?_
  · refine am_J.go 1 rfl ?_
    exact am_J.ret rfl (fun k => k)
  · refine am_J.go 2 rfl ?_
    refine am_J.callz (v := fun r2 => r2) (h' := fun r2 => hp A I x) rfl rfl rfl (fun r2 hw => (t_X12_isDay A I x a2 hw)) (fun r2 hr2 => ?_)
    refine am_J.eq rfl ?_ ?_
    · refine am_J.go 1 rfl ?_
      exact am_J.ret rfl (fun k => k)
    · refine am_J.go 4 rfl ?_
      refine am_J.ial (xs := (A 97)) rfl (Nat.le_of_ble_eq_true rfl) rfl (fun v3 => ?_)
      refine am_J.ge rfl ?_ ?_
      · refine am_J.go 3 rfl ?_
        refine am_J.ial (xs := (A 94)) rfl (Nat.le_of_ble_eq_true rfl) rfl (fun v4 => ?_)
        refine am_J.go 1 rfl ?_
        refine am_J.eq rfl ?_ ?_
        · refine am_J.go 3 rfl ?_
          refine am_J.ial (xs := (A 100)) rfl (Nat.le_of_ble_eq_true rfl) rfl (fun v5 => ?_)
          refine am_J.lt rfl ?_ ?_
          · refine am_J.go 4 rfl ?_
            refine am_J.ias (xs := (A 100)) (h' := fun y6 => hp (up A 100 y6) I x) rfl rfl (fun _ => rfl) (fun y6 => ?_)
            refine am_J.go 4 rfl ?_
            refine am_J.ial (xs := (A 97)) rfl (Nat.le_of_ble_eq_true rfl) rfl (fun v7 => ?_)
            refine am_J.go 1 rfl ?_
            exact am_J.ret rfl (fun k => k)
          · refine am_J.go 1 rfl ?_
            exact am_J.ret rfl (fun k => k)
        · refine am_J.go 1 rfl ?_
          exact am_J.ret rfl (fun k => k)
      · refine am_J.go 1 rfl ?_
        exact am_J.ret rfl (fun k => k)

def f_X12_namingOf_l1 (A : Nat → List Int32) (I : Nat → Int32) (a1 : Int32) (a2 : Int32) (a3 : Int32) : (Int32 × Int32) → Option ((Int32 × Int32) ⊕ (Int32)) := fun q => match q with
    | (s1, s2) =>
    (if (I 5450) ≤ s2 then
      some (.inr s1)
    else
      ((am_at (A 94) s2).bind fun v3 =>
      (((if v3 = 1 then
          ((am_at (A 96) s2).bind fun v4 =>
          (if (v4 / 12) = a1 then
            (if ((a3 >>> (s2 &&& 31)) &&& 1) = 1 then
              ((am_at (A 97) s2).bind fun v5 =>
              (if a2 < v5 then
                some s1
              else
                (if s1 < 0 then
                  some s2
                else
                  ((am_at (A 97) s2).bind fun v6 =>
                  ((am_at (A 97) s1).bind fun v7 =>
                  (if v6 < v7 then
                    some s1
                  else
                    some s2))))))
            else
              some s1)
          else
            some s1))
        else
          some s1) : Option (Int32)).bind (fun j8 =>
      some (.inl (j8, (s2 + 1)))))))
def f_X12_namingOf (A : Nat → List Int32) (I : Nat → Int32) (a1 : Int32) (a2 : Int32) (a3 : Int32) : Option (Int32) :=
  ((wl (f_X12_namingOf_l1 A I a1 a2 a3) 100000 ((-1), 0)).bind (fun e9 =>
  some e9))
set_option maxRecDepth 100000 in
set_option maxHeartbeats 4000000 in
theorem t_X12_namingOf {xs : List Int32} (A : Nat → List Int32) (I : Nat → Int32) (x : am_X) (a1 : Int32) (a2 : Int32) (a3 : Int32) {z : Int32} (hz : f_X12_namingOf A I a1 a2 a3 = some z) : am_Rt (am_ro xs) 1 ix_X12_namingOf [.ref 85, .int a1, .int a2, .int a3] (hp A I x) (some (.int z), hp A I x) := by
  refine am_Rt.J (k := ix_X12_namingOf) (M := mc_X12_namingOf) (nL := 6) (d := 0) (as := [.ref 85, .int a1, .int a2, .int a3]) (res := fun z => (some (.int z), hp A I x)) rfl (Nat.le_of_ble_eq_true rfl) (fun r => ?_) hz
  unfold f_X12_namingOf
  refine am_J.go (cf' := (6, [some (.ref 85), some (.int a1), some (.int a2), some (.int a3), some (.int (-1)), some (.int 0)], [], hp A I x)) 4 rfl ?_
  refine am_J.weak (L' := [some (.ref 85), some (.int a1), some (.int a2), some (.int a3), some (.int (-1)), some (.int 0)]) (am_Lle.k (am_Lle.k (am_Lle.k (am_Lle.k (am_Lle.k (am_Lle.k am_Lle.nil)))))) ?_
  refine am_J.loop (cl := fun q => match q with | (s1, s2) => (6, [some (.ref 85), some (.int a1), some (.int a2), some (.int a3), some (.int s1), some (.int s2)], [], hp A I x)) (GX := fun e9 => am_Ev (am_ro xs) 0 mc_X12_namingOf (93, [none, none, none, none, some (.int e9), none], [], hp A I x) r) ?_ ?_
  · rintro ⟨s1, s2⟩
    unfold f_X12_namingOf_l1
    refine am_J.go 3 rfl ?_
    refine am_J.ge rfl ?_ ?_
    · refine am_J.go (cf' := (93, [some (.ref 85), some (.int a1), some (.int a2), some (.int a3), some (.int s1), some (.int s2)], [], hp A I x)) 0 rfl ?_
      exact am_J.leaf (fun k => am_Ev.weak (L' := [none, none, none, none, some (.int s1), none]) (am_Lle.o (am_Lle.o (am_Lle.o (am_Lle.o (am_Lle.k (am_Lle.o am_Lle.nil)))))) k)
    · refine am_J.go 3 rfl ?_
      refine am_J.ial (xs := (A 94)) rfl (Nat.le_of_ble_eq_true rfl) rfl (fun v3 => ?_)
      refine am_J.go 1 rfl ?_
      refine am_J.join (β := Int32) (cj := fun j8 => (87, [some (.ref 85), some (.int a1), some (.int a2), some (.int a3), some (.int j8), some (.int s2)], [], hp A I x)) ?_ ?_
      · refine am_J.ne rfl ?_ ?_
        · refine am_J.go 3 rfl ?_
          refine am_J.ial (xs := (A 96)) rfl (Nat.le_of_ble_eq_true rfl) rfl (fun v4 => ?_)
          refine am_J.go 3 rfl ?_
          refine am_J.ne rfl ?_ ?_
          · refine am_J.go 6 rfl ?_
            refine am_J.ne rfl ?_ ?_
            · refine am_J.go 3 rfl ?_
              refine am_J.ial (xs := (A 97)) rfl (Nat.le_of_ble_eq_true rfl) rfl (fun v5 => ?_)
              refine am_J.go 1 rfl ?_
              refine am_J.gt rfl ?_ ?_
              · refine am_J.go (cf' := (87, [some (.ref 85), some (.int a1), some (.int a2), some (.int a3), some (.int s1), some (.int s2)], [], hp A I x)) 0 rfl ?_
                exact am_J.leaf (fun k => am_Ev.weak (L' := [some (.ref 85), some (.int a1), some (.int a2), some (.int a3), some (.int s1), some (.int s2)]) (am_Lle.k (am_Lle.k (am_Lle.k (am_Lle.k (am_Lle.k (am_Lle.k am_Lle.nil)))))) k)
              · refine am_J.go 1 rfl ?_
                refine am_J.lt rfl ?_ ?_
                · refine am_J.go (cf' := (87, [some (.ref 85), some (.int a1), some (.int a2), some (.int a3), some (.int s2), some (.int s2)], [], hp A I x)) 2 rfl ?_
                  exact am_J.leaf (fun k => am_Ev.weak (L' := [some (.ref 85), some (.int a1), some (.int a2), some (.int a3), some (.int s2), some (.int s2)]) (am_Lle.k (am_Lle.k (am_Lle.k (am_Lle.k (am_Lle.k (am_Lle.k am_Lle.nil)))))) k)
                · refine am_J.go 3 rfl ?_
                  refine am_J.ial (xs := (A 97)) rfl (Nat.le_of_ble_eq_true rfl) rfl (fun v6 => ?_)
                  refine am_J.go 3 rfl ?_
                  refine am_J.ial (xs := (A 97)) rfl (Nat.le_of_ble_eq_true rfl) rfl (fun v7 => ?_)
                  refine am_J.lt rfl ?_ ?_
                  · refine am_J.go (cf' := (87, [some (.ref 85), some (.int a1), some (.int a2), some (.int a3), some (.int s1), some (.int s2)], [], hp A I x)) 0 rfl ?_
                    exact am_J.leaf (fun k => am_Ev.weak (L' := [some (.ref 85), some (.int a1), some (.int a2), some (.int a3), some (.int s1), some (.int s2)]) (am_Lle.k (am_Lle.k (am_Lle.k (am_Lle.k (am_Lle.k (am_Lle.k am_Lle.nil)))))) k)
                  · refine am_J.go (cf' := (87, [some (.ref 85), some (.int a1), some (.int a2), some (.int a3), some (.int s2), some (.int s2)], [], hp A I x)) 2 rfl ?_
                    exact am_J.leaf (fun k => am_Ev.weak (L' := [some (.ref 85), some (.int a1), some (.int a2), some (.int a3), some (.int s2), some (.int s2)]) (am_Lle.k (am_Lle.k (am_Lle.k (am_Lle.k (am_Lle.k (am_Lle.k am_Lle.nil)))))) k)
            · refine am_J.go (cf' := (87, [some (.ref 85), some (.int a1), some (.int a2), some (.int a3), some (.int s1), some (.int s2)], [], hp A I x)) 0 rfl ?_
              exact am_J.leaf (fun k => am_Ev.weak (L' := [some (.ref 85), some (.int a1), some (.int a2), some (.int a3), some (.int s1), some (.int s2)]) (am_Lle.k (am_Lle.k (am_Lle.k (am_Lle.k (am_Lle.k (am_Lle.k am_Lle.nil)))))) k)
          · refine am_J.go (cf' := (87, [some (.ref 85), some (.int a1), some (.int a2), some (.int a3), some (.int s1), some (.int s2)], [], hp A I x)) 0 rfl ?_
            exact am_J.leaf (fun k => am_Ev.weak (L' := [some (.ref 85), some (.int a1), some (.int a2), some (.int a3), some (.int s1), some (.int s2)]) (am_Lle.k (am_Lle.k (am_Lle.k (am_Lle.k (am_Lle.k (am_Lle.k am_Lle.nil)))))) k)
        · refine am_J.go (cf' := (87, [some (.ref 85), some (.int a1), some (.int a2), some (.int a3), some (.int s1), some (.int s2)], [], hp A I x)) 0 rfl ?_
          exact am_J.leaf (fun k => am_Ev.weak (L' := [some (.ref 85), some (.int a1), some (.int a2), some (.int a3), some (.int s1), some (.int s2)]) (am_Lle.k (am_Lle.k (am_Lle.k (am_Lle.k (am_Lle.k (am_Lle.k am_Lle.nil)))))) k)
      · rintro j8
        refine am_J.go (cf' := (6, [some (.ref 85), some (.int a1), some (.int a2), some (.int a3), some (.int j8), some (.int (s2 + 1))], [], hp A I x)) 2 rfl ?_
        exact am_J.leaf (fun k => am_Ev.weak (L' := [some (.ref 85), some (.int a1), some (.int a2), some (.int a3), some (.int j8), some (.int (s2 + 1))]) (am_Lle.k (am_Lle.k (am_Lle.k (am_Lle.k (am_Lle.k (am_Lle.k am_Lle.nil)))))) k)
  · rintro e9
    refine (?_ : am_J (am_ro xs) 0 mc_X12_namingOf r (93, [none, none, none, none, some (.int e9), none], [], hp A I x) _ _)
    refine am_J.go 1 rfl ?_
    exact am_J.ret rfl (fun k => k)

def f_X12_nextOrder_l1 (A : Nat → List Int32) (I : Nat → Int32) : (Int32) → Option ((Int32) ⊕ (Int32)) := fun s1 =>
    (if s1 < 0 then
      some (.inr s1)
    else
      ((am_at (A 121) s1).bind fun v2 =>
      ((am_at (A 121) (s1 + 1)).bind fun v3 =>
      (if v2 ≤ v3 then
        some (.inr s1)
      else
        some (.inl (s1 + (-1)))))))
def f_X12_nextOrder_l2 (A : Nat → List Int32) (I : Nat → Int32) (e4 : Int32) : (Int32) → Option ((Int32) ⊕ (Int32)) := fun s5 =>
    ((am_at (A 121) s5).bind fun v6 =>
    ((am_at (A 121) e4).bind fun v7 =>
    (if v7 ≤ v6 then
      some (.inr s5)
    else
      some (.inl (s5 + (-1))))))
def f_X12_nextOrder_l3 (A : Nat → List Int32) (I : Nat → Int32) : (Int32 × Int32 × (List Int32)) → Option ((Int32 × Int32 × (List Int32)) ⊕ ((List Int32))) := fun q => match q with
    | (s13, s14, s15) =>
    (if s14 ≤ s13 then
      some (.inr s15)
    else
      ((am_at s15 s13).bind fun v16 =>
      ((am_at s15 s14).bind fun v17 =>
      ((am_up s15 s13 v17).bind fun y18 =>
      ((am_up y18 s14 v16).bind fun y19 =>
      some (.inl ((s13 + 1), (s14 + (-1)), y19)))))))
def f_X12_nextOrder (A : Nat → List Int32) (I : Nat → Int32) : Option (Int32 × (List Int32)) :=
  ((wl (f_X12_nextOrder_l1 A I) 100000 ((I 5494) - 2)).bind (fun e4 =>
  (if 0 ≤ e4 then
    ((wl (f_X12_nextOrder_l2 A I e4) 100000 ((I 5494) - 1)).bind (fun e8 =>
    ((am_at (A 121) e4).bind fun v9 =>
    ((am_at (A 121) e8).bind fun v10 =>
    ((am_up (A 121) e4 v10).bind fun y11 =>
    ((am_up y11 e8 v9).bind fun y12 =>
    ((wl (f_X12_nextOrder_l3 (up A 121 y12) I) 100000 ((e4 + 1), ((I 5494) - 1), y12)).bind (fun e20 =>
    some (1, e20)))))))))
  else
    some (0, (A 121)))))
set_option maxRecDepth 100000 in
set_option maxHeartbeats 4000000 in
theorem t_X12_nextOrder {xs : List Int32} (A : Nat → List Int32) (I : Nat → Int32) (x : am_X) {z : Int32 × (List Int32)} (hz : f_X12_nextOrder A I = some z) : am_Rt (am_ro xs) 1 ix_X12_nextOrder [.ref 85] (hp A I x) (some (.int z.1), hp (up A 121 z.2) I x) := by
  refine am_Rt.J (k := ix_X12_nextOrder) (M := mc_X12_nextOrder) (nL := 6) (d := 0) (as := [.ref 85]) (res := fun z => (some (.int z.1), hp (up A 121 z.2) I x)) rfl (Nat.le_of_ble_eq_true rfl) (fun r => ?_) hz
  unfold f_X12_nextOrder
  refine am_J.go (cf' := (7, [some (.ref 85), some (.int ((I 5494) - 2)), none, none, none, none], [], hp A I x)) 5 rfl ?_
  refine am_J.weak (L' := [some (.ref 85), some (.int ((I 5494) - 2)), none, none, none, none]) (am_Lle.k (am_Lle.k (am_Lle.o (am_Lle.o (am_Lle.o (am_Lle.o am_Lle.nil)))))) ?_
  refine am_J.loop (cl := fun s1 => (7, [some (.ref 85), some (.int s1), none, none, none, none], [], hp A I x)) (GX := fun e4 => am_Ev (am_ro xs) 0 mc_X12_nextOrder (34, [some (.ref 85), some (.int e4), none, none, none, none], [], hp A I x) r) ?_ ?_
  · rintro s1
    unfold f_X12_nextOrder_l1
    refine am_J.go 1 rfl ?_
    refine am_J.lt rfl ?_ ?_
    · refine am_J.go (cf' := (34, [some (.ref 85), some (.int s1), none, none, none, none], [], hp A I x)) 0 rfl ?_
      exact am_J.leaf (fun k => am_Ev.weak (L' := [some (.ref 85), some (.int s1), none, none, none, none]) (am_Lle.k (am_Lle.k (am_Lle.o (am_Lle.o (am_Lle.o (am_Lle.o am_Lle.nil)))))) k)
    · refine am_J.go 3 rfl ?_
      refine am_J.ial (xs := (A 121)) rfl (Nat.le_of_ble_eq_true rfl) rfl (fun v2 => ?_)
      refine am_J.go 5 rfl ?_
      refine am_J.ial (xs := (A 121)) rfl (Nat.le_of_ble_eq_true rfl) rfl (fun v3 => ?_)
      refine am_J.le rfl ?_ ?_
      · refine am_J.go (cf' := (34, [some (.ref 85), some (.int s1), none, none, none, none], [], hp A I x)) 0 rfl ?_
        exact am_J.leaf (fun k => am_Ev.weak (L' := [some (.ref 85), some (.int s1), none, none, none, none]) (am_Lle.k (am_Lle.k (am_Lle.o (am_Lle.o (am_Lle.o (am_Lle.o am_Lle.nil)))))) k)
      · refine am_J.go (cf' := (7, [some (.ref 85), some (.int (s1 + (-1))), none, none, none, none], [], hp A I x)) 2 rfl ?_
        exact am_J.leaf (fun k => am_Ev.weak (L' := [some (.ref 85), some (.int (s1 + (-1))), none, none, none, none]) (am_Lle.k (am_Lle.k (am_Lle.o (am_Lle.o (am_Lle.o (am_Lle.o am_Lle.nil)))))) k)
  · rintro e4
    refine (?_ : am_J (am_ro xs) 0 mc_X12_nextOrder r (34, [some (.ref 85), some (.int e4), none, none, none, none], [], hp A I x) _ _)
    refine am_J.go 1 rfl ?_
    refine am_J.ge rfl ?_ ?_
    · refine am_J.go (cf' := (47, [some (.ref 85), some (.int e4), some (.int ((I 5494) - 1)), none, none, none], [], hp A I x)) 5 rfl ?_
      refine am_J.weak (L' := [some (.ref 85), some (.int e4), some (.int ((I 5494) - 1)), none, none, none]) (am_Lle.k (am_Lle.k (am_Lle.k (am_Lle.o (am_Lle.o (am_Lle.o am_Lle.nil)))))) ?_
      refine am_J.loop (cl := fun s5 => (47, [some (.ref 85), some (.int e4), some (.int s5), none, none, none], [], hp A I x)) (GX := fun e8 => am_Ev (am_ro xs) 0 mc_X12_nextOrder (68, [some (.ref 85), some (.int e4), some (.int e8), none, none, none], [], hp A I x) r) ?_ ?_
      · rintro s5
        unfold f_X12_nextOrder_l2
        refine am_J.go 3 rfl ?_
        refine am_J.ial (xs := (A 121)) rfl (Nat.le_of_ble_eq_true rfl) rfl (fun v6 => ?_)
        refine am_J.go 3 rfl ?_
        refine am_J.ial (xs := (A 121)) rfl (Nat.le_of_ble_eq_true rfl) rfl (fun v7 => ?_)
        refine am_J.ge rfl ?_ ?_
        · refine am_J.go (cf' := (68, [some (.ref 85), some (.int e4), some (.int s5), none, none, none], [], hp A I x)) 0 rfl ?_
          exact am_J.leaf (fun k => am_Ev.weak (L' := [some (.ref 85), some (.int e4), some (.int s5), none, none, none]) (am_Lle.k (am_Lle.k (am_Lle.k (am_Lle.o (am_Lle.o (am_Lle.o am_Lle.nil)))))) k)
        · refine am_J.go (cf' := (47, [some (.ref 85), some (.int e4), some (.int (s5 + (-1))), none, none, none], [], hp A I x)) 2 rfl ?_
          exact am_J.leaf (fun k => am_Ev.weak (L' := [some (.ref 85), some (.int e4), some (.int (s5 + (-1))), none, none, none]) (am_Lle.k (am_Lle.k (am_Lle.k (am_Lle.o (am_Lle.o (am_Lle.o am_Lle.nil)))))) k)
      · rintro e8
        refine (?_ : am_J (am_ro xs) 0 mc_X12_nextOrder r (68, [some (.ref 85), some (.int e4), some (.int e8), none, none, none], [], hp A I x) _ _)
        refine am_J.go 3 rfl ?_
        refine am_J.ial (xs := (A 121)) rfl (Nat.le_of_ble_eq_true rfl) rfl (fun v9 => ?_)
        refine am_J.go 7 rfl ?_
        refine am_J.ial (xs := (A 121)) rfl (Nat.le_of_ble_eq_true rfl) rfl (fun v10 => ?_)
        refine am_J.ias (xs := (A 121)) (h' := fun y11 => hp (up A 121 y11) I x) rfl rfl (fun _ => rfl) (fun y11 => ?_)
        refine am_J.go 4 rfl ?_
        refine am_J.ias (xs := y11) (h' := fun y12 => hp (up A 121 y12) I x) rfl rfl (fun _ => rfl) (fun y12 => ?_)
        refine am_J.go (cf' := (107, [some (.ref 85), some (.int e4), some (.int e8), some (.int v9), some (.int (e4 + 1)), some (.int ((I 5494) - 1))], [], hp (up A 121 y12) I x)) 9 rfl ?_
        refine am_J.weak (L' := [some (.ref 85), none, none, none, some (.int (e4 + 1)), some (.int ((I 5494) - 1))]) (am_Lle.k (am_Lle.o (am_Lle.o (am_Lle.o (am_Lle.k (am_Lle.k am_Lle.nil)))))) ?_
        refine am_J.loop (cl := fun q => match q with | (s13, s14, s15) => (107, [some (.ref 85), none, none, none, some (.int s13), some (.int s14)], [], hp (up A 121 s15) I x)) (GX := fun e20 => am_Ev (am_ro xs) 0 mc_X12_nextOrder (153, [none, none, none, none, none, none], [], hp (up A 121 e20) I x) r) ?_ ?_
        · rintro ⟨s13, s14, s15⟩
          unfold f_X12_nextOrder_l3
          refine am_J.go 2 rfl ?_
          refine am_J.ge rfl ?_ ?_
          · refine am_J.go (cf' := (153, [some (.ref 85), none, none, none, some (.int s13), some (.int s14)], [], hp (up (up A 121 y12) 121 s15) I x)) 0 rfl ?_
            exact am_J.leaf (fun k => am_Ev.weak (L' := [none, none, none, none, none, none]) (am_Lle.o (am_Lle.o (am_Lle.o (am_Lle.o (am_Lle.o (am_Lle.o am_Lle.nil)))))) k)
          · refine am_J.go 3 rfl ?_
            refine am_J.ial (xs := s15) rfl (Nat.le_of_ble_eq_true rfl) rfl (fun v16 => ?_)
            refine am_J.go 7 rfl ?_
            refine am_J.ial (xs := s15) rfl (Nat.le_of_ble_eq_true rfl) rfl (fun v17 => ?_)
            refine am_J.ias (xs := s15) (h' := fun y18 => hp (up (up A 121 y12) 121 y18) I x) rfl rfl (fun _ => rfl) (fun y18 => ?_)
            refine am_J.go 4 rfl ?_
            refine am_J.ias (xs := y18) (h' := fun y19 => hp (up (up A 121 y12) 121 y19) I x) rfl rfl (fun _ => rfl) (fun y19 => ?_)
            refine am_J.go (cf' := (107, [some (.ref 85), none, none, some (.int v16), some (.int (s13 + 1)), some (.int (s14 + (-1)))], [], hp (up (up A 121 y12) 121 y19) I x)) 3 rfl ?_
            exact am_J.leaf (fun k => am_Ev.weak (L' := [some (.ref 85), none, none, none, some (.int (s13 + 1)), some (.int (s14 + (-1)))]) (am_Lle.k (am_Lle.o (am_Lle.o (am_Lle.o (am_Lle.k (am_Lle.k am_Lle.nil)))))) k)
        · rintro e20
          refine (?_ : am_J (am_ro xs) 0 mc_X12_nextOrder r (153, [none, none, none, none, none, none], [], hp (up A 121 e20) I x) _ _)
          refine am_J.go 1 rfl ?_
          exact am_J.retz rfl (Or.inr rfl) (fun k => k)
    · refine am_J.go 1 rfl ?_
      exact am_J.retz rfl (Or.inl rfl) (fun k => k)

def f_X12_note (A : Nat → List Int32) (I : Nat → Int32) (a1 : Int32) (a2 : Int32) (a3 : Int32) : Option ((List Int32) × (List Int32) × (List Int32) × Int32) :=
  ((am_up (A 91) (I 5443) a1).bind fun y1 =>
  ((am_up (A 92) (I 5443) a2).bind fun y2 =>
  ((am_up (A 93) (I 5443) a3).bind fun y3 =>
  some (y1, y2, y3, ((I 5443) + 1)))))
set_option maxRecDepth 100000 in
set_option maxHeartbeats 4000000 in
theorem t_X12_note {xs : List Int32} (A : Nat → List Int32) (I : Nat → Int32) (x : am_X) (a1 : Int32) (a2 : Int32) (a3 : Int32) {z : (List Int32) × (List Int32) × (List Int32) × Int32} (hz : f_X12_note A I a1 a2 a3 = some z) : am_Rt (am_ro xs) 1 ix_X12_note [.ref 85, .int a1, .int a2, .int a3] (hp A I x) (none, hp (up (up (up A 91 z.1) 92 z.2.1) 93 z.2.2.1) (up I 5443 z.2.2.2) x) := by
  refine am_Rt.J (k := ix_X12_note) (M := mc_X12_note) (nL := 4) (d := 0) (as := [.ref 85, .int a1, .int a2, .int a3]) (res := fun z => (none, hp (up (up (up A 91 z.1) 92 z.2.1) 93 z.2.2.1) (up I 5443 z.2.2.2) x)) rfl (Nat.le_of_ble_eq_true rfl) (fun r => ?_) hz
  unfold f_X12_note
  refine am_J.go 5 rfl ?_
  refine am_J.ias (xs := (A 91)) (h' := fun y1 => hp (up A 91 y1) I x) rfl rfl (fun _ => rfl) (fun y1 => ?_)
  refine am_J.go 5 rfl ?_
  refine am_J.ias (xs := (A 92)) (h' := fun y2 => hp (up (up A 91 y1) 92 y2) I x) rfl rfl (fun _ => rfl) (fun y2 => ?_)
  refine am_J.go 5 rfl ?_
  refine am_J.ias (xs := (A 93)) (h' := fun y3 => hp (up (up (up A 91 y1) 92 y2) 93 y3) I x) rfl rfl (fun _ => rfl) (fun y3 => ?_)
  refine am_J.go 6 rfl ?_
  exact am_J.ret rfl (fun k => k)

def f_X12_office (A : Nat → List Int32) (I : Nat → Int32) (a1 : Int32) (a2 : Int32) : Option (Int32 × (List Int32)) :=
  ((f_X12_isOffice A I a1).bind fun r1 =>
  (if r1 = 0 then
    some ((-2), (A 89))
  else
    ((f_X12_isLand A I a2).bind fun r2 =>
    (if r2 = 0 then
      some ((-2), (A 89))
    else
      ((am_at (A 89) a1).bind fun v3 =>
      ((am_up (A 89) a1 a2).bind fun y4 =>
      some (v3, y4)))))))
set_option maxRecDepth 100000 in
set_option maxHeartbeats 4000000 in
theorem t_X12_office {xs : List Int32} (A : Nat → List Int32) (I : Nat → Int32) (x : am_X) (a1 : Int32) (a2 : Int32) {z : Int32 × (List Int32)} (hz : f_X12_office A I a1 a2 = some z) : am_Rt (am_ro xs) 3 ix_X12_office [.ref 85, .int a1, .int a2] (hp A I x) (some (.int z.1), hp (up A 89 z.2) I x) := by
  refine am_Rt.J (k := ix_X12_office) (M := mc_X12_office) (nL := 4) (d := 2) (as := [.ref 85, .int a1, .int a2]) (res := fun z => (some (.int z.1), hp (up A 89 z.2) I x)) rfl (Nat.le_of_ble_eq_true rfl) (fun r => ?_) hz
  unfold f_X12_office
  refine am_J.go 2 rfl ?_
  refine am_J.callz (v := fun r1 => r1) (h' := fun r1 => hp A I x) rfl rfl rfl (fun r1 hw => (t_X12_isOffice A I x a1 hw)) (fun r1 hr1 => ?_)
  refine am_J.eq rfl ?_ ?_
  · refine am_J.go 1 rfl ?_
    exact am_J.ret rfl (fun k => k)
  · refine am_J.go 2 rfl ?_
    refine am_J.callz (v := fun r2 => r2) (h' := fun r2 => hp A I x) rfl rfl rfl (fun r2 hw => (t_X12_isLand A I x a2 hw)) (fun r2 hr2 => ?_)
    refine am_J.ne rfl ?_ ?_
    · refine am_J.go 1 rfl ?_
      exact am_J.ret rfl (fun k => k)
    · refine am_J.go 3 rfl ?_
      refine am_J.ial (xs := (A 89)) rfl (Nat.le_of_ble_eq_true rfl) rfl (fun v3 => ?_)
      refine am_J.go 5 rfl ?_
      refine am_J.ias (xs := (A 89)) (h' := fun y4 => hp (up A 89 y4) I x) rfl rfl (fun _ => rfl) (fun y4 => ?_)
      refine am_J.go 1 rfl ?_
      exact am_J.ret rfl (fun k => k)

def f_X12_officeTold (A : Nat → List Int32) (I : Nat → Int32) (a1 : Int32) (a2 : Int32) : Option (Int32) :=
  ((f_X12_isOffice A I a1).bind fun r1 =>
  (if r1 = 0 then
    some (-2)
  else
    ((f_X12_in A I a2 0 1).bind fun r2 =>
    (if r2 = 0 then
      some (-2)
    else
      (if a2 = 0 then
        ((am_at (A 89) a1).bind fun v4 =>
        some v4)
      else
        ((am_at (A 90) a1).bind fun v3 =>
        some v3))))))
set_option maxRecDepth 100000 in
set_option maxHeartbeats 4000000 in
theorem t_X12_officeTold {xs : List Int32} (A : Nat → List Int32) (I : Nat → Int32) (x : am_X) (a1 : Int32) (a2 : Int32) {z : Int32} (hz : f_X12_officeTold A I a1 a2 = some z) : am_Rt (am_ro xs) 3 ix_X12_officeTold [.ref 85, .int a1, .int a2] (hp A I x) (some (.int z), hp A I x) := by
  refine am_Rt.J (k := ix_X12_officeTold) (M := mc_X12_officeTold) (nL := 3) (d := 2) (as := [.ref 85, .int a1, .int a2]) (res := fun z => (some (.int z), hp A I x)) rfl (Nat.le_of_ble_eq_true rfl) (fun r => ?_) hz
  unfold f_X12_officeTold
  refine am_J.go 2 rfl ?_
  refine am_J.callz (v := fun r1 => r1) (h' := fun r1 => hp A I x) rfl rfl rfl (fun r1 hw => (t_X12_isOffice A I x a1 hw)) (fun r1 hr1 => ?_)
  refine am_J.eq rfl ?_ ?_
  · refine am_J.go 2 rfl ?_
    exact am_J.ret rfl (fun k => k)
  · refine am_J.go 4 rfl ?_
    refine am_J.callz (v := fun r2 => r2) (h' := fun r2 => hp A I x) rfl rfl rfl (fun r2 hw => (t_X12_in A I x a2 0 1 hw).mono (Nat.le_of_ble_eq_true rfl)) (fun r2 hr2 => ?_)
    refine am_J.ne rfl ?_ ?_
    · refine am_J.go 2 rfl ?_
      exact am_J.ret rfl (fun k => k)
    · refine am_J.go 1 rfl ?_
      refine am_J.ne rfl ?_ ?_
      · refine am_J.go 3 rfl ?_
        refine am_J.ial (xs := (A 89)) rfl (Nat.le_of_ble_eq_true rfl) rfl (fun v4 => ?_)
        refine am_J.go 1 rfl ?_
        exact am_J.ret rfl (fun k => k)
      · refine am_J.go 3 rfl ?_
        refine am_J.ial (xs := (A 90)) rfl (Nat.le_of_ble_eq_true rfl) rfl (fun v3 => ?_)
        exact am_J.ret rfl (fun k => k)

def f_X12_ones_l1 (A : Nat → List Int32) (I : Nat → Int32) : (Int32 × Int32) → Option ((Int32 × Int32) ⊕ (Int32)) := fun q => match q with
    | (s1, s2) =>
    (if s2 = 0 then
      some (.inr s1)
    else
      some (.inl ((s1 + 1), (s2 &&& (s2 - 1)))))
def f_X12_ones (A : Nat → List Int32) (I : Nat → Int32) (a1 : Int32) : Option (Int32) :=
  ((wl (f_X12_ones_l1 A I) 100000 (0, a1)).bind (fun e3 =>
  some e3))
set_option maxRecDepth 100000 in
set_option maxHeartbeats 4000000 in
theorem t_X12_ones {xs : List Int32} (A : Nat → List Int32) (I : Nat → Int32) (x : am_X) (a1 : Int32) {z : Int32} (hz : f_X12_ones A I a1 = some z) : am_Rt (am_ro xs) 1 ix_X12_ones [.ref 85, .int a1] (hp A I x) (some (.int z), hp A I x) := by
  refine am_Rt.J (k := ix_X12_ones) (M := mc_X12_ones) (nL := 4) (d := 0) (as := [.ref 85, .int a1]) (res := fun z => (some (.int z), hp A I x)) rfl (Nat.le_of_ble_eq_true rfl) (fun r => ?_) hz
  unfold f_X12_ones
  refine am_J.go (cf' := (4, [some (.ref 85), some (.int a1), some (.int 0), some (.int a1)], [], hp A I x)) 4 rfl ?_
  refine am_J.weak (L' := [some (.ref 85), none, some (.int 0), some (.int a1)]) (am_Lle.k (am_Lle.o (am_Lle.k (am_Lle.k am_Lle.nil)))) ?_
  refine am_J.loop (cl := fun q => match q with | (s1, s2) => (4, [some (.ref 85), none, some (.int s1), some (.int s2)], [], hp A I x)) (GX := fun e3 => am_Ev (am_ro xs) 0 mc_X12_ones (20, [none, none, some (.int e3), none], [], hp A I x) r) ?_ ?_
  · rintro ⟨s1, s2⟩
    unfold f_X12_ones_l1
    refine am_J.go 1 rfl ?_
    refine am_J.eq rfl ?_ ?_
    · refine am_J.go (cf' := (20, [some (.ref 85), none, some (.int s1), some (.int s2)], [], hp A I x)) 0 rfl ?_
      exact am_J.leaf (fun k => am_Ev.weak (L' := [none, none, some (.int s1), none]) (am_Lle.o (am_Lle.o (am_Lle.k (am_Lle.o am_Lle.nil)))) k)
    · refine am_J.go (cf' := (4, [some (.ref 85), none, some (.int (s1 + 1)), some (.int (s2 &&& (s2 - 1)))], [], hp A I x)) 8 rfl ?_
      exact am_J.leaf (fun k => am_Ev.weak (L' := [some (.ref 85), none, some (.int (s1 + 1)), some (.int (s2 &&& (s2 - 1)))]) (am_Lle.k (am_Lle.o (am_Lle.k (am_Lle.k am_Lle.nil)))) k)
  · rintro e3
    refine (?_ : am_J (am_ro xs) 0 mc_X12_ones r (20, [none, none, some (.int e3), none], [], hp A I x) _ _)
    refine am_J.go 1 rfl ?_
    exact am_J.ret rfl (fun k => k)

def f_X12_pay (A : Nat → List Int32) (I : Nat → Int32) (a1 : Int32) (a2 : Int32) (a3 : Int32) (a4 : Int32) : Option (Int32 × (List Int32) × (List Int32) × (List Int32) × (List Int32) × Int32) :=
  ((f_X12_isOffice A I a1).bind fun r1 =>
  (if r1 = 0 then
    some ((-2), (A 109), (A 110), (A 111), (A 112), (I 5476))
  else
    ((f_X12_isPerson A I a2).bind fun r2 =>
    (if r2 = 0 then
      some ((-2), (A 109), (A 110), (A 111), (A 112), (I 5476))
    else
      ((f_X12_in A I a3 1 9999).bind fun r3 =>
      (if r3 = 0 then
        some ((-2), (A 109), (A 110), (A 111), (A 112), (I 5476))
      else
        ((f_X12_isDay A I a4).bind fun r4 =>
        (if r4 = 0 then
          some ((-2), (A 109), (A 110), (A 111), (A 112), (I 5476))
        else
          (if (I 5476) = 30 then
            some ((-4), (A 109), (A 110), (A 111), (A 112), (I 5476))
          else
            ((am_up (A 109) (I 5476) a1).bind fun y5 =>
            ((am_up (A 110) (I 5476) a2).bind fun y6 =>
            ((am_up (A 111) (I 5476) a3).bind fun y7 =>
            ((am_up (A 112) (I 5476) a4).bind fun y8 =>
            some ((((I 5476) + 1) - 1), y5, y6, y7, y8, ((I 5476) + 1)))))))))))))))
set_option maxRecDepth 100000 in
set_option maxHeartbeats 4000000 in
theorem t_X12_pay {xs : List Int32} (A : Nat → List Int32) (I : Nat → Int32) (x : am_X) (a1 : Int32) (a2 : Int32) (a3 : Int32) (a4 : Int32) {z : Int32 × (List Int32) × (List Int32) × (List Int32) × (List Int32) × Int32} (hz : f_X12_pay A I a1 a2 a3 a4 = some z) : am_Rt (am_ro xs) 3 ix_X12_pay [.ref 85, .int a1, .int a2, .int a3, .int a4] (hp A I x) (some (.int z.1), hp (up (up (up (up A 109 z.2.1) 110 z.2.2.1) 111 z.2.2.2.1) 112 z.2.2.2.2.1) (up I 5476 z.2.2.2.2.2) x) := by
  refine am_Rt.J (k := ix_X12_pay) (M := mc_X12_pay) (nL := 5) (d := 2) (as := [.ref 85, .int a1, .int a2, .int a3, .int a4]) (res := fun z => (some (.int z.1), hp (up (up (up (up A 109 z.2.1) 110 z.2.2.1) 111 z.2.2.2.1) 112 z.2.2.2.2.1) (up I 5476 z.2.2.2.2.2) x)) rfl (Nat.le_of_ble_eq_true rfl) (fun r => ?_) hz
  unfold f_X12_pay
  refine am_J.go 2 rfl ?_
  refine am_J.callz (v := fun r1 => r1) (h' := fun r1 => hp A I x) rfl rfl rfl (fun r1 hw => (t_X12_isOffice A I x a1 hw)) (fun r1 hr1 => ?_)
  refine am_J.eq rfl ?_ ?_
  · refine am_J.go 1 rfl ?_
    exact am_J.ret rfl (fun k => k)
  · refine am_J.go 2 rfl ?_
    refine am_J.callz (v := fun r2 => r2) (h' := fun r2 => hp A I x) rfl rfl rfl (fun r2 hw => (t_X12_isPerson A I x a2 hw)) (fun r2 hr2 => ?_)
    refine am_J.eq rfl ?_ ?_
    · refine am_J.go 1 rfl ?_
      exact am_J.ret rfl (fun k => k)
    · refine am_J.go 4 rfl ?_
      refine am_J.callz (v := fun r3 => r3) (h' := fun r3 => hp A I x) rfl rfl rfl (fun r3 hw => (t_X12_in A I x a3 1 9999 hw).mono (Nat.le_of_ble_eq_true rfl)) (fun r3 hr3 => ?_)
      refine am_J.eq rfl ?_ ?_
      · refine am_J.go 1 rfl ?_
        exact am_J.ret rfl (fun k => k)
      · refine am_J.go 2 rfl ?_
        refine am_J.callz (v := fun r4 => r4) (h' := fun r4 => hp A I x) rfl rfl rfl (fun r4 hw => (t_X12_isDay A I x a4 hw)) (fun r4 hr4 => ?_)
        refine am_J.ne rfl ?_ ?_
        · refine am_J.go 1 rfl ?_
          exact am_J.ret rfl (fun k => k)
        · refine am_J.go 3 rfl ?_
          refine am_J.ne rfl ?_ ?_
          · refine am_J.go 1 rfl ?_
            exact am_J.ret rfl (fun k => k)
          · refine am_J.go 5 rfl ?_
            refine am_J.ias (xs := (A 109)) (h' := fun y5 => hp (up A 109 y5) I x) rfl rfl (fun _ => rfl) (fun y5 => ?_)
            refine am_J.go 5 rfl ?_
            refine am_J.ias (xs := (A 110)) (h' := fun y6 => hp (up (up A 109 y5) 110 y6) I x) rfl rfl (fun _ => rfl) (fun y6 => ?_)
            refine am_J.go 5 rfl ?_
            refine am_J.ias (xs := (A 111)) (h' := fun y7 => hp (up (up (up A 109 y5) 110 y6) 111 y7) I x) rfl rfl (fun _ => rfl) (fun y7 => ?_)
            refine am_J.go 5 rfl ?_
            refine am_J.ias (xs := (A 112)) (h' := fun y8 => hp (up (up (up (up A 109 y5) 110 y6) 111 y7) 112 y8) I x) rfl rfl (fun _ => rfl) (fun y8 => ?_)
            refine am_J.go 10 rfl ?_
            exact am_J.ret rfl (fun k => k)

def f_X12_person (A : Nat → List Int32) (I : Nat → Int32) (a1 : Int32) : Option (Int32 × (List Int32) × Int32) :=
  ((f_X12_isLand A I a1).bind fun r1 =>
  (if r1 = 0 then
    some ((-2), (A 88), (I 5442))
  else
    (if (I 5442) = 12 then
      some ((-4), (A 88), (I 5442))
    else
      ((am_up (A 88) (I 5442) a1).bind fun y2 =>
      some ((((I 5442) + 1) - 1), y2, ((I 5442) + 1))))))
set_option maxRecDepth 100000 in
set_option maxHeartbeats 4000000 in
theorem t_X12_person {xs : List Int32} (A : Nat → List Int32) (I : Nat → Int32) (x : am_X) (a1 : Int32) {z : Int32 × (List Int32) × Int32} (hz : f_X12_person A I a1 = some z) : am_Rt (am_ro xs) 3 ix_X12_person [.ref 85, .int a1] (hp A I x) (some (.int z.1), hp (up A 88 z.2.1) (up I 5442 z.2.2) x) := by
  refine am_Rt.J (k := ix_X12_person) (M := mc_X12_person) (nL := 2) (d := 2) (as := [.ref 85, .int a1]) (res := fun z => (some (.int z.1), hp (up A 88 z.2.1) (up I 5442 z.2.2) x)) rfl (Nat.le_of_ble_eq_true rfl) (fun r => ?_) hz
  unfold f_X12_person
  refine am_J.go 2 rfl ?_
  refine am_J.callz (v := fun r1 => r1) (h' := fun r1 => hp A I x) rfl rfl rfl (fun r1 hw => (t_X12_isLand A I x a1 hw)) (fun r1 hr1 => ?_)
  refine am_J.ne rfl ?_ ?_
  · refine am_J.go 1 rfl ?_
    exact am_J.ret rfl (fun k => k)
  · refine am_J.go 3 rfl ?_
    refine am_J.ne rfl ?_ ?_
    · refine am_J.go 1 rfl ?_
      exact am_J.ret rfl (fun k => k)
    · refine am_J.go 5 rfl ?_
      refine am_J.ias (xs := (A 88)) (h' := fun y2 => hp (up A 88 y2) I x) rfl rfl (fun _ => rfl) (fun y2 => ?_)
      refine am_J.go 10 rfl ?_
      exact am_J.ret rfl (fun k => k)
