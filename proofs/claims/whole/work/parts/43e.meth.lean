/-! ===== methods as functions (by wip/whole/dec.py) ===== -/
def f_X12_rightOf (A : Nat → List Int32) (I : Nat → Int32) (a1 : Int32) (a2 : Int32) (a3 : Int32) : Option (Int32) :=
  ((f_X12_namingOf A I a1 a2 a3).bind fun r1 =>
  (if r1 < 0 then
    some (-1)
  else
    ((f_X12_isOn A I r1 a2).bind fun r2 =>
    (if r2 = 0 then
      some (-1)
    else
      ((am_at (A 96) r1).bind fun v3 =>
      some (v3 - v3 / 12 * 12))))))
set_option maxRecDepth 100000 in
set_option maxHeartbeats 4000000 in
theorem t_X12_rightOf {xs : List Int32} (A : Nat → List Int32) (I : Nat → Int32) (x : am_X) (a1 : Int32) (a2 : Int32) (a3 : Int32) {z : Int32} (hz : f_X12_rightOf A I a1 a2 a3 = some z) : am_Rt (am_ro xs) 3 ix_X12_rightOf [.ref 85, .int a1, .int a2, .int a3] (hp A I x) (some (.int z), hp A I x) := by
  refine am_Rt.J (k := ix_X12_rightOf) (M := mc_X12_rightOf) (nL := 5) (d := 2) (as := [.ref 85, .int a1, .int a2, .int a3]) (res := fun z => (some (.int z), hp A I x)) rfl (Nat.le_of_ble_eq_true rfl) (fun r => ?_) hz
  unfold f_X12_rightOf
  refine am_J.go 4 rfl ?_
  refine am_J.call (v := fun r1 => .int r1) (h' := fun r1 => hp A I x) rfl (fun r1 hw => (t_X12_namingOf A I x a1 a2 a3 hw).mono (Nat.le_of_ble_eq_true rfl)) (fun r1 => ?_)
  refine am_J.go 2 rfl ?_
  refine am_J.lt rfl ?_ ?_
  · refine am_J.go 2 rfl ?_
    exact am_J.ret rfl (fun k => k)
  · refine am_J.go 3 rfl ?_
    refine am_J.callz (v := fun r2 => r2) (h' := fun r2 => hp A I x) rfl rfl rfl (fun r2 hw => (t_X12_isOn A I x r1 a2 hw)) (fun r2 hr2 => ?_)
    refine am_J.ne rfl ?_ ?_
    · refine am_J.go 2 rfl ?_
      exact am_J.ret rfl (fun k => k)
    · refine am_J.go 3 rfl ?_
      refine am_J.ial (xs := (A 96)) rfl (Nat.le_of_ble_eq_true rfl) rfl (fun v3 => ?_)
      refine am_J.go 2 rfl ?_
      exact am_J.ret rfl (fun k => k)

def f_X12_savedBy_l1 (A : Nat → List Int32) (I : Nat → Int32) (a1 : Int32) : (Int32 × Int32 × (List Int32) × (List Int32)) → Option ((Int32 × Int32 × (List Int32) × (List Int32)) ⊕ (Int32 × (List Int32) × (List Int32))) := fun q => match q with
    | (s1, s2, s3, s4) =>
    (if (I 5450) ≤ s2 then
      some (.inr (s1, s3, s4))
    else
      ((f_X12_ask (up (up A 107 s3) 108 s4) I a1 s2 1).bind fun r5 =>
      (((if r5.1 = 0 then
          some 0
        else
          some (1 <<< (s2 &&& 31))) : Option (Int32)).bind (fun j6 =>
      some (.inl ((s1 ||| j6), (s2 + 1), r5.2.1, r5.2.2))))))
def f_X12_savedBy (A : Nat → List Int32) (I : Nat → Int32) (a1 : Int32) : Option (Int32 × (List Int32) × (List Int32)) :=
  ((wl (f_X12_savedBy_l1 A I a1) 100000 (0, 0, (A 107), (A 108))).bind (fun q => match q with
  | (e7, e8, e9) =>
  some (e7, e8, e9)))
set_option maxRecDepth 100000 in
set_option maxHeartbeats 4000000 in
theorem t_X12_savedBy {xs : List Int32} (A : Nat → List Int32) (I : Nat → Int32) (x : am_X) (a1 : Int32) {z : Int32 × (List Int32) × (List Int32)} (hz : f_X12_savedBy A I a1 = some z) : am_Rt (am_ro xs) 4 ix_X12_savedBy [.ref 85, .int a1] (hp A I x) (some (.int z.1), hp (up (up A 107 z.2.1) 108 z.2.2) I x) := by
  refine am_Rt.J (k := ix_X12_savedBy) (M := mc_X12_savedBy) (nL := 4) (d := 3) (as := [.ref 85, .int a1]) (res := fun z => (some (.int z.1), hp (up (up A 107 z.2.1) 108 z.2.2) I x)) rfl (Nat.le_of_ble_eq_true rfl) (fun r => ?_) hz
  unfold f_X12_savedBy
  refine am_J.go (cf' := (4, [some (.ref 85), some (.int a1), some (.int 0), some (.int 0)], [], hp A I x)) 4 rfl ?_
  refine am_J.weak (L' := [some (.ref 85), some (.int a1), some (.int 0), some (.int 0)]) (am_Lle.k (am_Lle.k (am_Lle.k (am_Lle.k am_Lle.nil)))) ?_
  refine am_J.loop (cl := fun q => match q with | (s1, s2, s3, s4) => (4, [some (.ref 85), some (.int a1), some (.int s1), some (.int s2)], [], hp (up (up A 107 s3) 108 s4) I x)) (GX := fun q => match q with | (e7, e8, e9) => am_Ev (am_ro xs) 3 mc_X12_savedBy (38, [none, none, some (.int e7), none], [], hp (up (up A 107 e8) 108 e9) I x) r) ?_ ?_
  · rintro ⟨s1, s2, s3, s4⟩
    unfold f_X12_savedBy_l1
    refine am_J.go 3 rfl ?_
    refine am_J.ge rfl ?_ ?_
    · refine am_J.go (cf' := (38, [some (.ref 85), some (.int a1), some (.int s1), some (.int s2)], [], hp (up (up A 107 s3) 108 s4) I x)) 0 rfl ?_
      exact am_J.leaf (fun k => am_Ev.weak (L' := [none, none, some (.int s1), none]) (am_Lle.o (am_Lle.o (am_Lle.k (am_Lle.o am_Lle.nil)))) k)
    · refine am_J.go 5 rfl ?_
      refine am_J.call (v := fun r5 => .int r5.1) (h' := fun r5 => hp (up (up A 107 r5.2.1) 108 r5.2.2) I x) rfl (fun r5 hw => (t_X12_ask (up (up A 107 s3) 108 s4) I x a1 s2 1 hw)) (fun r5 => ?_)
      refine am_J.join (β := Int32) (cj := fun j6 => (30, [some (.ref 85), some (.int a1), none, some (.int s2)], [.int j6, .int s1], hp (up (up A 107 r5.2.1) 108 r5.2.2) I x)) ?_ ?_
      · refine am_J.eq rfl ?_ ?_
        · refine am_J.go (cf' := (30, [some (.ref 85), some (.int a1), some (.int s1), some (.int s2)], [.int 0, .int s1], hp (up (up A 107 r5.2.1) 108 r5.2.2) I x)) 1 rfl ?_
          exact am_J.leaf (fun k => am_Ev.weak (L' := [some (.ref 85), some (.int a1), none, some (.int s2)]) (am_Lle.k (am_Lle.k (am_Lle.o (am_Lle.k am_Lle.nil)))) k)
        · refine am_J.go (cf' := (30, [some (.ref 85), some (.int a1), some (.int s1), some (.int s2)], [.int (1 <<< (s2 &&& 31)), .int s1], hp (up (up A 107 r5.2.1) 108 r5.2.2) I x)) 4 rfl ?_
          exact am_J.leaf (fun k => am_Ev.weak (L' := [some (.ref 85), some (.int a1), none, some (.int s2)]) (am_Lle.k (am_Lle.k (am_Lle.o (am_Lle.k am_Lle.nil)))) k)
      · rintro j6
        refine am_J.go (cf' := (4, [some (.ref 85), some (.int a1), some (.int (s1 ||| j6)), some (.int (s2 + 1))], [], hp (up (up A 107 r5.2.1) 108 r5.2.2) I x)) 4 rfl ?_
        exact am_J.leaf (fun k => am_Ev.weak (L' := [some (.ref 85), some (.int a1), some (.int (s1 ||| j6)), some (.int (s2 + 1))]) (am_Lle.k (am_Lle.k (am_Lle.k (am_Lle.k am_Lle.nil)))) k)
  · rintro ⟨e7, e8, e9⟩
    refine (?_ : am_J (am_ro xs) 3 mc_X12_savedBy r (38, [none, none, some (.int e7), none], [], hp (up (up A 107 e8) 108 e9) I x) _ _)
    refine am_J.go 1 rfl ?_
    exact am_J.ret rfl (fun k => k)

def f_X12_says (A : Nat → List Int32) (I : Nat → Int32) (a1 : Int32) (a2 : Int32) (a3 : Int32) : Option (Int64 × (List Int32) × (List Int32)) :=
  ((f_X12_isSide A I a1).bind fun r1 =>
  (if r1 = 0 then
    some ((-4611686018427387904), (A 107), (A 108))
  else
    ((f_X12_isAct A I a2).bind fun r2 =>
    (if r2 = 0 then
      some ((-4611686018427387904), (A 107), (A 108))
    else
      ((f_X12_in A I a3 0 1).bind fun r3 =>
      (if r3 = 0 then
        some ((-4611686018427387904), (A 107), (A 108))
      else
        ((f_X12_ask A I a1 a2 a3).bind fun r4 =>
        some ((Int32.toInt64 r4.1), r4.2.1, r4.2.2))))))))
set_option maxRecDepth 100000 in
set_option maxHeartbeats 4000000 in
theorem t_X12_says {xs : List Int32} (A : Nat → List Int32) (I : Nat → Int32) (x : am_X) (a1 : Int32) (a2 : Int32) (a3 : Int32) {z : Int64 × (List Int32) × (List Int32)} (hz : f_X12_says A I a1 a2 a3 = some z) : am_Rt (am_ro xs) 4 ix_X12_says [.ref 85, .int a1, .int a2, .int a3] (hp A I x) (some (.long z.1), hp (up (up A 107 z.2.1) 108 z.2.2) I x) := by
  refine am_Rt.J (k := ix_X12_says) (M := mc_X12_says) (nL := 4) (d := 3) (as := [.ref 85, .int a1, .int a2, .int a3]) (res := fun z => (some (.long z.1), hp (up (up A 107 z.2.1) 108 z.2.2) I x)) rfl (Nat.le_of_ble_eq_true rfl) (fun r => ?_) hz
  unfold f_X12_says
  refine am_J.go 2 rfl ?_
  refine am_J.callz (v := fun r1 => r1) (h' := fun r1 => hp A I x) rfl rfl rfl (fun r1 hw => (t_X12_isSide A I x a1 hw).mono (Nat.le_of_ble_eq_true rfl)) (fun r1 hr1 => ?_)
  refine am_J.eq rfl ?_ ?_
  · refine am_J.go 1 rfl ?_
    exact am_J.ret rfl (fun k => k)
  · refine am_J.go 2 rfl ?_
    refine am_J.callz (v := fun r2 => r2) (h' := fun r2 => hp A I x) rfl rfl rfl (fun r2 hw => (t_X12_isAct A I x a2 hw).mono (Nat.le_of_ble_eq_true rfl)) (fun r2 hr2 => ?_)
    refine am_J.eq rfl ?_ ?_
    · refine am_J.go 1 rfl ?_
      exact am_J.ret rfl (fun k => k)
    · refine am_J.go 4 rfl ?_
      refine am_J.callz (v := fun r3 => r3) (h' := fun r3 => hp A I x) rfl rfl rfl (fun r3 hw => (t_X12_in A I x a3 0 1 hw).mono (Nat.le_of_ble_eq_true rfl)) (fun r3 hr3 => ?_)
      refine am_J.eq rfl ?_ ?_
      · refine am_J.go 1 rfl ?_
        exact am_J.ret rfl (fun k => k)
      · refine am_J.go 4 rfl ?_
        refine am_J.call (v := fun r4 => .int r4.1) (h' := fun r4 => hp (up (up A 107 r4.2.1) 108 r4.2.2) I x) rfl (fun r4 hw => (t_X12_ask A I x a1 a2 a3 hw)) (fun r4 => ?_)
        refine am_J.go 2 rfl ?_
        exact am_J.ret rfl (fun k => k)

def f_X12_seatsOf_l1 (A : Nat → List Int32) (I : Nat → Int32) (a1 : Int32) (a2 : Int32) (a3 : Int32) : (Int32 × Int32) → Option ((Int32 × Int32) ⊕ (Int32)) := fun q => match q with
    | (s1, s2) =>
    (if 8 ≤ s2 then
      some (.inr s1)
    else
      (((if ((a1 >>> (s2 &&& 31)) &&& 1) = 1 then
          (if a2 < 0 then
            ((am_at (A 116) s2).bind fun v3 =>
            some v3)
          else
            ((f_X12_sideOf A I s2 a3).bind fun r4 =>
            (if r4 = a2 then
              ((am_at (A 116) s2).bind fun v5 =>
              some v5)
            else
              some 0)))
        else
          some 0) : Option (Int32)).bind (fun j6 =>
      some (.inl ((s1 + j6), (s2 + 1))))))
def f_X12_seatsOf (A : Nat → List Int32) (I : Nat → Int32) (a1 : Int32) (a2 : Int32) (a3 : Int32) : Option (Int32) :=
  ((wl (f_X12_seatsOf_l1 A I a1 a2 a3) 100000 (0, 0)).bind (fun e7 =>
  some e7))
set_option maxRecDepth 100000 in
set_option maxHeartbeats 4000000 in
theorem t_X12_seatsOf {xs : List Int32} (A : Nat → List Int32) (I : Nat → Int32) (x : am_X) (a1 : Int32) (a2 : Int32) (a3 : Int32) {z : Int32} (hz : f_X12_seatsOf A I a1 a2 a3 = some z) : am_Rt (am_ro xs) 2 ix_X12_seatsOf [.ref 85, .int a1, .int a2, .int a3] (hp A I x) (some (.int z), hp A I x) := by
  refine am_Rt.J (k := ix_X12_seatsOf) (M := mc_X12_seatsOf) (nL := 6) (d := 1) (as := [.ref 85, .int a1, .int a2, .int a3]) (res := fun z => (some (.int z), hp A I x)) rfl (Nat.le_of_ble_eq_true rfl) (fun r => ?_) hz
  unfold f_X12_seatsOf
  refine am_J.go (cf' := (6, [some (.ref 85), some (.int a1), some (.int a2), some (.int a3), some (.int 0), some (.int 0)], [], hp A I x)) 4 rfl ?_
  refine am_J.weak (L' := [some (.ref 85), some (.int a1), some (.int a2), some (.int a3), some (.int 0), some (.int 0)]) (am_Lle.k (am_Lle.k (am_Lle.k (am_Lle.k (am_Lle.k (am_Lle.k am_Lle.nil)))))) ?_
  refine am_J.loop (cl := fun q => match q with | (s1, s2) => (6, [some (.ref 85), some (.int a1), some (.int a2), some (.int a3), some (.int s1), some (.int s2)], [], hp A I x)) (GX := fun e7 => am_Ev (am_ro xs) 1 mc_X12_seatsOf (60, [none, none, none, none, some (.int e7), none], [], hp A I x) r) ?_ ?_
  · rintro ⟨s1, s2⟩
    unfold f_X12_seatsOf_l1
    refine am_J.go 2 rfl ?_
    refine am_J.ge rfl ?_ ?_
    · refine am_J.go (cf' := (60, [some (.ref 85), some (.int a1), some (.int a2), some (.int a3), some (.int s1), some (.int s2)], [], hp A I x)) 0 rfl ?_
      exact am_J.leaf (fun k => am_Ev.weak (L' := [none, none, none, none, some (.int s1), none]) (am_Lle.o (am_Lle.o (am_Lle.o (am_Lle.o (am_Lle.k (am_Lle.o am_Lle.nil)))))) k)
    · refine am_J.go 7 rfl ?_
      refine am_J.join (β := Int32) (cj := fun j6 => (51, [some (.ref 85), some (.int a1), some (.int a2), some (.int a3), none, some (.int s2)], [.int j6, .int s1], hp A I x)) ?_ ?_
      · refine am_J.ne rfl ?_ ?_
        · refine am_J.go 1 rfl ?_
          refine am_J.lt rfl ?_ ?_
          · refine am_J.go 3 rfl ?_
            refine am_J.ial (xs := (A 116)) rfl (Nat.le_of_ble_eq_true rfl) rfl (fun v3 => ?_)
            refine am_J.go (cf' := (51, [some (.ref 85), some (.int a1), some (.int a2), some (.int a3), some (.int s1), some (.int s2)], [.int v3, .int s1], hp A I x)) 1 rfl ?_
            exact am_J.leaf (fun k => am_Ev.weak (L' := [some (.ref 85), some (.int a1), some (.int a2), some (.int a3), none, some (.int s2)]) (am_Lle.k (am_Lle.k (am_Lle.k (am_Lle.k (am_Lle.o (am_Lle.k am_Lle.nil)))))) k)
          · refine am_J.go 3 rfl ?_
            refine am_J.call (v := fun r4 => .int r4) (h' := fun r4 => hp A I x) rfl (fun r4 hw => (t_X12_sideOf A I x s2 a3 hw)) (fun r4 => ?_)
            refine am_J.go 1 rfl ?_
            refine am_J.ne rfl ?_ ?_
            · refine am_J.go 3 rfl ?_
              refine am_J.ial (xs := (A 116)) rfl (Nat.le_of_ble_eq_true rfl) rfl (fun v5 => ?_)
              refine am_J.go (cf' := (51, [some (.ref 85), some (.int a1), some (.int a2), some (.int a3), some (.int s1), some (.int s2)], [.int v5, .int s1], hp A I x)) 1 rfl ?_
              exact am_J.leaf (fun k => am_Ev.weak (L' := [some (.ref 85), some (.int a1), some (.int a2), some (.int a3), none, some (.int s2)]) (am_Lle.k (am_Lle.k (am_Lle.k (am_Lle.k (am_Lle.o (am_Lle.k am_Lle.nil)))))) k)
            · refine am_J.go (cf' := (51, [some (.ref 85), some (.int a1), some (.int a2), some (.int a3), some (.int s1), some (.int s2)], [.int 0, .int s1], hp A I x)) 1 rfl ?_
              exact am_J.leaf (fun k => am_Ev.weak (L' := [some (.ref 85), some (.int a1), some (.int a2), some (.int a3), none, some (.int s2)]) (am_Lle.k (am_Lle.k (am_Lle.k (am_Lle.k (am_Lle.o (am_Lle.k am_Lle.nil)))))) k)
        · refine am_J.go (cf' := (51, [some (.ref 85), some (.int a1), some (.int a2), some (.int a3), some (.int s1), some (.int s2)], [.int 0, .int s1], hp A I x)) 1 rfl ?_
          exact am_J.leaf (fun k => am_Ev.weak (L' := [some (.ref 85), some (.int a1), some (.int a2), some (.int a3), none, some (.int s2)]) (am_Lle.k (am_Lle.k (am_Lle.k (am_Lle.k (am_Lle.o (am_Lle.k am_Lle.nil)))))) k)
      · rintro j6
        refine am_J.go (cf' := (6, [some (.ref 85), some (.int a1), some (.int a2), some (.int a3), some (.int (s1 + j6)), some (.int (s2 + 1))], [], hp A I x)) 4 rfl ?_
        exact am_J.leaf (fun k => am_Ev.weak (L' := [some (.ref 85), some (.int a1), some (.int a2), some (.int a3), some (.int (s1 + j6)), some (.int (s2 + 1))]) (am_Lle.k (am_Lle.k (am_Lle.k (am_Lle.k (am_Lle.k (am_Lle.k am_Lle.nil)))))) k)
  · rintro e7
    refine (?_ : am_J (am_ro xs) 1 mc_X12_seatsOf r (60, [none, none, none, none, some (.int e7), none], [], hp A I x) _ _)
    refine am_J.go 1 rfl ?_
    exact am_J.ret rfl (fun k => k)

def f_X12_side (A : Nat → List Int32) (I : Nat → Int32) (a1 : Int32) (a2 : Int32) : Option (Int32) :=
  ((f_X12_isLand A I a1).bind fun r1 =>
  (if r1 = 0 then
    some (-2)
  else
    ((f_X12_isDay A I a2).bind fun r2 =>
    (if r2 = 0 then
      some (-2)
    else
      ((f_X12_sideOf A I a1 a2).bind fun r3 =>
      some r3)))))
set_option maxRecDepth 100000 in
set_option maxHeartbeats 4000000 in
theorem t_X12_side {xs : List Int32} (A : Nat → List Int32) (I : Nat → Int32) (x : am_X) (a1 : Int32) (a2 : Int32) {z : Int32} (hz : f_X12_side A I a1 a2 = some z) : am_Rt (am_ro xs) 3 ix_X12_side [.ref 85, .int a1, .int a2] (hp A I x) (some (.int z), hp A I x) := by
  refine am_Rt.J (k := ix_X12_side) (M := mc_X12_side) (nL := 3) (d := 2) (as := [.ref 85, .int a1, .int a2]) (res := fun z => (some (.int z), hp A I x)) rfl (Nat.le_of_ble_eq_true rfl) (fun r => ?_) hz
  unfold f_X12_side
  refine am_J.go 2 rfl ?_
  refine am_J.callz (v := fun r1 => r1) (h' := fun r1 => hp A I x) rfl rfl rfl (fun r1 hw => (t_X12_isLand A I x a1 hw)) (fun r1 hr1 => ?_)
  refine am_J.eq rfl ?_ ?_
  · refine am_J.go 1 rfl ?_
    exact am_J.ret rfl (fun k => k)
  · refine am_J.go 2 rfl ?_
    refine am_J.callz (v := fun r2 => r2) (h' := fun r2 => hp A I x) rfl rfl rfl (fun r2 hw => (t_X12_isDay A I x a2 hw)) (fun r2 hr2 => ?_)
    refine am_J.eq rfl ?_ ?_
    · refine am_J.go 1 rfl ?_
      exact am_J.ret rfl (fun k => k)
    · refine am_J.go 3 rfl ?_
      refine am_J.call (v := fun r3 => .int r3) (h' := fun r3 => hp A I x) rfl (fun r3 hw => (t_X12_sideOf A I x a1 a2 hw).mono (Nat.le_of_ble_eq_true rfl)) (fun r3 => ?_)
      refine am_J.go 1 rfl ?_
      exact am_J.ret rfl (fun k => k)

def f_X12_soundBy_l1 (A : Nat → List Int32) (I : Nat → Int32) (a1 : Int32) : (Int32 × Int32 × (List Int32) × (List Int32)) → Option ((Int32 × Int32 × (List Int32) × (List Int32)) ⊕ (Int32 × (List Int32) × (List Int32))) := fun q => match q with
    | (s1, s2, s3, s4) =>
    (if (I 5450) ≤ s2 then
      some (.inr (s1, s3, s4))
    else
      ((f_X12_ask (up (up A 107 s3) 108 s4) I a1 s2 0).bind fun r5 =>
      (((if r5.1 = 0 then
          some 0
        else
          some (1 <<< (s2 &&& 31))) : Option (Int32)).bind (fun j6 =>
      some (.inl ((s1 ||| j6), (s2 + 1), r5.2.1, r5.2.2))))))
def f_X12_soundBy (A : Nat → List Int32) (I : Nat → Int32) (a1 : Int32) : Option (Int32 × (List Int32) × (List Int32)) :=
  ((wl (f_X12_soundBy_l1 A I a1) 100000 (0, 0, (A 107), (A 108))).bind (fun q => match q with
  | (e7, e8, e9) =>
  some (e7, e8, e9)))
set_option maxRecDepth 100000 in
set_option maxHeartbeats 4000000 in
theorem t_X12_soundBy {xs : List Int32} (A : Nat → List Int32) (I : Nat → Int32) (x : am_X) (a1 : Int32) {z : Int32 × (List Int32) × (List Int32)} (hz : f_X12_soundBy A I a1 = some z) : am_Rt (am_ro xs) 4 ix_X12_soundBy [.ref 85, .int a1] (hp A I x) (some (.int z.1), hp (up (up A 107 z.2.1) 108 z.2.2) I x) := by
  refine am_Rt.J (k := ix_X12_soundBy) (M := mc_X12_soundBy) (nL := 4) (d := 3) (as := [.ref 85, .int a1]) (res := fun z => (some (.int z.1), hp (up (up A 107 z.2.1) 108 z.2.2) I x)) rfl (Nat.le_of_ble_eq_true rfl) (fun r => ?_) hz
  unfold f_X12_soundBy
  refine am_J.go (cf' := (4, [some (.ref 85), some (.int a1), some (.int 0), some (.int 0)], [], hp A I x)) 4 rfl ?_
  refine am_J.weak (L' := [some (.ref 85), some (.int a1), some (.int 0), some (.int 0)]) (am_Lle.k (am_Lle.k (am_Lle.k (am_Lle.k am_Lle.nil)))) ?_
  refine am_J.loop (cl := fun q => match q with | (s1, s2, s3, s4) => (4, [some (.ref 85), some (.int a1), some (.int s1), some (.int s2)], [], hp (up (up A 107 s3) 108 s4) I x)) (GX := fun q => match q with | (e7, e8, e9) => am_Ev (am_ro xs) 3 mc_X12_soundBy (38, [none, none, some (.int e7), none], [], hp (up (up A 107 e8) 108 e9) I x) r) ?_ ?_
  · rintro ⟨s1, s2, s3, s4⟩
    unfold f_X12_soundBy_l1
    refine am_J.go 3 rfl ?_
    refine am_J.ge rfl ?_ ?_
    · refine am_J.go (cf' := (38, [some (.ref 85), some (.int a1), some (.int s1), some (.int s2)], [], hp (up (up A 107 s3) 108 s4) I x)) 0 rfl ?_
      exact am_J.leaf (fun k => am_Ev.weak (L' := [none, none, some (.int s1), none]) (am_Lle.o (am_Lle.o (am_Lle.k (am_Lle.o am_Lle.nil)))) k)
    · refine am_J.go 5 rfl ?_
      refine am_J.call (v := fun r5 => .int r5.1) (h' := fun r5 => hp (up (up A 107 r5.2.1) 108 r5.2.2) I x) rfl (fun r5 hw => (t_X12_ask (up (up A 107 s3) 108 s4) I x a1 s2 0 hw)) (fun r5 => ?_)
      refine am_J.join (β := Int32) (cj := fun j6 => (30, [some (.ref 85), some (.int a1), none, some (.int s2)], [.int j6, .int s1], hp (up (up A 107 r5.2.1) 108 r5.2.2) I x)) ?_ ?_
      · refine am_J.eq rfl ?_ ?_
        · refine am_J.go (cf' := (30, [some (.ref 85), some (.int a1), some (.int s1), some (.int s2)], [.int 0, .int s1], hp (up (up A 107 r5.2.1) 108 r5.2.2) I x)) 1 rfl ?_
          exact am_J.leaf (fun k => am_Ev.weak (L' := [some (.ref 85), some (.int a1), none, some (.int s2)]) (am_Lle.k (am_Lle.k (am_Lle.o (am_Lle.k am_Lle.nil)))) k)
        · refine am_J.go (cf' := (30, [some (.ref 85), some (.int a1), some (.int s1), some (.int s2)], [.int (1 <<< (s2 &&& 31)), .int s1], hp (up (up A 107 r5.2.1) 108 r5.2.2) I x)) 4 rfl ?_
          exact am_J.leaf (fun k => am_Ev.weak (L' := [some (.ref 85), some (.int a1), none, some (.int s2)]) (am_Lle.k (am_Lle.k (am_Lle.o (am_Lle.k am_Lle.nil)))) k)
      · rintro j6
        refine am_J.go (cf' := (4, [some (.ref 85), some (.int a1), some (.int (s1 ||| j6)), some (.int (s2 + 1))], [], hp (up (up A 107 r5.2.1) 108 r5.2.2) I x)) 4 rfl ?_
        exact am_J.leaf (fun k => am_Ev.weak (L' := [some (.ref 85), some (.int a1), some (.int (s1 ||| j6)), some (.int (s2 + 1))]) (am_Lle.k (am_Lle.k (am_Lle.k (am_Lle.k am_Lle.nil)))) k)
  · rintro ⟨e7, e8, e9⟩
    refine (?_ : am_J (am_ro xs) 3 mc_X12_soundBy r (38, [none, none, some (.int e7), none], [], hp (up (up A 107 e8) 108 e9) I x) _ _)
    refine am_J.go 1 rfl ?_
    exact am_J.ret rfl (fun k => k)

def f_X1_firmAmong_l1 (A : Nat → List Int32) (I : Nat → Int32) (a1 : Int32) (a2 : Int32) : (Int32 × Int32) → Option ((Int32 × Int32) ⊕ ((Int32) ⊕ (Int32))) := fun q => match q with
    | (s1, s2) =>
    (if 24 ≤ s2 then
      some (.inr (.inr s1))
    else
      ((f_X1_hangingWithin A I s1).bind fun r3 =>
      (if (a1 &&& (a2 ||| r3)) = s1 then
        some (.inr (.inl s1))
      else
        some (.inl ((a1 &&& (a2 ||| r3)), (s2 + 1))))))
def f_X1_firmAmong (A : Nat → List Int32) (I : Nat → Int32) (a1 : Int32) (a2 : Int32) : Option (Int32) :=
  ((wl (f_X1_firmAmong_l1 A I a1 a2) 100000 (0, 0)).bind (fun q => match q with
  | .inl e4 =>
  some e4
  | .inr v => some v))
set_option maxRecDepth 100000 in
set_option maxHeartbeats 4000000 in
theorem t_X1_firmAmong {xs : List Int32} (A : Nat → List Int32) (I : Nat → Int32) (x : am_X) (a1 : Int32) (a2 : Int32) {z : Int32} (hz : f_X1_firmAmong A I a1 a2 = some z) : am_Rt (am_ro xs) 2 ix_X1_firmAmong [.ref 37, .int a1, .int a2] (hp A I x) (some (.int z), hp A I x) := by
  refine am_Rt.J (k := ix_X1_firmAmong) (M := mc_X1_firmAmong) (nL := 6) (d := 1) (as := [.ref 37, .int a1, .int a2]) (res := fun z => (some (.int z), hp A I x)) rfl (Nat.le_of_ble_eq_true rfl) (fun r => ?_) hz
  unfold f_X1_firmAmong
  refine am_J.go (cf' := (5, [some (.ref 37), some (.int a1), some (.int a2), some (.int 0), some (.int 0), none], [], hp A I x)) 4 rfl ?_
  refine am_J.weak (L' := [some (.ref 37), some (.int a1), some (.int a2), some (.int 0), some (.int 0), none]) (am_Lle.k (am_Lle.k (am_Lle.k (am_Lle.k (am_Lle.k (am_Lle.o am_Lle.nil)))))) ?_
  refine am_J.loop (cl := fun q => match q with | (s1, s2) => (5, [some (.ref 37), some (.int a1), some (.int a2), some (.int s1), some (.int s2), none], [], hp A I x)) (GX := fun q => Sum.elim (fun e4 => am_Ev (am_ro xs) 1 mc_X1_firmAmong (29, [none, none, none, some (.int e4), none, none], [], hp A I x) r) (fun (z : Int32) => r = (some (.int z), hp A I x)) q) ?_ ?_
  · rintro ⟨s1, s2⟩
    unfold f_X1_firmAmong_l1
    refine am_J.go 2 rfl ?_
    refine am_J.ge rfl ?_ ?_
    · refine am_J.go 1 rfl ?_
      exact am_J.ret rfl (fun k => k)
    · refine am_J.go 4 rfl ?_
      refine am_J.call (v := fun r3 => .int r3) (h' := fun r3 => hp A I x) rfl (fun r3 hw => (t_X1_hangingWithin A I x s1 hw)) (fun r3 => ?_)
      refine am_J.go 5 rfl ?_
      refine am_J.ne rfl ?_ ?_
      · refine am_J.go (cf' := (29, [some (.ref 37), some (.int a1), some (.int a2), some (.int s1), some (.int s2), some (.int (a1 &&& (a2 ||| r3)))], [], hp A I x)) 0 rfl ?_
        exact am_J.leaf (fun k => am_Ev.weak (L' := [none, none, none, some (.int s1), none, none]) (am_Lle.o (am_Lle.o (am_Lle.o (am_Lle.k (am_Lle.o (am_Lle.o am_Lle.nil)))))) k)
      · refine am_J.go (cf' := (5, [some (.ref 37), some (.int a1), some (.int a2), some (.int (a1 &&& (a2 ||| r3))), some (.int (s2 + 1)), some (.int (a1 &&& (a2 ||| r3)))], [], hp A I x)) 4 rfl ?_
        exact am_J.leaf (fun k => am_Ev.weak (L' := [some (.ref 37), some (.int a1), some (.int a2), some (.int (a1 &&& (a2 ||| r3))), some (.int (s2 + 1)), none]) (am_Lle.k (am_Lle.k (am_Lle.k (am_Lle.k (am_Lle.k (am_Lle.o am_Lle.nil)))))) k)
  · intro q
    rcases q with e4 | v
    · refine (?_ : am_J (am_ro xs) 1 mc_X1_firmAmong r (29, [none, none, none, some (.int e4), none, none], [], hp A I x) _ _)
      refine am_J.go 2 rfl ?_
      exact am_J.ret rfl (fun k => k)
    · intro z hz hk
      cases hz
      exact hk

def f_X1_goodAmong_l1 (A : Nat → List Int32) (I : Nat → Int32) (a2 : Int32) : (Int32 × Int32) → Option ((Int32 × Int32) ⊕ ((Int32) ⊕ (Int32))) := fun q => match q with
    | (s1, s2) =>
    (if 24 ≤ s2 then
      some (.inr (.inr s1))
    else
      ((f_X1_hangingWithin A I s1).bind fun r3 =>
      (if (s1 &&& (a2 ||| r3)) = s1 then
        some (.inr (.inl s1))
      else
        some (.inl ((s1 &&& (a2 ||| r3)), (s2 + 1))))))
def f_X1_goodAmong (A : Nat → List Int32) (I : Nat → Int32) (a1 : Int32) (a2 : Int32) : Option (Int32) :=
  ((wl (f_X1_goodAmong_l1 A I a2) 100000 (a1, 0)).bind (fun q => match q with
  | .inl e4 =>
  some e4
  | .inr v => some v))
set_option maxRecDepth 100000 in
set_option maxHeartbeats 4000000 in
theorem t_X1_goodAmong {xs : List Int32} (A : Nat → List Int32) (I : Nat → Int32) (x : am_X) (a1 : Int32) (a2 : Int32) {z : Int32} (hz : f_X1_goodAmong A I a1 a2 = some z) : am_Rt (am_ro xs) 2 ix_X1_goodAmong [.ref 37, .int a1, .int a2] (hp A I x) (some (.int z), hp A I x) := by
  refine am_Rt.J (k := ix_X1_goodAmong) (M := mc_X1_goodAmong) (nL := 6) (d := 1) (as := [.ref 37, .int a1, .int a2]) (res := fun z => (some (.int z), hp A I x)) rfl (Nat.le_of_ble_eq_true rfl) (fun r => ?_) hz
  unfold f_X1_goodAmong
  refine am_J.go (cf' := (5, [some (.ref 37), some (.int a1), some (.int a2), some (.int a1), some (.int 0), none], [], hp A I x)) 4 rfl ?_
  refine am_J.weak (L' := [some (.ref 37), none, some (.int a2), some (.int a1), some (.int 0), none]) (am_Lle.k (am_Lle.o (am_Lle.k (am_Lle.k (am_Lle.k (am_Lle.o am_Lle.nil)))))) ?_
  refine am_J.loop (cl := fun q => match q with | (s1, s2) => (5, [some (.ref 37), none, some (.int a2), some (.int s1), some (.int s2), none], [], hp A I x)) (GX := fun q => Sum.elim (fun e4 => am_Ev (am_ro xs) 1 mc_X1_goodAmong (29, [none, none, none, some (.int e4), none, none], [], hp A I x) r) (fun (z : Int32) => r = (some (.int z), hp A I x)) q) ?_ ?_
  · rintro ⟨s1, s2⟩
    unfold f_X1_goodAmong_l1
    refine am_J.go 2 rfl ?_
    refine am_J.ge rfl ?_ ?_
    · refine am_J.go 1 rfl ?_
      exact am_J.ret rfl (fun k => k)
    · refine am_J.go 4 rfl ?_
      refine am_J.call (v := fun r3 => .int r3) (h' := fun r3 => hp A I x) rfl (fun r3 hw => (t_X1_hangingWithin A I x s1 hw)) (fun r3 => ?_)
      refine am_J.go 5 rfl ?_
      refine am_J.ne rfl ?_ ?_
      · refine am_J.go (cf' := (29, [some (.ref 37), none, some (.int a2), some (.int s1), some (.int s2), some (.int (s1 &&& (a2 ||| r3)))], [], hp A I x)) 0 rfl ?_
        exact am_J.leaf (fun k => am_Ev.weak (L' := [none, none, none, some (.int s1), none, none]) (am_Lle.o (am_Lle.o (am_Lle.o (am_Lle.k (am_Lle.o (am_Lle.o am_Lle.nil)))))) k)
      · refine am_J.go (cf' := (5, [some (.ref 37), none, some (.int a2), some (.int (s1 &&& (a2 ||| r3))), some (.int (s2 + 1)), some (.int (s1 &&& (a2 ||| r3)))], [], hp A I x)) 4 rfl ?_
        exact am_J.leaf (fun k => am_Ev.weak (L' := [some (.ref 37), none, some (.int a2), some (.int (s1 &&& (a2 ||| r3))), some (.int (s2 + 1)), none]) (am_Lle.k (am_Lle.o (am_Lle.k (am_Lle.k (am_Lle.k (am_Lle.o am_Lle.nil)))))) k)
  · intro q
    rcases q with e4 | v
    · refine (?_ : am_J (am_ro xs) 1 mc_X1_goodAmong r (29, [none, none, none, some (.int e4), none, none], [], hp A I x) _ _)
      refine am_J.go 2 rfl ?_
      exact am_J.ret rfl (fun k => k)
    · intro z hz hk
      cases hz
      exact hk

def f_X1_knownFrom (A : Nat → List Int32) (I : Nat → Int32) (a1 : Int32) (a2 : Int32) : Option (Int32) :=
  ((f_X1_landOf A I a1).bind fun r1 =>
  ((am_row 12 r1).bind fun w2 =>
  ((am_at (A w2) a2).bind fun v3 =>
  (if v3 = 999 then
    some (-1)
  else
    ((am_at (A 33) a1).bind fun v4 =>
    some (v4 + v3))))))
set_option maxRecDepth 100000 in
set_option maxHeartbeats 4000000 in
theorem t_X1_knownFrom {xs : List Int32} (A : Nat → List Int32) (I : Nat → Int32) (x : am_X) (a1 : Int32) (a2 : Int32) {z : Int32} (hz : f_X1_knownFrom A I a1 a2 = some z) : am_Rt (am_ro xs) 2 ix_X1_knownFrom [.ref 37, .int a1, .int a2] (hp A I x) (some (.int z), hp A I x) := by
  refine am_Rt.J (k := ix_X1_knownFrom) (M := mc_X1_knownFrom) (nL := 4) (d := 1) (as := [.ref 37, .int a1, .int a2]) (res := fun z => (some (.int z), hp A I x)) rfl (Nat.le_of_ble_eq_true rfl) (fun r => ?_) hz
  unfold f_X1_knownFrom
  refine am_J.go 5 rfl ?_
  refine am_J.call (v := fun r1 => .int r1) (h' := fun r1 => hp A I x) rfl (fun r1 hw => (t_X1_landOf A I x a1 hw)) (fun r1 => ?_)
  refine am_J.row (base := 12) rfl rfl (by decide) (fun w2 hw2 => ?_)
  refine am_J.go 1 rfl ?_
  refine am_J.ial (xs := (A w2)) rfl (am_rlt hw2) (hp_row hw2) (fun v3 => ?_)
  refine am_J.go 3 rfl ?_
  refine am_J.ne rfl ?_ ?_
  · refine am_J.go 2 rfl ?_
    exact am_J.ret rfl (fun k => k)
  · refine am_J.go 4 rfl ?_
    refine am_J.ial (xs := (A 33)) rfl (Nat.le_of_ble_eq_true rfl) rfl (fun v4 => ?_)
    refine am_J.go 2 rfl ?_
    exact am_J.ret rfl (fun k => k)

def f_X1_namingOn_l1 (A : Nat → List Int32) (I : Nat → Int32) (a1 : Int32) (a2 : Int32) (a3 : Int32) : (Int32 × Int32) → Option ((Int32 × Int32) ⊕ (Int32)) := fun q => match q with
    | (s1, s2) =>
    (if (I 1863) ≤ s2 then
      some (.inr s1)
    else
      ((am_at (A 30) s2).bind fun v3 =>
      (((if v3 = 1 then
          ((am_at (A 32) s2).bind fun v4 =>
          (if (v4 / 12) = a2 then
            some 1
          else
            some 0))
        else
          some 0) : Option (Int32)).bind (fun j5 =>
      (((if j5 = 0 then
          some 0
        else
          ((f_X11_has a1 s2).bind fun r6 =>
          (if r6 = 0 then
            some 0
          else
            ((am_at (A 33) s2).bind fun v7 =>
            (if a3 < v7 then
              some 0
            else
              some 1))))) : Option (Int32)).bind (fun j8 =>
      (((if j8 = 0 then
          some s1
        else
          (if s1 = (-1) then
            some s2
          else
            ((am_at (A 33) s2).bind fun v9 =>
            ((am_at (A 33) s1).bind fun v10 =>
            (if v9 < v10 then
              some s1
            else
              some s2))))) : Option (Int32)).bind (fun j11 =>
      some (.inl (j11, (s2 + 1)))))))))))
def f_X1_namingOn (A : Nat → List Int32) (I : Nat → Int32) (a1 : Int32) (a2 : Int32) (a3 : Int32) : Option (Int32) :=
  ((wl (f_X1_namingOn_l1 A I a1 a2 a3) 100000 ((-1), 0)).bind (fun e12 =>
  (if e12 = (-1) then
    some (-1)
  else
    ((f_X2_runsOn A I e12 a3).bind fun r13 =>
    (if r13 = 0 then
      some (-1)
    else
      some e12)))))
set_option maxRecDepth 100000 in
set_option maxHeartbeats 4000000 in
theorem t_X1_namingOn {xs : List Int32} (A : Nat → List Int32) (I : Nat → Int32) (x : am_X) (a1 : Int32) (a2 : Int32) (a3 : Int32) {z : Int32} (hz : f_X1_namingOn A I a1 a2 a3 = some z) : am_Rt (am_ro xs) 3 ix_X1_namingOn [.ref 37, .int a1, .int a2, .int a3] (hp A I x) (some (.int z), hp A I x) := by
  refine am_Rt.J (k := ix_X1_namingOn) (M := mc_X1_namingOn) (nL := 8) (d := 2) (as := [.ref 37, .int a1, .int a2, .int a3]) (res := fun z => (some (.int z), hp A I x)) rfl (Nat.le_of_ble_eq_true rfl) (fun r => ?_) hz
  unfold f_X1_namingOn
  refine am_J.go (cf' := (6, [some (.ref 37), some (.int a1), some (.int a2), some (.int a3), some (.int (-1)), some (.int 0), none, none], [], hp A I x)) 4 rfl ?_
  refine am_J.weak (L' := [some (.ref 37), some (.int a1), some (.int a2), some (.int a3), some (.int (-1)), some (.int 0), none, none]) (am_Lle.k (am_Lle.k (am_Lle.k (am_Lle.k (am_Lle.k (am_Lle.k (am_Lle.o (am_Lle.o am_Lle.nil)))))))) ?_
  refine am_J.loop (cl := fun q => match q with | (s1, s2) => (6, [some (.ref 37), some (.int a1), some (.int a2), some (.int a3), some (.int s1), some (.int s2), none, none], [], hp A I x)) (GX := fun e12 => am_Ev (am_ro xs) 2 mc_X1_namingOn (135, [some (.ref 37), none, none, some (.int a3), some (.int e12), none, none, none], [], hp A I x) r) ?_ ?_
  · rintro ⟨s1, s2⟩
    unfold f_X1_namingOn_l1
    refine am_J.go 4 rfl ?_
    refine am_J.ge rfl ?_ ?_
    · refine am_J.go (cf' := (135, [some (.ref 37), some (.int a1), some (.int a2), some (.int a3), some (.int s1), some (.int s2), none, none], [], hp A I x)) 0 rfl ?_
      exact am_J.leaf (fun k => am_Ev.weak (L' := [some (.ref 37), none, none, some (.int a3), some (.int s1), none, none, none]) (am_Lle.k (am_Lle.o (am_Lle.o (am_Lle.k (am_Lle.k (am_Lle.o (am_Lle.o (am_Lle.o am_Lle.nil)))))))) k)
    · refine am_J.go 4 rfl ?_
      refine am_J.ial (xs := (A 30)) rfl (Nat.le_of_ble_eq_true rfl) rfl (fun v3 => ?_)
      refine am_J.go 1 rfl ?_
      refine am_J.join (β := Int32) (cj := fun j5 => (54, [some (.ref 37), some (.int a1), some (.int a2), some (.int a3), some (.int s1), some (.int s2), none, none], [.int j5], hp A I x)) ?_ ?_
      · refine am_J.ne rfl ?_ ?_
        · refine am_J.go 4 rfl ?_
          refine am_J.ial (xs := (A 32)) rfl (Nat.le_of_ble_eq_true rfl) rfl (fun v4 => ?_)
          refine am_J.go 3 rfl ?_
          refine am_J.ne rfl ?_ ?_
          · refine am_J.go (cf' := (54, [some (.ref 37), some (.int a1), some (.int a2), some (.int a3), some (.int s1), some (.int s2), none, none], [.int 1], hp A I x)) 2 rfl ?_
            exact am_J.leaf (fun k => am_Ev.weak (L' := [some (.ref 37), some (.int a1), some (.int a2), some (.int a3), some (.int s1), some (.int s2), none, none]) (am_Lle.k (am_Lle.k (am_Lle.k (am_Lle.k (am_Lle.k (am_Lle.k (am_Lle.o (am_Lle.o am_Lle.nil)))))))) k)
          · refine am_J.go (cf' := (54, [some (.ref 37), some (.int a1), some (.int a2), some (.int a3), some (.int s1), some (.int s2), none, none], [.int 0], hp A I x)) 1 rfl ?_
            exact am_J.leaf (fun k => am_Ev.weak (L' := [some (.ref 37), some (.int a1), some (.int a2), some (.int a3), some (.int s1), some (.int s2), none, none]) (am_Lle.k (am_Lle.k (am_Lle.k (am_Lle.k (am_Lle.k (am_Lle.k (am_Lle.o (am_Lle.o am_Lle.nil)))))))) k)
        · refine am_J.go (cf' := (54, [some (.ref 37), some (.int a1), some (.int a2), some (.int a3), some (.int s1), some (.int s2), none, none], [.int 0], hp A I x)) 1 rfl ?_
          exact am_J.leaf (fun k => am_Ev.weak (L' := [some (.ref 37), some (.int a1), some (.int a2), some (.int a3), some (.int s1), some (.int s2), none, none]) (am_Lle.k (am_Lle.k (am_Lle.k (am_Lle.k (am_Lle.k (am_Lle.k (am_Lle.o (am_Lle.o am_Lle.nil)))))))) k)
      · rintro j5
        refine am_J.go 2 rfl ?_
        refine am_J.join (β := Int32) (cj := fun j8 => (89, [some (.ref 37), some (.int a1), some (.int a2), some (.int a3), some (.int s1), some (.int s2), none, none], [.int j8], hp A I x)) ?_ ?_
        · refine am_J.eq rfl ?_ ?_
          · refine am_J.go (cf' := (89, [some (.ref 37), some (.int a1), some (.int a2), some (.int a3), some (.int s1), some (.int s2), some (.int j5), none], [.int 0], hp A I x)) 1 rfl ?_
            exact am_J.leaf (fun k => am_Ev.weak (L' := [some (.ref 37), some (.int a1), some (.int a2), some (.int a3), some (.int s1), some (.int s2), none, none]) (am_Lle.k (am_Lle.k (am_Lle.k (am_Lle.k (am_Lle.k (am_Lle.k (am_Lle.o (am_Lle.o am_Lle.nil)))))))) k)
          · refine am_J.go 2 rfl ?_
            refine am_J.callz (v := fun r6 => r6) (h' := fun r6 => hp A I x) rfl rfl rfl (fun r6 hw => (t_X11_has (h := hp A I x) a1 s2 hw).mono (Nat.le_of_ble_eq_true rfl)) (fun r6 hr6 => ?_)
            refine am_J.eq rfl ?_ ?_
            · refine am_J.go (cf' := (89, [some (.ref 37), some (.int a1), some (.int a2), some (.int a3), some (.int s1), some (.int s2), some (.int j5), none], [.int 0], hp A I x)) 1 rfl ?_
              exact am_J.leaf (fun k => am_Ev.weak (L' := [some (.ref 37), some (.int a1), some (.int a2), some (.int a3), some (.int s1), some (.int s2), none, none]) (am_Lle.k (am_Lle.k (am_Lle.k (am_Lle.k (am_Lle.k (am_Lle.k (am_Lle.o (am_Lle.o am_Lle.nil)))))))) k)
            · refine am_J.go 4 rfl ?_
              refine am_J.ial (xs := (A 33)) rfl (Nat.le_of_ble_eq_true rfl) rfl (fun v7 => ?_)
              refine am_J.go 1 rfl ?_
              refine am_J.gt rfl ?_ ?_
              · refine am_J.go (cf' := (89, [some (.ref 37), some (.int a1), some (.int a2), some (.int a3), some (.int s1), some (.int s2), some (.int j5), none], [.int 0], hp A I x)) 1 rfl ?_
                exact am_J.leaf (fun k => am_Ev.weak (L' := [some (.ref 37), some (.int a1), some (.int a2), some (.int a3), some (.int s1), some (.int s2), none, none]) (am_Lle.k (am_Lle.k (am_Lle.k (am_Lle.k (am_Lle.k (am_Lle.k (am_Lle.o (am_Lle.o am_Lle.nil)))))))) k)
              · refine am_J.go (cf' := (89, [some (.ref 37), some (.int a1), some (.int a2), some (.int a3), some (.int s1), some (.int s2), some (.int j5), none], [.int 1], hp A I x)) 2 rfl ?_
                exact am_J.leaf (fun k => am_Ev.weak (L' := [some (.ref 37), some (.int a1), some (.int a2), some (.int a3), some (.int s1), some (.int s2), none, none]) (am_Lle.k (am_Lle.k (am_Lle.k (am_Lle.k (am_Lle.k (am_Lle.k (am_Lle.o (am_Lle.o am_Lle.nil)))))))) k)
        · rintro j8
          refine am_J.go 2 rfl ?_
          refine am_J.join (β := Int32) (cj := fun j11 => (129, [some (.ref 37), some (.int a1), some (.int a2), some (.int a3), some (.int j11), some (.int s2), none, none], [], hp A I x)) ?_ ?_
          · refine am_J.eq rfl ?_ ?_
            · refine am_J.go (cf' := (129, [some (.ref 37), some (.int a1), some (.int a2), some (.int a3), some (.int s1), some (.int s2), none, some (.int j8)], [], hp A I x)) 0 rfl ?_
              exact am_J.leaf (fun k => am_Ev.weak (L' := [some (.ref 37), some (.int a1), some (.int a2), some (.int a3), some (.int s1), some (.int s2), none, none]) (am_Lle.k (am_Lle.k (am_Lle.k (am_Lle.k (am_Lle.k (am_Lle.k (am_Lle.o (am_Lle.o am_Lle.nil)))))))) k)
            · refine am_J.go 2 rfl ?_
              refine am_J.eq rfl ?_ ?_
              · refine am_J.go (cf' := (129, [some (.ref 37), some (.int a1), some (.int a2), some (.int a3), some (.int s2), some (.int s2), none, some (.int j8)], [], hp A I x)) 2 rfl ?_
                exact am_J.leaf (fun k => am_Ev.weak (L' := [some (.ref 37), some (.int a1), some (.int a2), some (.int a3), some (.int s2), some (.int s2), none, none]) (am_Lle.k (am_Lle.k (am_Lle.k (am_Lle.k (am_Lle.k (am_Lle.k (am_Lle.o (am_Lle.o am_Lle.nil)))))))) k)
              · refine am_J.go 4 rfl ?_
                refine am_J.ial (xs := (A 33)) rfl (Nat.le_of_ble_eq_true rfl) rfl (fun v9 => ?_)
                refine am_J.go 4 rfl ?_
                refine am_J.ial (xs := (A 33)) rfl (Nat.le_of_ble_eq_true rfl) rfl (fun v10 => ?_)
                refine am_J.lt rfl ?_ ?_
                · refine am_J.go (cf' := (129, [some (.ref 37), some (.int a1), some (.int a2), some (.int a3), some (.int s1), some (.int s2), none, some (.int j8)], [], hp A I x)) 0 rfl ?_
                  exact am_J.leaf (fun k => am_Ev.weak (L' := [some (.ref 37), some (.int a1), some (.int a2), some (.int a3), some (.int s1), some (.int s2), none, none]) (am_Lle.k (am_Lle.k (am_Lle.k (am_Lle.k (am_Lle.k (am_Lle.k (am_Lle.o (am_Lle.o am_Lle.nil)))))))) k)
                · refine am_J.go (cf' := (129, [some (.ref 37), some (.int a1), some (.int a2), some (.int a3), some (.int s2), some (.int s2), none, some (.int j8)], [], hp A I x)) 2 rfl ?_
                  exact am_J.leaf (fun k => am_Ev.weak (L' := [some (.ref 37), some (.int a1), some (.int a2), some (.int a3), some (.int s2), some (.int s2), none, none]) (am_Lle.k (am_Lle.k (am_Lle.k (am_Lle.k (am_Lle.k (am_Lle.k (am_Lle.o (am_Lle.o am_Lle.nil)))))))) k)
          · rintro j11
            refine am_J.go (cf' := (6, [some (.ref 37), some (.int a1), some (.int a2), some (.int a3), some (.int j11), some (.int (s2 + 1)), none, none], [], hp A I x)) 2 rfl ?_
            exact am_J.leaf (fun k => am_Ev.weak (L' := [some (.ref 37), some (.int a1), some (.int a2), some (.int a3), some (.int j11), some (.int (s2 + 1)), none, none]) (am_Lle.k (am_Lle.k (am_Lle.k (am_Lle.k (am_Lle.k (am_Lle.k (am_Lle.o (am_Lle.o am_Lle.nil)))))))) k)
  · rintro e12
    refine (?_ : am_J (am_ro xs) 2 mc_X1_namingOn r (135, [some (.ref 37), none, none, some (.int a3), some (.int e12), none, none, none], [], hp A I x) _ _)
    refine am_J.go 2 rfl ?_
    refine am_J.eq rfl ?_ ?_
    · refine am_J.go 1 rfl ?_
      exact am_J.ret rfl (fun k => k)
    · refine am_J.go 4 rfl ?_
      refine am_J.callz (v := fun r13 => r13) (h' := fun r13 => hp A I x) rfl rfl rfl (fun r13 hw => (t_X2_runsOn A I x e12 a3 hw)) (fun r13 hr13 => ?_)
      refine am_J.eq rfl ?_ ?_
      · refine am_J.go 1 rfl ?_
        exact am_J.ret rfl (fun k => k)
      · refine am_J.go 2 rfl ?_
        exact am_J.ret rfl (fun k => k)

def f_X1_rightful (A : Nat → List Int32) (I : Nat → Int32) (a1 : Int32) (a2 : Int32) (a3 : Int32) : Option (Int32) :=
  ((f_X1_namingOn A I a1 a2 a3).bind fun r1 =>
  (if r1 = (-1) then
    some (-1)
  else
    ((am_at (A 32) r1).bind fun v2 =>
    some (v2 - v2 / 12 * 12))))
set_option maxRecDepth 100000 in
set_option maxHeartbeats 4000000 in
theorem t_X1_rightful {xs : List Int32} (A : Nat → List Int32) (I : Nat → Int32) (x : am_X) (a1 : Int32) (a2 : Int32) (a3 : Int32) {z : Int32} (hz : f_X1_rightful A I a1 a2 a3 = some z) : am_Rt (am_ro xs) 4 ix_X1_rightful [.ref 37, .int a1, .int a2, .int a3] (hp A I x) (some (.int z), hp A I x) := by
  refine am_Rt.J (k := ix_X1_rightful) (M := mc_X1_rightful) (nL := 5) (d := 3) (as := [.ref 37, .int a1, .int a2, .int a3]) (res := fun z => (some (.int z), hp A I x)) rfl (Nat.le_of_ble_eq_true rfl) (fun r => ?_) hz
  unfold f_X1_rightful
  refine am_J.go 4 rfl ?_
  refine am_J.call (v := fun r1 => .int r1) (h' := fun r1 => hp A I x) rfl (fun r1 hw => (t_X1_namingOn A I x a1 a2 a3 hw)) (fun r1 => ?_)
  refine am_J.go 3 rfl ?_
  refine am_J.ne rfl ?_ ?_
  · refine am_J.go 2 rfl ?_
    exact am_J.ret rfl (fun k => k)
  · refine am_J.go 4 rfl ?_
    refine am_J.ial (xs := (A 32)) rfl (Nat.le_of_ble_eq_true rfl) rfl (fun v2 => ?_)
    refine am_J.go 2 rfl ?_
    exact am_J.ret rfl (fun k => k)

def f_X3_cheapest_l1 (A : Nat → List Int32) (I : Nat → Int32) (r1 : Int32) : (Int32 × Int32 × Int32 × Int32) → Option ((Int32 × Int32 × Int32 × Int32) ⊕ (Int32)) := fun q => match q with
    | (s2, s3, s4, s5) =>
    (if (1 <<< ((I 3715) &&& 31)) ≤ s5 then
      some (.inr s2)
    else
      (((if (s5 &&& (I 3714)) = 0 then
          ((f_J6_bitCount_0f7a4 s5).bind fun r6 =>
          (if (I 3715) < (2 * (r6 + r1)) then
            ((f_X11_sumOver (A 59) s5).bind fun r7 =>
            (((if r7 < s3 then
                some 1
              else
                (if r7 = s3 then
                  (if s4 ≤ r6 then
                    some 0
                  else
                    some 1)
                else
                  some 0)) : Option (Int32)).bind (fun j8 =>
            (if s2 = (-1) then
              ((f_X11_goTogether (A 60) s5).bind fun r9 =>
              (if r9 = 0 then
                some (s2, s3, s4)
              else
                some (s5, r7, r6)))
            else
              (if j8 = 0 then
                some (s2, s3, s4)
              else
                ((f_X11_goTogether (A 60) s5).bind fun r10 =>
                (if r10 = 0 then
                  some (s2, s3, s4)
                else
                  some (s5, r7, r6))))))))
          else
            some (s2, s3, s4)))
        else
          some (s2, s3, s4)) : Option (Int32 × Int32 × Int32)).bind (fun q => match q with
      | (j11, j12, j13) =>
      some (.inl (j11, j12, j13, (s5 + 1))))))
def f_X3_cheapest (A : Nat → List Int32) (I : Nat → Int32) : Option (Int32) :=
  ((f_J6_bitCount_0f7a4 (I 3714)).bind fun r1 =>
  ((wl (f_X3_cheapest_l1 A I r1) 100000 ((-1), 0, 0, 0)).bind (fun e14 =>
  some e14)))
set_option maxRecDepth 100000 in
set_option maxHeartbeats 4000000 in
theorem t_X3_cheapest {xs : List Int32} (A : Nat → List Int32) (I : Nat → Int32) (x : am_X) {z : Int32} (hz : f_X3_cheapest A I = some z) : am_Rt (am_ro xs) 3 ix_X3_cheapest [.ref 58] (hp A I x) (some (.int z), hp A I x) := by
  refine am_Rt.J (k := ix_X3_cheapest) (M := mc_X3_cheapest) (nL := 9) (d := 2) (as := [.ref 58]) (res := fun z => (some (.int z), hp A I x)) rfl (Nat.le_of_ble_eq_true rfl) (fun r => ?_) hz
  unfold f_X3_cheapest
  refine am_J.go 8 rfl ?_
  refine am_J.call (v := fun r1 => .int r1) (h' := fun r1 => hp A I x) rfl (fun r1 hw => (t_J6_bitCount_0f7a4 (h := hp A I x) (I 3714) hw).mono (Nat.le_of_ble_eq_true rfl)) (fun r1 => ?_)
  refine am_J.go (cf' := (18, [some (.ref 58), some (.int (-1)), some (.int 0), some (.int 0), some (.int r1), some (.int 0), none, none, none], [], hp A I x)) 3 rfl ?_
  refine am_J.weak (L' := [some (.ref 58), some (.int (-1)), some (.int 0), some (.int 0), some (.int r1), some (.int 0), none, none, none]) (am_Lle.k (am_Lle.k (am_Lle.k (am_Lle.k (am_Lle.k (am_Lle.k (am_Lle.o (am_Lle.o (am_Lle.o am_Lle.nil))))))))) ?_
  refine am_J.loop (cl := fun q => match q with | (s2, s3, s4, s5) => (18, [some (.ref 58), some (.int s2), some (.int s3), some (.int s4), some (.int r1), some (.int s5), none, none, none], [], hp A I x)) (GX := fun e14 => am_Ev (am_ro xs) 2 mc_X3_cheapest (139, [none, some (.int e14), none, none, none, none, none, none, none], [], hp A I x) r) ?_ ?_
  · rintro ⟨s2, s3, s4, s5⟩
    unfold f_X3_cheapest_l1
    refine am_J.go 5 rfl ?_
    refine am_J.ge rfl ?_ ?_
    · refine am_J.go (cf' := (139, [some (.ref 58), some (.int s2), some (.int s3), some (.int s4), some (.int r1), some (.int s5), none, none, none], [], hp A I x)) 0 rfl ?_
      exact am_J.leaf (fun k => am_Ev.weak (L' := [none, some (.int s2), none, none, none, none, none, none, none]) (am_Lle.o (am_Lle.k (am_Lle.o (am_Lle.o (am_Lle.o (am_Lle.o (am_Lle.o (am_Lle.o (am_Lle.o am_Lle.nil))))))))) k)
    · refine am_J.go 4 rfl ?_
      refine am_J.join (β := Int32 × Int32 × Int32) (cj := fun q => match q with | (j11, j12, j13) => (133, [some (.ref 58), some (.int j11), some (.int j12), some (.int j13), some (.int r1), some (.int s5), none, none, none], [], hp A I x)) ?_ ?_
      · refine am_J.eq rfl ?_ ?_
        · refine am_J.go 1 rfl ?_
          refine am_J.call (v := fun r6 => .int r6) (h' := fun r6 => hp A I x) rfl (fun r6 hw => (t_J6_bitCount_0f7a4 (h := hp A I x) s5 hw).mono (Nat.le_of_ble_eq_true rfl)) (fun r6 => ?_)
          refine am_J.go 8 rfl ?_
          refine am_J.gt rfl ?_ ?_
          · refine am_J.go 3 rfl ?_
            refine am_J.call (v := fun r7 => .int r7) (h' := fun r7 => hp A I x) rfl (fun r7 hw => (t_X11_sumOver (h := hp A I x) (a := 59) (ys := (A 59)) s5 (Nat.le_of_ble_eq_true rfl) rfl hw)) (fun r7 => ?_)
            refine am_J.go 3 rfl ?_
            refine am_J.join (β := Int32) (cj := fun j8 => (100, [some (.ref 58), some (.int s2), some (.int s3), some (.int s4), some (.int r1), some (.int s5), some (.int r6), some (.int r7), none], [.int j8], hp A I x)) ?_ ?_
            · refine am_J.lt rfl ?_ ?_
              · refine am_J.go (cf' := (100, [some (.ref 58), some (.int s2), some (.int s3), some (.int s4), some (.int r1), some (.int s5), some (.int r6), some (.int r7), none], [.int 1], hp A I x)) 2 rfl ?_
                exact am_J.leaf (fun k => am_Ev.weak (L' := [some (.ref 58), some (.int s2), some (.int s3), some (.int s4), some (.int r1), some (.int s5), some (.int r6), some (.int r7), none]) (am_Lle.k (am_Lle.k (am_Lle.k (am_Lle.k (am_Lle.k (am_Lle.k (am_Lle.k (am_Lle.k (am_Lle.o am_Lle.nil))))))))) k)
              · refine am_J.go 2 rfl ?_
                refine am_J.ne rfl ?_ ?_
                · refine am_J.go 2 rfl ?_
                  refine am_J.ge rfl ?_ ?_
                  · refine am_J.go (cf' := (100, [some (.ref 58), some (.int s2), some (.int s3), some (.int s4), some (.int r1), some (.int s5), some (.int r6), some (.int r7), none], [.int 0], hp A I x)) 1 rfl ?_
                    exact am_J.leaf (fun k => am_Ev.weak (L' := [some (.ref 58), some (.int s2), some (.int s3), some (.int s4), some (.int r1), some (.int s5), some (.int r6), some (.int r7), none]) (am_Lle.k (am_Lle.k (am_Lle.k (am_Lle.k (am_Lle.k (am_Lle.k (am_Lle.k (am_Lle.k (am_Lle.o am_Lle.nil))))))))) k)
                  · refine am_J.go (cf' := (100, [some (.ref 58), some (.int s2), some (.int s3), some (.int s4), some (.int r1), some (.int s5), some (.int r6), some (.int r7), none], [.int 1], hp A I x)) 2 rfl ?_
                    exact am_J.leaf (fun k => am_Ev.weak (L' := [some (.ref 58), some (.int s2), some (.int s3), some (.int s4), some (.int r1), some (.int s5), some (.int r6), some (.int r7), none]) (am_Lle.k (am_Lle.k (am_Lle.k (am_Lle.k (am_Lle.k (am_Lle.k (am_Lle.k (am_Lle.k (am_Lle.o am_Lle.nil))))))))) k)
                · refine am_J.go (cf' := (100, [some (.ref 58), some (.int s2), some (.int s3), some (.int s4), some (.int r1), some (.int s5), some (.int r6), some (.int r7), none], [.int 0], hp A I x)) 1 rfl ?_
                  exact am_J.leaf (fun k => am_Ev.weak (L' := [some (.ref 58), some (.int s2), some (.int s3), some (.int s4), some (.int r1), some (.int s5), some (.int r6), some (.int r7), none]) (am_Lle.k (am_Lle.k (am_Lle.k (am_Lle.k (am_Lle.k (am_Lle.k (am_Lle.k (am_Lle.k (am_Lle.o am_Lle.nil))))))))) k)
            · rintro j8
              refine am_J.go 3 rfl ?_
              refine am_J.eq rfl ?_ ?_
              · refine am_J.go 3 rfl ?_
                refine am_J.callz (v := fun r9 => r9) (h' := fun r9 => hp A I x) rfl rfl rfl (fun r9 hw => (t_X11_goTogether (h := hp A I x) (a := 60) (ys := (A 60)) s5 (Nat.le_of_ble_eq_true rfl) rfl hw)) (fun r9 hr9 => ?_)
                refine am_J.eq rfl ?_ ?_
                · refine am_J.go (cf' := (133, [some (.ref 58), some (.int s2), some (.int s3), some (.int s4), some (.int r1), some (.int s5), some (.int r6), some (.int r7), some (.int j8)], [], hp A I x)) 0 rfl ?_
                  exact am_J.leaf (fun k => am_Ev.weak (L' := [some (.ref 58), some (.int s2), some (.int s3), some (.int s4), some (.int r1), some (.int s5), none, none, none]) (am_Lle.k (am_Lle.k (am_Lle.k (am_Lle.k (am_Lle.k (am_Lle.k (am_Lle.o (am_Lle.o (am_Lle.o am_Lle.nil))))))))) k)
                · refine am_J.go (cf' := (133, [some (.ref 58), some (.int s5), some (.int r7), some (.int r6), some (.int r1), some (.int s5), some (.int r6), some (.int r7), some (.int j8)], [], hp A I x)) 6 rfl ?_
                  exact am_J.leaf (fun k => am_Ev.weak (L' := [some (.ref 58), some (.int s5), some (.int r7), some (.int r6), some (.int r1), some (.int s5), none, none, none]) (am_Lle.k (am_Lle.k (am_Lle.k (am_Lle.k (am_Lle.k (am_Lle.k (am_Lle.o (am_Lle.o (am_Lle.o am_Lle.nil))))))))) k)
              · refine am_J.go 1 rfl ?_
                refine am_J.eq rfl ?_ ?_
                · refine am_J.go (cf' := (133, [some (.ref 58), some (.int s2), some (.int s3), some (.int s4), some (.int r1), some (.int s5), some (.int r6), some (.int r7), some (.int j8)], [], hp A I x)) 0 rfl ?_
                  exact am_J.leaf (fun k => am_Ev.weak (L' := [some (.ref 58), some (.int s2), some (.int s3), some (.int s4), some (.int r1), some (.int s5), none, none, none]) (am_Lle.k (am_Lle.k (am_Lle.k (am_Lle.k (am_Lle.k (am_Lle.k (am_Lle.o (am_Lle.o (am_Lle.o am_Lle.nil))))))))) k)
                · refine am_J.go 3 rfl ?_
                  refine am_J.callz (v := fun r10 => r10) (h' := fun r10 => hp A I x) rfl rfl rfl (fun r10 hw => (t_X11_goTogether (h := hp A I x) (a := 60) (ys := (A 60)) s5 (Nat.le_of_ble_eq_true rfl) rfl hw)) (fun r10 hr10 => ?_)
                  refine am_J.eq rfl ?_ ?_
                  · refine am_J.go (cf' := (133, [some (.ref 58), some (.int s2), some (.int s3), some (.int s4), some (.int r1), some (.int s5), some (.int r6), some (.int r7), some (.int j8)], [], hp A I x)) 0 rfl ?_
                    exact am_J.leaf (fun k => am_Ev.weak (L' := [some (.ref 58), some (.int s2), some (.int s3), some (.int s4), some (.int r1), some (.int s5), none, none, none]) (am_Lle.k (am_Lle.k (am_Lle.k (am_Lle.k (am_Lle.k (am_Lle.k (am_Lle.o (am_Lle.o (am_Lle.o am_Lle.nil))))))))) k)
                  · refine am_J.go (cf' := (133, [some (.ref 58), some (.int s5), some (.int r7), some (.int r6), some (.int r1), some (.int s5), some (.int r6), some (.int r7), some (.int j8)], [], hp A I x)) 6 rfl ?_
                    exact am_J.leaf (fun k => am_Ev.weak (L' := [some (.ref 58), some (.int s5), some (.int r7), some (.int r6), some (.int r1), some (.int s5), none, none, none]) (am_Lle.k (am_Lle.k (am_Lle.k (am_Lle.k (am_Lle.k (am_Lle.k (am_Lle.o (am_Lle.o (am_Lle.o am_Lle.nil))))))))) k)
          · refine am_J.go (cf' := (133, [some (.ref 58), some (.int s2), some (.int s3), some (.int s4), some (.int r1), some (.int s5), some (.int r6), none, none], [], hp A I x)) 1 rfl ?_
            exact am_J.leaf (fun k => am_Ev.weak (L' := [some (.ref 58), some (.int s2), some (.int s3), some (.int s4), some (.int r1), some (.int s5), none, none, none]) (am_Lle.k (am_Lle.k (am_Lle.k (am_Lle.k (am_Lle.k (am_Lle.k (am_Lle.o (am_Lle.o (am_Lle.o am_Lle.nil))))))))) k)
        · refine am_J.go (cf' := (133, [some (.ref 58), some (.int s2), some (.int s3), some (.int s4), some (.int r1), some (.int s5), none, none, none], [], hp A I x)) 1 rfl ?_
          exact am_J.leaf (fun k => am_Ev.weak (L' := [some (.ref 58), some (.int s2), some (.int s3), some (.int s4), some (.int r1), some (.int s5), none, none, none]) (am_Lle.k (am_Lle.k (am_Lle.k (am_Lle.k (am_Lle.k (am_Lle.k (am_Lle.o (am_Lle.o (am_Lle.o am_Lle.nil))))))))) k)
      · rintro ⟨j11, j12, j13⟩
        refine am_J.go (cf' := (18, [some (.ref 58), some (.int j11), some (.int j12), some (.int j13), some (.int r1), some (.int (s5 + 1)), none, none, none], [], hp A I x)) 2 rfl ?_
        exact am_J.leaf (fun k => am_Ev.weak (L' := [some (.ref 58), some (.int j11), some (.int j12), some (.int j13), some (.int r1), some (.int (s5 + 1)), none, none, none]) (am_Lle.k (am_Lle.k (am_Lle.k (am_Lle.k (am_Lle.k (am_Lle.k (am_Lle.o (am_Lle.o (am_Lle.o am_Lle.nil))))))))) k)
  · rintro e14
    refine (?_ : am_J (am_ro xs) 2 mc_X3_cheapest r (139, [none, some (.int e14), none, none, none, none, none, none, none], [], hp A I x) _ _)
    refine am_J.go 1 rfl ?_
    exact am_J.ret rfl (fun k => k)

def f_X4_giveUp_l1 (A : Nat → List Int32) (I : Nat → Int32) (a2 : Int32) (a3 : Int32) : (Int32 × Int32 × (List Int32)) → Option ((Int32 × Int32 × (List Int32)) ⊕ ((List Int32))) := fun q => match q with
    | (s1, s2, s3) =>
    (if 8 ≤ s2 then
      some (.inr s3)
    else
      ((f_X11_has a2 s2).bind fun r4 =>
      (((if r4 = 0 then
          some (s1, s3)
        else
          (if 7 ≤ s1 then
            some (s1, s3)
          else
            ((am_up s3 s1 s2).bind fun y5 =>
            some ((s1 + 1), y5)))) : Option (Int32 × (List Int32))).bind (fun q => match q with
      | (j6, j7) =>
      some (.inl (j6, (s2 + 1), j7))))))
def f_X4_giveUp (A : Nat → List Int32) (I : Nat → Int32) (a1 : Int32) (a2 : Int32) (a3 : Int32) : Option ((List Int32) × (List Int32) × Int32) :=
  (if (I 4676) < a3 then
    ((wl (f_X4_giveUp_l1 A I a2 a3) 100000 (a1, 0, (A 74))).bind (fun e8 =>
    ((f_X4_keep (up A 74 e8) I a3).bind fun r9 =>
    some (e8, r9.1, r9.2))))
  else
    some ((A 74), (A 75), (I 4676)))
set_option maxRecDepth 100000 in
set_option maxHeartbeats 4000000 in
theorem t_X4_giveUp {xs : List Int32} (A : Nat → List Int32) (I : Nat → Int32) (x : am_X) (a1 : Int32) (a2 : Int32) (a3 : Int32) {z : (List Int32) × (List Int32) × Int32} (hz : f_X4_giveUp A I a1 a2 a3 = some z) : am_Rt (am_ro xs) 2 ix_X4_giveUp [.ref 73, .int a1, .int a2, .int a3] (hp A I x) (none, hp (up (up A 74 z.1) 75 z.2.1) (up I 4676 z.2.2) x) := by
  refine am_Rt.J (k := ix_X4_giveUp) (M := mc_X4_giveUp) (nL := 6) (d := 1) (as := [.ref 73, .int a1, .int a2, .int a3]) (res := fun z => (none, hp (up (up A 74 z.1) 75 z.2.1) (up I 4676 z.2.2) x)) rfl (Nat.le_of_ble_eq_true rfl) (fun r => ?_) hz
  unfold f_X4_giveUp
  refine am_J.go 3 rfl ?_
  refine am_J.gt rfl ?_ ?_
  · refine am_J.go (cf' := (15, [some (.ref 73), some (.int a1), some (.int a2), some (.int a3), some (.int a1), some (.int 0)], [], hp A I x)) 4 rfl ?_
    refine am_J.weak (L' := [some (.ref 73), none, some (.int a2), some (.int a3), some (.int a1), some (.int 0)]) (am_Lle.k (am_Lle.o (am_Lle.k (am_Lle.k (am_Lle.k (am_Lle.k am_Lle.nil)))))) ?_
    refine am_J.loop (cl := fun q => match q with | (s1, s2, s3) => (15, [some (.ref 73), none, some (.int a2), some (.int a3), some (.int s1), some (.int s2)], [], hp (up A 74 s3) I x)) (GX := fun e8 => am_Ev (am_ro xs) 1 mc_X4_giveUp (56, [some (.ref 73), none, none, some (.int a3), none, none], [], hp (up A 74 e8) I x) r) ?_ ?_
    · rintro ⟨s1, s2, s3⟩
      unfold f_X4_giveUp_l1
      refine am_J.go 2 rfl ?_
      refine am_J.ge rfl ?_ ?_
      · refine am_J.go (cf' := (56, [some (.ref 73), none, some (.int a2), some (.int a3), some (.int s1), some (.int s2)], [], hp (up A 74 s3) I x)) 0 rfl ?_
        exact am_J.leaf (fun k => am_Ev.weak (L' := [some (.ref 73), none, none, some (.int a3), none, none]) (am_Lle.k (am_Lle.o (am_Lle.o (am_Lle.k (am_Lle.o (am_Lle.o am_Lle.nil)))))) k)
      · refine am_J.go 2 rfl ?_
        refine am_J.callz (v := fun r4 => r4) (h' := fun r4 => hp (up A 74 s3) I x) rfl rfl rfl (fun r4 hw => (t_X11_has (h := hp (up A 74 s3) I x) a2 s2 hw)) (fun r4 hr4 => ?_)
        refine am_J.join (β := Int32 × (List Int32)) (cj := fun q => match q with | (j6, j7) => (50, [some (.ref 73), none, some (.int a2), some (.int a3), some (.int j6), some (.int s2)], [], hp (up A 74 j7) I x)) ?_ ?_
        · refine am_J.eq rfl ?_ ?_
          · refine am_J.go (cf' := (50, [some (.ref 73), none, some (.int a2), some (.int a3), some (.int s1), some (.int s2)], [], hp (up A 74 s3) I x)) 0 rfl ?_
            exact am_J.leaf (fun k => am_Ev.weak (L' := [some (.ref 73), none, some (.int a2), some (.int a3), some (.int s1), some (.int s2)]) (am_Lle.k (am_Lle.o (am_Lle.k (am_Lle.k (am_Lle.k (am_Lle.k am_Lle.nil)))))) k)
          · refine am_J.go 2 rfl ?_
            refine am_J.ge rfl ?_ ?_
            · refine am_J.go (cf' := (50, [some (.ref 73), none, some (.int a2), some (.int a3), some (.int s1), some (.int s2)], [], hp (up A 74 s3) I x)) 0 rfl ?_
              exact am_J.leaf (fun k => am_Ev.weak (L' := [some (.ref 73), none, some (.int a2), some (.int a3), some (.int s1), some (.int s2)]) (am_Lle.k (am_Lle.o (am_Lle.k (am_Lle.k (am_Lle.k (am_Lle.k am_Lle.nil)))))) k)
            · refine am_J.go 5 rfl ?_
              refine am_J.ias (xs := s3) (h' := fun y5 => hp (up A 74 y5) I x) rfl rfl (fun _ => rfl) (fun y5 => ?_)
              refine am_J.go (cf' := (50, [some (.ref 73), none, some (.int a2), some (.int a3), some (.int (s1 + 1)), some (.int s2)], [], hp (up A 74 y5) I x)) 0 rfl ?_
              exact am_J.leaf (fun k => am_Ev.weak (L' := [some (.ref 73), none, some (.int a2), some (.int a3), some (.int (s1 + 1)), some (.int s2)]) (am_Lle.k (am_Lle.o (am_Lle.k (am_Lle.k (am_Lle.k (am_Lle.k am_Lle.nil)))))) k)
        · rintro ⟨j6, j7⟩
          refine am_J.go (cf' := (15, [some (.ref 73), none, some (.int a2), some (.int a3), some (.int j6), some (.int (s2 + 1))], [], hp (up A 74 j7) I x)) 2 rfl ?_
          exact am_J.leaf (fun k => am_Ev.weak (L' := [some (.ref 73), none, some (.int a2), some (.int a3), some (.int j6), some (.int (s2 + 1))]) (am_Lle.k (am_Lle.o (am_Lle.k (am_Lle.k (am_Lle.k (am_Lle.k am_Lle.nil)))))) k)
    · rintro e8
      refine (?_ : am_J (am_ro xs) 1 mc_X4_giveUp r (56, [some (.ref 73), none, none, some (.int a3), none, none], [], hp (up A 74 e8) I x) _ _)
      refine am_J.go 2 rfl ?_
      refine am_J.calln (h' := fun r9 => hp (up (up A 74 e8) 75 r9.1) (up I 4676 r9.2) x) rfl (fun r9 hw => (t_X4_keep (up A 74 e8) I x a3 hw)) (fun r9 => ?_)
      exact am_J.ret rfl (fun k => k)
  · exact am_J.ret rfl (fun k => k)

def f_X6_lay (A : Nat → List Int32) (I : Nat → Int32) (a1 : Int32) (a2 : Int32) (a3 : Int32) : Option ((Nat → List Int32)) :=
  ((am_row 3 a1).bind fun w1 =>
  ((am_up (A w1) a2 a3).bind fun y2 =>
  ((am_row 3 a2).bind fun w3 =>
  ((am_up ((up A w1 y2) w3) a1 a3).bind fun y4 =>
  ((f_X6_measure (up (up A w1 y2) w3 y4) I).bind fun r5 =>
  some r5)))))
set_option maxRecDepth 100000 in
set_option maxHeartbeats 4000000 in
theorem t_X6_lay {xs : List Int32} (A : Nat → List Int32) (I : Nat → Int32) (x : am_X) (a1 : Int32) (a2 : Int32) (a3 : Int32) {z : (Nat → List Int32)} (hz : f_X6_lay A I a1 a2 a3 = some z) : am_Rt (am_ro xs) 2 ix_X6_lay [.ref 1, .int a1, .int a2, .int a3] (hp A I x) (none, hp z I x) := by
  refine am_Rt.J (k := ix_X6_lay) (M := mc_X6_lay) (nL := 4) (d := 1) (as := [.ref 1, .int a1, .int a2, .int a3]) (res := fun z => (none, hp z I x)) rfl (Nat.le_of_ble_eq_true rfl) (fun r => ?_) hz
  unfold f_X6_lay
  refine am_J.go 3 rfl ?_
  refine am_J.row (base := 3) rfl rfl (by decide) (fun w1 hw1 => ?_)
  refine am_J.go 2 rfl ?_
  refine am_J.ias (xs := (A w1)) (h' := fun y2 => hp (up A w1 y2) I x) rfl (hp_row hw1) (fun _ => hp_row_set hw1) (fun y2 => ?_)
  refine am_J.go 3 rfl ?_
  refine am_J.row (base := 3) rfl rfl (by decide) (fun w3 hw3 => ?_)
  refine am_J.go 2 rfl ?_
  refine am_J.ias (xs := ((up A w1 y2) w3)) (h' := fun y4 => hp (up (up A w1 y2) w3 y4) I x) rfl (hp_row hw3) (fun _ => hp_row_set hw3) (fun y4 => ?_)
  refine am_J.go 1 rfl ?_
  refine am_J.calln (h' := fun r5 => hp r5 I x) rfl (fun r5 hw => (t_X6_measure (up (up A w1 y2) w3 y4) I x hw)) (fun r5 => ?_)
  exact am_J.ret rfl (fun k => k)

def f_X6_sideIfTurned (A : Nat → List Int32) (I : Nat → Int32) (a1 : Int32) (a2 : Int32) (a3 : Int32) (a4 : Int32) : Option (Int32) :=
  ((f_X6_turnOn A I a1 a2).bind fun r1 =>
  (if a2 < a3 then
    (if r1 = (-1) then
      some 0
    else
      ((am_at (A 22) r1).bind fun v2 =>
      some v2))
  else
    (if r1 = (-1) then
      some a4
    else
      ((am_at (A 21) r1).bind fun v3 =>
      (if a3 < v3 then
        (if r1 = (-1) then
          some 0
        else
          ((am_at (A 22) r1).bind fun v4 =>
          some v4))
      else
        some a4)))))
set_option maxRecDepth 100000 in
set_option maxHeartbeats 4000000 in
theorem t_X6_sideIfTurned {xs : List Int32} (A : Nat → List Int32) (I : Nat → Int32) (x : am_X) (a1 : Int32) (a2 : Int32) (a3 : Int32) (a4 : Int32) {z : Int32} (hz : f_X6_sideIfTurned A I a1 a2 a3 a4 = some z) : am_Rt (am_ro xs) 2 ix_X6_sideIfTurned [.ref 1, .int a1, .int a2, .int a3, .int a4] (hp A I x) (some (.int z), hp A I x) := by
  refine am_Rt.J (k := ix_X6_sideIfTurned) (M := mc_X6_sideIfTurned) (nL := 6) (d := 1) (as := [.ref 1, .int a1, .int a2, .int a3, .int a4]) (res := fun z => (some (.int z), hp A I x)) rfl (Nat.le_of_ble_eq_true rfl) (fun r => ?_) hz
  unfold f_X6_sideIfTurned
  refine am_J.go 3 rfl ?_
  refine am_J.call (v := fun r1 => .int r1) (h' := fun r1 => hp A I x) rfl (fun r1 hw => (t_X6_turnOn A I x a1 a2 hw)) (fun r1 => ?_)
  refine am_J.go 3 rfl ?_
  refine am_J.gt rfl ?_ ?_
  · refine am_J.go 2 rfl ?_
    refine am_J.ne rfl ?_ ?_
    · refine am_J.go 2 rfl ?_
      exact am_J.ret rfl (fun k => k)
    · refine am_J.go 3 rfl ?_
      refine am_J.ial (xs := (A 22)) rfl (Nat.le_of_ble_eq_true rfl) rfl (fun v2 => ?_)
      exact am_J.ret rfl (fun k => k)
  · refine am_J.go 2 rfl ?_
    refine am_J.eq rfl ?_ ?_
    · refine am_J.go 1 rfl ?_
      exact am_J.ret rfl (fun k => k)
    · refine am_J.go 4 rfl ?_
      refine am_J.ial (xs := (A 21)) rfl (Nat.le_of_ble_eq_true rfl) rfl (fun v3 => ?_)
      refine am_J.lt rfl ?_ ?_
      · refine am_J.go 2 rfl ?_
        refine am_J.ne rfl ?_ ?_
        · refine am_J.go 2 rfl ?_
          exact am_J.ret rfl (fun k => k)
        · refine am_J.go 3 rfl ?_
          refine am_J.ial (xs := (A 22)) rfl (Nat.le_of_ble_eq_true rfl) rfl (fun v4 => ?_)
          exact am_J.ret rfl (fun k => k)
      · refine am_J.go 1 rfl ?_
        exact am_J.ret rfl (fun k => k)

def f_X6_sideOn (A : Nat → List Int32) (I : Nat → Int32) (a1 : Int32) (a2 : Int32) : Option (Int32) :=
  ((f_X6_turnOn A I a1 a2).bind fun r1 =>
  (if r1 = (-1) then
    some 0
  else
    ((am_at (A 22) r1).bind fun v2 =>
    some v2)))
set_option maxRecDepth 100000 in
set_option maxHeartbeats 4000000 in
theorem t_X6_sideOn {xs : List Int32} (A : Nat → List Int32) (I : Nat → Int32) (x : am_X) (a1 : Int32) (a2 : Int32) {z : Int32} (hz : f_X6_sideOn A I a1 a2 = some z) : am_Rt (am_ro xs) 2 ix_X6_sideOn [.ref 1, .int a1, .int a2] (hp A I x) (some (.int z), hp A I x) := by
  refine am_Rt.J (k := ix_X6_sideOn) (M := mc_X6_sideOn) (nL := 4) (d := 1) (as := [.ref 1, .int a1, .int a2]) (res := fun z => (some (.int z), hp A I x)) rfl (Nat.le_of_ble_eq_true rfl) (fun r => ?_) hz
  unfold f_X6_sideOn
  refine am_J.go 3 rfl ?_
  refine am_J.call (v := fun r1 => .int r1) (h' := fun r1 => hp A I x) rfl (fun r1 hw => (t_X6_turnOn A I x a1 a2 hw)) (fun r1 => ?_)
  refine am_J.go 3 rfl ?_
  refine am_J.ne rfl ?_ ?_
  · refine am_J.go 2 rfl ?_
    exact am_J.ret rfl (fun k => k)
  · refine am_J.go 3 rfl ?_
    refine am_J.ial (xs := (A 22)) rfl (Nat.le_of_ble_eq_true rfl) rfl (fun v2 => ?_)
    exact am_J.ret rfl (fun k => k)

def f_X8_expect (A : Nat → List Int32) (I : Nat → Int32) (a1 : Int32) : Option (Int32 × Int32 × Int32) :=
  (if (I 3337) = a1 then
    ((f_X8_advance A I).bind fun r2 =>
    some (r2.1, r2.2, (I 3338)))
  else
    ((f_X8_fail A I).bind fun r1 =>
    some ((I 3336), r1.1, r1.2)))
set_option maxRecDepth 100000 in
set_option maxHeartbeats 4000000 in
theorem t_X8_expect {xs : List Int32} (A : Nat → List Int32) (I : Nat → Int32) (x : am_X) (a1 : Int32) {z : Int32 × Int32 × Int32} (hz : f_X8_expect A I a1 = some z) : am_Rt (am_ro xs) 2 ix_X8_expect [.ref 52, .int a1] (hp A I x) (none, hp A (up (up (up I 3336 z.1) 3337 z.2.1) 3338 z.2.2) x) := by
  refine am_Rt.J (k := ix_X8_expect) (M := mc_X8_expect) (nL := 2) (d := 1) (as := [.ref 52, .int a1]) (res := fun z => (none, hp A (up (up (up I 3336 z.1) 3337 z.2.1) 3338 z.2.2) x)) rfl (Nat.le_of_ble_eq_true rfl) (fun r => ?_) hz
  unfold f_X8_expect
  refine am_J.go 3 rfl ?_
  refine am_J.ne rfl ?_ ?_
  · refine am_J.go 1 rfl ?_
    refine am_J.calln (h' := fun r2 => hp A (up (up I 3336 r2.1) 3337 r2.2) x) rfl (fun r2 hw => (t_X8_advance A I x hw)) (fun r2 => ?_)
    refine am_J.go 1 rfl ?_
    exact am_J.ret rfl (fun k => k)
  · refine am_J.go 1 rfl ?_
    refine am_J.calln (h' := fun r1 => hp A (up (up I 3337 r1.1) 3338 r1.2) x) rfl (fun r1 hw => (t_X8_fail A I x hw)) (fun r1 => ?_)
    exact am_J.ret rfl (fun k => k)

def f_X8_findNumber_l1 (A : Nat → List Int32) (I : Nat → Int32) (a1 : Int32) : (Int32 × Int32) → Option ((Int32 × Int32) ⊕ (Int32 × Int32)) := fun q => match q with
    | (s1, s2) =>
    (if (I 3329) ≤ s2 then
      some (.inr (s1, s2))
    else
      ((am_at (A 53) s2).bind fun v3 =>
      ((f_X8_isDigit v3).bind fun r4 =>
      (if r4 = 0 then
        some (.inr (s1, s2))
      else
        ((am_at (A 53) s2).bind fun v5 =>
        some (.inl (((s1 * 10) + (v5 - 48)), (s2 + 1))))))))
def f_X8_findNumber (A : Nat → List Int32) (I : Nat → Int32) (a1 : Int32) : Option (Int32 × (List Int32) × Int32) :=
  ((wl (f_X8_findNumber_l1 A I a1) 100000 (0, (I 3332))).bind (fun q => match q with
  | (e6, e7) =>
  ((am_up (A 56) a1 e6).bind fun y8 =>
  ((am_at (A 55) a1).bind fun v9 =>
  (if 4 < (e7 - v9) then
    some (1, y8, e7)
  else
    some (2, y8, e7))))))
set_option maxRecDepth 100000 in
set_option maxHeartbeats 4000000 in
theorem t_X8_findNumber {xs : List Int32} (A : Nat → List Int32) (I : Nat → Int32) (x : am_X) (a1 : Int32) {z : Int32 × (List Int32) × Int32} (hz : f_X8_findNumber A I a1 = some z) : am_Rt (am_ro xs) 2 ix_X8_findNumber [.ref 52, .int a1] (hp A I x) (some (.int z.1), hp (up A 56 z.2.1) (up I 3332 z.2.2) x) := by
  refine am_Rt.J (k := ix_X8_findNumber) (M := mc_X8_findNumber) (nL := 3) (d := 1) (as := [.ref 52, .int a1]) (res := fun z => (some (.int z.1), hp (up A 56 z.2.1) (up I 3332 z.2.2) x)) rfl (Nat.le_of_ble_eq_true rfl) (fun r => ?_) hz
  unfold f_X8_findNumber
  refine am_J.go (cf' := (2, [some (.ref 52), some (.int a1), some (.int 0)], [], hp A I x)) 2 rfl ?_
  refine am_J.weak (L' := [some (.ref 52), some (.int a1), some (.int 0)]) (am_Lle.k (am_Lle.k (am_Lle.k am_Lle.nil))) ?_
  refine am_J.loop (cl := fun q => match q with | (s1, s2) => (2, [some (.ref 52), some (.int a1), some (.int s1)], [], hp A (up I 3332 s2) x)) (GX := fun q => match q with | (e6, e7) => am_Ev (am_ro xs) 1 mc_X8_findNumber (59, [some (.ref 52), some (.int a1), some (.int e6)], [], hp A (up I 3332 e7) x) r) ?_ ?_
  · rintro ⟨s1, s2⟩
    unfold f_X8_findNumber_l1
    refine am_J.go 4 rfl ?_
    refine am_J.ge rfl ?_ ?_
    · refine am_J.go (cf' := (59, [some (.ref 52), some (.int a1), some (.int s1)], [], hp A (up I 3332 s2) x)) 0 rfl ?_
      exact am_J.leaf (fun k => am_Ev.weak (L' := [some (.ref 52), some (.int a1), some (.int s1)]) (am_Lle.k (am_Lle.k (am_Lle.k am_Lle.nil))) k)
    · refine am_J.go 4 rfl ?_
      refine am_J.bal (xs := (A 53)) (t := 1) rfl (by decide) rfl (fun v3 => ?_)
      refine am_J.callz (v := fun r4 => r4) (h' := fun r4 => hp A (up I 3332 s2) x) rfl rfl rfl (fun r4 hw => (t_X8_isDigit (h := hp A (up I 3332 s2) x) v3 hw)) (fun r4 hr4 => ?_)
      refine am_J.eq rfl ?_ ?_
      · refine am_J.go (cf' := (59, [some (.ref 52), some (.int a1), some (.int s1)], [], hp A (up I 3332 s2) x)) 0 rfl ?_
        exact am_J.leaf (fun k => am_Ev.weak (L' := [some (.ref 52), some (.int a1), some (.int s1)]) (am_Lle.k (am_Lle.k (am_Lle.k am_Lle.nil))) k)
      · refine am_J.go 7 rfl ?_
        refine am_J.bal (xs := (A 53)) (t := 1) rfl (by decide) rfl (fun v5 => ?_)
        refine am_J.go (cf' := (2, [some (.ref 52), some (.int a1), some (.int ((s1 * 10) + (v5 - 48)))], [], hp A (up I 3332 (s2 + 1)) x)) 11 rfl ?_
        exact am_J.leaf (fun k => am_Ev.weak (L' := [some (.ref 52), some (.int a1), some (.int ((s1 * 10) + (v5 - 48)))]) (am_Lle.k (am_Lle.k (am_Lle.k am_Lle.nil))) k)
  · rintro ⟨e6, e7⟩
    refine (?_ : am_J (am_ro xs) 1 mc_X8_findNumber r (59, [some (.ref 52), some (.int a1), some (.int e6)], [], hp A (up I 3332 e7) x) _ _)
    refine am_J.go 4 rfl ?_
    refine am_J.ias (xs := (A 56)) (h' := fun y8 => hp (up A 56 y8) (up I 3332 e7) x) rfl rfl (fun _ => rfl) (fun y8 => ?_)
    refine am_J.go 5 rfl ?_
    refine am_J.ial (xs := (A 55)) rfl (Nat.le_of_ble_eq_true rfl) rfl (fun v9 => ?_)
    refine am_J.go 2 rfl ?_
    refine am_J.gt rfl ?_ ?_
    · refine am_J.go 1 rfl ?_
      exact am_J.ret rfl (fun k => k)
    · refine am_J.go 2 rfl ?_
      exact am_J.ret rfl (fun k => k)

def f_X0_isBetter (A : Nat → List Int32) (I : Nat → Int32) (a1 : Int32) (a2 : Int32) (a3 : Int32) : Option (Int32) :=
  ((f_J6_bitCount_0f7a4 a1).bind fun r1 =>
  ((f_J6_bitCount_0f7a4 a2).bind fun r2 =>
  (if (r1 - r2) = 0 then
    ((f_X0_undoneBy A I a2 a3).bind fun r3 =>
    ((f_X0_undoneBy A I a1 a3).bind fun r4 =>
    (if (r3 - r4) = 0 then
      ((f_X0_takersOf A I a1).bind fun r5 =>
      ((f_J6_bitCount_0f7a4 r5).bind fun r6 =>
      ((f_X0_takersOf A I a2).bind fun r7 =>
      ((f_J6_bitCount_0f7a4 r7).bind fun r8 =>
      (if r6 ≤ r8 then
        some 0
      else
        some 1)))))
    else
      (if (r3 - r4) ≤ 0 then
        some 0
      else
        some 1))))
  else
    (if (r1 - r2) ≤ 0 then
      some 0
    else
      some 1))))
set_option maxRecDepth 100000 in
set_option maxHeartbeats 4000000 in
theorem t_X0_isBetter {xs : List Int32} (A : Nat → List Int32) (I : Nat → Int32) (x : am_X) (a1 : Int32) (a2 : Int32) (a3 : Int32) {z : Int32} (hz : f_X0_isBetter A I a1 a2 a3 = some z) : am_Rt (am_ro xs) 4 ix_X0_isBetter [.ref 61, .int a1, .int a2, .int a3] (hp A I x) (some (.int z), hp A I x) := by
  refine am_Rt.J (k := ix_X0_isBetter) (M := mc_X0_isBetter) (nL := 6) (d := 3) (as := [.ref 61, .int a1, .int a2, .int a3]) (res := fun z => (some (.int z), hp A I x)) rfl (Nat.le_of_ble_eq_true rfl) (fun r => ?_) hz
  unfold f_X0_isBetter
  refine am_J.go 1 rfl ?_
  refine am_J.call (v := fun r1 => .int r1) (h' := fun r1 => hp A I x) rfl (fun r1 hw => (t_J6_bitCount_0f7a4 (h := hp A I x) a1 hw).mono (Nat.le_of_ble_eq_true rfl)) (fun r1 => ?_)
  refine am_J.go 1 rfl ?_
  refine am_J.call (v := fun r2 => .int r2) (h' := fun r2 => hp A I x) rfl (fun r2 hw => (t_J6_bitCount_0f7a4 (h := hp A I x) a2 hw).mono (Nat.le_of_ble_eq_true rfl)) (fun r2 => ?_)
  refine am_J.go 3 rfl ?_
  refine am_J.eq rfl ?_ ?_
  · refine am_J.go 3 rfl ?_
    refine am_J.call (v := fun r3 => .int r3) (h' := fun r3 => hp A I x) rfl (fun r3 hw => (t_X0_undoneBy A I x a2 a3 hw).mono (Nat.le_of_ble_eq_true rfl)) (fun r3 => ?_)
    refine am_J.go 3 rfl ?_
    refine am_J.call (v := fun r4 => .int r4) (h' := fun r4 => hp A I x) rfl (fun r4 hw => (t_X0_undoneBy A I x a1 a3 hw).mono (Nat.le_of_ble_eq_true rfl)) (fun r4 => ?_)
    refine am_J.go 3 rfl ?_
    refine am_J.eq rfl ?_ ?_
    · refine am_J.go 2 rfl ?_
      refine am_J.call (v := fun r5 => .int r5) (h' := fun r5 => hp A I x) rfl (fun r5 hw => (t_X0_takersOf A I x a1 hw)) (fun r5 => ?_)
      refine am_J.call (v := fun r6 => .int r6) (h' := fun r6 => hp A I x) rfl (fun r6 hw => (t_J6_bitCount_0f7a4 (h := hp A I x) r5 hw).mono (Nat.le_of_ble_eq_true rfl)) (fun r6 => ?_)
      refine am_J.go 2 rfl ?_
      refine am_J.call (v := fun r7 => .int r7) (h' := fun r7 => hp A I x) rfl (fun r7 hw => (t_X0_takersOf A I x a2 hw)) (fun r7 => ?_)
      refine am_J.call (v := fun r8 => .int r8) (h' := fun r8 => hp A I x) rfl (fun r8 hw => (t_J6_bitCount_0f7a4 (h := hp A I x) r7 hw).mono (Nat.le_of_ble_eq_true rfl)) (fun r8 => ?_)
      refine am_J.le rfl ?_ ?_
      · refine am_J.go 1 rfl ?_
        exact am_J.retz rfl (Or.inl rfl) (fun k => k)
      · refine am_J.go 2 rfl ?_
        exact am_J.retz rfl (Or.inr rfl) (fun k => k)
    · refine am_J.go 1 rfl ?_
      refine am_J.le rfl ?_ ?_
      · refine am_J.go 1 rfl ?_
        exact am_J.retz rfl (Or.inl rfl) (fun k => k)
      · refine am_J.go 2 rfl ?_
        exact am_J.retz rfl (Or.inr rfl) (fun k => k)
  · refine am_J.go 1 rfl ?_
    refine am_J.le rfl ?_ ?_
    · refine am_J.go 1 rfl ?_
      exact am_J.retz rfl (Or.inl rfl) (fun k => k)
    · refine am_J.go 2 rfl ?_
      exact am_J.retz rfl (Or.inr rfl) (fun k => k)

def f_X0_settled_l1 (A : Nat → List Int32) (I : Nat → Int32) (a1 : Int32) (a2 : Int32) : (Int32 × Int32) → Option ((Int32 × Int32) ⊕ (Int32)) := fun q => match q with
    | (s1, s2) =>
    (if (1 <<< ((I 3907) &&& 31)) ≤ s2 then
      some (.inr s1)
    else
      ((f_J6_bitCount_0f7a4 s2).bind fun r3 =>
      ((f_J6_bitCount_0f7a4 s1).bind fun r4 =>
      (((if r3 < r4 then
          some 0
        else
          ((f_X11_goTogether (A 63) s2).bind fun r5 =>
          (if r5 = 0 then
            some 0
          else
            some 1))) : Option (Int32)).bind (fun j6 =>
      (((if j6 = 0 then
          some s1
        else
          ((f_X0_takersOf A I s2).bind fun r7 =>
          ((f_J6_bitCount_0f7a4 r7).bind fun r8 =>
          (if r8 < a1 then
            some s1
          else
            ((f_X0_isBetter A I s2 s1 a2).bind fun r9 =>
            (if r9 = 0 then
              some s1
            else
              some s2)))))) : Option (Int32)).bind (fun j10 =>
      some (.inl (j10, (s2 + 1))))))))))
def f_X0_settled (A : Nat → List Int32) (I : Nat → Int32) (a1 : Int32) (a2 : Int32) : Option (Int32) :=
  ((wl (f_X0_settled_l1 A I a1 a2) 100000 (0, 1)).bind (fun e11 =>
  some e11))
set_option maxRecDepth 100000 in
set_option maxHeartbeats 4000000 in
theorem t_X0_settled {xs : List Int32} (A : Nat → List Int32) (I : Nat → Int32) (x : am_X) (a1 : Int32) (a2 : Int32) {z : Int32} (hz : f_X0_settled A I a1 a2 = some z) : am_Rt (am_ro xs) 5 ix_X0_settled [.ref 61, .int a1, .int a2] (hp A I x) (some (.int z), hp A I x) := by
  refine am_Rt.J (k := ix_X0_settled) (M := mc_X0_settled) (nL := 6) (d := 4) (as := [.ref 61, .int a1, .int a2]) (res := fun z => (some (.int z), hp A I x)) rfl (Nat.le_of_ble_eq_true rfl) (fun r => ?_) hz
  unfold f_X0_settled
  refine am_J.go (cf' := (5, [some (.ref 61), some (.int a1), some (.int a2), some (.int 0), some (.int 1), none], [], hp A I x)) 4 rfl ?_
  refine am_J.weak (L' := [some (.ref 61), some (.int a1), some (.int a2), some (.int 0), some (.int 1), none]) (am_Lle.k (am_Lle.k (am_Lle.k (am_Lle.k (am_Lle.k (am_Lle.o am_Lle.nil)))))) ?_
  refine am_J.loop (cl := fun q => match q with | (s1, s2) => (5, [some (.ref 61), some (.int a1), some (.int a2), some (.int s1), some (.int s2), none], [], hp A I x)) (GX := fun e11 => am_Ev (am_ro xs) 4 mc_X0_settled (85, [none, none, none, some (.int e11), none, none], [], hp A I x) r) ?_ ?_
  · rintro ⟨s1, s2⟩
    unfold f_X0_settled_l1
    refine am_J.go 5 rfl ?_
    refine am_J.ge rfl ?_ ?_
    · refine am_J.go (cf' := (85, [some (.ref 61), some (.int a1), some (.int a2), some (.int s1), some (.int s2), none], [], hp A I x)) 0 rfl ?_
      exact am_J.leaf (fun k => am_Ev.weak (L' := [none, none, none, some (.int s1), none, none]) (am_Lle.o (am_Lle.o (am_Lle.o (am_Lle.k (am_Lle.o (am_Lle.o am_Lle.nil)))))) k)
    · refine am_J.go 1 rfl ?_
      refine am_J.call (v := fun r3 => .int r3) (h' := fun r3 => hp A I x) rfl (fun r3 hw => (t_J6_bitCount_0f7a4 (h := hp A I x) s2 hw).mono (Nat.le_of_ble_eq_true rfl)) (fun r3 => ?_)
      refine am_J.go 1 rfl ?_
      refine am_J.call (v := fun r4 => .int r4) (h' := fun r4 => hp A I x) rfl (fun r4 hw => (t_J6_bitCount_0f7a4 (h := hp A I x) s1 hw).mono (Nat.le_of_ble_eq_true rfl)) (fun r4 => ?_)
      refine am_J.join (β := Int32) (cj := fun j6 => (45, [some (.ref 61), some (.int a1), some (.int a2), some (.int s1), some (.int s2), none], [.int j6], hp A I x)) ?_ ?_
      · refine am_J.lt rfl ?_ ?_
        · refine am_J.go (cf' := (45, [some (.ref 61), some (.int a1), some (.int a2), some (.int s1), some (.int s2), none], [.int 0], hp A I x)) 1 rfl ?_
          exact am_J.leaf (fun k => am_Ev.weak (L' := [some (.ref 61), some (.int a1), some (.int a2), some (.int s1), some (.int s2), none]) (am_Lle.k (am_Lle.k (am_Lle.k (am_Lle.k (am_Lle.k (am_Lle.o am_Lle.nil)))))) k)
        · refine am_J.go 3 rfl ?_
          refine am_J.callz (v := fun r5 => r5) (h' := fun r5 => hp A I x) rfl rfl rfl (fun r5 hw => (t_X11_goTogether (h := hp A I x) (a := 63) (ys := (A 63)) s2 (Nat.le_of_ble_eq_true rfl) rfl hw).mono (Nat.le_of_ble_eq_true rfl)) (fun r5 hr5 => ?_)
          refine am_J.eq rfl ?_ ?_
          · refine am_J.go (cf' := (45, [some (.ref 61), some (.int a1), some (.int a2), some (.int s1), some (.int s2), none], [.int 0], hp A I x)) 1 rfl ?_
            exact am_J.leaf (fun k => am_Ev.weak (L' := [some (.ref 61), some (.int a1), some (.int a2), some (.int s1), some (.int s2), none]) (am_Lle.k (am_Lle.k (am_Lle.k (am_Lle.k (am_Lle.k (am_Lle.o am_Lle.nil)))))) k)
          · refine am_J.go (cf' := (45, [some (.ref 61), some (.int a1), some (.int a2), some (.int s1), some (.int s2), none], [.int 1], hp A I x)) 2 rfl ?_
            exact am_J.leaf (fun k => am_Ev.weak (L' := [some (.ref 61), some (.int a1), some (.int a2), some (.int s1), some (.int s2), none]) (am_Lle.k (am_Lle.k (am_Lle.k (am_Lle.k (am_Lle.k (am_Lle.o am_Lle.nil)))))) k)
      · rintro j6
        refine am_J.go 2 rfl ?_
        refine am_J.join (β := Int32) (cj := fun j10 => (79, [some (.ref 61), some (.int a1), some (.int a2), some (.int j10), some (.int s2), none], [], hp A I x)) ?_ ?_
        · refine am_J.eq rfl ?_ ?_
          · refine am_J.go (cf' := (79, [some (.ref 61), some (.int a1), some (.int a2), some (.int s1), some (.int s2), some (.int j6)], [], hp A I x)) 0 rfl ?_
            exact am_J.leaf (fun k => am_Ev.weak (L' := [some (.ref 61), some (.int a1), some (.int a2), some (.int s1), some (.int s2), none]) (am_Lle.k (am_Lle.k (am_Lle.k (am_Lle.k (am_Lle.k (am_Lle.o am_Lle.nil)))))) k)
          · refine am_J.go 2 rfl ?_
            refine am_J.call (v := fun r7 => .int r7) (h' := fun r7 => hp A I x) rfl (fun r7 hw => (t_X0_takersOf A I x s2 hw).mono (Nat.le_of_ble_eq_true rfl)) (fun r7 => ?_)
            refine am_J.call (v := fun r8 => .int r8) (h' := fun r8 => hp A I x) rfl (fun r8 hw => (t_J6_bitCount_0f7a4 (h := hp A I x) r7 hw).mono (Nat.le_of_ble_eq_true rfl)) (fun r8 => ?_)
            refine am_J.go 1 rfl ?_
            refine am_J.lt rfl ?_ ?_
            · refine am_J.go (cf' := (79, [some (.ref 61), some (.int a1), some (.int a2), some (.int s1), some (.int s2), some (.int j6)], [], hp A I x)) 0 rfl ?_
              exact am_J.leaf (fun k => am_Ev.weak (L' := [some (.ref 61), some (.int a1), some (.int a2), some (.int s1), some (.int s2), none]) (am_Lle.k (am_Lle.k (am_Lle.k (am_Lle.k (am_Lle.k (am_Lle.o am_Lle.nil)))))) k)
            · refine am_J.go 4 rfl ?_
              refine am_J.callz (v := fun r9 => r9) (h' := fun r9 => hp A I x) rfl rfl rfl (fun r9 hw => (t_X0_isBetter A I x s2 s1 a2 hw)) (fun r9 hr9 => ?_)
              refine am_J.eq rfl ?_ ?_
              · refine am_J.go (cf' := (79, [some (.ref 61), some (.int a1), some (.int a2), some (.int s1), some (.int s2), some (.int j6)], [], hp A I x)) 0 rfl ?_
                exact am_J.leaf (fun k => am_Ev.weak (L' := [some (.ref 61), some (.int a1), some (.int a2), some (.int s1), some (.int s2), none]) (am_Lle.k (am_Lle.k (am_Lle.k (am_Lle.k (am_Lle.k (am_Lle.o am_Lle.nil)))))) k)
              · refine am_J.go (cf' := (79, [some (.ref 61), some (.int a1), some (.int a2), some (.int s2), some (.int s2), some (.int j6)], [], hp A I x)) 2 rfl ?_
                exact am_J.leaf (fun k => am_Ev.weak (L' := [some (.ref 61), some (.int a1), some (.int a2), some (.int s2), some (.int s2), none]) (am_Lle.k (am_Lle.k (am_Lle.k (am_Lle.k (am_Lle.k (am_Lle.o am_Lle.nil)))))) k)
        · rintro j10
          refine am_J.go (cf' := (5, [some (.ref 61), some (.int a1), some (.int a2), some (.int j10), some (.int (s2 + 1)), none], [], hp A I x)) 2 rfl ?_
          exact am_J.leaf (fun k => am_Ev.weak (L' := [some (.ref 61), some (.int a1), some (.int a2), some (.int j10), some (.int (s2 + 1)), none]) (am_Lle.k (am_Lle.k (am_Lle.k (am_Lle.k (am_Lle.k (am_Lle.o am_Lle.nil)))))) k)
  · rintro e11
    refine (?_ : am_J (am_ro xs) 4 mc_X0_settled r (85, [none, none, none, some (.int e11), none, none], [], hp A I x) _ _)
    refine am_J.go 1 rfl ?_
    exact am_J.ret rfl (fun k => k)

def f_X11_act (A : Nat → List Int32) (I : Nat → Int32) (a1 : Int32) (a2 : Int32) (a3 : Int32) (a4 : Int32) (a5 : Int32) : Option (Int32 × (List Int32) × (List Int32) × (List Int32) × (List Int32) × (List Int32) × Int32) :=
  ((f_X11_isWithin a1 0 5).bind fun r1 =>
  (if r1 = 0 then
    some ((-2), (A 30), (A 31), (A 32), (A 33), (A 34), (I 1863))
  else
    ((f_X11_isPerson A I a2).bind fun r2 =>
    (if r2 = 0 then
      some ((-2), (A 30), (A 31), (A 32), (A 33), (A 34), (I 1863))
    else
      (((if a1 = 1 then
          some 71
        else
          some 99) : Option (Int32)).bind (fun j3 =>
      ((f_X11_isWithin a3 0 j3).bind fun r4 =>
      (if r4 = 0 then
        some ((-2), (A 30), (A 31), (A 32), (A 33), (A 34), (I 1863))
      else
        ((f_X11_isDay a4).bind fun r5 =>
        (if r5 = 0 then
          some ((-2), (A 30), (A 31), (A 32), (A 33), (A 34), (I 1863))
        else
          ((f_X11_isWithin a5 0 1).bind fun r6 =>
          (if r6 = 0 then
            some ((-2), (A 30), (A 31), (A 32), (A 33), (A 34), (I 1863))
          else
            (if a1 = 1 then
              ((f_X11_isPerson A I (a3 - a3 / 12 * 12)).bind fun r8 =>
              (if r8 = 0 then
                some ((-2), (A 30), (A 31), (A 32), (A 33), (A 34), (I 1863))
              else
                (if (I 1863) < 24 then
                  ((f_X2_add A I a1 a2 a3 a4 a5).bind fun r9 =>
                  some (r9.1, r9.2.1, r9.2.2.1, r9.2.2.2.1, r9.2.2.2.2.1, r9.2.2.2.2.2.1, r9.2.2.2.2.2.2))
                else
                  some ((-4), (A 30), (A 31), (A 32), (A 33), (A 34), (I 1863)))))
            else
              (if (I 1863) < 24 then
                ((f_X2_add A I a1 a2 a3 a4 a5).bind fun r7 =>
                some (r7.1, r7.2.1, r7.2.2.1, r7.2.2.2.1, r7.2.2.2.2.1, r7.2.2.2.2.2.1, r7.2.2.2.2.2.2))
              else
                some ((-4), (A 30), (A 31), (A 32), (A 33), (A 34), (I 1863))))))))))))))))
set_option maxRecDepth 100000 in
set_option maxHeartbeats 4000000 in
theorem t_X11_act {xs : List Int32} (A : Nat → List Int32) (I : Nat → Int32) (x : am_X) (a1 : Int32) (a2 : Int32) (a3 : Int32) (a4 : Int32) (a5 : Int32) {z : Int32 × (List Int32) × (List Int32) × (List Int32) × (List Int32) × (List Int32) × Int32} (hz : f_X11_act A I a1 a2 a3 a4 a5 = some z) : am_Rt (am_ro xs) 3 ix_X11_act [.ref 0, .int a1, .int a2, .int a3, .int a4, .int a5] (hp A I x) (some (.int z.1), hp (up (up (up (up (up A 30 z.2.1) 31 z.2.2.1) 32 z.2.2.2.1) 33 z.2.2.2.2.1) 34 z.2.2.2.2.2.1) (up I 1863 z.2.2.2.2.2.2) x) := by
  refine am_Rt.J (k := ix_X11_act) (M := mc_X11_act) (nL := 6) (d := 2) (as := [.ref 0, .int a1, .int a2, .int a3, .int a4, .int a5]) (res := fun z => (some (.int z.1), hp (up (up (up (up (up A 30 z.2.1) 31 z.2.2.1) 32 z.2.2.2.1) 33 z.2.2.2.2.1) 34 z.2.2.2.2.2.1) (up I 1863 z.2.2.2.2.2.2) x)) rfl (Nat.le_of_ble_eq_true rfl) (fun r => ?_) hz
  unfold f_X11_act
  refine am_J.go 3 rfl ?_
  refine am_J.callz (v := fun r1 => r1) (h' := fun r1 => hp A I x) rfl rfl rfl (fun r1 hw => (t_X11_isWithin (h := hp A I x) a1 0 5 hw).mono (Nat.le_of_ble_eq_true rfl)) (fun r1 hr1 => ?_)
  refine am_J.eq rfl ?_ ?_
  · refine am_J.go 1 rfl ?_
    exact am_J.ret rfl (fun k => k)
  · refine am_J.go 2 rfl ?_
    refine am_J.callz (v := fun r2 => r2) (h' := fun r2 => hp A I x) rfl rfl rfl (fun r2 hw => (t_X11_isPerson A I x a2 hw)) (fun r2 hr2 => ?_)
    refine am_J.ne rfl ?_ ?_
    · refine am_J.go 1 rfl ?_
      exact am_J.ret rfl (fun k => k)
    · refine am_J.go 4 rfl ?_
      refine am_J.join (β := Int32) (cj := fun j3 => (34, [some (.ref 0), some (.int a1), some (.int a2), some (.int a3), some (.int a4), some (.int a5)], [.int j3, .int 0, .int a3], hp A I x)) ?_ ?_
      · refine am_J.ne rfl ?_ ?_
        · refine am_J.go (cf' := (34, [some (.ref 0), some (.int a1), some (.int a2), some (.int a3), some (.int a4), some (.int a5)], [.int 71, .int 0, .int a3], hp A I x)) 2 rfl ?_
          exact am_J.leaf (fun k => am_Ev.weak (L' := [some (.ref 0), some (.int a1), some (.int a2), some (.int a3), some (.int a4), some (.int a5)]) (am_Lle.k (am_Lle.k (am_Lle.k (am_Lle.k (am_Lle.k (am_Lle.k am_Lle.nil)))))) k)
        · refine am_J.go (cf' := (34, [some (.ref 0), some (.int a1), some (.int a2), some (.int a3), some (.int a4), some (.int a5)], [.int 99, .int 0, .int a3], hp A I x)) 1 rfl ?_
          exact am_J.leaf (fun k => am_Ev.weak (L' := [some (.ref 0), some (.int a1), some (.int a2), some (.int a3), some (.int a4), some (.int a5)]) (am_Lle.k (am_Lle.k (am_Lle.k (am_Lle.k (am_Lle.k (am_Lle.k am_Lle.nil)))))) k)
      · rintro j3
        refine am_J.callz (v := fun r4 => r4) (h' := fun r4 => hp A I x) rfl rfl rfl (fun r4 hw => (t_X11_isWithin (h := hp A I x) a3 0 j3 hw).mono (Nat.le_of_ble_eq_true rfl)) (fun r4 hr4 => ?_)
        refine am_J.ne rfl ?_ ?_
        · refine am_J.go 1 rfl ?_
          exact am_J.ret rfl (fun k => k)
        · refine am_J.go 1 rfl ?_
          refine am_J.callz (v := fun r5 => r5) (h' := fun r5 => hp A I x) rfl rfl rfl (fun r5 hw => (t_X11_isDay (h := hp A I x) a4 hw)) (fun r5 hr5 => ?_)
          refine am_J.eq rfl ?_ ?_
          · refine am_J.go 1 rfl ?_
            exact am_J.ret rfl (fun k => k)
          · refine am_J.go 3 rfl ?_
            refine am_J.callz (v := fun r6 => r6) (h' := fun r6 => hp A I x) rfl rfl rfl (fun r6 hw => (t_X11_isWithin (h := hp A I x) a5 0 1 hw).mono (Nat.le_of_ble_eq_true rfl)) (fun r6 hr6 => ?_)
            refine am_J.ne rfl ?_ ?_
            · refine am_J.go 1 rfl ?_
              exact am_J.ret rfl (fun k => k)
            · refine am_J.go 2 rfl ?_
              refine am_J.ne rfl ?_ ?_
              · refine am_J.go 4 rfl ?_
                refine am_J.callz (v := fun r8 => r8) (h' := fun r8 => hp A I x) rfl rfl rfl (fun r8 hw => (t_X11_isPerson A I x (a3 - a3 / 12 * 12) hw)) (fun r8 hr8 => ?_)
                refine am_J.ne rfl ?_ ?_
                · refine am_J.go 1 rfl ?_
                  exact am_J.ret rfl (fun k => k)
                · refine am_J.go 4 rfl ?_
                  refine am_J.lt rfl ?_ ?_
                  · refine am_J.go 7 rfl ?_
                    refine am_J.call (v := fun r9 => .int r9.1) (h' := fun r9 => hp (up (up (up (up (up A 30 r9.2.1) 31 r9.2.2.1) 32 r9.2.2.2.1) 33 r9.2.2.2.2.1) 34 r9.2.2.2.2.2.1) (up I 1863 r9.2.2.2.2.2.2) x) rfl (fun r9 hw => (t_X2_add A I x a1 a2 a3 a4 a5 hw).mono (Nat.le_of_ble_eq_true rfl)) (fun r9 => ?_)
                    exact am_J.ret rfl (fun k => k)
                  · refine am_J.go 2 rfl ?_
                    exact am_J.ret rfl (fun k => k)
              · refine am_J.go 4 rfl ?_
                refine am_J.lt rfl ?_ ?_
                · refine am_J.go 7 rfl ?_
                  refine am_J.call (v := fun r7 => .int r7.1) (h' := fun r7 => hp (up (up (up (up (up A 30 r7.2.1) 31 r7.2.2.1) 32 r7.2.2.2.1) 33 r7.2.2.2.2.1) 34 r7.2.2.2.2.2.1) (up I 1863 r7.2.2.2.2.2.2) x) rfl (fun r7 hw => (t_X2_add A I x a1 a2 a3 a4 a5 hw).mono (Nat.le_of_ble_eq_true rfl)) (fun r7 => ?_)
                  exact am_J.ret rfl (fun k => k)
                · refine am_J.go 2 rfl ?_
                  exact am_J.ret rfl (fun k => k)

def f_X11_actTold (A : Nat → List Int32) (I : Nat → Int32) (a1 : Int32) (a2 : Int32) : Option (Int32) :=
  ((f_X11_isAct A I a1).bind fun r1 =>
  (if r1 = 0 then
    some (-2)
  else
    ((f_X11_isWithin a2 0 7).bind fun r2 =>
    (if r2 = 0 then
      some (-2)
    else
      ((f_X2_tell A I a1 a2).bind fun r3 =>
      some r3)))))
set_option maxRecDepth 100000 in
set_option maxHeartbeats 4000000 in
theorem t_X11_actTold {xs : List Int32} (A : Nat → List Int32) (I : Nat → Int32) (x : am_X) (a1 : Int32) (a2 : Int32) {z : Int32} (hz : f_X11_actTold A I a1 a2 = some z) : am_Rt (am_ro xs) 3 ix_X11_actTold [.ref 0, .int a1, .int a2] (hp A I x) (some (.int z), hp A I x) := by
  refine am_Rt.J (k := ix_X11_actTold) (M := mc_X11_actTold) (nL := 3) (d := 2) (as := [.ref 0, .int a1, .int a2]) (res := fun z => (some (.int z), hp A I x)) rfl (Nat.le_of_ble_eq_true rfl) (fun r => ?_) hz
  unfold f_X11_actTold
  refine am_J.go 2 rfl ?_
  refine am_J.callz (v := fun r1 => r1) (h' := fun r1 => hp A I x) rfl rfl rfl (fun r1 hw => (t_X11_isAct A I x a1 hw)) (fun r1 hr1 => ?_)
  refine am_J.eq rfl ?_ ?_
  · refine am_J.go 1 rfl ?_
    exact am_J.ret rfl (fun k => k)
  · refine am_J.go 3 rfl ?_
    refine am_J.callz (v := fun r2 => r2) (h' := fun r2 => hp A I x) rfl rfl rfl (fun r2 hw => (t_X11_isWithin (h := hp A I x) a2 0 7 hw).mono (Nat.le_of_ble_eq_true rfl)) (fun r2 hr2 => ?_)
    refine am_J.eq rfl ?_ ?_
    · refine am_J.go 1 rfl ?_
      exact am_J.ret rfl (fun k => k)
    · refine am_J.go 4 rfl ?_
      refine am_J.call (v := fun r3 => .int r3) (h' := fun r3 => hp A I x) rfl (fun r3 hw => (t_X2_tell A I x a1 a2 hw)) (fun r3 => ?_)
      refine am_J.go 1 rfl ?_
      exact am_J.ret rfl (fun k => k)

def f_X11_bought (A : Nat → List Int32) (I : Nat → Int32) (a1 : Int32) : Option (Int32) :=
  ((f_X11_isWithin a1 0 1).bind fun r1 =>
  (if r1 = 0 then
    some (-2)
  else
    ((f_X3_cheapest A I).bind fun r2 =>
    (if r2 = (-1) then
      some r2
    else
      (if a1 = 0 then
        some r2
      else
        ((f_X11_sumOver (A 59) r2).bind fun r3 =>
        some r3))))))
set_option maxRecDepth 100000 in
set_option maxHeartbeats 4000000 in
theorem t_X11_bought {xs : List Int32} (A : Nat → List Int32) (I : Nat → Int32) (x : am_X) (a1 : Int32) {z : Int32} (hz : f_X11_bought A I a1 = some z) : am_Rt (am_ro xs) 4 ix_X11_bought [.ref 0, .int a1] (hp A I x) (some (.int z), hp A I x) := by
  refine am_Rt.J (k := ix_X11_bought) (M := mc_X11_bought) (nL := 3) (d := 3) (as := [.ref 0, .int a1]) (res := fun z => (some (.int z), hp A I x)) rfl (Nat.le_of_ble_eq_true rfl) (fun r => ?_) hz
  unfold f_X11_bought
  refine am_J.go 3 rfl ?_
  refine am_J.callz (v := fun r1 => r1) (h' := fun r1 => hp A I x) rfl rfl rfl (fun r1 hw => (t_X11_isWithin (h := hp A I x) a1 0 1 hw).mono (Nat.le_of_ble_eq_true rfl)) (fun r1 hr1 => ?_)
  refine am_J.ne rfl ?_ ?_
  · refine am_J.go 1 rfl ?_
    exact am_J.ret rfl (fun k => k)
  · refine am_J.go 2 rfl ?_
    refine am_J.call (v := fun r2 => .int r2) (h' := fun r2 => hp A I x) rfl (fun r2 hw => (t_X3_cheapest A I x hw)) (fun r2 => ?_)
    refine am_J.go 3 rfl ?_
    refine am_J.eq rfl ?_ ?_
    · refine am_J.go 2 rfl ?_
      exact am_J.ret rfl (fun k => k)
    · refine am_J.go 1 rfl ?_
      refine am_J.ne rfl ?_ ?_
      · refine am_J.go 2 rfl ?_
        exact am_J.ret rfl (fun k => k)
      · refine am_J.go 4 rfl ?_
        refine am_J.call (v := fun r3 => .int r3) (h' := fun r3 => hp A I x) rfl (fun r3 hw => (t_X11_sumOver (h := hp A I x) (a := 59) (ys := (A 59)) r2 (Nat.le_of_ble_eq_true rfl) rfl hw).mono (Nat.le_of_ble_eq_true rfl)) (fun r3 => ?_)
        exact am_J.ret rfl (fun k => k)

def f_X11_bound (A : Nat → List Int32) (I : Nat → Int32) (a1 : Int32) (a2 : Int32) : Option (Int32 × (List Int32)) :=
  ((f_X11_isLand a1).bind fun r1 =>
  (if r1 = 0 then
    some ((-2), (A 24))
  else
    ((f_X11_isWithin a2 0 999).bind fun r2 =>
    (if r2 = 0 then
      some ((-2), (A 24))
    else
      ((am_at (A 24) a1).bind fun v3 =>
      ((am_up (A 24) a1 a2).bind fun y4 =>
      some (v3, y4)))))))
set_option maxRecDepth 100000 in
set_option maxHeartbeats 4000000 in
theorem t_X11_bound {xs : List Int32} (A : Nat → List Int32) (I : Nat → Int32) (x : am_X) (a1 : Int32) (a2 : Int32) {z : Int32 × (List Int32)} (hz : f_X11_bound A I a1 a2 = some z) : am_Rt (am_ro xs) 3 ix_X11_bound [.ref 0, .int a1, .int a2] (hp A I x) (some (.int z.1), hp (up A 24 z.2) I x) := by
  refine am_Rt.J (k := ix_X11_bound) (M := mc_X11_bound) (nL := 4) (d := 2) (as := [.ref 0, .int a1, .int a2]) (res := fun z => (some (.int z.1), hp (up A 24 z.2) I x)) rfl (Nat.le_of_ble_eq_true rfl) (fun r => ?_) hz
  unfold f_X11_bound
  refine am_J.go 1 rfl ?_
  refine am_J.callz (v := fun r1 => r1) (h' := fun r1 => hp A I x) rfl rfl rfl (fun r1 hw => (t_X11_isLand (h := hp A I x) a1 hw)) (fun r1 hr1 => ?_)
  refine am_J.eq rfl ?_ ?_
  · refine am_J.go 1 rfl ?_
    exact am_J.ret rfl (fun k => k)
  · refine am_J.go 3 rfl ?_
    refine am_J.callz (v := fun r2 => r2) (h' := fun r2 => hp A I x) rfl rfl rfl (fun r2 hw => (t_X11_isWithin (h := hp A I x) a2 0 999 hw).mono (Nat.le_of_ble_eq_true rfl)) (fun r2 hr2 => ?_)
    refine am_J.ne rfl ?_ ?_
    · refine am_J.go 1 rfl ?_
      exact am_J.ret rfl (fun k => k)
    · refine am_J.go 4 rfl ?_
      refine am_J.ial (xs := (A 24)) rfl (Nat.le_of_ble_eq_true rfl) rfl (fun v3 => ?_)
      refine am_J.go 6 rfl ?_
      refine am_J.ias (xs := (A 24)) (h' := fun y4 => hp (up A 24 y4) I x) rfl rfl (fun _ => rfl) (fun y4 => ?_)
      refine am_J.go 1 rfl ?_
      exact am_J.ret rfl (fun k => k)

def f_X11_far (A : Nat → List Int32) (I : Nat → Int32) (a1 : Int32) (a2 : Int32) : Option (Int32) :=
  ((f_X11_isLand a1).bind fun r1 =>
  (if r1 = 0 then
    some (-2)
  else
    ((f_X11_isLand a2).bind fun r2 =>
    (if r2 = 0 then
      some (-2)
    else
      ((am_row 12 a1).bind fun w3 =>
      ((am_at (A w3) a2).bind fun v4 =>
      some v4))))))
set_option maxRecDepth 100000 in
set_option maxHeartbeats 4000000 in
theorem t_X11_far {xs : List Int32} (A : Nat → List Int32) (I : Nat → Int32) (x : am_X) (a1 : Int32) (a2 : Int32) {z : Int32} (hz : f_X11_far A I a1 a2 = some z) : am_Rt (am_ro xs) 3 ix_X11_far [.ref 0, .int a1, .int a2] (hp A I x) (some (.int z), hp A I x) := by
  refine am_Rt.J (k := ix_X11_far) (M := mc_X11_far) (nL := 3) (d := 2) (as := [.ref 0, .int a1, .int a2]) (res := fun z => (some (.int z), hp A I x)) rfl (Nat.le_of_ble_eq_true rfl) (fun r => ?_) hz
  unfold f_X11_far
  refine am_J.go 1 rfl ?_
  refine am_J.callz (v := fun r1 => r1) (h' := fun r1 => hp A I x) rfl rfl rfl (fun r1 hw => (t_X11_isLand (h := hp A I x) a1 hw)) (fun r1 hr1 => ?_)
  refine am_J.eq rfl ?_ ?_
  · refine am_J.go 1 rfl ?_
    exact am_J.ret rfl (fun k => k)
  · refine am_J.go 1 rfl ?_
    refine am_J.callz (v := fun r2 => r2) (h' := fun r2 => hp A I x) rfl rfl rfl (fun r2 hw => (t_X11_isLand (h := hp A I x) a2 hw)) (fun r2 hr2 => ?_)
    refine am_J.eq rfl ?_ ?_
    · refine am_J.go 1 rfl ?_
      exact am_J.ret rfl (fun k => k)
    · refine am_J.go 4 rfl ?_
      refine am_J.row (base := 12) rfl rfl (by decide) (fun w3 hw3 => ?_)
      refine am_J.go 1 rfl ?_
      refine am_J.ial (xs := (A w3)) rfl (am_rlt hw3) (hp_row hw3) (fun v4 => ?_)
      refine am_J.go 1 rfl ?_
      exact am_J.ret rfl (fun k => k)

def f_X11_hang (A : Nat → List Int32) (I : Nat → Int32) (a1 : Int32) (a2 : Int32) : Option (Int32 × (List Int32)) :=
  ((f_X11_isAct A I a1).bind fun r1 =>
  (if r1 = 0 then
    some ((-2), (A 35))
  else
    ((f_X11_isAct A I a2).bind fun r2 =>
    (if r2 = 0 then
      some ((-2), (A 35))
    else
      (if a1 = a2 then
        some ((-2), (A 35))
      else
        ((am_at (A 35) a1).bind fun v3 =>
        ((f_X11_has v3 a2).bind fun r4 =>
        (if r4 = 0 then
          ((am_at (A 35) a1).bind fun v5 =>
          ((am_up (A 35) a1 (v5 ||| (1 <<< (a2 &&& 31)))).bind fun y6 =>
          ((am_at y6 a1).bind fun v7 =>
          ((f_J6_bitCount_0f7a4 v7).bind fun r8 =>
          some (r8, y6)))))
        else
          some ((-3), (A 35))))))))))
set_option maxRecDepth 100000 in
set_option maxHeartbeats 4000000 in
theorem t_X11_hang {xs : List Int32} (A : Nat → List Int32) (I : Nat → Int32) (x : am_X) (a1 : Int32) (a2 : Int32) {z : Int32 × (List Int32)} (hz : f_X11_hang A I a1 a2 = some z) : am_Rt (am_ro xs) 3 ix_X11_hang [.ref 0, .int a1, .int a2] (hp A I x) (some (.int z.1), hp (up A 35 z.2) I x) := by
  refine am_Rt.J (k := ix_X11_hang) (M := mc_X11_hang) (nL := 3) (d := 2) (as := [.ref 0, .int a1, .int a2]) (res := fun z => (some (.int z.1), hp (up A 35 z.2) I x)) rfl (Nat.le_of_ble_eq_true rfl) (fun r => ?_) hz
  unfold f_X11_hang
  refine am_J.go 2 rfl ?_
  refine am_J.callz (v := fun r1 => r1) (h' := fun r1 => hp A I x) rfl rfl rfl (fun r1 hw => (t_X11_isAct A I x a1 hw)) (fun r1 hr1 => ?_)
  refine am_J.eq rfl ?_ ?_
  · refine am_J.go 1 rfl ?_
    exact am_J.ret rfl (fun k => k)
  · refine am_J.go 2 rfl ?_
    refine am_J.callz (v := fun r2 => r2) (h' := fun r2 => hp A I x) rfl rfl rfl (fun r2 hw => (t_X11_isAct A I x a2 hw)) (fun r2 hr2 => ?_)
    refine am_J.eq rfl ?_ ?_
    · refine am_J.go 1 rfl ?_
      exact am_J.ret rfl (fun k => k)
    · refine am_J.go 2 rfl ?_
      refine am_J.ne rfl ?_ ?_
      · refine am_J.go 1 rfl ?_
        exact am_J.ret rfl (fun k => k)
      · refine am_J.go 4 rfl ?_
        refine am_J.ial (xs := (A 35)) rfl (Nat.le_of_ble_eq_true rfl) rfl (fun v3 => ?_)
        refine am_J.go 1 rfl ?_
        refine am_J.callz (v := fun r4 => r4) (h' := fun r4 => hp A I x) rfl rfl rfl (fun r4 hw => (t_X11_has (h := hp A I x) v3 a2 hw).mono (Nat.le_of_ble_eq_true rfl)) (fun r4 hr4 => ?_)
        refine am_J.eq rfl ?_ ?_
        · refine am_J.go 5 rfl ?_
          refine am_J.ial (xs := (A 35)) rfl (Nat.le_of_ble_eq_true rfl) rfl (fun v5 => ?_)
          refine am_J.go 4 rfl ?_
          refine am_J.ias (xs := (A 35)) (h' := fun y6 => hp (up A 35 y6) I x) rfl rfl (fun _ => rfl) (fun y6 => ?_)
          refine am_J.go 4 rfl ?_
          refine am_J.ial (xs := y6) rfl (Nat.le_of_ble_eq_true rfl) rfl (fun v7 => ?_)
          refine am_J.call (v := fun r8 => .int r8) (h' := fun r8 => hp (up A 35 y6) I x) rfl (fun r8 hw => (t_J6_bitCount_0f7a4 (h := hp (up A 35 y6) I x) v7 hw).mono (Nat.le_of_ble_eq_true rfl)) (fun r8 => ?_)
          exact am_J.ret rfl (fun k => k)
        · refine am_J.go 1 rfl ?_
          exact am_J.ret rfl (fun k => k)

def f_X11_known (A : Nat → List Int32) (I : Nat → Int32) (a1 : Int32) (a2 : Int32) : Option (Int32) :=
  ((f_X11_isAct A I a1).bind fun r1 =>
  (if r1 = 0 then
    some (-2)
  else
    ((f_X11_isLand a2).bind fun r2 =>
    (if r2 = 0 then
      some (-2)
    else
      ((f_X1_knownFrom A I a1 a2).bind fun r3 =>
      some r3)))))
set_option maxRecDepth 100000 in
set_option maxHeartbeats 4000000 in
theorem t_X11_known {xs : List Int32} (A : Nat → List Int32) (I : Nat → Int32) (x : am_X) (a1 : Int32) (a2 : Int32) {z : Int32} (hz : f_X11_known A I a1 a2 = some z) : am_Rt (am_ro xs) 3 ix_X11_known [.ref 0, .int a1, .int a2] (hp A I x) (some (.int z), hp A I x) := by
  refine am_Rt.J (k := ix_X11_known) (M := mc_X11_known) (nL := 3) (d := 2) (as := [.ref 0, .int a1, .int a2]) (res := fun z => (some (.int z), hp A I x)) rfl (Nat.le_of_ble_eq_true rfl) (fun r => ?_) hz
  unfold f_X11_known
  refine am_J.go 2 rfl ?_
  refine am_J.callz (v := fun r1 => r1) (h' := fun r1 => hp A I x) rfl rfl rfl (fun r1 hw => (t_X11_isAct A I x a1 hw)) (fun r1 hr1 => ?_)
  refine am_J.eq rfl ?_ ?_
  · refine am_J.go 1 rfl ?_
    exact am_J.ret rfl (fun k => k)
  · refine am_J.go 1 rfl ?_
    refine am_J.callz (v := fun r2 => r2) (h' := fun r2 => hp A I x) rfl rfl rfl (fun r2 hw => (t_X11_isLand (h := hp A I x) a2 hw)) (fun r2 hr2 => ?_)
    refine am_J.eq rfl ?_ ?_
    · refine am_J.go 1 rfl ?_
      exact am_J.ret rfl (fun k => k)
    · refine am_J.go 4 rfl ?_
      refine am_J.call (v := fun r3 => .int r3) (h' := fun r3 => hp A I x) rfl (fun r3 hw => (t_X1_knownFrom A I x a1 a2 hw)) (fun r3 => ?_)
      refine am_J.go 1 rfl ?_
      exact am_J.ret rfl (fun k => k)

def f_X11_road (A : Nat → List Int32) (I : Nat → Int32) (a1 : Int32) (a2 : Int32) (a3 : Int32) : Option (Int32 × (Nat → List Int32)) :=
  ((f_X11_isLand a1).bind fun r1 =>
  (if r1 = 0 then
    some ((-2), A)
  else
    ((f_X11_isLand a2).bind fun r2 =>
    (if r2 = 0 then
      some ((-2), A)
    else
      (if a1 = a2 then
        some ((-2), A)
      else
        (if a3 = 999 then
          ((am_row 3 a1).bind fun w3 =>
          ((am_at (A w3) a2).bind fun v4 =>
          ((f_X6_lay A I a1 a2 a3).bind fun r5 =>
          some (v4, r5))))
        else
          ((f_X11_isWithin a3 1 99).bind fun r6 =>
          (if r6 = 0 then
            some ((-2), A)
          else
            ((am_row 3 a1).bind fun w7 =>
            ((am_at (A w7) a2).bind fun v8 =>
            ((f_X6_lay A I a1 a2 a3).bind fun r9 =>
            some (v8, r9))))))))))))
set_option maxRecDepth 100000 in
set_option maxHeartbeats 4000000 in
theorem t_X11_road {xs : List Int32} (A : Nat → List Int32) (I : Nat → Int32) (x : am_X) (a1 : Int32) (a2 : Int32) (a3 : Int32) {z : Int32 × (Nat → List Int32)} (hz : f_X11_road A I a1 a2 a3 = some z) : am_Rt (am_ro xs) 3 ix_X11_road [.ref 0, .int a1, .int a2, .int a3] (hp A I x) (some (.int z.1), hp z.2 I x) := by
  refine am_Rt.J (k := ix_X11_road) (M := mc_X11_road) (nL := 5) (d := 2) (as := [.ref 0, .int a1, .int a2, .int a3]) (res := fun z => (some (.int z.1), hp z.2 I x)) rfl (Nat.le_of_ble_eq_true rfl) (fun r => ?_) hz
  unfold f_X11_road
  refine am_J.go 1 rfl ?_
  refine am_J.callz (v := fun r1 => r1) (h' := fun r1 => hp A I x) rfl rfl rfl (fun r1 hw => (t_X11_isLand (h := hp A I x) a1 hw)) (fun r1 hr1 => ?_)
  refine am_J.eq rfl ?_ ?_
  · refine am_J.go 1 rfl ?_
    exact am_J.ret rfl (fun k => k)
  · refine am_J.go 1 rfl ?_
    refine am_J.callz (v := fun r2 => r2) (h' := fun r2 => hp A I x) rfl rfl rfl (fun r2 hw => (t_X11_isLand (h := hp A I x) a2 hw)) (fun r2 hr2 => ?_)
    refine am_J.eq rfl ?_ ?_
    · refine am_J.go 1 rfl ?_
      exact am_J.ret rfl (fun k => k)
    · refine am_J.go 2 rfl ?_
      refine am_J.ne rfl ?_ ?_
      · refine am_J.go 1 rfl ?_
        exact am_J.ret rfl (fun k => k)
      · refine am_J.go 2 rfl ?_
        refine am_J.eq rfl ?_ ?_
        · refine am_J.go 4 rfl ?_
          refine am_J.row (base := 3) rfl rfl (by decide) (fun w3 hw3 => ?_)
          refine am_J.go 1 rfl ?_
          refine am_J.ial (xs := (A w3)) rfl (am_rlt hw3) (hp_row hw3) (fun v4 => ?_)
          refine am_J.go 6 rfl ?_
          refine am_J.calln (h' := fun r5 => hp r5 I x) rfl (fun r5 hw => (t_X6_lay A I x a1 a2 a3 hw)) (fun r5 => ?_)
          refine am_J.go 1 rfl ?_
          exact am_J.ret rfl (fun k => k)
        · refine am_J.go 3 rfl ?_
          refine am_J.callz (v := fun r6 => r6) (h' := fun r6 => hp A I x) rfl rfl rfl (fun r6 hw => (t_X11_isWithin (h := hp A I x) a3 1 99 hw).mono (Nat.le_of_ble_eq_true rfl)) (fun r6 hr6 => ?_)
          refine am_J.ne rfl ?_ ?_
          · refine am_J.go 1 rfl ?_
            exact am_J.ret rfl (fun k => k)
          · refine am_J.go 4 rfl ?_
            refine am_J.row (base := 3) rfl rfl (by decide) (fun w7 hw7 => ?_)
            refine am_J.go 1 rfl ?_
            refine am_J.ial (xs := (A w7)) rfl (am_rlt hw7) (hp_row hw7) (fun v8 => ?_)
            refine am_J.go 6 rfl ?_
            refine am_J.calln (h' := fun r9 => hp r9 I x) rfl (fun r9 hw => (t_X6_lay A I x a1 a2 a3 hw)) (fun r9 => ?_)
            refine am_J.go 1 rfl ?_
            exact am_J.ret rfl (fun k => k)

def f_X11_side (A : Nat → List Int32) (I : Nat → Int32) (a1 : Int32) (a2 : Int32) : Option (Int32) :=
  ((f_X11_isLand a1).bind fun r1 =>
  (if r1 = 0 then
    some (-2)
  else
    ((f_X11_isDay a2).bind fun r2 =>
    (if r2 = 0 then
      some (-2)
    else
      ((f_X6_sideOn A I a1 a2).bind fun r3 =>
      some r3)))))
set_option maxRecDepth 100000 in
set_option maxHeartbeats 4000000 in
theorem t_X11_side {xs : List Int32} (A : Nat → List Int32) (I : Nat → Int32) (x : am_X) (a1 : Int32) (a2 : Int32) {z : Int32} (hz : f_X11_side A I a1 a2 = some z) : am_Rt (am_ro xs) 3 ix_X11_side [.ref 0, .int a1, .int a2] (hp A I x) (some (.int z), hp A I x) := by
  refine am_Rt.J (k := ix_X11_side) (M := mc_X11_side) (nL := 3) (d := 2) (as := [.ref 0, .int a1, .int a2]) (res := fun z => (some (.int z), hp A I x)) rfl (Nat.le_of_ble_eq_true rfl) (fun r => ?_) hz
  unfold f_X11_side
  refine am_J.go 1 rfl ?_
  refine am_J.callz (v := fun r1 => r1) (h' := fun r1 => hp A I x) rfl rfl rfl (fun r1 hw => (t_X11_isLand (h := hp A I x) a1 hw)) (fun r1 hr1 => ?_)
  refine am_J.eq rfl ?_ ?_
  · refine am_J.go 1 rfl ?_
    exact am_J.ret rfl (fun k => k)
  · refine am_J.go 1 rfl ?_
    refine am_J.callz (v := fun r2 => r2) (h' := fun r2 => hp A I x) rfl rfl rfl (fun r2 hw => (t_X11_isDay (h := hp A I x) a2 hw)) (fun r2 hr2 => ?_)
    refine am_J.eq rfl ?_ ?_
    · refine am_J.go 1 rfl ?_
      exact am_J.ret rfl (fun k => k)
    · refine am_J.go 4 rfl ?_
      refine am_J.call (v := fun r3 => .int r3) (h' := fun r3 => hp A I x) rfl (fun r3 hw => (t_X6_sideOn A I x a1 a2 hw)) (fun r3 => ?_)
      refine am_J.go 1 rfl ?_
      exact am_J.ret rfl (fun k => k)

def f_X12_acts (A : Nat → List Int32) (I : Nat → Int32) (a1 : Int32) (a2 : Int32) : Option (Int32 × (List Int32) × (List Int32)) :=
  ((f_X12_isSide A I a1).bind fun r1 =>
  (if r1 = 0 then
    some ((-2), (A 107), (A 108))
  else
    ((f_X12_in A I a2 0 3).bind fun r2 =>
    (if r2 = 0 then
      some ((-2), (A 107), (A 108))
    else
      ((f_X12_soundBy A I a1).bind fun r3 =>
      ((f_X12_savedBy (up (up A 107 r3.2.1) 108 r3.2.2) I a1).bind fun r4 =>
      (if a2 = 0 then
        some (r3.1, r4.2.1, r4.2.2)
      else
        ((f_X12_goodOf (up (up A 107 r4.2.1) 108 r4.2.2) I r3.1 r4.1).bind fun r5 =>
        ((f_X12_firmOf (up (up A 107 r4.2.1) 108 r4.2.2) I r3.1 r4.1).bind fun r6 =>
        (if a2 = 1 then
          some (r5, r4.2.1, r4.2.2)
        else
          (if a2 = 2 then
            some (r6, r4.2.1, r4.2.2)
          else
            some ((r5 &&& (r6 ^^^ (-1))), r4.2.1, r4.2.2))))))))))))
set_option maxRecDepth 100000 in
set_option maxHeartbeats 4000000 in
theorem t_X12_acts {xs : List Int32} (A : Nat → List Int32) (I : Nat → Int32) (x : am_X) (a1 : Int32) (a2 : Int32) {z : Int32 × (List Int32) × (List Int32)} (hz : f_X12_acts A I a1 a2 = some z) : am_Rt (am_ro xs) 5 ix_X12_acts [.ref 85, .int a1, .int a2] (hp A I x) (some (.int z.1), hp (up (up A 107 z.2.1) 108 z.2.2) I x) := by
  refine am_Rt.J (k := ix_X12_acts) (M := mc_X12_acts) (nL := 7) (d := 4) (as := [.ref 85, .int a1, .int a2]) (res := fun z => (some (.int z.1), hp (up (up A 107 z.2.1) 108 z.2.2) I x)) rfl (Nat.le_of_ble_eq_true rfl) (fun r => ?_) hz
  unfold f_X12_acts
  refine am_J.go 2 rfl ?_
  refine am_J.callz (v := fun r1 => r1) (h' := fun r1 => hp A I x) rfl rfl rfl (fun r1 hw => (t_X12_isSide A I x a1 hw).mono (Nat.le_of_ble_eq_true rfl)) (fun r1 hr1 => ?_)
  refine am_J.eq rfl ?_ ?_
  · refine am_J.go 1 rfl ?_
    exact am_J.ret rfl (fun k => k)
  · refine am_J.go 4 rfl ?_
    refine am_J.callz (v := fun r2 => r2) (h' := fun r2 => hp A I x) rfl rfl rfl (fun r2 hw => (t_X12_in A I x a2 0 3 hw).mono (Nat.le_of_ble_eq_true rfl)) (fun r2 hr2 => ?_)
    refine am_J.ne rfl ?_ ?_
    · refine am_J.go 1 rfl ?_
      exact am_J.ret rfl (fun k => k)
    · refine am_J.go 2 rfl ?_
      refine am_J.call (v := fun r3 => .int r3.1) (h' := fun r3 => hp (up (up A 107 r3.2.1) 108 r3.2.2) I x) rfl (fun r3 hw => (t_X12_soundBy A I x a1 hw)) (fun r3 => ?_)
      refine am_J.go 3 rfl ?_
      refine am_J.call (v := fun r4 => .int r4.1) (h' := fun r4 => hp (up (up A 107 r4.2.1) 108 r4.2.2) I x) rfl (fun r4 hw => (t_X12_savedBy (up (up A 107 r3.2.1) 108 r3.2.2) I x a1 hw)) (fun r4 => ?_)
      refine am_J.go 2 rfl ?_
      refine am_J.ne rfl ?_ ?_
      · refine am_J.go 1 rfl ?_
        exact am_J.ret rfl (fun k => k)
      · refine am_J.go 3 rfl ?_
        refine am_J.call (v := fun r5 => .int r5) (h' := fun r5 => hp (up (up A 107 r4.2.1) 108 r4.2.2) I x) rfl (fun r5 hw => (t_X12_goodOf (up (up A 107 r4.2.1) 108 r4.2.2) I x r3.1 r4.1 hw).mono (Nat.le_of_ble_eq_true rfl)) (fun r5 => ?_)
        refine am_J.go 4 rfl ?_
        refine am_J.call (v := fun r6 => .int r6) (h' := fun r6 => hp (up (up A 107 r4.2.1) 108 r4.2.2) I x) rfl (fun r6 hw => (t_X12_firmOf (up (up A 107 r4.2.1) 108 r4.2.2) I x r3.1 r4.1 hw).mono (Nat.le_of_ble_eq_true rfl)) (fun r6 => ?_)
        refine am_J.go 3 rfl ?_
        refine am_J.ne rfl ?_ ?_
        · refine am_J.go 2 rfl ?_
          exact am_J.ret rfl (fun k => k)
        · refine am_J.go 2 rfl ?_
          refine am_J.ne rfl ?_ ?_
          · refine am_J.go 2 rfl ?_
            exact am_J.ret rfl (fun k => k)
          · refine am_J.go 5 rfl ?_
            exact am_J.ret rfl (fun k => k)

def f_X12_bought_l1 (A : Nat → List Int32) (I : Nat → Int32) (a1 : Int32) : (Int32 × Int32) → Option ((Int32 × Int32) ⊕ (Int32)) := fun q => match q with
    | (s2, s3) =>
    (if (1 <<< ((I 5481) &&& 31)) ≤ s3 then
      some (.inr s2)
    else
      ((f_X12_canBuy A I s3).bind fun r4 =>
      (((if r4 = 0 then
          some s2
        else
          (if s2 < 0 then
            some s3
          else
            ((f_X12_priceOf A I s3).bind fun r5 =>
            ((f_X12_priceOf A I s2).bind fun r6 =>
            (if r5 < r6 then
              some s3
            else
              ((f_X12_priceOf A I s3).bind fun r7 =>
              ((f_X12_priceOf A I s2).bind fun r8 =>
              (if r7 = r8 then
                ((f_X12_ones A I s3).bind fun r9 =>
                ((f_X12_ones A I s2).bind fun r10 =>
                (if r10 ≤ r9 then
                  some s2
                else
                  some s3)))
              else
                some s2)))))))) : Option (Int32)).bind (fun j11 =>
      some (.inl (j11, (s3 + 1)))))))
def f_X12_bought (A : Nat → List Int32) (I : Nat → Int32) (a1 : Int32) : Option (Int32) :=
  ((f_X12_in A I a1 0 1).bind fun r1 =>
  (if r1 = 0 then
    some (-2)
  else
    ((wl (f_X12_bought_l1 A I a1) 100000 ((-1), 0)).bind (fun e12 =>
    (if 0 ≤ e12 then
      (if a1 = 0 then
        some e12
      else
        ((f_X12_priceOf A I e12).bind fun r13 =>
        some r13))
    else
      some (-1))))))
set_option maxRecDepth 100000 in
set_option maxHeartbeats 4000000 in
theorem t_X12_bought {xs : List Int32} (A : Nat → List Int32) (I : Nat → Int32) (x : am_X) (a1 : Int32) {z : Int32} (hz : f_X12_bought A I a1 = some z) : am_Rt (am_ro xs) 3 ix_X12_bought [.ref 85, .int a1] (hp A I x) (some (.int z), hp A I x) := by
  refine am_Rt.J (k := ix_X12_bought) (M := mc_X12_bought) (nL := 4) (d := 2) (as := [.ref 85, .int a1]) (res := fun z => (some (.int z), hp A I x)) rfl (Nat.le_of_ble_eq_true rfl) (fun r => ?_) hz
  unfold f_X12_bought
  refine am_J.go 4 rfl ?_
  refine am_J.callz (v := fun r1 => r1) (h' := fun r1 => hp A I x) rfl rfl rfl (fun r1 hw => (t_X12_in A I x a1 0 1 hw).mono (Nat.le_of_ble_eq_true rfl)) (fun r1 hr1 => ?_)
  refine am_J.ne rfl ?_ ?_
  · refine am_J.go 1 rfl ?_
    exact am_J.ret rfl (fun k => k)
  · refine am_J.go (cf' := (17, [some (.ref 85), some (.int a1), some (.int (-1)), some (.int 0)], [], hp A I x)) 4 rfl ?_
    refine am_J.weak (L' := [some (.ref 85), some (.int a1), some (.int (-1)), some (.int 0)]) (am_Lle.k (am_Lle.k (am_Lle.k (am_Lle.k am_Lle.nil)))) ?_
    refine am_J.loop (cl := fun q => match q with | (s2, s3) => (17, [some (.ref 85), some (.int a1), some (.int s2), some (.int s3)], [], hp A I x)) (GX := fun e12 => am_Ev (am_ro xs) 2 mc_X12_bought (89, [some (.ref 85), some (.int a1), some (.int e12), none], [], hp A I x) r) ?_ ?_
    · rintro ⟨s2, s3⟩
      unfold f_X12_bought_l1
      refine am_J.go 5 rfl ?_
      refine am_J.ge rfl ?_ ?_
      · refine am_J.go (cf' := (89, [some (.ref 85), some (.int a1), some (.int s2), some (.int s3)], [], hp A I x)) 0 rfl ?_
        exact am_J.leaf (fun k => am_Ev.weak (L' := [some (.ref 85), some (.int a1), some (.int s2), none]) (am_Lle.k (am_Lle.k (am_Lle.k (am_Lle.o am_Lle.nil)))) k)
      · refine am_J.go 2 rfl ?_
        refine am_J.callz (v := fun r4 => r4) (h' := fun r4 => hp A I x) rfl rfl rfl (fun r4 hw => (t_X12_canBuy A I x s3 hw)) (fun r4 hr4 => ?_)
        refine am_J.join (β := Int32) (cj := fun j11 => (83, [some (.ref 85), some (.int a1), some (.int j11), some (.int s3)], [], hp A I x)) ?_ ?_
        · refine am_J.ne rfl ?_ ?_
          · refine am_J.go (cf' := (83, [some (.ref 85), some (.int a1), some (.int s2), some (.int s3)], [], hp A I x)) 1 rfl ?_
            exact am_J.leaf (fun k => am_Ev.weak (L' := [some (.ref 85), some (.int a1), some (.int s2), some (.int s3)]) (am_Lle.k (am_Lle.k (am_Lle.k (am_Lle.k am_Lle.nil)))) k)
          · refine am_J.go 1 rfl ?_
            refine am_J.lt rfl ?_ ?_
            · refine am_J.go (cf' := (83, [some (.ref 85), some (.int a1), some (.int s3), some (.int s3)], [], hp A I x)) 2 rfl ?_
              exact am_J.leaf (fun k => am_Ev.weak (L' := [some (.ref 85), some (.int a1), some (.int s3), some (.int s3)]) (am_Lle.k (am_Lle.k (am_Lle.k (am_Lle.k am_Lle.nil)))) k)
            · refine am_J.go 2 rfl ?_
              refine am_J.call (v := fun r5 => .int r5) (h' := fun r5 => hp A I x) rfl (fun r5 hw => (t_X12_priceOf A I x s3 hw).mono (Nat.le_of_ble_eq_true rfl)) (fun r5 => ?_)
              refine am_J.go 2 rfl ?_
              refine am_J.call (v := fun r6 => .int r6) (h' := fun r6 => hp A I x) rfl (fun r6 hw => (t_X12_priceOf A I x s2 hw).mono (Nat.le_of_ble_eq_true rfl)) (fun r6 => ?_)
              refine am_J.lt rfl ?_ ?_
              · refine am_J.go (cf' := (83, [some (.ref 85), some (.int a1), some (.int s3), some (.int s3)], [], hp A I x)) 2 rfl ?_
                exact am_J.leaf (fun k => am_Ev.weak (L' := [some (.ref 85), some (.int a1), some (.int s3), some (.int s3)]) (am_Lle.k (am_Lle.k (am_Lle.k (am_Lle.k am_Lle.nil)))) k)
              · refine am_J.go 2 rfl ?_
                refine am_J.call (v := fun r7 => .int r7) (h' := fun r7 => hp A I x) rfl (fun r7 hw => (t_X12_priceOf A I x s3 hw).mono (Nat.le_of_ble_eq_true rfl)) (fun r7 => ?_)
                refine am_J.go 2 rfl ?_
                refine am_J.call (v := fun r8 => .int r8) (h' := fun r8 => hp A I x) rfl (fun r8 hw => (t_X12_priceOf A I x s2 hw).mono (Nat.le_of_ble_eq_true rfl)) (fun r8 => ?_)
                refine am_J.ne rfl ?_ ?_
                · refine am_J.go 2 rfl ?_
                  refine am_J.call (v := fun r9 => .int r9) (h' := fun r9 => hp A I x) rfl (fun r9 hw => (t_X12_ones A I x s3 hw).mono (Nat.le_of_ble_eq_true rfl)) (fun r9 => ?_)
                  refine am_J.go 2 rfl ?_
                  refine am_J.call (v := fun r10 => .int r10) (h' := fun r10 => hp A I x) rfl (fun r10 hw => (t_X12_ones A I x s2 hw).mono (Nat.le_of_ble_eq_true rfl)) (fun r10 => ?_)
                  refine am_J.ge rfl ?_ ?_
                  · refine am_J.go (cf' := (83, [some (.ref 85), some (.int a1), some (.int s2), some (.int s3)], [], hp A I x)) 0 rfl ?_
                    exact am_J.leaf (fun k => am_Ev.weak (L' := [some (.ref 85), some (.int a1), some (.int s2), some (.int s3)]) (am_Lle.k (am_Lle.k (am_Lle.k (am_Lle.k am_Lle.nil)))) k)
                  · refine am_J.go (cf' := (83, [some (.ref 85), some (.int a1), some (.int s3), some (.int s3)], [], hp A I x)) 2 rfl ?_
                    exact am_J.leaf (fun k => am_Ev.weak (L' := [some (.ref 85), some (.int a1), some (.int s3), some (.int s3)]) (am_Lle.k (am_Lle.k (am_Lle.k (am_Lle.k am_Lle.nil)))) k)
                · refine am_J.go (cf' := (83, [some (.ref 85), some (.int a1), some (.int s2), some (.int s3)], [], hp A I x)) 0 rfl ?_
                  exact am_J.leaf (fun k => am_Ev.weak (L' := [some (.ref 85), some (.int a1), some (.int s2), some (.int s3)]) (am_Lle.k (am_Lle.k (am_Lle.k (am_Lle.k am_Lle.nil)))) k)
        · rintro j11
          refine am_J.go (cf' := (17, [some (.ref 85), some (.int a1), some (.int j11), some (.int (s3 + 1))], [], hp A I x)) 2 rfl ?_
          exact am_J.leaf (fun k => am_Ev.weak (L' := [some (.ref 85), some (.int a1), some (.int j11), some (.int (s3 + 1))]) (am_Lle.k (am_Lle.k (am_Lle.k (am_Lle.k am_Lle.nil)))) k)
    · rintro e12
      refine (?_ : am_J (am_ro xs) 2 mc_X12_bought r (89, [some (.ref 85), some (.int a1), some (.int e12), none], [], hp A I x) _ _)
      refine am_J.go 1 rfl ?_
      refine am_J.ge rfl ?_ ?_
      · refine am_J.go 1 rfl ?_
        refine am_J.ne rfl ?_ ?_
        · refine am_J.go 2 rfl ?_
          exact am_J.ret rfl (fun k => k)
        · refine am_J.go 2 rfl ?_
          refine am_J.call (v := fun r13 => .int r13) (h' := fun r13 => hp A I x) rfl (fun r13 hw => (t_X12_priceOf A I x e12 hw).mono (Nat.le_of_ble_eq_true rfl)) (fun r13 => ?_)
          exact am_J.ret rfl (fun k => k)
      · refine am_J.go 2 rfl ?_
        exact am_J.ret rfl (fun k => k)

def f_X12_changed_l1 (A : Nat → List Int32) (I : Nat → Int32) (a1 : Int32) (p9 : Int32) : (Int32 × Int32) → Option ((Int32 × Int32) ⊕ (Int32)) := fun q => match q with
    | (s7, s8) =>
    (if (I 5450) ≤ s8 then
      some (.inr s7)
    else
      ((am_at (A 95) s8).bind fun v10 =>
      ((am_at (A 88) v10).bind fun v11 =>
      (((if v11 = a1 then
          some (s7 ||| (p9 &&& (1 <<< (s8 &&& 31))))
        else
          some s7) : Option (Int32)).bind (fun j12 =>
      some (.inl (j12, (s8 + 1))))))))
def f_X12_changed (A : Nat → List Int32) (I : Nat → Int32) (a1 : Int32) (a2 : Int32) (a3 : Int32) : Option (Int32 × (List Int32) × (List Int32) × (List Int32) × (List Int32) × (List Int32) × Int32) :=
  ((f_X12_isTurn A I a1 a2 a3).bind fun r1 =>
  (if r1 = 0 then
    some ((-2), (A 91), (A 92), (A 93), (A 107), (A 108), (I 5443))
  else
    ((f_X12_soundBy A I 0).bind fun r2 =>
    ((f_X12_soundBy (up (up A 107 r2.2.1) 108 r2.2.2) I 1).bind fun r3 =>
    ((f_X12_note (up (up A 107 r3.2.1) 108 r3.2.2) I a1 a2 a3).bind fun r4 =>
    ((f_X12_soundBy (up (up (up (up (up A 91 r4.1) 92 r4.2.1) 93 r4.2.2.1) 107 r3.2.1) 108 r3.2.2) (up I 5443 r4.2.2.2) 0).bind fun r5 =>
    ((f_X12_soundBy (up (up (up (up (up A 91 r4.1) 92 r4.2.1) 93 r4.2.2.1) 107 r5.2.1) 108 r5.2.2) (up I 5443 r4.2.2.2) 1).bind fun r6 =>
    ((wl (f_X12_changed_l1 (up (up (up (up (up A 91 r4.1) 92 r4.2.1) 93 r4.2.2.1) 107 r6.2.1) 108 r6.2.2) (up I 5443 (r4.2.2.2 - 1)) a1 ((r2.1 ^^^ r5.1) ||| (r3.1 ^^^ r6.1))) 100000 (0, 0)).bind (fun e13 =>
    some (e13, r4.1, r4.2.1, r4.2.2.1, r6.2.1, r6.2.2, (r4.2.2.2 - 1)))))))))))
set_option maxRecDepth 100000 in
set_option maxHeartbeats 4000000 in
theorem t_X12_changed {xs : List Int32} (A : Nat → List Int32) (I : Nat → Int32) (x : am_X) (a1 : Int32) (a2 : Int32) (a3 : Int32) {z : Int32 × (List Int32) × (List Int32) × (List Int32) × (List Int32) × (List Int32) × Int32} (hz : f_X12_changed A I a1 a2 a3 = some z) : am_Rt (am_ro xs) 5 ix_X12_changed [.ref 85, .int a1, .int a2, .int a3] (hp A I x) (some (.int z.1), hp (up (up (up (up (up A 91 z.2.1) 92 z.2.2.1) 93 z.2.2.2.1) 107 z.2.2.2.2.1) 108 z.2.2.2.2.2.1) (up I 5443 z.2.2.2.2.2.2) x) := by
  refine am_Rt.J (k := ix_X12_changed) (M := mc_X12_changed) (nL := 9) (d := 4) (as := [.ref 85, .int a1, .int a2, .int a3]) (res := fun z => (some (.int z.1), hp (up (up (up (up (up A 91 z.2.1) 92 z.2.2.1) 93 z.2.2.2.1) 107 z.2.2.2.2.1) 108 z.2.2.2.2.2.1) (up I 5443 z.2.2.2.2.2.2) x)) rfl (Nat.le_of_ble_eq_true rfl) (fun r => ?_) hz
  unfold f_X12_changed
  refine am_J.go 4 rfl ?_
  refine am_J.callz (v := fun r1 => r1) (h' := fun r1 => hp A I x) rfl rfl rfl (fun r1 hw => (t_X12_isTurn A I x a1 a2 a3 hw).mono (Nat.le_of_ble_eq_true rfl)) (fun r1 hr1 => ?_)
  refine am_J.ne rfl ?_ ?_
  · refine am_J.go 1 rfl ?_
    exact am_J.ret rfl (fun k => k)
  · refine am_J.go 2 rfl ?_
    refine am_J.call (v := fun r2 => .int r2.1) (h' := fun r2 => hp (up (up A 107 r2.2.1) 108 r2.2.2) I x) rfl (fun r2 hw => (t_X12_soundBy A I x 0 hw)) (fun r2 => ?_)
    refine am_J.go 3 rfl ?_
    refine am_J.call (v := fun r3 => .int r3.1) (h' := fun r3 => hp (up (up A 107 r3.2.1) 108 r3.2.2) I x) rfl (fun r3 hw => (t_X12_soundBy (up (up A 107 r2.2.1) 108 r2.2.2) I x 1 hw)) (fun r3 => ?_)
    refine am_J.go 5 rfl ?_
    refine am_J.calln (h' := fun r4 => hp (up (up (up (up (up A 91 r4.1) 92 r4.2.1) 93 r4.2.2.1) 107 r3.2.1) 108 r3.2.2) (up I 5443 r4.2.2.2) x) rfl (fun r4 hw => (t_X12_note (up (up A 107 r3.2.1) 108 r3.2.2) I x a1 a2 a3 hw).mono (Nat.le_of_ble_eq_true rfl)) (fun r4 => ?_)
    refine am_J.go 3 rfl ?_
    refine am_J.call (v := fun r5 => .int r5.1) (h' := fun r5 => hp (up (up (up (up (up A 91 r4.1) 92 r4.2.1) 93 r4.2.2.1) 107 r5.2.1) 108 r5.2.2) (up I 5443 r4.2.2.2) x) rfl (fun r5 hw => (t_X12_soundBy (up (up (up (up (up A 91 r4.1) 92 r4.2.1) 93 r4.2.2.1) 107 r3.2.1) 108 r3.2.2) (up I 5443 r4.2.2.2) x 0 hw)) (fun r5 => ?_)
    refine am_J.go 4 rfl ?_
    refine am_J.call (v := fun r6 => .int r6.1) (h' := fun r6 => hp (up (up (up (up (up A 91 r4.1) 92 r4.2.1) 93 r4.2.2.1) 107 r6.2.1) 108 r6.2.2) (up I 5443 r4.2.2.2) x) rfl (fun r6 hw => (t_X12_soundBy (up (up (up (up (up A 91 r4.1) 92 r4.2.1) 93 r4.2.2.1) 107 r5.2.1) 108 r5.2.2) (up I 5443 r4.2.2.2) x 1 hw)) (fun r6 => ?_)
    refine am_J.go (cf' := (69, [some (.ref 85), some (.int a1), some (.int a2), some (.int a3), some (.int r2.1), some (.int r3.1), some (.int ((r2.1 ^^^ r5.1) ||| (r3.1 ^^^ r6.1))), some (.int 0), some (.int 0)], [], hp (up (up (up (up (up A 91 r4.1) 92 r4.2.1) 93 r4.2.2.1) 107 r6.2.1) 108 r6.2.2) (up I 5443 (r4.2.2.2 - 1)) x)) 13 rfl ?_
    refine am_J.weak (L' := [some (.ref 85), some (.int a1), none, none, none, none, some (.int ((r2.1 ^^^ r5.1) ||| (r3.1 ^^^ r6.1))), some (.int 0), some (.int 0)]) (am_Lle.k (am_Lle.k (am_Lle.o (am_Lle.o (am_Lle.o (am_Lle.o (am_Lle.k (am_Lle.k (am_Lle.k am_Lle.nil))))))))) ?_
    refine am_J.loop (cl := fun q => match q with | (s7, s8) => (69, [some (.ref 85), some (.int a1), none, none, none, none, some (.int ((r2.1 ^^^ r5.1) ||| (r3.1 ^^^ r6.1))), some (.int s7), some (.int s8)], [], hp (up (up (up (up (up A 91 r4.1) 92 r4.2.1) 93 r4.2.2.1) 107 r6.2.1) 108 r6.2.2) (up I 5443 (r4.2.2.2 - 1)) x)) (GX := fun e13 => am_Ev (am_ro xs) 4 mc_X12_changed (112, [none, none, none, none, none, none, none, some (.int e13), none], [], hp (up (up (up (up (up A 91 r4.1) 92 r4.2.1) 93 r4.2.2.1) 107 r6.2.1) 108 r6.2.2) (up I 5443 (r4.2.2.2 - 1)) x) r) ?_ ?_
    · rintro ⟨s7, s8⟩
      unfold f_X12_changed_l1
      refine am_J.go 3 rfl ?_
      refine am_J.ge rfl ?_ ?_
      · refine am_J.go (cf' := (112, [some (.ref 85), some (.int a1), none, none, none, none, some (.int ((r2.1 ^^^ r5.1) ||| (r3.1 ^^^ r6.1))), some (.int s7), some (.int s8)], [], hp (up (up (up (up (up A 91 r4.1) 92 r4.2.1) 93 r4.2.2.1) 107 r6.2.1) 108 r6.2.2) (up I 5443 (r4.2.2.2 - 1)) x)) 0 rfl ?_
        exact am_J.leaf (fun k => am_Ev.weak (L' := [none, none, none, none, none, none, none, some (.int s7), none]) (am_Lle.o (am_Lle.o (am_Lle.o (am_Lle.o (am_Lle.o (am_Lle.o (am_Lle.o (am_Lle.k (am_Lle.o am_Lle.nil))))))))) k)
      · refine am_J.go 5 rfl ?_
        refine am_J.ial (xs := ((up (up (up (up (up A 91 r4.1) 92 r4.2.1) 93 r4.2.2.1) 107 r6.2.1) 108 r6.2.2) 95)) rfl (Nat.le_of_ble_eq_true rfl) rfl (fun v10 => ?_)
        refine am_J.ial (xs := ((up (up (up (up (up A 91 r4.1) 92 r4.2.1) 93 r4.2.2.1) 107 r6.2.1) 108 r6.2.2) 88)) rfl (Nat.le_of_ble_eq_true rfl) rfl (fun v11 => ?_)
        refine am_J.go 1 rfl ?_
        refine am_J.join (β := Int32) (cj := fun j12 => (106, [some (.ref 85), some (.int a1), none, none, none, none, some (.int ((r2.1 ^^^ r5.1) ||| (r3.1 ^^^ r6.1))), some (.int j12), some (.int s8)], [], hp (up (up (up (up (up A 91 r4.1) 92 r4.2.1) 93 r4.2.2.1) 107 r6.2.1) 108 r6.2.2) (up I 5443 (r4.2.2.2 - 1)) x)) ?_ ?_
        · refine am_J.ne rfl ?_ ?_
          · refine am_J.go (cf' := (106, [some (.ref 85), some (.int a1), none, none, none, none, some (.int ((r2.1 ^^^ r5.1) ||| (r3.1 ^^^ r6.1))), some (.int (s7 ||| (((r2.1 ^^^ r5.1) ||| (r3.1 ^^^ r6.1)) &&& (1 <<< (s8 &&& 31))))), some (.int s8)], [], hp (up (up (up (up (up A 91 r4.1) 92 r4.2.1) 93 r4.2.2.1) 107 r6.2.1) 108 r6.2.2) (up I 5443 (r4.2.2.2 - 1)) x)) 8 rfl ?_
            exact am_J.leaf (fun k => am_Ev.weak (L' := [some (.ref 85), some (.int a1), none, none, none, none, some (.int ((r2.1 ^^^ r5.1) ||| (r3.1 ^^^ r6.1))), some (.int (s7 ||| (((r2.1 ^^^ r5.1) ||| (r3.1 ^^^ r6.1)) &&& (1 <<< (s8 &&& 31))))), some (.int s8)]) (am_Lle.k (am_Lle.k (am_Lle.o (am_Lle.o (am_Lle.o (am_Lle.o (am_Lle.k (am_Lle.k (am_Lle.k am_Lle.nil))))))))) k)
          · refine am_J.go (cf' := (106, [some (.ref 85), some (.int a1), none, none, none, none, some (.int ((r2.1 ^^^ r5.1) ||| (r3.1 ^^^ r6.1))), some (.int s7), some (.int s8)], [], hp (up (up (up (up (up A 91 r4.1) 92 r4.2.1) 93 r4.2.2.1) 107 r6.2.1) 108 r6.2.2) (up I 5443 (r4.2.2.2 - 1)) x)) 0 rfl ?_
            exact am_J.leaf (fun k => am_Ev.weak (L' := [some (.ref 85), some (.int a1), none, none, none, none, some (.int ((r2.1 ^^^ r5.1) ||| (r3.1 ^^^ r6.1))), some (.int s7), some (.int s8)]) (am_Lle.k (am_Lle.k (am_Lle.o (am_Lle.o (am_Lle.o (am_Lle.o (am_Lle.k (am_Lle.k (am_Lle.k am_Lle.nil))))))))) k)
        · rintro j12
          refine am_J.go (cf' := (69, [some (.ref 85), some (.int a1), none, none, none, none, some (.int ((r2.1 ^^^ r5.1) ||| (r3.1 ^^^ r6.1))), some (.int j12), some (.int (s8 + 1))], [], hp (up (up (up (up (up A 91 r4.1) 92 r4.2.1) 93 r4.2.2.1) 107 r6.2.1) 108 r6.2.2) (up I 5443 (r4.2.2.2 - 1)) x)) 2 rfl ?_
          exact am_J.leaf (fun k => am_Ev.weak (L' := [some (.ref 85), some (.int a1), none, none, none, none, some (.int ((r2.1 ^^^ r5.1) ||| (r3.1 ^^^ r6.1))), some (.int j12), some (.int (s8 + 1))]) (am_Lle.k (am_Lle.k (am_Lle.o (am_Lle.o (am_Lle.o (am_Lle.o (am_Lle.k (am_Lle.k (am_Lle.k am_Lle.nil))))))))) k)
    · rintro e13
      refine (?_ : am_J (am_ro xs) 4 mc_X12_changed r (112, [none, none, none, none, none, none, none, some (.int e13), none], [], hp (up (up (up (up (up A 91 r4.1) 92 r4.2.1) 93 r4.2.2.1) 107 r6.2.1) 108 r6.2.2) (up I 5443 (r4.2.2.2 - 1)) x) _ _)
      refine am_J.go 1 rfl ?_
      exact am_J.ret rfl (fun k => k)
