/-! ===== methods as functions (by wip/whole/dec2.py) ===== -/
def f_X10_holds_77 (A : Nat → List Int32) (I : Nat → Int32) (a1 : Int32) (a2 : Int32) : Option (Int32) :=
  (if a1 < 0 then
    some 0
  else
    (if a2 < 0 then
      some 0
    else
      (if (I 4929) < a2 then
        some 0
      else
        (if ((I 4929) - a2) < a1 then
          some 0
        else
          some 1))))
set_option maxRecDepth 100000 in
set_option maxHeartbeats 4000000 in
theorem t_X10_holds_77 {xs : List Int32} (A : Nat → List Int32) (I : Nat → Int32) (x : am_X) (a1 : Int32) (a2 : Int32) {z : Int32} (hz : f_X10_holds_77 A I a1 a2 = some z) : am_Rt (am_ro xs) 1 ix_X10_holds [.ref 77, .int a1, .int a2] (hp A I x) (some (.int z), hp A I x) := by
  refine am_Rt.J (k := ix_X10_holds) (M := mc_X10_holds) (nL := 3) (d := 0) (as := [.ref 77, .int a1, .int a2]) (res := fun z => (some (.int z), hp A I x)) rfl (Nat.le_of_ble_eq_true rfl) (fun r => ?_) hz
  unfold f_X10_holds_77
  refine am_J.go 1 rfl ?_
  refine am_J.lt rfl ?_ ?_
  · refine am_J.go 1 rfl ?_
    exact am_J.retz rfl (Or.inl rfl) (fun k => k)
  · refine am_J.go 1 rfl ?_
    refine am_J.lt rfl ?_ ?_
    · refine am_J.go 1 rfl ?_
      exact am_J.retz rfl (Or.inl rfl) (fun k => k)
    · refine am_J.go 3 rfl ?_
      refine am_J.gt rfl ?_ ?_
      · refine am_J.go 1 rfl ?_
        exact am_J.retz rfl (Or.inl rfl) (fun k => k)
      · refine am_J.go 5 rfl ?_
        refine am_J.gt rfl ?_ ?_
        · refine am_J.go 1 rfl ?_
          exact am_J.retz rfl (Or.inl rfl) (fun k => k)
        · refine am_J.go 2 rfl ?_
          exact am_J.retz rfl (Or.inr rfl) (fun k => k)

def f_X10_put_77 (A : Nat → List Int32) (I : Nat → Int32) (a1 : Int32) (a2 : Int32) : Option ((List Int32)) :=
  (((if (I 4928) = 0 then
      some (Int8.toInt32 (Int32.toInt8 a2))
    else
      (if (I 4928) = 1 then
        some (Int16.toInt32 (Int32.toInt16 a2))
      else
        some a2)) : Option (Int32)).bind (fun j1 =>
  ((am_up (A 78) a1 j1).bind fun y2 =>
  some y2)))
set_option maxRecDepth 100000 in
set_option maxHeartbeats 4000000 in
theorem t_X10_put_77 {xs : List Int32} (A : Nat → List Int32) (I : Nat → Int32) (x : am_X) (a1 : Int32) (a2 : Int32) {z : (List Int32)} (hz : f_X10_put_77 A I a1 a2 = some z) : am_Rt (am_ro xs) 1 ix_X10_put [.ref 77, .int a1, .int a2] (hp A I x) (none, hp (up A 78 z) I x) := by
  refine am_Rt.J (k := ix_X10_put) (M := mc_X10_put) (nL := 3) (d := 0) (as := [.ref 77, .int a1, .int a2]) (res := fun z => (none, hp (up A 78 z) I x)) rfl (Nat.le_of_ble_eq_true rfl) (fun r => ?_) hz
  unfold f_X10_put_77
  refine am_J.go 5 rfl ?_
  refine am_J.join (β := Int32) (cj := fun j1 => (31, [none, none, none], [.int j1, .int a1, .ref 78], hp A I x)) ?_ ?_
  · refine am_J.ne rfl ?_ ?_
    · refine am_J.go (cf' := (31, [some (.ref 77), some (.int a1), some (.int a2)], [.int (Int8.toInt32 (Int32.toInt8 a2)), .int a1, .ref 78], hp A I x)) 3 rfl ?_
      exact am_J.leaf (fun k => am_Ev.weak (L' := [none, none, none]) (am_Lle.o (am_Lle.o (am_Lle.o am_Lle.nil))) k)
    · refine am_J.go 3 rfl ?_
      refine am_J.ne rfl ?_ ?_
      · refine am_J.go (cf' := (31, [some (.ref 77), some (.int a1), some (.int a2)], [.int (Int16.toInt32 (Int32.toInt16 a2)), .int a1, .ref 78], hp A I x)) 3 rfl ?_
        exact am_J.leaf (fun k => am_Ev.weak (L' := [none, none, none]) (am_Lle.o (am_Lle.o (am_Lle.o am_Lle.nil))) k)
      · refine am_J.go (cf' := (31, [some (.ref 77), some (.int a1), some (.int a2)], [.int a2, .int a1, .ref 78], hp A I x)) 1 rfl ?_
        exact am_J.leaf (fun k => am_Ev.weak (L' := [none, none, none]) (am_Lle.o (am_Lle.o (am_Lle.o am_Lle.nil))) k)
  · rintro j1
    refine am_J.ias (xs := (A 78)) (h' := fun y2 => hp (up A 78 y2) I x) rfl rfl (fun _ => rfl) (fun y2 => ?_)
    exact am_J.ret rfl (fun k => k)

def f_X11_acts (A : Nat → List Int32) (I : Nat → Int32) (x : am_X) (a1 : Int32) (a2 : Int32) : Option (Int32 × (List Int32) × (List Int32)) :=
  ((f_X11_isSide a1).bind fun r1 =>
  (if r1 = 0 then
    some ((-2), (A 41), (A 42))
  else
    ((f_X11_isWithin a2 0 3).bind fun r2 =>
    (if r2 = 0 then
      some ((-2), (A 41), (A 42))
    else
      ((f_X1_trueUnder A I x a1 0).bind fun r3 =>
      (if a2 = 0 then
        some (r3.1, r3.2.1, r3.2.2)
      else
        ((f_X1_trueUnder (up (up A 41 r3.2.1) 42 r3.2.2) I x a1 1).bind fun r4 =>
        ((f_X1_goodAmong (up (up A 41 r4.2.1) 42 r4.2.2) I r3.1 r4.1).bind fun r5 =>
        (if a2 = 1 then
          some (r5, r4.2.1, r4.2.2)
        else
          ((f_X1_firmAmong (up (up A 41 r4.2.1) 42 r4.2.2) I r3.1 r4.1).bind fun r6 =>
          (if a2 = 2 then
            some (r6, r4.2.1, r4.2.2)
          else
            some ((r5 &&& (r6 ^^^ (-1))), r4.2.1, r4.2.2))))))))))))
set_option maxRecDepth 100000 in
set_option maxHeartbeats 4000000 in
theorem t_X11_acts {xs : List Int32} (A : Nat → List Int32) (I : Nat → Int32) (x : am_X) (a1 : Int32) (a2 : Int32) {z : Int32 × (List Int32) × (List Int32)} (hz : f_X11_acts A I x a1 a2 = some z) : am_Rt (am_ro xs) 6 ix_X11_acts [.ref 0, .int a1, .int a2] (hp A I x) (some (.int z.1), hp (up (up A 41 z.2.1) 42 z.2.2) I x) := by
  refine am_Rt.J (k := ix_X11_acts) (M := mc_X11_acts) (nL := 7) (d := 5) (as := [.ref 0, .int a1, .int a2]) (res := fun z => (some (.int z.1), hp (up (up A 41 z.2.1) 42 z.2.2) I x)) rfl (Nat.le_of_ble_eq_true rfl) (fun r => ?_) hz
  unfold f_X11_acts
  refine am_J.go 1 rfl ?_
  refine am_J.callz (v := fun r1 => r1) (h' := fun r1 => hp A I x) rfl rfl rfl (fun r1 hw => (t_X11_isSide (h := hp A I x) a1 hw).mono (Nat.le_of_ble_eq_true rfl)) (fun r1 hr1 => ?_)
  refine am_J.eq rfl ?_ ?_
  · refine am_J.go 1 rfl ?_
    exact am_J.ret rfl (fun k => k)
  · refine am_J.go 3 rfl ?_
    refine am_J.callz (v := fun r2 => r2) (h' := fun r2 => hp A I x) rfl rfl rfl (fun r2 hw => (t_X11_isWithin (h := hp A I x) a2 0 3 hw).mono (Nat.le_of_ble_eq_true rfl)) (fun r2 hr2 => ?_)
    refine am_J.ne rfl ?_ ?_
    · refine am_J.go 1 rfl ?_
      exact am_J.ret rfl (fun k => k)
    · refine am_J.go 4 rfl ?_
      refine am_J.call (v := fun r3 => .int r3.1) (h' := fun r3 => hp (up (up A 41 r3.2.1) 42 r3.2.2) I x) rfl (fun r3 hw => (t_X1_trueUnder A I x a1 0 hw)) (fun r3 => ?_)
      refine am_J.go 2 rfl ?_
      refine am_J.ne rfl ?_ ?_
      · refine am_J.go 1 rfl ?_
        exact am_J.ret rfl (fun k => k)
      · refine am_J.go 4 rfl ?_
        refine am_J.call (v := fun r4 => .int r4.1) (h' := fun r4 => hp (up (up A 41 r4.2.1) 42 r4.2.2) I x) rfl (fun r4 hw => (t_X1_trueUnder (up (up A 41 r3.2.1) 42 r3.2.2) I x a1 1 hw)) (fun r4 => ?_)
        refine am_J.go 5 rfl ?_
        refine am_J.call (v := fun r5 => .int r5) (h' := fun r5 => hp (up (up A 41 r4.2.1) 42 r4.2.2) I x) rfl (fun r5 hw => (t_X1_goodAmong (up (up A 41 r4.2.1) 42 r4.2.2) I x r3.1 r4.1 hw).mono (Nat.le_of_ble_eq_true rfl)) (fun r5 => ?_)
        refine am_J.go 3 rfl ?_
        refine am_J.ne rfl ?_ ?_
        · refine am_J.go 1 rfl ?_
          exact am_J.ret rfl (fun k => k)
        · refine am_J.go 4 rfl ?_
          refine am_J.call (v := fun r6 => .int r6) (h' := fun r6 => hp (up (up A 41 r4.2.1) 42 r4.2.2) I x) rfl (fun r6 hw => (t_X1_firmAmong (up (up A 41 r4.2.1) 42 r4.2.2) I x r3.1 r4.1 hw).mono (Nat.le_of_ble_eq_true rfl)) (fun r6 => ?_)
          refine am_J.go 3 rfl ?_
          refine am_J.ne rfl ?_ ?_
          · refine am_J.go 2 rfl ?_
            exact am_J.ret rfl (fun k => k)
          · refine am_J.go 5 rfl ?_
            exact am_J.ret rfl (fun k => k)

def f_X11_felled (A : Nat → List Int32) (I : Nat → Int32) (x : am_X) (a1 : Int32) (a2 : Int32) : Option (Int32 × (List Int32) × (List Int32)) :=
  ((f_X11_isSide a1).bind fun r1 =>
  (if r1 = 0 then
    some ((-2), (A 41), (A 42))
  else
    ((f_X11_isAct A I a2).bind fun r2 =>
    (if r2 = 0 then
      some ((-2), (A 41), (A 42))
    else
      ((f_X1_trueUnder A I x a1 0).bind fun r3 =>
      ((f_X1_trueUnder (up (up A 41 r3.2.1) 42 r3.2.2) I x a1 1).bind fun r4 =>
      ((f_X1_goodAmong (up (up A 41 r4.2.1) 42 r4.2.2) I r3.1 r4.1).bind fun r5 =>
      ((f_X1_goodAmong (up (up A 41 r4.2.1) 42 r4.2.2) I (r3.1 &&& ((1 <<< (a2 &&& 31)) ^^^ (-1))) r4.1).bind fun r6 =>
      some ((r5 &&& (r6 ^^^ (-1))), r4.2.1, r4.2.2)))))))))
set_option maxRecDepth 100000 in
set_option maxHeartbeats 4000000 in
theorem t_X11_felled {xs : List Int32} (A : Nat → List Int32) (I : Nat → Int32) (x : am_X) (a1 : Int32) (a2 : Int32) {z : Int32 × (List Int32) × (List Int32)} (hz : f_X11_felled A I x a1 a2 = some z) : am_Rt (am_ro xs) 6 ix_X11_felled [.ref 0, .int a1, .int a2] (hp A I x) (some (.int z.1), hp (up (up A 41 z.2.1) 42 z.2.2) I x) := by
  refine am_Rt.J (k := ix_X11_felled) (M := mc_X11_felled) (nL := 5) (d := 5) (as := [.ref 0, .int a1, .int a2]) (res := fun z => (some (.int z.1), hp (up (up A 41 z.2.1) 42 z.2.2) I x)) rfl (Nat.le_of_ble_eq_true rfl) (fun r => ?_) hz
  unfold f_X11_felled
  refine am_J.go 1 rfl ?_
  refine am_J.callz (v := fun r1 => r1) (h' := fun r1 => hp A I x) rfl rfl rfl (fun r1 hw => (t_X11_isSide (h := hp A I x) a1 hw).mono (Nat.le_of_ble_eq_true rfl)) (fun r1 hr1 => ?_)
  refine am_J.eq rfl ?_ ?_
  · refine am_J.go 1 rfl ?_
    exact am_J.ret rfl (fun k => k)
  · refine am_J.go 2 rfl ?_
    refine am_J.callz (v := fun r2 => r2) (h' := fun r2 => hp A I x) rfl rfl rfl (fun r2 hw => (t_X11_isAct A I x a2 hw).mono (Nat.le_of_ble_eq_true rfl)) (fun r2 hr2 => ?_)
    refine am_J.ne rfl ?_ ?_
    · refine am_J.go 1 rfl ?_
      exact am_J.ret rfl (fun k => k)
    · refine am_J.go 4 rfl ?_
      refine am_J.call (v := fun r3 => .int r3.1) (h' := fun r3 => hp (up (up A 41 r3.2.1) 42 r3.2.2) I x) rfl (fun r3 hw => (t_X1_trueUnder A I x a1 0 hw)) (fun r3 => ?_)
      refine am_J.go 5 rfl ?_
      refine am_J.call (v := fun r4 => .int r4.1) (h' := fun r4 => hp (up (up A 41 r4.2.1) 42 r4.2.2) I x) rfl (fun r4 hw => (t_X1_trueUnder (up (up A 41 r3.2.1) 42 r3.2.2) I x a1 1 hw)) (fun r4 => ?_)
      refine am_J.go 5 rfl ?_
      refine am_J.call (v := fun r5 => .int r5) (h' := fun r5 => hp (up (up A 41 r4.2.1) 42 r4.2.2) I x) rfl (fun r5 hw => (t_X1_goodAmong (up (up A 41 r4.2.1) 42 r4.2.2) I x r3.1 r4.1 hw).mono (Nat.le_of_ble_eq_true rfl)) (fun r5 => ?_)
      refine am_J.go 10 rfl ?_
      refine am_J.call (v := fun r6 => .int r6) (h' := fun r6 => hp (up (up A 41 r4.2.1) 42 r4.2.2) I x) rfl (fun r6 hw => (t_X1_goodAmong (up (up A 41 r4.2.1) 42 r4.2.2) I x (r3.1 &&& ((1 <<< (a2 &&& 31)) ^^^ (-1))) r4.1 hw).mono (Nat.le_of_ble_eq_true rfl)) (fun r6 => ?_)
      refine am_J.go 3 rfl ?_
      exact am_J.ret rfl (fun k => k)

def f_X1_changedBy_l1 (A : Nat → List Int32) (I : Nat → Int32) (x : am_X) (a1 : Int32) (a2 : Int32) (a3 : Int32) : (Int32 × Int32 × (List Int32) × (List Int32)) → Option ((Int32 × Int32 × (List Int32) × (List Int32)) ⊕ (Int32 × (List Int32) × (List Int32))) := fun q => match q with
    | (s1, s2, s3, s4) =>
    (if (I 1863) ≤ s2 then
      some (.inr (s1, s3, s4))
    else
      ((f_X1_landOf (up (up A 41 s3) 42 s4) I s2).bind fun r5 =>
      (((if r5 = a1 then
          ((am_at (A 33) s2).bind fun v6 =>
          ((f_X6_sideOn (up (up A 41 s3) 42 s4) I a1 v6).bind fun r7 =>
          ((am_at (A 33) s2).bind fun v8 =>
          ((f_X6_sideIfTurned (up (up A 41 s3) 42 s4) I a1 v8 a2 a3).bind fun r9 =>
          (((if r7 = r9 then
              some (0, s3, s4)
            else
              ((f_X1_tellsApart (up (up A 41 s3) 42 s4) I x s2 r7 r9).bind fun r10 =>
              (if r10.1 = 0 then
                some (0, r10.2.1, r10.2.2)
              else
                some ((1 <<< (s2 &&& 31)), r10.2.1, r10.2.2)))) : Option (Int32 × (List Int32) × (List Int32))).bind (fun q => match q with
          | (j11, j12, j13) =>
          some ((s1 ||| j11), j12, j13)))))))
        else
          some (s1, s3, s4)) : Option (Int32 × (List Int32) × (List Int32))).bind (fun q => match q with
      | (j14, j15, j16) =>
      some (.inl (j14, (s2 + 1), j15, j16))))))
def f_X1_changedBy (A : Nat → List Int32) (I : Nat → Int32) (x : am_X) (a1 : Int32) (a2 : Int32) (a3 : Int32) : Option (Int32 × (List Int32) × (List Int32)) :=
  ((wl (f_X1_changedBy_l1 A I x a1 a2 a3) 100000 (0, 0, (A 41), (A 42))).bind (fun q => match q with
  | (e17, e18, e19) =>
  some (e17, e18, e19)))
set_option maxRecDepth 100000 in
set_option maxHeartbeats 4000000 in
theorem t_X1_changedBy {xs : List Int32} (A : Nat → List Int32) (I : Nat → Int32) (x : am_X) (a1 : Int32) (a2 : Int32) (a3 : Int32) {z : Int32 × (List Int32) × (List Int32)} (hz : f_X1_changedBy A I x a1 a2 a3 = some z) : am_Rt (am_ro xs) 5 ix_X1_changedBy [.ref 37, .int a1, .int a2, .int a3] (hp A I x) (some (.int z.1), hp (up (up A 41 z.2.1) 42 z.2.2) I x) := by
  refine am_Rt.J (k := ix_X1_changedBy) (M := mc_X1_changedBy) (nL := 8) (d := 4) (as := [.ref 37, .int a1, .int a2, .int a3]) (res := fun z => (some (.int z.1), hp (up (up A 41 z.2.1) 42 z.2.2) I x)) rfl (Nat.le_of_ble_eq_true rfl) (fun r => ?_) hz
  unfold f_X1_changedBy
  refine am_J.go (cf' := (6, [some (.ref 37), some (.int a1), some (.int a2), some (.int a3), some (.int 0), some (.int 0), none, none], [], hp A I x)) 4 rfl ?_
  refine am_J.weak (L' := [some (.ref 37), some (.int a1), some (.int a2), some (.int a3), some (.int 0), some (.int 0), none, none]) (am_Lle.k (am_Lle.k (am_Lle.k (am_Lle.k (am_Lle.k (am_Lle.k (am_Lle.o (am_Lle.o am_Lle.nil)))))))) ?_
  refine am_J.loop (cl := fun q => match q with | (s1, s2, s3, s4) => (6, [some (.ref 37), some (.int a1), some (.int a2), some (.int a3), some (.int s1), some (.int s2), none, none], [], hp (up (up A 41 s3) 42 s4) I x)) (GX := fun q => match q with | (e17, e18, e19) => am_Ev (am_ro xs) 4 mc_X1_changedBy (112, [none, none, none, none, some (.int e17), none, none, none], [], hp (up (up A 41 e18) 42 e19) I x) r) ?_ ?_
  · rintro ⟨s1, s2, s3, s4⟩
    unfold f_X1_changedBy_l1
    refine am_J.go 4 rfl ?_
    refine am_J.ge rfl ?_ ?_
    · refine am_J.go (cf' := (112, [some (.ref 37), some (.int a1), some (.int a2), some (.int a3), some (.int s1), some (.int s2), none, none], [], hp (up (up A 41 s3) 42 s4) I x)) 0 rfl ?_
      exact am_J.leaf (fun k => am_Ev.weak (L' := [none, none, none, none, some (.int s1), none, none, none]) (am_Lle.o (am_Lle.o (am_Lle.o (am_Lle.o (am_Lle.k (am_Lle.o (am_Lle.o (am_Lle.o am_Lle.nil)))))))) k)
    · refine am_J.go 2 rfl ?_
      refine am_J.call (v := fun r5 => .int r5) (h' := fun r5 => hp (up (up A 41 s3) 42 s4) I x) rfl (fun r5 hw => (t_X1_landOf (up (up A 41 s3) 42 s4) I x s2 hw).mono (Nat.le_of_ble_eq_true rfl)) (fun r5 => ?_)
      refine am_J.go 1 rfl ?_
      refine am_J.join (β := Int32 × (List Int32) × (List Int32)) (cj := fun q => match q with | (j14, j15, j16) => (106, [some (.ref 37), some (.int a1), some (.int a2), some (.int a3), some (.int j14), some (.int s2), none, none], [], hp (up (up A 41 j15) 42 j16) I x)) ?_ ?_
      · refine am_J.eq rfl ?_ ?_
        · refine am_J.go 7 rfl ?_
          refine am_J.ial (xs := (A 33)) rfl (Nat.le_of_ble_eq_true rfl) rfl (fun v6 => ?_)
          refine am_J.call (v := fun r7 => .int r7) (h' := fun r7 => hp (up (up A 41 s3) 42 s4) I x) rfl (fun r7 hw => (t_X6_sideOn (up (up A 41 s3) 42 s4) I x a1 v6 hw).mono (Nat.le_of_ble_eq_true rfl)) (fun r7 => ?_)
          refine am_J.go 8 rfl ?_
          refine am_J.ial (xs := (A 33)) rfl (Nat.le_of_ble_eq_true rfl) rfl (fun v8 => ?_)
          refine am_J.go 2 rfl ?_
          refine am_J.call (v := fun r9 => .int r9) (h' := fun r9 => hp (up (up A 41 s3) 42 s4) I x) rfl (fun r9 hw => (t_X6_sideIfTurned (up (up A 41 s3) 42 s4) I x a1 v8 a2 a3 hw).mono (Nat.le_of_ble_eq_true rfl)) (fun r9 => ?_)
          refine am_J.go 4 rfl ?_
          refine am_J.join (β := Int32 × (List Int32) × (List Int32)) (cj := fun q => match q with | (j11, j12, j13) => (103, [some (.ref 37), some (.int a1), some (.int a2), some (.int a3), none, some (.int s2), none, none], [.int j11, .int s1], hp (up (up A 41 j12) 42 j13) I x)) ?_ ?_
          · refine am_J.eq rfl ?_ ?_
            · refine am_J.go (cf' := (103, [some (.ref 37), some (.int a1), some (.int a2), some (.int a3), some (.int s1), some (.int s2), some (.int r7), some (.int r9)], [.int 0, .int s1], hp (up (up A 41 s3) 42 s4) I x)) 1 rfl ?_
              exact am_J.leaf (fun k => am_Ev.weak (L' := [some (.ref 37), some (.int a1), some (.int a2), some (.int a3), none, some (.int s2), none, none]) (am_Lle.k (am_Lle.k (am_Lle.k (am_Lle.k (am_Lle.o (am_Lle.k (am_Lle.o (am_Lle.o am_Lle.nil)))))))) k)
            · refine am_J.go 4 rfl ?_
              refine am_J.callz (v := fun r10 => r10.1) (h' := fun r10 => hp (up (up A 41 r10.2.1) 42 r10.2.2) I x) rfl rfl rfl (fun r10 hw => (t_X1_tellsApart (up (up A 41 s3) 42 s4) I x s2 r7 r9 hw)) (fun r10 hr10 => ?_)
              refine am_J.eq rfl ?_ ?_
              · refine am_J.go (cf' := (103, [some (.ref 37), some (.int a1), some (.int a2), some (.int a3), some (.int s1), some (.int s2), some (.int r7), some (.int r9)], [.int 0, .int s1], hp (up (up A 41 r10.2.1) 42 r10.2.2) I x)) 1 rfl ?_
                exact am_J.leaf (fun k => am_Ev.weak (L' := [some (.ref 37), some (.int a1), some (.int a2), some (.int a3), none, some (.int s2), none, none]) (am_Lle.k (am_Lle.k (am_Lle.k (am_Lle.k (am_Lle.o (am_Lle.k (am_Lle.o (am_Lle.o am_Lle.nil)))))))) k)
              · refine am_J.go (cf' := (103, [some (.ref 37), some (.int a1), some (.int a2), some (.int a3), some (.int s1), some (.int s2), some (.int r7), some (.int r9)], [.int (1 <<< (s2 &&& 31)), .int s1], hp (up (up A 41 r10.2.1) 42 r10.2.2) I x)) 4 rfl ?_
                exact am_J.leaf (fun k => am_Ev.weak (L' := [some (.ref 37), some (.int a1), some (.int a2), some (.int a3), none, some (.int s2), none, none]) (am_Lle.k (am_Lle.k (am_Lle.k (am_Lle.k (am_Lle.o (am_Lle.k (am_Lle.o (am_Lle.o am_Lle.nil)))))))) k)
          · rintro ⟨j11, j12, j13⟩
            refine am_J.go (cf' := (106, [some (.ref 37), some (.int a1), some (.int a2), some (.int a3), some (.int (s1 ||| j11)), some (.int s2), none, none], [], hp (up (up A 41 j12) 42 j13) I x)) 2 rfl ?_
            exact am_J.leaf (fun k => am_Ev.weak (L' := [some (.ref 37), some (.int a1), some (.int a2), some (.int a3), some (.int (s1 ||| j11)), some (.int s2), none, none]) (am_Lle.k (am_Lle.k (am_Lle.k (am_Lle.k (am_Lle.k (am_Lle.k (am_Lle.o (am_Lle.o am_Lle.nil)))))))) k)
        · refine am_J.go (cf' := (106, [some (.ref 37), some (.int a1), some (.int a2), some (.int a3), some (.int s1), some (.int s2), none, none], [], hp (up (up A 41 s3) 42 s4) I x)) 1 rfl ?_
          exact am_J.leaf (fun k => am_Ev.weak (L' := [some (.ref 37), some (.int a1), some (.int a2), some (.int a3), some (.int s1), some (.int s2), none, none]) (am_Lle.k (am_Lle.k (am_Lle.k (am_Lle.k (am_Lle.k (am_Lle.k (am_Lle.o (am_Lle.o am_Lle.nil)))))))) k)
      · rintro ⟨j14, j15, j16⟩
        refine am_J.go (cf' := (6, [some (.ref 37), some (.int a1), some (.int a2), some (.int a3), some (.int j14), some (.int (s2 + 1)), none, none], [], hp (up (up A 41 j15) 42 j16) I x)) 2 rfl ?_
        exact am_J.leaf (fun k => am_Ev.weak (L' := [some (.ref 37), some (.int a1), some (.int a2), some (.int a3), some (.int j14), some (.int (s2 + 1)), none, none]) (am_Lle.k (am_Lle.k (am_Lle.k (am_Lle.k (am_Lle.k (am_Lle.k (am_Lle.o (am_Lle.o am_Lle.nil)))))))) k)
  · rintro ⟨e17, e18, e19⟩
    refine (?_ : am_J (am_ro xs) 4 mc_X1_changedBy r (112, [none, none, none, none, some (.int e17), none, none, none], [], hp (up (up A 41 e18) 42 e19) I x) _ _)
    refine am_J.go 1 rfl ?_
    exact am_J.ret rfl (fun k => k)

def f_X1_goodUnder (A : Nat → List Int32) (I : Nat → Int32) (x : am_X) (a1 : Int32) : Option (Int32 × (List Int32) × (List Int32)) :=
  ((f_X1_trueUnder A I x a1 0).bind fun r1 =>
  ((f_X1_trueUnder (up (up A 41 r1.2.1) 42 r1.2.2) I x a1 1).bind fun r2 =>
  ((f_X1_goodAmong (up (up A 41 r2.2.1) 42 r2.2.2) I r1.1 r2.1).bind fun r3 =>
  some (r3, r2.2.1, r2.2.2))))
set_option maxRecDepth 100000 in
set_option maxHeartbeats 4000000 in
theorem t_X1_goodUnder {xs : List Int32} (A : Nat → List Int32) (I : Nat → Int32) (x : am_X) (a1 : Int32) {z : Int32 × (List Int32) × (List Int32)} (hz : f_X1_goodUnder A I x a1 = some z) : am_Rt (am_ro xs) 6 ix_X1_goodUnder [.ref 37, .int a1] (hp A I x) (some (.int z.1), hp (up (up A 41 z.2.1) 42 z.2.2) I x) := by
  refine am_Rt.J (k := ix_X1_goodUnder) (M := mc_X1_goodUnder) (nL := 2) (d := 5) (as := [.ref 37, .int a1]) (res := fun z => (some (.int z.1), hp (up (up A 41 z.2.1) 42 z.2.2) I x)) rfl (Nat.le_of_ble_eq_true rfl) (fun r => ?_) hz
  unfold f_X1_goodUnder
  refine am_J.go 4 rfl ?_
  refine am_J.call (v := fun r1 => .int r1.1) (h' := fun r1 => hp (up (up A 41 r1.2.1) 42 r1.2.2) I x) rfl (fun r1 hw => (t_X1_trueUnder A I x a1 0 hw)) (fun r1 => ?_)
  refine am_J.go 3 rfl ?_
  refine am_J.call (v := fun r2 => .int r2.1) (h' := fun r2 => hp (up (up A 41 r2.2.1) 42 r2.2.2) I x) rfl (fun r2 hw => (t_X1_trueUnder (up (up A 41 r1.2.1) 42 r1.2.2) I x a1 1 hw)) (fun r2 => ?_)
  refine am_J.call (v := fun r3 => .int r3) (h' := fun r3 => hp (up (up A 41 r2.2.1) 42 r2.2.2) I x) rfl (fun r3 hw => (t_X1_goodAmong (up (up A 41 r2.2.1) 42 r2.2.2) I x r1.1 r2.1 hw).mono (Nat.le_of_ble_eq_true rfl)) (fun r3 => ?_)
  exact am_J.ret rfl (fun k => k)

def f_X8_spells_s2_l1 (A : Nat → List Int32) (I : Nat → Int32) (a1 : Int32) : (Int32) → Option ((Int32) ⊕ ((Unit) ⊕ (Int32))) := fun s1 =>
    (if 4 ≤ s1 then
      some (.inr (.inl ()))
    else
      ((am_at (A 53) (a1 + s1)).bind fun v2 =>
      ((am_at (am_str 2) s1).bind fun v3 =>
      (if v2 = v3 then
        some (.inl (s1 + 1))
      else
        some (.inr (.inr 0))))))
def f_X8_spells_s2 (A : Nat → List Int32) (I : Nat → Int32) (a1 : Int32) : Option (Int32) :=
  (if ((I 3332) - a1) = 4 then
    ((wl (f_X8_spells_s2_l1 A I a1) 100000 0).bind (fun q => match q with
    | .inl _ =>
    some 1
    | .inr v => some v))
  else
    some 0)
set_option maxRecDepth 100000 in
set_option maxHeartbeats 4000000 in
theorem t_X8_spells_s2 {xs : List Int32} (A : Nat → List Int32) (I : Nat → Int32) (x : am_X) (a1 : Int32) {z : Int32} (hz : f_X8_spells_s2 A I a1 = some z) : am_Rt (am_ro xs) 1 ix_X8_spells [.ref 52, .int a1, .ref (am_RO + 16 + 2)] (hp A I x) (some (.int z), hp A I x) := by
  refine am_Rt.J (k := ix_X8_spells) (M := mc_X8_spells) (nL := 4) (d := 0) (as := [.ref 52, .int a1, .ref (am_RO + 16 + 2)]) (res := fun z => (some (.int z), hp A I x)) rfl (Nat.le_of_ble_eq_true rfl) (fun r => ?_) hz
  unfold f_X8_spells_s2
  refine am_J.go 6 rfl ?_
  refine am_J.eq rfl ?_ ?_
  · refine am_J.go (cf' := (17, [some (.ref 52), some (.int a1), some (.ref (am_RO + 16 + 2)), some (.int 0)], [], hp A I x)) 2 rfl ?_
    refine am_J.weak (L' := [some (.ref 52), some (.int a1), some (.ref (am_RO + 16 + 2)), some (.int 0)]) (am_Lle.k (am_Lle.k (am_Lle.k (am_Lle.k am_Lle.nil)))) ?_
    refine am_J.loop (cl := fun s1 => (17, [some (.ref 52), some (.int a1), some (.ref (am_RO + 16 + 2)), some (.int s1)], [], hp A I x)) (GX := fun q => Sum.elim (fun _ => am_Ev (am_ro xs) 0 mc_X8_spells (49, [none, none, none, none], [], hp A I x) r) (fun (z : Int32) => r = (some (.int z), hp A I x)) q) ?_ ?_
    · rintro s1
      unfold f_X8_spells_s2_l1
      refine am_J.go 3 rfl ?_
      refine am_J.ge rfl ?_ ?_
      · refine am_J.go (cf' := (49, [some (.ref 52), some (.int a1), some (.ref (am_RO + 16 + 2)), some (.int s1)], [], hp A I x)) 0 rfl ?_
        exact am_J.leaf (fun k => am_Ev.weak (L' := [none, none, none, none]) (am_Lle.o (am_Lle.o (am_Lle.o (am_Lle.o am_Lle.nil)))) k)
      · refine am_J.go 5 rfl ?_
        refine am_J.bal (xs := (A 53)) (t := 1) rfl (by decide) rfl (fun v2 => ?_)
        refine am_J.go 2 rfl ?_
        refine am_J.sat (j := 2) rfl (Nat.le_of_ble_eq_true rfl) (by decide) (fun v3 => ?_)
        refine am_J.eq rfl ?_ ?_
        · refine am_J.go (cf' := (17, [some (.ref 52), some (.int a1), some (.ref (am_RO + 16 + 2)), some (.int (s1 + 1))], [], hp A I x)) 2 rfl ?_
          exact am_J.leaf (fun k => am_Ev.weak (L' := [some (.ref 52), some (.int a1), some (.ref (am_RO + 16 + 2)), some (.int (s1 + 1))]) (am_Lle.k (am_Lle.k (am_Lle.k (am_Lle.k am_Lle.nil)))) k)
        · refine am_J.go 1 rfl ?_
          exact am_J.retz rfl (Or.inl rfl) (fun k => k)
    · intro q
      rcases q with ⟨⟩ | v
      · refine (?_ : am_J (am_ro xs) 0 mc_X8_spells r (49, [none, none, none, none], [], hp A I x) _ _)
        refine am_J.go 1 rfl ?_
        exact am_J.retz rfl (Or.inr rfl) (fun k => k)
      · intro z hz hk
        cases hz
        exact hk
  · refine am_J.go 1 rfl ?_
    exact am_J.retz rfl (Or.inl rfl) (fun k => k)

def f_X8_spells_s8_l1 (A : Nat → List Int32) (I : Nat → Int32) (a1 : Int32) : (Int32) → Option ((Int32) ⊕ ((Unit) ⊕ (Int32))) := fun s1 =>
    (if 2 ≤ s1 then
      some (.inr (.inl ()))
    else
      ((am_at (A 53) (a1 + s1)).bind fun v2 =>
      ((am_at (am_str 8) s1).bind fun v3 =>
      (if v2 = v3 then
        some (.inl (s1 + 1))
      else
        some (.inr (.inr 0))))))
def f_X8_spells_s8 (A : Nat → List Int32) (I : Nat → Int32) (a1 : Int32) : Option (Int32) :=
  (if ((I 3332) - a1) = 2 then
    ((wl (f_X8_spells_s8_l1 A I a1) 100000 0).bind (fun q => match q with
    | .inl _ =>
    some 1
    | .inr v => some v))
  else
    some 0)
set_option maxRecDepth 100000 in
set_option maxHeartbeats 4000000 in
theorem t_X8_spells_s8 {xs : List Int32} (A : Nat → List Int32) (I : Nat → Int32) (x : am_X) (a1 : Int32) {z : Int32} (hz : f_X8_spells_s8 A I a1 = some z) : am_Rt (am_ro xs) 1 ix_X8_spells [.ref 52, .int a1, .ref (am_RO + 16 + 8)] (hp A I x) (some (.int z), hp A I x) := by
  refine am_Rt.J (k := ix_X8_spells) (M := mc_X8_spells) (nL := 4) (d := 0) (as := [.ref 52, .int a1, .ref (am_RO + 16 + 8)]) (res := fun z => (some (.int z), hp A I x)) rfl (Nat.le_of_ble_eq_true rfl) (fun r => ?_) hz
  unfold f_X8_spells_s8
  refine am_J.go 6 rfl ?_
  refine am_J.eq rfl ?_ ?_
  · refine am_J.go (cf' := (17, [some (.ref 52), some (.int a1), some (.ref (am_RO + 16 + 8)), some (.int 0)], [], hp A I x)) 2 rfl ?_
    refine am_J.weak (L' := [some (.ref 52), some (.int a1), some (.ref (am_RO + 16 + 8)), some (.int 0)]) (am_Lle.k (am_Lle.k (am_Lle.k (am_Lle.k am_Lle.nil)))) ?_
    refine am_J.loop (cl := fun s1 => (17, [some (.ref 52), some (.int a1), some (.ref (am_RO + 16 + 8)), some (.int s1)], [], hp A I x)) (GX := fun q => Sum.elim (fun _ => am_Ev (am_ro xs) 0 mc_X8_spells (49, [none, none, none, none], [], hp A I x) r) (fun (z : Int32) => r = (some (.int z), hp A I x)) q) ?_ ?_
    · rintro s1
      unfold f_X8_spells_s8_l1
      refine am_J.go 3 rfl ?_
      refine am_J.ge rfl ?_ ?_
      · refine am_J.go (cf' := (49, [some (.ref 52), some (.int a1), some (.ref (am_RO + 16 + 8)), some (.int s1)], [], hp A I x)) 0 rfl ?_
        exact am_J.leaf (fun k => am_Ev.weak (L' := [none, none, none, none]) (am_Lle.o (am_Lle.o (am_Lle.o (am_Lle.o am_Lle.nil)))) k)
      · refine am_J.go 5 rfl ?_
        refine am_J.bal (xs := (A 53)) (t := 1) rfl (by decide) rfl (fun v2 => ?_)
        refine am_J.go 2 rfl ?_
        refine am_J.sat (j := 8) rfl (Nat.le_of_ble_eq_true rfl) (by decide) (fun v3 => ?_)
        refine am_J.eq rfl ?_ ?_
        · refine am_J.go (cf' := (17, [some (.ref 52), some (.int a1), some (.ref (am_RO + 16 + 8)), some (.int (s1 + 1))], [], hp A I x)) 2 rfl ?_
          exact am_J.leaf (fun k => am_Ev.weak (L' := [some (.ref 52), some (.int a1), some (.ref (am_RO + 16 + 8)), some (.int (s1 + 1))]) (am_Lle.k (am_Lle.k (am_Lle.k (am_Lle.k am_Lle.nil)))) k)
        · refine am_J.go 1 rfl ?_
          exact am_J.retz rfl (Or.inl rfl) (fun k => k)
    · intro q
      rcases q with ⟨⟩ | v
      · refine (?_ : am_J (am_ro xs) 0 mc_X8_spells r (49, [none, none, none, none], [], hp A I x) _ _)
        refine am_J.go 1 rfl ?_
        exact am_J.retz rfl (Or.inr rfl) (fun k => k)
      · intro z hz hk
        cases hz
        exact hk
  · refine am_J.go 1 rfl ?_
    exact am_J.retz rfl (Or.inl rfl) (fun k => k)

def f_X11_byRight (A : Nat → List Int32) (I : Nat → Int32) (x : am_X) (a1 : Int32) (a2 : Int32) (a3 : Int32) : Option (Int32 × (List Int32) × (List Int32)) :=
  ((f_X11_isSide a1).bind fun r1 =>
  (if r1 = 0 then
    some ((-2), (A 41), (A 42))
  else
    ((f_X11_isOffice a2).bind fun r2 =>
    (if r2 = 0 then
      some ((-2), (A 41), (A 42))
    else
      ((f_X11_isDay a3).bind fun r3 =>
      (if r3 = 0 then
        some ((-2), (A 41), (A 42))
      else
        ((f_X1_goodUnder A I x a1).bind fun r4 =>
        ((f_X1_rightful (up (up A 41 r4.2.1) 42 r4.2.2) I r4.1 a2 a3).bind fun r5 =>
        some (r5, r4.2.1, r4.2.2)))))))))
set_option maxRecDepth 100000 in
set_option maxHeartbeats 4000000 in
theorem t_X11_byRight {xs : List Int32} (A : Nat → List Int32) (I : Nat → Int32) (x : am_X) (a1 : Int32) (a2 : Int32) (a3 : Int32) {z : Int32 × (List Int32) × (List Int32)} (hz : f_X11_byRight A I x a1 a2 a3 = some z) : am_Rt (am_ro xs) 7 ix_X11_byRight [.ref 0, .int a1, .int a2, .int a3] (hp A I x) (some (.int z.1), hp (up (up A 41 z.2.1) 42 z.2.2) I x) := by
  refine am_Rt.J (k := ix_X11_byRight) (M := mc_X11_byRight) (nL := 4) (d := 6) (as := [.ref 0, .int a1, .int a2, .int a3]) (res := fun z => (some (.int z.1), hp (up (up A 41 z.2.1) 42 z.2.2) I x)) rfl (Nat.le_of_ble_eq_true rfl) (fun r => ?_) hz
  unfold f_X11_byRight
  refine am_J.go 1 rfl ?_
  refine am_J.callz (v := fun r1 => r1) (h' := fun r1 => hp A I x) rfl rfl rfl (fun r1 hw => (t_X11_isSide (h := hp A I x) a1 hw).mono (Nat.le_of_ble_eq_true rfl)) (fun r1 hr1 => ?_)
  refine am_J.eq rfl ?_ ?_
  · refine am_J.go 1 rfl ?_
    exact am_J.ret rfl (fun k => k)
  · refine am_J.go 1 rfl ?_
    refine am_J.callz (v := fun r2 => r2) (h' := fun r2 => hp A I x) rfl rfl rfl (fun r2 hw => (t_X11_isOffice (h := hp A I x) a2 hw).mono (Nat.le_of_ble_eq_true rfl)) (fun r2 hr2 => ?_)
    refine am_J.eq rfl ?_ ?_
    · refine am_J.go 1 rfl ?_
      exact am_J.ret rfl (fun k => k)
    · refine am_J.go 1 rfl ?_
      refine am_J.callz (v := fun r3 => r3) (h' := fun r3 => hp A I x) rfl rfl rfl (fun r3 hw => (t_X11_isDay (h := hp A I x) a3 hw).mono (Nat.le_of_ble_eq_true rfl)) (fun r3 hr3 => ?_)
      refine am_J.ne rfl ?_ ?_
      · refine am_J.go 1 rfl ?_
        exact am_J.ret rfl (fun k => k)
      · refine am_J.go 5 rfl ?_
        refine am_J.call (v := fun r4 => .int r4.1) (h' := fun r4 => hp (up (up A 41 r4.2.1) 42 r4.2.2) I x) rfl (fun r4 hw => (t_X1_goodUnder A I x a1 hw)) (fun r4 => ?_)
        refine am_J.go 2 rfl ?_
        refine am_J.call (v := fun r5 => .int r5) (h' := fun r5 => hp (up (up A 41 r4.2.1) 42 r4.2.2) I x) rfl (fun r5 hw => (t_X1_rightful (up (up A 41 r4.2.1) 42 r4.2.2) I x r4.1 a2 a3 hw).mono (Nat.le_of_ble_eq_true rfl)) (fun r5 => ?_)
        exact am_J.ret rfl (fun k => k)

def f_X11_changed (A : Nat → List Int32) (I : Nat → Int32) (x : am_X) (a1 : Int32) (a2 : Int32) (a3 : Int32) : Option (Int32 × (List Int32) × (List Int32)) :=
  ((f_X11_isLand a1).bind fun r1 =>
  (if r1 = 0 then
    some ((-2), (A 41), (A 42))
  else
    ((f_X11_isDay a2).bind fun r2 =>
    (if r2 = 0 then
      some ((-2), (A 41), (A 42))
    else
      ((f_X11_isWithin a3 0 1).bind fun r3 =>
      (if r3 = 0 then
        some ((-2), (A 41), (A 42))
      else
        ((f_X1_changedBy A I x a1 a2 a3).bind fun r4 =>
        some (r4.1, r4.2.1, r4.2.2))))))))
set_option maxRecDepth 100000 in
set_option maxHeartbeats 4000000 in
theorem t_X11_changed {xs : List Int32} (A : Nat → List Int32) (I : Nat → Int32) (x : am_X) (a1 : Int32) (a2 : Int32) (a3 : Int32) {z : Int32 × (List Int32) × (List Int32)} (hz : f_X11_changed A I x a1 a2 a3 = some z) : am_Rt (am_ro xs) 6 ix_X11_changed [.ref 0, .int a1, .int a2, .int a3] (hp A I x) (some (.int z.1), hp (up (up A 41 z.2.1) 42 z.2.2) I x) := by
  refine am_Rt.J (k := ix_X11_changed) (M := mc_X11_changed) (nL := 4) (d := 5) (as := [.ref 0, .int a1, .int a2, .int a3]) (res := fun z => (some (.int z.1), hp (up (up A 41 z.2.1) 42 z.2.2) I x)) rfl (Nat.le_of_ble_eq_true rfl) (fun r => ?_) hz
  unfold f_X11_changed
  refine am_J.go 1 rfl ?_
  refine am_J.callz (v := fun r1 => r1) (h' := fun r1 => hp A I x) rfl rfl rfl (fun r1 hw => (t_X11_isLand (h := hp A I x) a1 hw).mono (Nat.le_of_ble_eq_true rfl)) (fun r1 hr1 => ?_)
  refine am_J.eq rfl ?_ ?_
  · refine am_J.go 1 rfl ?_
    exact am_J.ret rfl (fun k => k)
  · refine am_J.go 1 rfl ?_
    refine am_J.callz (v := fun r2 => r2) (h' := fun r2 => hp A I x) rfl rfl rfl (fun r2 hw => (t_X11_isDay (h := hp A I x) a2 hw).mono (Nat.le_of_ble_eq_true rfl)) (fun r2 hr2 => ?_)
    refine am_J.eq rfl ?_ ?_
    · refine am_J.go 1 rfl ?_
      exact am_J.ret rfl (fun k => k)
    · refine am_J.go 3 rfl ?_
      refine am_J.callz (v := fun r3 => r3) (h' := fun r3 => hp A I x) rfl rfl rfl (fun r3 hw => (t_X11_isWithin (h := hp A I x) a3 0 1 hw).mono (Nat.le_of_ble_eq_true rfl)) (fun r3 hr3 => ?_)
      refine am_J.ne rfl ?_ ?_
      · refine am_J.go 1 rfl ?_
        exact am_J.ret rfl (fun k => k)
      · refine am_J.go 5 rfl ?_
        refine am_J.call (v := fun r4 => .int r4.1) (h' := fun r4 => hp (up (up A 41 r4.2.1) 42 r4.2.2) I x) rfl (fun r4 hw => (t_X1_changedBy A I x a1 a2 a3 hw)) (fun r4 => ?_)
        exact am_J.ret rfl (fun k => k)

def f_X11_inForce (A : Nat → List Int32) (I : Nat → Int32) (x : am_X) (a1 : Int32) (a2 : Int32) : Option (Int32 × (List Int32) × (List Int32)) :=
  ((f_X11_isSide a1).bind fun r1 =>
  (if r1 = 0 then
    some ((-2), (A 41), (A 42))
  else
    ((f_X11_isDay a2).bind fun r2 =>
    (if r2 = 0 then
      some ((-2), (A 41), (A 42))
    else
      ((f_X1_goodUnder A I x a1).bind fun r3 =>
      ((f_X1_forceOn (up (up A 41 r3.2.1) 42 r3.2.2) I r3.1 a2).bind fun r4 =>
      some (r4, r3.2.1, r3.2.2)))))))
set_option maxRecDepth 100000 in
set_option maxHeartbeats 4000000 in
theorem t_X11_inForce {xs : List Int32} (A : Nat → List Int32) (I : Nat → Int32) (x : am_X) (a1 : Int32) (a2 : Int32) {z : Int32 × (List Int32) × (List Int32)} (hz : f_X11_inForce A I x a1 a2 = some z) : am_Rt (am_ro xs) 7 ix_X11_inForce [.ref 0, .int a1, .int a2] (hp A I x) (some (.int z.1), hp (up (up A 41 z.2.1) 42 z.2.2) I x) := by
  refine am_Rt.J (k := ix_X11_inForce) (M := mc_X11_inForce) (nL := 3) (d := 6) (as := [.ref 0, .int a1, .int a2]) (res := fun z => (some (.int z.1), hp (up (up A 41 z.2.1) 42 z.2.2) I x)) rfl (Nat.le_of_ble_eq_true rfl) (fun r => ?_) hz
  unfold f_X11_inForce
  refine am_J.go 1 rfl ?_
  refine am_J.callz (v := fun r1 => r1) (h' := fun r1 => hp A I x) rfl rfl rfl (fun r1 hw => (t_X11_isSide (h := hp A I x) a1 hw).mono (Nat.le_of_ble_eq_true rfl)) (fun r1 hr1 => ?_)
  refine am_J.eq rfl ?_ ?_
  · refine am_J.go 1 rfl ?_
    exact am_J.ret rfl (fun k => k)
  · refine am_J.go 1 rfl ?_
    refine am_J.callz (v := fun r2 => r2) (h' := fun r2 => hp A I x) rfl rfl rfl (fun r2 hw => (t_X11_isDay (h := hp A I x) a2 hw).mono (Nat.le_of_ble_eq_true rfl)) (fun r2 hr2 => ?_)
    refine am_J.ne rfl ?_ ?_
    · refine am_J.go 1 rfl ?_
      exact am_J.ret rfl (fun k => k)
    · refine am_J.go 5 rfl ?_
      refine am_J.call (v := fun r3 => .int r3.1) (h' := fun r3 => hp (up (up A 41 r3.2.1) 42 r3.2.2) I x) rfl (fun r3 hw => (t_X1_goodUnder A I x a1 hw)) (fun r3 => ?_)
      refine am_J.go 1 rfl ?_
      refine am_J.call (v := fun r4 => .int r4) (h' := fun r4 => hp (up (up A 41 r3.2.1) 42 r3.2.2) I x) rfl (fun r4 hw => (t_X1_forceOn (up (up A 41 r3.2.1) 42 r3.2.2) I x r3.1 a2 hw).mono (Nat.le_of_ble_eq_true rfl)) (fun r4 => ?_)
      exact am_J.ret rfl (fun k => k)

def f_X11_quarrels_l1 (A : Nat → List Int32) (I : Nat → Int32) (x : am_X) (a1 : Int32) (p6 : Int32) (p7 : Int32) : (Int32 × Int32) → Option ((Int32 × Int32) ⊕ (Int32)) := fun q => match q with
    | (s4, s5) =>
    (if 6 ≤ s5 then
      some (.inr s4)
    else
      ((f_X1_rightful A I p6 s5 a1).bind fun r8 =>
      ((f_X1_rightful A I p7 s5 a1).bind fun r9 =>
      (((if r8 = r9 then
          some 1
        else
          some 0) : Option (Int32)).bind (fun j10 =>
      (((if j10 = 0 then
          some (1 <<< (s5 &&& 31))
        else
          some 0) : Option (Int32)).bind (fun j11 =>
      some (.inl ((s4 ||| j11), (s5 + 1))))))))))
def f_X11_quarrels (A : Nat → List Int32) (I : Nat → Int32) (x : am_X) (a1 : Int32) : Option (Int32 × (List Int32) × (List Int32)) :=
  ((f_X11_isDay a1).bind fun r1 =>
  (if r1 = 0 then
    some ((-2), (A 41), (A 42))
  else
    ((f_X1_goodUnder A I x 0).bind fun r2 =>
    ((f_X1_goodUnder (up (up A 41 r2.2.1) 42 r2.2.2) I x 1).bind fun r3 =>
    ((wl (f_X11_quarrels_l1 (up (up A 41 r3.2.1) 42 r3.2.2) I x a1 r2.1 r3.1) 100000 (0, 0)).bind (fun e12 =>
    some (e12, r3.2.1, r3.2.2)))))))
set_option maxRecDepth 100000 in
set_option maxHeartbeats 4000000 in
theorem t_X11_quarrels {xs : List Int32} (A : Nat → List Int32) (I : Nat → Int32) (x : am_X) (a1 : Int32) {z : Int32 × (List Int32) × (List Int32)} (hz : f_X11_quarrels A I x a1 = some z) : am_Rt (am_ro xs) 7 ix_X11_quarrels [.ref 0, .int a1] (hp A I x) (some (.int z.1), hp (up (up A 41 z.2.1) 42 z.2.2) I x) := by
  refine am_Rt.J (k := ix_X11_quarrels) (M := mc_X11_quarrels) (nL := 7) (d := 6) (as := [.ref 0, .int a1]) (res := fun z => (some (.int z.1), hp (up (up A 41 z.2.1) 42 z.2.2) I x)) rfl (Nat.le_of_ble_eq_true rfl) (fun r => ?_) hz
  unfold f_X11_quarrels
  refine am_J.go 1 rfl ?_
  refine am_J.callz (v := fun r1 => r1) (h' := fun r1 => hp A I x) rfl rfl rfl (fun r1 hw => (t_X11_isDay (h := hp A I x) a1 hw).mono (Nat.le_of_ble_eq_true rfl)) (fun r1 hr1 => ?_)
  refine am_J.ne rfl ?_ ?_
  · refine am_J.go 1 rfl ?_
    exact am_J.ret rfl (fun k => k)
  · refine am_J.go 3 rfl ?_
    refine am_J.call (v := fun r2 => .int r2.1) (h' := fun r2 => hp (up (up A 41 r2.2.1) 42 r2.2.2) I x) rfl (fun r2 hw => (t_X1_goodUnder A I x 0 hw)) (fun r2 => ?_)
    refine am_J.go 4 rfl ?_
    refine am_J.call (v := fun r3 => .int r3.1) (h' := fun r3 => hp (up (up A 41 r3.2.1) 42 r3.2.2) I x) rfl (fun r3 hw => (t_X1_goodUnder (up (up A 41 r2.2.1) 42 r2.2.2) I x 1 hw)) (fun r3 => ?_)
    refine am_J.go (cf' := (34, [some (.ref 0), some (.int a1), some (.int r2.1), some (.int r3.1), some (.int 0), some (.int 0), none], [], hp (up (up A 41 r3.2.1) 42 r3.2.2) I x)) 5 rfl ?_
    refine am_J.weak (L' := [some (.ref 0), some (.int a1), some (.int r2.1), some (.int r3.1), some (.int 0), some (.int 0), none]) (am_Lle.k (am_Lle.k (am_Lle.k (am_Lle.k (am_Lle.k (am_Lle.k (am_Lle.o am_Lle.nil))))))) ?_
    refine am_J.loop (cl := fun q => match q with | (s4, s5) => (34, [some (.ref 0), some (.int a1), some (.int r2.1), some (.int r3.1), some (.int s4), some (.int s5), none], [], hp (up (up A 41 r3.2.1) 42 r3.2.2) I x)) (GX := fun e12 => am_Ev (am_ro xs) 6 mc_X11_quarrels (97, [none, none, none, none, some (.int e12), none, none], [], hp (up (up A 41 r3.2.1) 42 r3.2.2) I x) r) ?_ ?_
    · rintro ⟨s4, s5⟩
      unfold f_X11_quarrels_l1
      refine am_J.go 2 rfl ?_
      refine am_J.ge rfl ?_ ?_
      · refine am_J.go (cf' := (97, [some (.ref 0), some (.int a1), some (.int r2.1), some (.int r3.1), some (.int s4), some (.int s5), none], [], hp (up (up A 41 r3.2.1) 42 r3.2.2) I x)) 0 rfl ?_
        exact am_J.leaf (fun k => am_Ev.weak (L' := [none, none, none, none, some (.int s4), none, none]) (am_Lle.o (am_Lle.o (am_Lle.o (am_Lle.o (am_Lle.k (am_Lle.o (am_Lle.o am_Lle.nil))))))) k)
      · refine am_J.go 5 rfl ?_
        refine am_J.call (v := fun r8 => .int r8) (h' := fun r8 => hp (up (up A 41 r3.2.1) 42 r3.2.2) I x) rfl (fun r8 hw => (t_X1_rightful (up (up A 41 r3.2.1) 42 r3.2.2) I x r2.1 s5 a1 hw).mono (Nat.le_of_ble_eq_true rfl)) (fun r8 => ?_)
        refine am_J.go 5 rfl ?_
        refine am_J.call (v := fun r9 => .int r9) (h' := fun r9 => hp (up (up A 41 r3.2.1) 42 r3.2.2) I x) rfl (fun r9 hw => (t_X1_rightful (up (up A 41 r3.2.1) 42 r3.2.2) I x r3.1 s5 a1 hw).mono (Nat.le_of_ble_eq_true rfl)) (fun r9 => ?_)
        refine am_J.join (β := Int32) (cj := fun j10 => (71, [some (.ref 0), some (.int a1), some (.int r2.1), some (.int r3.1), some (.int s4), some (.int s5), none], [.int j10], hp (up (up A 41 r3.2.1) 42 r3.2.2) I x)) ?_ ?_
        · refine am_J.ne rfl ?_ ?_
          · refine am_J.go (cf' := (71, [some (.ref 0), some (.int a1), some (.int r2.1), some (.int r3.1), some (.int s4), some (.int s5), none], [.int 1], hp (up (up A 41 r3.2.1) 42 r3.2.2) I x)) 2 rfl ?_
            exact am_J.leaf (fun k => am_Ev.weak (L' := [some (.ref 0), some (.int a1), some (.int r2.1), some (.int r3.1), some (.int s4), some (.int s5), none]) (am_Lle.k (am_Lle.k (am_Lle.k (am_Lle.k (am_Lle.k (am_Lle.k (am_Lle.o am_Lle.nil))))))) k)
          · refine am_J.go (cf' := (71, [some (.ref 0), some (.int a1), some (.int r2.1), some (.int r3.1), some (.int s4), some (.int s5), none], [.int 0], hp (up (up A 41 r3.2.1) 42 r3.2.2) I x)) 1 rfl ?_
            exact am_J.leaf (fun k => am_Ev.weak (L' := [some (.ref 0), some (.int a1), some (.int r2.1), some (.int r3.1), some (.int s4), some (.int s5), none]) (am_Lle.k (am_Lle.k (am_Lle.k (am_Lle.k (am_Lle.k (am_Lle.k (am_Lle.o am_Lle.nil))))))) k)
        · rintro j10
          refine am_J.go 3 rfl ?_
          refine am_J.join (β := Int32) (cj := fun j11 => (88, [some (.ref 0), some (.int a1), some (.int r2.1), some (.int r3.1), none, some (.int s5), none], [.int j11, .int s4], hp (up (up A 41 r3.2.1) 42 r3.2.2) I x)) ?_ ?_
          · refine am_J.eq rfl ?_ ?_
            · refine am_J.go (cf' := (88, [some (.ref 0), some (.int a1), some (.int r2.1), some (.int r3.1), some (.int s4), some (.int s5), some (.int j10)], [.int (1 <<< (s5 &&& 31)), .int s4], hp (up (up A 41 r3.2.1) 42 r3.2.2) I x)) 3 rfl ?_
              exact am_J.leaf (fun k => am_Ev.weak (L' := [some (.ref 0), some (.int a1), some (.int r2.1), some (.int r3.1), none, some (.int s5), none]) (am_Lle.k (am_Lle.k (am_Lle.k (am_Lle.k (am_Lle.o (am_Lle.k (am_Lle.o am_Lle.nil))))))) k)
            · refine am_J.go (cf' := (88, [some (.ref 0), some (.int a1), some (.int r2.1), some (.int r3.1), some (.int s4), some (.int s5), some (.int j10)], [.int 0, .int s4], hp (up (up A 41 r3.2.1) 42 r3.2.2) I x)) 2 rfl ?_
              exact am_J.leaf (fun k => am_Ev.weak (L' := [some (.ref 0), some (.int a1), some (.int r2.1), some (.int r3.1), none, some (.int s5), none]) (am_Lle.k (am_Lle.k (am_Lle.k (am_Lle.k (am_Lle.o (am_Lle.k (am_Lle.o am_Lle.nil))))))) k)
          · rintro j11
            refine am_J.go (cf' := (34, [some (.ref 0), some (.int a1), some (.int r2.1), some (.int r3.1), some (.int (s4 ||| j11)), some (.int (s5 + 1)), none], [], hp (up (up A 41 r3.2.1) 42 r3.2.2) I x)) 4 rfl ?_
            exact am_J.leaf (fun k => am_Ev.weak (L' := [some (.ref 0), some (.int a1), some (.int r2.1), some (.int r3.1), some (.int (s4 ||| j11)), some (.int (s5 + 1)), none]) (am_Lle.k (am_Lle.k (am_Lle.k (am_Lle.k (am_Lle.k (am_Lle.k (am_Lle.o am_Lle.nil))))))) k)
    · rintro e12
      refine (?_ : am_J (am_ro xs) 6 mc_X11_quarrels r (97, [none, none, none, none, some (.int e12), none, none], [], hp (up (up A 41 r3.2.1) 42 r3.2.2) I x) _ _)
      refine am_J.go 1 rfl ?_
      exact am_J.ret rfl (fun k => k)

def f_X11_settling (A : Nat → List Int32) (I : Nat → Int32) (x : am_X) (a1 : Int32) (a2 : Int32) : Option (Int32 × (List Int32) × (List Int32)) :=
  ((f_X11_isWithin a1 0 8).bind fun r1 =>
  (if r1 = 0 then
    some ((-2), (A 41), (A 42))
  else
    ((f_X11_isWithin a2 0 2).bind fun r2 =>
    (if r2 = 0 then
      some ((-2), (A 41), (A 42))
    else
      ((f_X1_goodUnder A I x 2).bind fun r3 =>
      ((f_X0_settled (up (up A 41 r3.2.1) 42 r3.2.2) I a1 r3.1).bind fun r4 =>
      (if a2 = 0 then
        some (r4, r3.2.1, r3.2.2)
      else
        (if a2 = 1 then
          ((f_X0_undoneBy (up (up A 41 r3.2.1) 42 r3.2.2) I r4 r3.1).bind fun r6 =>
          some (r6, r3.2.1, r3.2.2))
        else
          ((f_X0_takersOf (up (up A 41 r3.2.1) 42 r3.2.2) I r4).bind fun r5 =>
          some (r5, r3.2.1, r3.2.2))))))))))
set_option maxRecDepth 100000 in
set_option maxHeartbeats 4000000 in
theorem t_X11_settling {xs : List Int32} (A : Nat → List Int32) (I : Nat → Int32) (x : am_X) (a1 : Int32) (a2 : Int32) {z : Int32 × (List Int32) × (List Int32)} (hz : f_X11_settling A I x a1 a2 = some z) : am_Rt (am_ro xs) 7 ix_X11_settling [.ref 0, .int a1, .int a2] (hp A I x) (some (.int z.1), hp (up (up A 41 z.2.1) 42 z.2.2) I x) := by
  refine am_Rt.J (k := ix_X11_settling) (M := mc_X11_settling) (nL := 5) (d := 6) (as := [.ref 0, .int a1, .int a2]) (res := fun z => (some (.int z.1), hp (up (up A 41 z.2.1) 42 z.2.2) I x)) rfl (Nat.le_of_ble_eq_true rfl) (fun r => ?_) hz
  unfold f_X11_settling
  refine am_J.go 3 rfl ?_
  refine am_J.callz (v := fun r1 => r1) (h' := fun r1 => hp A I x) rfl rfl rfl (fun r1 hw => (t_X11_isWithin (h := hp A I x) a1 0 8 hw).mono (Nat.le_of_ble_eq_true rfl)) (fun r1 hr1 => ?_)
  refine am_J.eq rfl ?_ ?_
  · refine am_J.go 1 rfl ?_
    exact am_J.ret rfl (fun k => k)
  · refine am_J.go 3 rfl ?_
    refine am_J.callz (v := fun r2 => r2) (h' := fun r2 => hp A I x) rfl rfl rfl (fun r2 hw => (t_X11_isWithin (h := hp A I x) a2 0 2 hw).mono (Nat.le_of_ble_eq_true rfl)) (fun r2 hr2 => ?_)
    refine am_J.ne rfl ?_ ?_
    · refine am_J.go 1 rfl ?_
      exact am_J.ret rfl (fun k => k)
    · refine am_J.go 3 rfl ?_
      refine am_J.call (v := fun r3 => .int r3.1) (h' := fun r3 => hp (up (up A 41 r3.2.1) 42 r3.2.2) I x) rfl (fun r3 hw => (t_X1_goodUnder A I x 2 hw)) (fun r3 => ?_)
      refine am_J.go 5 rfl ?_
      refine am_J.call (v := fun r4 => .int r4) (h' := fun r4 => hp (up (up A 41 r3.2.1) 42 r3.2.2) I x) rfl (fun r4 hw => (t_X0_settled (up (up A 41 r3.2.1) 42 r3.2.2) I x a1 r3.1 hw).mono (Nat.le_of_ble_eq_true rfl)) (fun r4 => ?_)
      refine am_J.go 2 rfl ?_
      refine am_J.ne rfl ?_ ?_
      · refine am_J.go 1 rfl ?_
        exact am_J.ret rfl (fun k => k)
      · refine am_J.go 2 rfl ?_
        refine am_J.ne rfl ?_ ?_
        · refine am_J.go 4 rfl ?_
          refine am_J.call (v := fun r6 => .int r6) (h' := fun r6 => hp (up (up A 41 r3.2.1) 42 r3.2.2) I x) rfl (fun r6 hw => (t_X0_undoneBy (up (up A 41 r3.2.1) 42 r3.2.2) I x r4 r3.1 hw).mono (Nat.le_of_ble_eq_true rfl)) (fun r6 => ?_)
          refine am_J.go 1 rfl ?_
          exact am_J.ret rfl (fun k => k)
        · refine am_J.go 3 rfl ?_
          refine am_J.call (v := fun r5 => .int r5) (h' := fun r5 => hp (up (up A 41 r3.2.1) 42 r3.2.2) I x) rfl (fun r5 hw => (t_X0_takersOf (up (up A 41 r3.2.1) 42 r3.2.2) I x r4 hw).mono (Nat.le_of_ble_eq_true rfl)) (fun r5 => ?_)
          exact am_J.ret rfl (fun k => k)

def f_J7_fill_53178_80_l1 (A : Nat → List Int32) (I : Nat → Int32) (a2 : Int32) (p3 : Int32) : (Int32 × (List Int32)) → Option ((Int32 × (List Int32)) ⊕ ((List Int32))) := fun q => match q with
    | (s1, s2) =>
    (if p3 ≤ s1 then
      some (.inr s2)
    else
      ((am_up s2 s1 a2).bind fun y4 =>
      some (.inl ((s1 + 1), y4))))
def f_J7_fill_53178_80 (A : Nat → List Int32) (I : Nat → Int32) (a2 : Int32) : Option ((List Int32)) :=
  ((wl (f_J7_fill_53178_80_l1 A I a2 (Int32.ofNat (A 80).length)) 100000 (0, (A 80))).bind (fun e5 =>
  some e5))
set_option maxRecDepth 100000 in
set_option maxHeartbeats 4000000 in
theorem t_J7_fill_53178_80 {xs : List Int32} (A : Nat → List Int32) (I : Nat → Int32) (x : am_X) (a2 : Int32) {z : (List Int32)} (hz : f_J7_fill_53178_80 A I a2 = some z) : am_Rt (am_ro xs) 1 ix_J7_fill_53178 [.ref 80, .int a2] (hp A I x) (none, hp (up A 80 z) I x) := by
  refine am_Rt.J (k := ix_J7_fill_53178) (M := mc_J7_fill_53178) (nL := 4) (d := 0) (as := [.ref 80, .int a2]) (res := fun z => (none, hp (up A 80 z) I x)) rfl (Nat.le_of_ble_eq_true rfl) (fun r => ?_) hz
  unfold f_J7_fill_53178_80
  refine am_J.go (cf' := (5, [some (.ref 80), some (.int a2), some (.int 0), some (.int (Int32.ofNat (A 80).length))], [], hp A I x)) 5 rfl ?_
  refine am_J.weak (L' := [some (.ref 80), some (.int a2), some (.int 0), some (.int (Int32.ofNat (A 80).length))]) (am_Lle.k (am_Lle.k (am_Lle.k (am_Lle.k am_Lle.nil)))) ?_
  refine am_J.loop (cl := fun q => match q with | (s1, s2) => (5, [some (.ref 80), some (.int a2), some (.int s1), some (.int (Int32.ofNat (A 80).length))], [], hp (up A 80 s2) I x)) (GX := fun e5 => am_Ev (am_ro xs) 0 mc_J7_fill_53178 (20, [none, none, none, none], [], hp (up A 80 e5) I x) r) ?_ ?_
  · rintro ⟨s1, s2⟩
    unfold f_J7_fill_53178_80_l1
    refine am_J.go 2 rfl ?_
    refine am_J.ge rfl ?_ ?_
    · refine am_J.go (cf' := (20, [some (.ref 80), some (.int a2), some (.int s1), some (.int (Int32.ofNat (A 80).length))], [], hp (up A 80 s2) I x)) 0 rfl ?_
      exact am_J.leaf (fun k => am_Ev.weak (L' := [none, none, none, none]) (am_Lle.o (am_Lle.o (am_Lle.o (am_Lle.o am_Lle.nil)))) k)
    · refine am_J.go 3 rfl ?_
      refine am_J.ias (xs := s2) (h' := fun y4 => hp (up A 80 y4) I x) rfl rfl (fun _ => rfl) (fun y4 => ?_)
      refine am_J.go (cf' := (5, [some (.ref 80), some (.int a2), some (.int (s1 + 1)), some (.int (Int32.ofNat (A 80).length))], [], hp (up A 80 y4) I x)) 2 rfl ?_
      exact am_J.leaf (fun k => am_Ev.weak (L' := [some (.ref 80), some (.int a2), some (.int (s1 + 1)), some (.int (Int32.ofNat (A 80).length))]) (am_Lle.k (am_Lle.k (am_Lle.k (am_Lle.k am_Lle.nil)))) k)
  · rintro e5
    refine (?_ : am_J (am_ro xs) 0 mc_J7_fill_53178 r (20, [none, none, none, none], [], hp (up A 80 e5) I x) _ _)
    exact am_J.ret rfl (fun k => k)

def f_X10_become_79 (A : Nat → List Int32) (I : Nat → Int32) (a1 : Int32) (a2 : Int32) : Option ((List Int32) × Int32 × Int32) :=
  ((f_J7_fill_53178_80 A (up (up I 5056 a1) 5057 a2) 0).bind fun r1 =>
  some (r1, a1, a2))
set_option maxRecDepth 100000 in
set_option maxHeartbeats 4000000 in
theorem t_X10_become_79 {xs : List Int32} (A : Nat → List Int32) (I : Nat → Int32) (x : am_X) (a1 : Int32) (a2 : Int32) {z : (List Int32) × Int32 × Int32} (hz : f_X10_become_79 A I a1 a2 = some z) : am_Rt (am_ro xs) 2 ix_X10_become [.ref 79, .int a1, .int a2] (hp A I x) (none, hp (up A 80 z.1) (up (up I 5056 z.2.1) 5057 z.2.2) x) := by
  refine am_Rt.J (k := ix_X10_become) (M := mc_X10_become) (nL := 3) (d := 1) (as := [.ref 79, .int a1, .int a2]) (res := fun z => (none, hp (up A 80 z.1) (up (up I 5056 z.2.1) 5057 z.2.2) x)) rfl (Nat.le_of_ble_eq_true rfl) (fun r => ?_) hz
  unfold f_X10_become_79
  refine am_J.go 9 rfl ?_
  refine am_J.calln (h' := fun r1 => hp (up A 80 r1) (up (up I 5056 a1) 5057 a2) x) rfl (fun r1 hw => (t_J7_fill_53178_80 A (up (up I 5056 a1) 5057 a2) x 0 hw)) (fun r1 => ?_)
  exact am_J.ret rfl (fun k => k)

def f_X10_isMissing_79 (A : Nat → List Int32) (I : Nat → Int32) : Option (Int32) :=
  (if (I 5056) = (-1) then
    some 1
  else
    some 0)
set_option maxRecDepth 100000 in
set_option maxHeartbeats 4000000 in
theorem t_X10_isMissing_79 {xs : List Int32} (A : Nat → List Int32) (I : Nat → Int32) (x : am_X) {z : Int32} (hz : f_X10_isMissing_79 A I = some z) : am_Rt (am_ro xs) 1 ix_X10_isMissing [.ref 79] (hp A I x) (some (.int z), hp A I x) := by
  refine am_Rt.J (k := ix_X10_isMissing) (M := mc_X10_isMissing) (nL := 1) (d := 0) (as := [.ref 79]) (res := fun z => (some (.int z), hp A I x)) rfl (Nat.le_of_ble_eq_true rfl) (fun r => ?_) hz
  unfold f_X10_isMissing_79
  refine am_J.go 3 rfl ?_
  refine am_J.ne rfl ?_ ?_
  · refine am_J.go 2 rfl ?_
    exact am_J.retz rfl (Or.inr rfl) (fun k => k)
  · refine am_J.go 1 rfl ?_
    exact am_J.retz rfl (Or.inl rfl) (fun k => k)

def f_X8_spells_s3_l1 (A : Nat → List Int32) (I : Nat → Int32) (a1 : Int32) : (Int32) → Option ((Int32) ⊕ ((Unit) ⊕ (Int32))) := fun s1 =>
    (if 4 ≤ s1 then
      some (.inr (.inl ()))
    else
      ((am_at (A 53) (a1 + s1)).bind fun v2 =>
      ((am_at (am_str 3) s1).bind fun v3 =>
      (if v2 = v3 then
        some (.inl (s1 + 1))
      else
        some (.inr (.inr 0))))))
def f_X8_spells_s3 (A : Nat → List Int32) (I : Nat → Int32) (a1 : Int32) : Option (Int32) :=
  (if ((I 3332) - a1) = 4 then
    ((wl (f_X8_spells_s3_l1 A I a1) 100000 0).bind (fun q => match q with
    | .inl _ =>
    some 1
    | .inr v => some v))
  else
    some 0)
set_option maxRecDepth 100000 in
set_option maxHeartbeats 4000000 in
theorem t_X8_spells_s3 {xs : List Int32} (A : Nat → List Int32) (I : Nat → Int32) (x : am_X) (a1 : Int32) {z : Int32} (hz : f_X8_spells_s3 A I a1 = some z) : am_Rt (am_ro xs) 1 ix_X8_spells [.ref 52, .int a1, .ref (am_RO + 16 + 3)] (hp A I x) (some (.int z), hp A I x) := by
  refine am_Rt.J (k := ix_X8_spells) (M := mc_X8_spells) (nL := 4) (d := 0) (as := [.ref 52, .int a1, .ref (am_RO + 16 + 3)]) (res := fun z => (some (.int z), hp A I x)) rfl (Nat.le_of_ble_eq_true rfl) (fun r => ?_) hz
  unfold f_X8_spells_s3
  refine am_J.go 6 rfl ?_
  refine am_J.eq rfl ?_ ?_
  · refine am_J.go (cf' := (17, [some (.ref 52), some (.int a1), some (.ref (am_RO + 16 + 3)), some (.int 0)], [], hp A I x)) 2 rfl ?_
    refine am_J.weak (L' := [some (.ref 52), some (.int a1), some (.ref (am_RO + 16 + 3)), some (.int 0)]) (am_Lle.k (am_Lle.k (am_Lle.k (am_Lle.k am_Lle.nil)))) ?_
    refine am_J.loop (cl := fun s1 => (17, [some (.ref 52), some (.int a1), some (.ref (am_RO + 16 + 3)), some (.int s1)], [], hp A I x)) (GX := fun q => Sum.elim (fun _ => am_Ev (am_ro xs) 0 mc_X8_spells (49, [none, none, none, none], [], hp A I x) r) (fun (z : Int32) => r = (some (.int z), hp A I x)) q) ?_ ?_
    · rintro s1
      unfold f_X8_spells_s3_l1
      refine am_J.go 3 rfl ?_
      refine am_J.ge rfl ?_ ?_
      · refine am_J.go (cf' := (49, [some (.ref 52), some (.int a1), some (.ref (am_RO + 16 + 3)), some (.int s1)], [], hp A I x)) 0 rfl ?_
        exact am_J.leaf (fun k => am_Ev.weak (L' := [none, none, none, none]) (am_Lle.o (am_Lle.o (am_Lle.o (am_Lle.o am_Lle.nil)))) k)
      · refine am_J.go 5 rfl ?_
        refine am_J.bal (xs := (A 53)) (t := 1) rfl (by decide) rfl (fun v2 => ?_)
        refine am_J.go 2 rfl ?_
        refine am_J.sat (j := 3) rfl (Nat.le_of_ble_eq_true rfl) (by decide) (fun v3 => ?_)
        refine am_J.eq rfl ?_ ?_
        · refine am_J.go (cf' := (17, [some (.ref 52), some (.int a1), some (.ref (am_RO + 16 + 3)), some (.int (s1 + 1))], [], hp A I x)) 2 rfl ?_
          exact am_J.leaf (fun k => am_Ev.weak (L' := [some (.ref 52), some (.int a1), some (.ref (am_RO + 16 + 3)), some (.int (s1 + 1))]) (am_Lle.k (am_Lle.k (am_Lle.k (am_Lle.k am_Lle.nil)))) k)
        · refine am_J.go 1 rfl ?_
          exact am_J.retz rfl (Or.inl rfl) (fun k => k)
    · intro q
      rcases q with ⟨⟩ | v
      · refine (?_ : am_J (am_ro xs) 0 mc_X8_spells r (49, [none, none, none, none], [], hp A I x) _ _)
        refine am_J.go 1 rfl ?_
        exact am_J.retz rfl (Or.inr rfl) (fun k => k)
      · intro z hz hk
        cases hz
        exact hk
  · refine am_J.go 1 rfl ?_
    exact am_J.retz rfl (Or.inl rfl) (fun k => k)

def f_X8_spells_s9_l1 (A : Nat → List Int32) (I : Nat → Int32) (a1 : Int32) : (Int32) → Option ((Int32) ⊕ ((Unit) ⊕ (Int32))) := fun s1 =>
    (if 3 ≤ s1 then
      some (.inr (.inl ()))
    else
      ((am_at (A 53) (a1 + s1)).bind fun v2 =>
      ((am_at (am_str 9) s1).bind fun v3 =>
      (if v2 = v3 then
        some (.inl (s1 + 1))
      else
        some (.inr (.inr 0))))))
def f_X8_spells_s9 (A : Nat → List Int32) (I : Nat → Int32) (a1 : Int32) : Option (Int32) :=
  (if ((I 3332) - a1) = 3 then
    ((wl (f_X8_spells_s9_l1 A I a1) 100000 0).bind (fun q => match q with
    | .inl _ =>
    some 1
    | .inr v => some v))
  else
    some 0)
set_option maxRecDepth 100000 in
set_option maxHeartbeats 4000000 in
theorem t_X8_spells_s9 {xs : List Int32} (A : Nat → List Int32) (I : Nat → Int32) (x : am_X) (a1 : Int32) {z : Int32} (hz : f_X8_spells_s9 A I a1 = some z) : am_Rt (am_ro xs) 1 ix_X8_spells [.ref 52, .int a1, .ref (am_RO + 16 + 9)] (hp A I x) (some (.int z), hp A I x) := by
  refine am_Rt.J (k := ix_X8_spells) (M := mc_X8_spells) (nL := 4) (d := 0) (as := [.ref 52, .int a1, .ref (am_RO + 16 + 9)]) (res := fun z => (some (.int z), hp A I x)) rfl (Nat.le_of_ble_eq_true rfl) (fun r => ?_) hz
  unfold f_X8_spells_s9
  refine am_J.go 6 rfl ?_
  refine am_J.eq rfl ?_ ?_
  · refine am_J.go (cf' := (17, [some (.ref 52), some (.int a1), some (.ref (am_RO + 16 + 9)), some (.int 0)], [], hp A I x)) 2 rfl ?_
    refine am_J.weak (L' := [some (.ref 52), some (.int a1), some (.ref (am_RO + 16 + 9)), some (.int 0)]) (am_Lle.k (am_Lle.k (am_Lle.k (am_Lle.k am_Lle.nil)))) ?_
    refine am_J.loop (cl := fun s1 => (17, [some (.ref 52), some (.int a1), some (.ref (am_RO + 16 + 9)), some (.int s1)], [], hp A I x)) (GX := fun q => Sum.elim (fun _ => am_Ev (am_ro xs) 0 mc_X8_spells (49, [none, none, none, none], [], hp A I x) r) (fun (z : Int32) => r = (some (.int z), hp A I x)) q) ?_ ?_
    · rintro s1
      unfold f_X8_spells_s9_l1
      refine am_J.go 3 rfl ?_
      refine am_J.ge rfl ?_ ?_
      · refine am_J.go (cf' := (49, [some (.ref 52), some (.int a1), some (.ref (am_RO + 16 + 9)), some (.int s1)], [], hp A I x)) 0 rfl ?_
        exact am_J.leaf (fun k => am_Ev.weak (L' := [none, none, none, none]) (am_Lle.o (am_Lle.o (am_Lle.o (am_Lle.o am_Lle.nil)))) k)
      · refine am_J.go 5 rfl ?_
        refine am_J.bal (xs := (A 53)) (t := 1) rfl (by decide) rfl (fun v2 => ?_)
        refine am_J.go 2 rfl ?_
        refine am_J.sat (j := 9) rfl (Nat.le_of_ble_eq_true rfl) (by decide) (fun v3 => ?_)
        refine am_J.eq rfl ?_ ?_
        · refine am_J.go (cf' := (17, [some (.ref 52), some (.int a1), some (.ref (am_RO + 16 + 9)), some (.int (s1 + 1))], [], hp A I x)) 2 rfl ?_
          exact am_J.leaf (fun k => am_Ev.weak (L' := [some (.ref 52), some (.int a1), some (.ref (am_RO + 16 + 9)), some (.int (s1 + 1))]) (am_Lle.k (am_Lle.k (am_Lle.k (am_Lle.k am_Lle.nil)))) k)
        · refine am_J.go 1 rfl ?_
          exact am_J.retz rfl (Or.inl rfl) (fun k => k)
    · intro q
      rcases q with ⟨⟩ | v
      · refine (?_ : am_J (am_ro xs) 0 mc_X8_spells r (49, [none, none, none, none], [], hp A I x) _ _)
        refine am_J.go 1 rfl ?_
        exact am_J.retz rfl (Or.inr rfl) (fun k => k)
      · intro z hz hk
        cases hz
        exact hk
  · refine am_J.go 1 rfl ?_
    exact am_J.retz rfl (Or.inl rfl) (fun k => k)

def f_X9_owedAgain_37_l1 (A : Nat → List Int32) (I : Nat → Int32) (a2 : Int32) (a3 : Int32) : (Int64 × Int32) → Option ((Int64 × Int32) ⊕ (Int64)) := fun q => match q with
    | (s1, s2) =>
    (if (I 3012) ≤ s2 then
      some (.inr s1)
    else
      ((am_at (A 48) s2).bind fun v3 =>
      ((am_at (A 51) s2).bind fun v4 =>
      ((f_X1_rightful A I a2 v3 v4).bind fun r5 =>
      (((if r5 = (-1) then
          some 0
        else
          ((am_at (A 49) s2).bind fun v6 =>
          (if r5 = v6 then
            some 0
          else
            some 1))) : Option (Int32)).bind (fun j7 =>
      (((if j7 = 0 then
          some s1
        else
          (if a3 = (-1) then
            ((am_at (A 50) s2).bind fun v8 =>
            some (s1 + (Int32.toInt64 v8)))
          else
            (if a3 = r5 then
              ((am_at (A 50) s2).bind fun v9 =>
              some (s1 + (Int32.toInt64 v9)))
            else
              some s1))) : Option (Int64)).bind (fun j10 =>
      some (.inl (j10, (s2 + 1)))))))))))
def f_X9_owedAgain_37 (A : Nat → List Int32) (I : Nat → Int32) (a2 : Int32) (a3 : Int32) : Option (Int64) :=
  ((wl (f_X9_owedAgain_37_l1 A I a2 a3) 100000 (0, 0)).bind (fun e11 =>
  some e11))
set_option maxRecDepth 100000 in
set_option maxHeartbeats 4000000 in
theorem t_X9_owedAgain_37 {xs : List Int32} (A : Nat → List Int32) (I : Nat → Int32) (x : am_X) (a2 : Int32) (a3 : Int32) {z : Int64} (hz : f_X9_owedAgain_37 A I a2 a3 = some z) : am_Rt (am_ro xs) 5 ix_X9_owedAgain [.ref 47, .ref 37, .int a2, .int a3] (hp A I x) (some (.long z), hp A I x) := by
  refine am_Rt.J (k := ix_X9_owedAgain) (M := mc_X9_owedAgain) (nL := 9) (d := 4) (as := [.ref 47, .ref 37, .int a2, .int a3]) (res := fun z => (some (.long z), hp A I x)) rfl (Nat.le_of_ble_eq_true rfl) (fun r => ?_) hz
  unfold f_X9_owedAgain_37
  refine am_J.go (cf' := (6, [some (.ref 47), some (.ref 37), some (.int a2), some (.int a3), some (.long 0), none, some (.int 0), none, none], [], hp A I x)) 4 rfl ?_
  refine am_J.weak (L' := [some (.ref 47), some (.ref 37), some (.int a2), some (.int a3), some (.long 0), none, some (.int 0), none, none]) (am_Lle.k (am_Lle.k (am_Lle.k (am_Lle.k (am_Lle.k (am_Lle.o (am_Lle.k (am_Lle.o (am_Lle.o am_Lle.nil))))))))) ?_
  refine am_J.loop (cl := fun q => match q with | (s1, s2) => (6, [some (.ref 47), some (.ref 37), some (.int a2), some (.int a3), some (.long s1), none, some (.int s2), none, none], [], hp A I x)) (GX := fun e11 => am_Ev (am_ro xs) 4 mc_X9_owedAgain (96, [none, none, none, none, some (.long e11), none, none, none, none], [], hp A I x) r) ?_ ?_
  · rintro ⟨s1, s2⟩
    unfold f_X9_owedAgain_37_l1
    refine am_J.go 3 rfl ?_
    refine am_J.ge rfl ?_ ?_
    · refine am_J.go (cf' := (96, [some (.ref 47), some (.ref 37), some (.int a2), some (.int a3), some (.long s1), none, some (.int s2), none, none], [], hp A I x)) 0 rfl ?_
      exact am_J.leaf (fun k => am_Ev.weak (L' := [none, none, none, none, some (.long s1), none, none, none, none]) (am_Lle.o (am_Lle.o (am_Lle.o (am_Lle.o (am_Lle.k (am_Lle.o (am_Lle.o (am_Lle.o (am_Lle.o am_Lle.nil))))))))) k)
    · refine am_J.go 5 rfl ?_
      refine am_J.ial (xs := (A 48)) rfl (Nat.le_of_ble_eq_true rfl) rfl (fun v3 => ?_)
      refine am_J.go 3 rfl ?_
      refine am_J.ial (xs := (A 51)) rfl (Nat.le_of_ble_eq_true rfl) rfl (fun v4 => ?_)
      refine am_J.call (v := fun r5 => .int r5) (h' := fun r5 => hp A I x) rfl (fun r5 hw => (t_X1_rightful A I x a2 v3 v4 hw)) (fun r5 => ?_)
      refine am_J.go 3 rfl ?_
      refine am_J.join (β := Int32) (cj := fun j7 => (59, [some (.ref 47), some (.ref 37), some (.int a2), some (.int a3), some (.long s1), none, some (.int s2), some (.int r5), none], [.int j7], hp A I x)) ?_ ?_
      · refine am_J.eq rfl ?_ ?_
        · refine am_J.go (cf' := (59, [some (.ref 47), some (.ref 37), some (.int a2), some (.int a3), some (.long s1), none, some (.int s2), some (.int r5), none], [.int 0], hp A I x)) 1 rfl ?_
          exact am_J.leaf (fun k => am_Ev.weak (L' := [some (.ref 47), some (.ref 37), some (.int a2), some (.int a3), some (.long s1), none, some (.int s2), some (.int r5), none]) (am_Lle.k (am_Lle.k (am_Lle.k (am_Lle.k (am_Lle.k (am_Lle.o (am_Lle.k (am_Lle.k (am_Lle.o am_Lle.nil))))))))) k)
        · refine am_J.go 4 rfl ?_
          refine am_J.ial (xs := (A 49)) rfl (Nat.le_of_ble_eq_true rfl) rfl (fun v6 => ?_)
          refine am_J.eq rfl ?_ ?_
          · refine am_J.go (cf' := (59, [some (.ref 47), some (.ref 37), some (.int a2), some (.int a3), some (.long s1), none, some (.int s2), some (.int r5), none], [.int 0], hp A I x)) 1 rfl ?_
            exact am_J.leaf (fun k => am_Ev.weak (L' := [some (.ref 47), some (.ref 37), some (.int a2), some (.int a3), some (.long s1), none, some (.int s2), some (.int r5), none]) (am_Lle.k (am_Lle.k (am_Lle.k (am_Lle.k (am_Lle.k (am_Lle.o (am_Lle.k (am_Lle.k (am_Lle.o am_Lle.nil))))))))) k)
          · refine am_J.go (cf' := (59, [some (.ref 47), some (.ref 37), some (.int a2), some (.int a3), some (.long s1), none, some (.int s2), some (.int r5), none], [.int 1], hp A I x)) 2 rfl ?_
            exact am_J.leaf (fun k => am_Ev.weak (L' := [some (.ref 47), some (.ref 37), some (.int a2), some (.int a3), some (.long s1), none, some (.int s2), some (.int r5), none]) (am_Lle.k (am_Lle.k (am_Lle.k (am_Lle.k (am_Lle.k (am_Lle.o (am_Lle.k (am_Lle.k (am_Lle.o am_Lle.nil))))))))) k)
      · rintro j7
        refine am_J.go 2 rfl ?_
        refine am_J.join (β := Int64) (cj := fun j10 => (90, [some (.ref 47), some (.ref 37), some (.int a2), some (.int a3), some (.long j10), none, some (.int s2), none, none], [], hp A I x)) ?_ ?_
        · refine am_J.eq rfl ?_ ?_
          · refine am_J.go (cf' := (90, [some (.ref 47), some (.ref 37), some (.int a2), some (.int a3), some (.long s1), none, some (.int s2), some (.int r5), some (.int j7)], [], hp A I x)) 0 rfl ?_
            exact am_J.leaf (fun k => am_Ev.weak (L' := [some (.ref 47), some (.ref 37), some (.int a2), some (.int a3), some (.long s1), none, some (.int s2), none, none]) (am_Lle.k (am_Lle.k (am_Lle.k (am_Lle.k (am_Lle.k (am_Lle.o (am_Lle.k (am_Lle.o (am_Lle.o am_Lle.nil))))))))) k)
          · refine am_J.go 2 rfl ?_
            refine am_J.eq rfl ?_ ?_
            · refine am_J.go 4 rfl ?_
              refine am_J.ial (xs := (A 50)) rfl (Nat.le_of_ble_eq_true rfl) rfl (fun v8 => ?_)
              refine am_J.go (cf' := (90, [some (.ref 47), some (.ref 37), some (.int a2), some (.int a3), some (.long (s1 + (Int32.toInt64 v8))), none, some (.int s2), some (.int r5), some (.int j7)], [], hp A I x)) 3 rfl ?_
              exact am_J.leaf (fun k => am_Ev.weak (L' := [some (.ref 47), some (.ref 37), some (.int a2), some (.int a3), some (.long (s1 + (Int32.toInt64 v8))), none, some (.int s2), none, none]) (am_Lle.k (am_Lle.k (am_Lle.k (am_Lle.k (am_Lle.k (am_Lle.o (am_Lle.k (am_Lle.o (am_Lle.o am_Lle.nil))))))))) k)
            · refine am_J.go 2 rfl ?_
              refine am_J.ne rfl ?_ ?_
              · refine am_J.go 4 rfl ?_
                refine am_J.ial (xs := (A 50)) rfl (Nat.le_of_ble_eq_true rfl) rfl (fun v9 => ?_)
                refine am_J.go (cf' := (90, [some (.ref 47), some (.ref 37), some (.int a2), some (.int a3), some (.long (s1 + (Int32.toInt64 v9))), none, some (.int s2), some (.int r5), some (.int j7)], [], hp A I x)) 3 rfl ?_
                exact am_J.leaf (fun k => am_Ev.weak (L' := [some (.ref 47), some (.ref 37), some (.int a2), some (.int a3), some (.long (s1 + (Int32.toInt64 v9))), none, some (.int s2), none, none]) (am_Lle.k (am_Lle.k (am_Lle.k (am_Lle.k (am_Lle.k (am_Lle.o (am_Lle.k (am_Lle.o (am_Lle.o am_Lle.nil))))))))) k)
              · refine am_J.go (cf' := (90, [some (.ref 47), some (.ref 37), some (.int a2), some (.int a3), some (.long s1), none, some (.int s2), some (.int r5), some (.int j7)], [], hp A I x)) 0 rfl ?_
                exact am_J.leaf (fun k => am_Ev.weak (L' := [some (.ref 47), some (.ref 37), some (.int a2), some (.int a3), some (.long s1), none, some (.int s2), none, none]) (am_Lle.k (am_Lle.k (am_Lle.k (am_Lle.k (am_Lle.k (am_Lle.o (am_Lle.k (am_Lle.o (am_Lle.o am_Lle.nil))))))))) k)
        · rintro j10
          refine am_J.go (cf' := (6, [some (.ref 47), some (.ref 37), some (.int a2), some (.int a3), some (.long j10), none, some (.int (s2 + 1)), none, none], [], hp A I x)) 2 rfl ?_
          exact am_J.leaf (fun k => am_Ev.weak (L' := [some (.ref 47), some (.ref 37), some (.int a2), some (.int a3), some (.long j10), none, some (.int (s2 + 1)), none, none]) (am_Lle.k (am_Lle.k (am_Lle.k (am_Lle.k (am_Lle.k (am_Lle.o (am_Lle.k (am_Lle.o (am_Lle.o am_Lle.nil))))))))) k)
  · rintro e11
    refine (?_ : am_J (am_ro xs) 4 mc_X9_owedAgain r (96, [none, none, none, none, some (.long e11), none, none, none, none], [], hp A I x) _ _)
    refine am_J.go 1 rfl ?_
    exact am_J.ret rfl (fun k => k)

def f_X11_owed (A : Nat → List Int32) (I : Nat → Int32) (x : am_X) (a1 : Int32) (a2 : Int32) : Option (Int64 × (List Int32) × (List Int32)) :=
  ((f_X11_isSide a1).bind fun r1 =>
  (if r1 = 0 then
    some ((-4611686018427387904), (A 41), (A 42))
  else
    (if a2 = (-1) then
      ((f_X1_goodUnder A I x a1).bind fun r2 =>
      ((f_X9_owedAgain_37 (up (up A 41 r2.2.1) 42 r2.2.2) I r2.1 a2).bind fun r3 =>
      some (r3, r2.2.1, r2.2.2)))
    else
      ((f_X11_isPerson A I a2).bind fun r4 =>
      (if r4 = 0 then
        some ((-4611686018427387904), (A 41), (A 42))
      else
        ((f_X1_goodUnder A I x a1).bind fun r5 =>
        ((f_X9_owedAgain_37 (up (up A 41 r5.2.1) 42 r5.2.2) I r5.1 a2).bind fun r6 =>
        some (r6, r5.2.1, r5.2.2))))))))
set_option maxRecDepth 100000 in
set_option maxHeartbeats 4000000 in
theorem t_X11_owed {xs : List Int32} (A : Nat → List Int32) (I : Nat → Int32) (x : am_X) (a1 : Int32) (a2 : Int32) {z : Int64 × (List Int32) × (List Int32)} (hz : f_X11_owed A I x a1 a2 = some z) : am_Rt (am_ro xs) 7 ix_X11_owed [.ref 0, .int a1, .int a2] (hp A I x) (some (.long z.1), hp (up (up A 41 z.2.1) 42 z.2.2) I x) := by
  refine am_Rt.J (k := ix_X11_owed) (M := mc_X11_owed) (nL := 3) (d := 6) (as := [.ref 0, .int a1, .int a2]) (res := fun z => (some (.long z.1), hp (up (up A 41 z.2.1) 42 z.2.2) I x)) rfl (Nat.le_of_ble_eq_true rfl) (fun r => ?_) hz
  unfold f_X11_owed
  refine am_J.go 1 rfl ?_
  refine am_J.callz (v := fun r1 => r1) (h' := fun r1 => hp A I x) rfl rfl rfl (fun r1 hw => (t_X11_isSide (h := hp A I x) a1 hw).mono (Nat.le_of_ble_eq_true rfl)) (fun r1 hr1 => ?_)
  refine am_J.eq rfl ?_ ?_
  · refine am_J.go 1 rfl ?_
    exact am_J.ret rfl (fun k => k)
  · refine am_J.go 2 rfl ?_
    refine am_J.eq rfl ?_ ?_
    · refine am_J.go 7 rfl ?_
      refine am_J.call (v := fun r2 => .int r2.1) (h' := fun r2 => hp (up (up A 41 r2.2.1) 42 r2.2.2) I x) rfl (fun r2 hw => (t_X1_goodUnder A I x a1 hw)) (fun r2 => ?_)
      refine am_J.go 1 rfl ?_
      refine am_J.call (v := fun r3 => .long r3) (h' := fun r3 => hp (up (up A 41 r2.2.1) 42 r2.2.2) I x) rfl (fun r3 hw => (t_X9_owedAgain_37 (up (up A 41 r2.2.1) 42 r2.2.2) I x r2.1 a2 hw).mono (Nat.le_of_ble_eq_true rfl)) (fun r3 => ?_)
      exact am_J.ret rfl (fun k => k)
    · refine am_J.go 2 rfl ?_
      refine am_J.callz (v := fun r4 => r4) (h' := fun r4 => hp A I x) rfl rfl rfl (fun r4 hw => (t_X11_isPerson A I x a2 hw).mono (Nat.le_of_ble_eq_true rfl)) (fun r4 hr4 => ?_)
      refine am_J.ne rfl ?_ ?_
      · refine am_J.go 1 rfl ?_
        exact am_J.ret rfl (fun k => k)
      · refine am_J.go 7 rfl ?_
        refine am_J.call (v := fun r5 => .int r5.1) (h' := fun r5 => hp (up (up A 41 r5.2.1) 42 r5.2.2) I x) rfl (fun r5 hw => (t_X1_goodUnder A I x a1 hw)) (fun r5 => ?_)
        refine am_J.go 1 rfl ?_
        refine am_J.call (v := fun r6 => .long r6) (h' := fun r6 => hp (up (up A 41 r5.2.1) 42 r5.2.2) I x) rfl (fun r6 hw => (t_X9_owedAgain_37 (up (up A 41 r5.2.1) 42 r5.2.2) I x r5.1 a2 hw).mono (Nat.le_of_ble_eq_true rfl)) (fun r6 => ?_)
        exact am_J.ret rfl (fun k => k)

def f_X10_holds_79 (A : Nat → List Int32) (I : Nat → Int32) (a1 : Int32) (a2 : Int32) : Option (Int32) :=
  (if a1 < 0 then
    some 0
  else
    (if a2 < 0 then
      some 0
    else
      (if (I 5057) < a2 then
        some 0
      else
        (if ((I 5057) - a2) < a1 then
          some 0
        else
          some 1))))
set_option maxRecDepth 100000 in
set_option maxHeartbeats 4000000 in
theorem t_X10_holds_79 {xs : List Int32} (A : Nat → List Int32) (I : Nat → Int32) (x : am_X) (a1 : Int32) (a2 : Int32) {z : Int32} (hz : f_X10_holds_79 A I a1 a2 = some z) : am_Rt (am_ro xs) 1 ix_X10_holds [.ref 79, .int a1, .int a2] (hp A I x) (some (.int z), hp A I x) := by
  refine am_Rt.J (k := ix_X10_holds) (M := mc_X10_holds) (nL := 3) (d := 0) (as := [.ref 79, .int a1, .int a2]) (res := fun z => (some (.int z), hp A I x)) rfl (Nat.le_of_ble_eq_true rfl) (fun r => ?_) hz
  unfold f_X10_holds_79
  refine am_J.go 1 rfl ?_
  refine am_J.lt rfl ?_ ?_
  · refine am_J.go 1 rfl ?_
    exact am_J.retz rfl (Or.inl rfl) (fun k => k)
  · refine am_J.go 1 rfl ?_
    refine am_J.lt rfl ?_ ?_
    · refine am_J.go 1 rfl ?_
      exact am_J.retz rfl (Or.inl rfl) (fun k => k)
    · refine am_J.go 3 rfl ?_
      refine am_J.gt rfl ?_ ?_
      · refine am_J.go 1 rfl ?_
        exact am_J.retz rfl (Or.inl rfl) (fun k => k)
      · refine am_J.go 5 rfl ?_
        refine am_J.gt rfl ?_ ?_
        · refine am_J.go 1 rfl ?_
          exact am_J.retz rfl (Or.inl rfl) (fun k => k)
        · refine am_J.go 2 rfl ?_
          exact am_J.retz rfl (Or.inr rfl) (fun k => k)

def f_X10_put_79 (A : Nat → List Int32) (I : Nat → Int32) (a1 : Int32) (a2 : Int32) : Option ((List Int32)) :=
  (((if (I 5056) = 0 then
      some (Int8.toInt32 (Int32.toInt8 a2))
    else
      (if (I 5056) = 1 then
        some (Int16.toInt32 (Int32.toInt16 a2))
      else
        some a2)) : Option (Int32)).bind (fun j1 =>
  ((am_up (A 80) a1 j1).bind fun y2 =>
  some y2)))
set_option maxRecDepth 100000 in
set_option maxHeartbeats 4000000 in
theorem t_X10_put_79 {xs : List Int32} (A : Nat → List Int32) (I : Nat → Int32) (x : am_X) (a1 : Int32) (a2 : Int32) {z : (List Int32)} (hz : f_X10_put_79 A I a1 a2 = some z) : am_Rt (am_ro xs) 1 ix_X10_put [.ref 79, .int a1, .int a2] (hp A I x) (none, hp (up A 80 z) I x) := by
  refine am_Rt.J (k := ix_X10_put) (M := mc_X10_put) (nL := 3) (d := 0) (as := [.ref 79, .int a1, .int a2]) (res := fun z => (none, hp (up A 80 z) I x)) rfl (Nat.le_of_ble_eq_true rfl) (fun r => ?_) hz
  unfold f_X10_put_79
  refine am_J.go 5 rfl ?_
  refine am_J.join (β := Int32) (cj := fun j1 => (31, [none, none, none], [.int j1, .int a1, .ref 80], hp A I x)) ?_ ?_
  · refine am_J.ne rfl ?_ ?_
    · refine am_J.go (cf' := (31, [some (.ref 79), some (.int a1), some (.int a2)], [.int (Int8.toInt32 (Int32.toInt8 a2)), .int a1, .ref 80], hp A I x)) 3 rfl ?_
      exact am_J.leaf (fun k => am_Ev.weak (L' := [none, none, none]) (am_Lle.o (am_Lle.o (am_Lle.o am_Lle.nil))) k)
    · refine am_J.go 3 rfl ?_
      refine am_J.ne rfl ?_ ?_
      · refine am_J.go (cf' := (31, [some (.ref 79), some (.int a1), some (.int a2)], [.int (Int16.toInt32 (Int32.toInt16 a2)), .int a1, .ref 80], hp A I x)) 3 rfl ?_
        exact am_J.leaf (fun k => am_Ev.weak (L' := [none, none, none]) (am_Lle.o (am_Lle.o (am_Lle.o am_Lle.nil))) k)
      · refine am_J.go (cf' := (31, [some (.ref 79), some (.int a1), some (.int a2)], [.int a2, .int a1, .ref 80], hp A I x)) 1 rfl ?_
        exact am_J.leaf (fun k => am_Ev.weak (L' := [none, none, none]) (am_Lle.o (am_Lle.o (am_Lle.o am_Lle.nil))) k)
  · rintro j1
    refine am_J.ias (xs := (A 80)) (h' := fun y2 => hp (up A 80 y2) I x) rfl rfl (fun _ => rfl) (fun y2 => ?_)
    exact am_J.ret rfl (fun k => k)

def f_J7_fill_53178_82_l1 (A : Nat → List Int32) (I : Nat → Int32) (a2 : Int32) (p3 : Int32) : (Int32 × (List Int32)) → Option ((Int32 × (List Int32)) ⊕ ((List Int32))) := fun q => match q with
    | (s1, s2) =>
    (if p3 ≤ s1 then
      some (.inr s2)
    else
      ((am_up s2 s1 a2).bind fun y4 =>
      some (.inl ((s1 + 1), y4))))
def f_J7_fill_53178_82 (A : Nat → List Int32) (I : Nat → Int32) (a2 : Int32) : Option ((List Int32)) :=
  ((wl (f_J7_fill_53178_82_l1 A I a2 (Int32.ofNat (A 82).length)) 100000 (0, (A 82))).bind (fun e5 =>
  some e5))
set_option maxRecDepth 100000 in
set_option maxHeartbeats 4000000 in
theorem t_J7_fill_53178_82 {xs : List Int32} (A : Nat → List Int32) (I : Nat → Int32) (x : am_X) (a2 : Int32) {z : (List Int32)} (hz : f_J7_fill_53178_82 A I a2 = some z) : am_Rt (am_ro xs) 1 ix_J7_fill_53178 [.ref 82, .int a2] (hp A I x) (none, hp (up A 82 z) I x) := by
  refine am_Rt.J (k := ix_J7_fill_53178) (M := mc_J7_fill_53178) (nL := 4) (d := 0) (as := [.ref 82, .int a2]) (res := fun z => (none, hp (up A 82 z) I x)) rfl (Nat.le_of_ble_eq_true rfl) (fun r => ?_) hz
  unfold f_J7_fill_53178_82
  refine am_J.go (cf' := (5, [some (.ref 82), some (.int a2), some (.int 0), some (.int (Int32.ofNat (A 82).length))], [], hp A I x)) 5 rfl ?_
  refine am_J.weak (L' := [some (.ref 82), some (.int a2), some (.int 0), some (.int (Int32.ofNat (A 82).length))]) (am_Lle.k (am_Lle.k (am_Lle.k (am_Lle.k am_Lle.nil)))) ?_
  refine am_J.loop (cl := fun q => match q with | (s1, s2) => (5, [some (.ref 82), some (.int a2), some (.int s1), some (.int (Int32.ofNat (A 82).length))], [], hp (up A 82 s2) I x)) (GX := fun e5 => am_Ev (am_ro xs) 0 mc_J7_fill_53178 (20, [none, none, none, none], [], hp (up A 82 e5) I x) r) ?_ ?_
  · rintro ⟨s1, s2⟩
    unfold f_J7_fill_53178_82_l1
    refine am_J.go 2 rfl ?_
    refine am_J.ge rfl ?_ ?_
    · refine am_J.go (cf' := (20, [some (.ref 82), some (.int a2), some (.int s1), some (.int (Int32.ofNat (A 82).length))], [], hp (up A 82 s2) I x)) 0 rfl ?_
      exact am_J.leaf (fun k => am_Ev.weak (L' := [none, none, none, none]) (am_Lle.o (am_Lle.o (am_Lle.o (am_Lle.o am_Lle.nil)))) k)
    · refine am_J.go 3 rfl ?_
      refine am_J.ias (xs := s2) (h' := fun y4 => hp (up A 82 y4) I x) rfl rfl (fun _ => rfl) (fun y4 => ?_)
      refine am_J.go (cf' := (5, [some (.ref 82), some (.int a2), some (.int (s1 + 1)), some (.int (Int32.ofNat (A 82).length))], [], hp (up A 82 y4) I x)) 2 rfl ?_
      exact am_J.leaf (fun k => am_Ev.weak (L' := [some (.ref 82), some (.int a2), some (.int (s1 + 1)), some (.int (Int32.ofNat (A 82).length))]) (am_Lle.k (am_Lle.k (am_Lle.k (am_Lle.k am_Lle.nil)))) k)
  · rintro e5
    refine (?_ : am_J (am_ro xs) 0 mc_J7_fill_53178 r (20, [none, none, none, none], [], hp (up A 82 e5) I x) _ _)
    exact am_J.ret rfl (fun k => k)

def f_X10_become_81 (A : Nat → List Int32) (I : Nat → Int32) (a1 : Int32) (a2 : Int32) : Option ((List Int32) × Int32 × Int32) :=
  ((f_J7_fill_53178_82 A (up (up I 5184 a1) 5185 a2) 0).bind fun r1 =>
  some (r1, a1, a2))
set_option maxRecDepth 100000 in
set_option maxHeartbeats 4000000 in
theorem t_X10_become_81 {xs : List Int32} (A : Nat → List Int32) (I : Nat → Int32) (x : am_X) (a1 : Int32) (a2 : Int32) {z : (List Int32) × Int32 × Int32} (hz : f_X10_become_81 A I a1 a2 = some z) : am_Rt (am_ro xs) 2 ix_X10_become [.ref 81, .int a1, .int a2] (hp A I x) (none, hp (up A 82 z.1) (up (up I 5184 z.2.1) 5185 z.2.2) x) := by
  refine am_Rt.J (k := ix_X10_become) (M := mc_X10_become) (nL := 3) (d := 1) (as := [.ref 81, .int a1, .int a2]) (res := fun z => (none, hp (up A 82 z.1) (up (up I 5184 z.2.1) 5185 z.2.2) x)) rfl (Nat.le_of_ble_eq_true rfl) (fun r => ?_) hz
  unfold f_X10_become_81
  refine am_J.go 9 rfl ?_
  refine am_J.calln (h' := fun r1 => hp (up A 82 r1) (up (up I 5184 a1) 5185 a2) x) rfl (fun r1 hw => (t_J7_fill_53178_82 A (up (up I 5184 a1) 5185 a2) x 0 hw)) (fun r1 => ?_)
  exact am_J.ret rfl (fun k => k)

def f_X8_spells_s10_l1 (A : Nat → List Int32) (I : Nat → Int32) (a1 : Int32) : (Int32) → Option ((Int32) ⊕ ((Unit) ⊕ (Int32))) := fun s1 =>
    (if 3 ≤ s1 then
      some (.inr (.inl ()))
    else
      ((am_at (A 53) (a1 + s1)).bind fun v2 =>
      ((am_at (am_str 10) s1).bind fun v3 =>
      (if v2 = v3 then
        some (.inl (s1 + 1))
      else
        some (.inr (.inr 0))))))
def f_X8_spells_s10 (A : Nat → List Int32) (I : Nat → Int32) (a1 : Int32) : Option (Int32) :=
  (if ((I 3332) - a1) = 3 then
    ((wl (f_X8_spells_s10_l1 A I a1) 100000 0).bind (fun q => match q with
    | .inl _ =>
    some 1
    | .inr v => some v))
  else
    some 0)
set_option maxRecDepth 100000 in
set_option maxHeartbeats 4000000 in
theorem t_X8_spells_s10 {xs : List Int32} (A : Nat → List Int32) (I : Nat → Int32) (x : am_X) (a1 : Int32) {z : Int32} (hz : f_X8_spells_s10 A I a1 = some z) : am_Rt (am_ro xs) 1 ix_X8_spells [.ref 52, .int a1, .ref (am_RO + 16 + 10)] (hp A I x) (some (.int z), hp A I x) := by
  refine am_Rt.J (k := ix_X8_spells) (M := mc_X8_spells) (nL := 4) (d := 0) (as := [.ref 52, .int a1, .ref (am_RO + 16 + 10)]) (res := fun z => (some (.int z), hp A I x)) rfl (Nat.le_of_ble_eq_true rfl) (fun r => ?_) hz
  unfold f_X8_spells_s10
  refine am_J.go 6 rfl ?_
  refine am_J.eq rfl ?_ ?_
  · refine am_J.go (cf' := (17, [some (.ref 52), some (.int a1), some (.ref (am_RO + 16 + 10)), some (.int 0)], [], hp A I x)) 2 rfl ?_
    refine am_J.weak (L' := [some (.ref 52), some (.int a1), some (.ref (am_RO + 16 + 10)), some (.int 0)]) (am_Lle.k (am_Lle.k (am_Lle.k (am_Lle.k am_Lle.nil)))) ?_
    refine am_J.loop (cl := fun s1 => (17, [some (.ref 52), some (.int a1), some (.ref (am_RO + 16 + 10)), some (.int s1)], [], hp A I x)) (GX := fun q => Sum.elim (fun _ => am_Ev (am_ro xs) 0 mc_X8_spells (49, [none, none, none, none], [], hp A I x) r) (fun (z : Int32) => r = (some (.int z), hp A I x)) q) ?_ ?_
    · rintro s1
      unfold f_X8_spells_s10_l1
      refine am_J.go 3 rfl ?_
      refine am_J.ge rfl ?_ ?_
      · refine am_J.go (cf' := (49, [some (.ref 52), some (.int a1), some (.ref (am_RO + 16 + 10)), some (.int s1)], [], hp A I x)) 0 rfl ?_
        exact am_J.leaf (fun k => am_Ev.weak (L' := [none, none, none, none]) (am_Lle.o (am_Lle.o (am_Lle.o (am_Lle.o am_Lle.nil)))) k)
      · refine am_J.go 5 rfl ?_
        refine am_J.bal (xs := (A 53)) (t := 1) rfl (by decide) rfl (fun v2 => ?_)
        refine am_J.go 2 rfl ?_
        refine am_J.sat (j := 10) rfl (Nat.le_of_ble_eq_true rfl) (by decide) (fun v3 => ?_)
        refine am_J.eq rfl ?_ ?_
        · refine am_J.go (cf' := (17, [some (.ref 52), some (.int a1), some (.ref (am_RO + 16 + 10)), some (.int (s1 + 1))], [], hp A I x)) 2 rfl ?_
          exact am_J.leaf (fun k => am_Ev.weak (L' := [some (.ref 52), some (.int a1), some (.ref (am_RO + 16 + 10)), some (.int (s1 + 1))]) (am_Lle.k (am_Lle.k (am_Lle.k (am_Lle.k am_Lle.nil)))) k)
        · refine am_J.go 1 rfl ?_
          exact am_J.retz rfl (Or.inl rfl) (fun k => k)
    · intro q
      rcases q with ⟨⟩ | v
      · refine (?_ : am_J (am_ro xs) 0 mc_X8_spells r (49, [none, none, none, none], [], hp A I x) _ _)
        refine am_J.go 1 rfl ?_
        exact am_J.retz rfl (Or.inr rfl) (fun k => k)
      · intro z hz hk
        cases hz
        exact hk
  · refine am_J.go 1 rfl ?_
    exact am_J.retz rfl (Or.inl rfl) (fun k => k)

def f_X8_spells_s4_l1 (A : Nat → List Int32) (I : Nat → Int32) (a1 : Int32) : (Int32) → Option ((Int32) ⊕ ((Unit) ⊕ (Int32))) := fun s1 =>
    (if 5 ≤ s1 then
      some (.inr (.inl ()))
    else
      ((am_at (A 53) (a1 + s1)).bind fun v2 =>
      ((am_at (am_str 4) s1).bind fun v3 =>
      (if v2 = v3 then
        some (.inl (s1 + 1))
      else
        some (.inr (.inr 0))))))
def f_X8_spells_s4 (A : Nat → List Int32) (I : Nat → Int32) (a1 : Int32) : Option (Int32) :=
  (if ((I 3332) - a1) = 5 then
    ((wl (f_X8_spells_s4_l1 A I a1) 100000 0).bind (fun q => match q with
    | .inl _ =>
    some 1
    | .inr v => some v))
  else
    some 0)
set_option maxRecDepth 100000 in
set_option maxHeartbeats 4000000 in
theorem t_X8_spells_s4 {xs : List Int32} (A : Nat → List Int32) (I : Nat → Int32) (x : am_X) (a1 : Int32) {z : Int32} (hz : f_X8_spells_s4 A I a1 = some z) : am_Rt (am_ro xs) 1 ix_X8_spells [.ref 52, .int a1, .ref (am_RO + 16 + 4)] (hp A I x) (some (.int z), hp A I x) := by
  refine am_Rt.J (k := ix_X8_spells) (M := mc_X8_spells) (nL := 4) (d := 0) (as := [.ref 52, .int a1, .ref (am_RO + 16 + 4)]) (res := fun z => (some (.int z), hp A I x)) rfl (Nat.le_of_ble_eq_true rfl) (fun r => ?_) hz
  unfold f_X8_spells_s4
  refine am_J.go 6 rfl ?_
  refine am_J.eq rfl ?_ ?_
  · refine am_J.go (cf' := (17, [some (.ref 52), some (.int a1), some (.ref (am_RO + 16 + 4)), some (.int 0)], [], hp A I x)) 2 rfl ?_
    refine am_J.weak (L' := [some (.ref 52), some (.int a1), some (.ref (am_RO + 16 + 4)), some (.int 0)]) (am_Lle.k (am_Lle.k (am_Lle.k (am_Lle.k am_Lle.nil)))) ?_
    refine am_J.loop (cl := fun s1 => (17, [some (.ref 52), some (.int a1), some (.ref (am_RO + 16 + 4)), some (.int s1)], [], hp A I x)) (GX := fun q => Sum.elim (fun _ => am_Ev (am_ro xs) 0 mc_X8_spells (49, [none, none, none, none], [], hp A I x) r) (fun (z : Int32) => r = (some (.int z), hp A I x)) q) ?_ ?_
    · rintro s1
      unfold f_X8_spells_s4_l1
      refine am_J.go 3 rfl ?_
      refine am_J.ge rfl ?_ ?_
      · refine am_J.go (cf' := (49, [some (.ref 52), some (.int a1), some (.ref (am_RO + 16 + 4)), some (.int s1)], [], hp A I x)) 0 rfl ?_
        exact am_J.leaf (fun k => am_Ev.weak (L' := [none, none, none, none]) (am_Lle.o (am_Lle.o (am_Lle.o (am_Lle.o am_Lle.nil)))) k)
      · refine am_J.go 5 rfl ?_
        refine am_J.bal (xs := (A 53)) (t := 1) rfl (by decide) rfl (fun v2 => ?_)
        refine am_J.go 2 rfl ?_
        refine am_J.sat (j := 4) rfl (Nat.le_of_ble_eq_true rfl) (by decide) (fun v3 => ?_)
        refine am_J.eq rfl ?_ ?_
        · refine am_J.go (cf' := (17, [some (.ref 52), some (.int a1), some (.ref (am_RO + 16 + 4)), some (.int (s1 + 1))], [], hp A I x)) 2 rfl ?_
          exact am_J.leaf (fun k => am_Ev.weak (L' := [some (.ref 52), some (.int a1), some (.ref (am_RO + 16 + 4)), some (.int (s1 + 1))]) (am_Lle.k (am_Lle.k (am_Lle.k (am_Lle.k am_Lle.nil)))) k)
        · refine am_J.go 1 rfl ?_
          exact am_J.retz rfl (Or.inl rfl) (fun k => k)
    · intro q
      rcases q with ⟨⟩ | v
      · refine (?_ : am_J (am_ro xs) 0 mc_X8_spells r (49, [none, none, none, none], [], hp A I x) _ _)
        refine am_J.go 1 rfl ?_
        exact am_J.retz rfl (Or.inr rfl) (fun k => k)
      · intro z hz hk
        cases hz
        exact hk
  · refine am_J.go 1 rfl ?_
    exact am_J.retz rfl (Or.inl rfl) (fun k => k)

def f_X8_keyFrom (A : Nat → List Int32) (I : Nat → Int32) (a1 : Int32) : Option (Int32) :=
  ((f_X8_spells_s6 A I a1).bind fun r1 =>
  (if r1 = 0 then
    ((f_X8_spells_s7 A I a1).bind fun r2 =>
    (if r2 = 0 then
      ((f_X8_spells_s8 A I a1).bind fun r3 =>
      (if r3 = 0 then
        ((f_X8_spells_s9 A I a1).bind fun r4 =>
        (if r4 = 0 then
          ((f_X8_spells_s10 A I a1).bind fun r5 =>
          (if r5 = 0 then
            some 1
          else
            some 8))
        else
          some 7))
      else
        some 6))
    else
      some 5))
  else
    some 4))
set_option maxRecDepth 100000 in
set_option maxHeartbeats 4000000 in
theorem t_X8_keyFrom {xs : List Int32} (A : Nat → List Int32) (I : Nat → Int32) (x : am_X) (a1 : Int32) {z : Int32} (hz : f_X8_keyFrom A I a1 = some z) : am_Rt (am_ro xs) 2 ix_X8_keyFrom [.ref 52, .int a1] (hp A I x) (some (.int z), hp A I x) := by
  refine am_Rt.J (k := ix_X8_keyFrom) (M := mc_X8_keyFrom) (nL := 2) (d := 1) (as := [.ref 52, .int a1]) (res := fun z => (some (.int z), hp A I x)) rfl (Nat.le_of_ble_eq_true rfl) (fun r => ?_) hz
  unfold f_X8_keyFrom
  refine am_J.go 3 rfl ?_
  refine am_J.callz (v := fun r1 => r1) (h' := fun r1 => hp A I x) rfl rfl rfl (fun r1 hw => (t_X8_spells_s6 A I x a1 hw)) (fun r1 hr1 => ?_)
  refine am_J.eq rfl ?_ ?_
  · refine am_J.go 3 rfl ?_
    refine am_J.callz (v := fun r2 => r2) (h' := fun r2 => hp A I x) rfl rfl rfl (fun r2 hw => (t_X8_spells_s7 A I x a1 hw)) (fun r2 hr2 => ?_)
    refine am_J.eq rfl ?_ ?_
    · refine am_J.go 3 rfl ?_
      refine am_J.callz (v := fun r3 => r3) (h' := fun r3 => hp A I x) rfl rfl rfl (fun r3 hw => (t_X8_spells_s8 A I x a1 hw)) (fun r3 hr3 => ?_)
      refine am_J.eq rfl ?_ ?_
      · refine am_J.go 3 rfl ?_
        refine am_J.callz (v := fun r4 => r4) (h' := fun r4 => hp A I x) rfl rfl rfl (fun r4 hw => (t_X8_spells_s9 A I x a1 hw)) (fun r4 hr4 => ?_)
        refine am_J.eq rfl ?_ ?_
        · refine am_J.go 3 rfl ?_
          refine am_J.callz (v := fun r5 => r5) (h' := fun r5 => hp A I x) rfl rfl rfl (fun r5 hw => (t_X8_spells_s10 A I x a1 hw)) (fun r5 hr5 => ?_)
          refine am_J.eq rfl ?_ ?_
          · refine am_J.go 1 rfl ?_
            exact am_J.ret rfl (fun k => k)
          · refine am_J.go 1 rfl ?_
            exact am_J.ret rfl (fun k => k)
        · refine am_J.go 1 rfl ?_
          exact am_J.ret rfl (fun k => k)
      · refine am_J.go 1 rfl ?_
        exact am_J.ret rfl (fun k => k)
    · refine am_J.go 1 rfl ?_
      exact am_J.ret rfl (fun k => k)
  · refine am_J.go 1 rfl ?_
    exact am_J.ret rfl (fun k => k)

def f_X10_isMissing_81 (A : Nat → List Int32) (I : Nat → Int32) : Option (Int32) :=
  (if (I 5184) = (-1) then
    some 1
  else
    some 0)
set_option maxRecDepth 100000 in
set_option maxHeartbeats 4000000 in
theorem t_X10_isMissing_81 {xs : List Int32} (A : Nat → List Int32) (I : Nat → Int32) (x : am_X) {z : Int32} (hz : f_X10_isMissing_81 A I = some z) : am_Rt (am_ro xs) 1 ix_X10_isMissing [.ref 81] (hp A I x) (some (.int z), hp A I x) := by
  refine am_Rt.J (k := ix_X10_isMissing) (M := mc_X10_isMissing) (nL := 1) (d := 0) (as := [.ref 81]) (res := fun z => (some (.int z), hp A I x)) rfl (Nat.le_of_ble_eq_true rfl) (fun r => ?_) hz
  unfold f_X10_isMissing_81
  refine am_J.go 3 rfl ?_
  refine am_J.ne rfl ?_ ?_
  · refine am_J.go 2 rfl ?_
    exact am_J.retz rfl (Or.inr rfl) (fun k => k)
  · refine am_J.go 1 rfl ?_
    exact am_J.retz rfl (Or.inl rfl) (fun k => k)

def f_X8_spells_s5_l1 (A : Nat → List Int32) (I : Nat → Int32) (a1 : Int32) : (Int32) → Option ((Int32) ⊕ ((Unit) ⊕ (Int32))) := fun s1 =>
    (if 5 ≤ s1 then
      some (.inr (.inl ()))
    else
      ((am_at (A 53) (a1 + s1)).bind fun v2 =>
      ((am_at (am_str 5) s1).bind fun v3 =>
      (if v2 = v3 then
        some (.inl (s1 + 1))
      else
        some (.inr (.inr 0))))))
def f_X8_spells_s5 (A : Nat → List Int32) (I : Nat → Int32) (a1 : Int32) : Option (Int32) :=
  (if ((I 3332) - a1) = 5 then
    ((wl (f_X8_spells_s5_l1 A I a1) 100000 0).bind (fun q => match q with
    | .inl _ =>
    some 1
    | .inr v => some v))
  else
    some 0)
set_option maxRecDepth 100000 in
set_option maxHeartbeats 4000000 in
theorem t_X8_spells_s5 {xs : List Int32} (A : Nat → List Int32) (I : Nat → Int32) (x : am_X) (a1 : Int32) {z : Int32} (hz : f_X8_spells_s5 A I a1 = some z) : am_Rt (am_ro xs) 1 ix_X8_spells [.ref 52, .int a1, .ref (am_RO + 16 + 5)] (hp A I x) (some (.int z), hp A I x) := by
  refine am_Rt.J (k := ix_X8_spells) (M := mc_X8_spells) (nL := 4) (d := 0) (as := [.ref 52, .int a1, .ref (am_RO + 16 + 5)]) (res := fun z => (some (.int z), hp A I x)) rfl (Nat.le_of_ble_eq_true rfl) (fun r => ?_) hz
  unfold f_X8_spells_s5
  refine am_J.go 6 rfl ?_
  refine am_J.eq rfl ?_ ?_
  · refine am_J.go (cf' := (17, [some (.ref 52), some (.int a1), some (.ref (am_RO + 16 + 5)), some (.int 0)], [], hp A I x)) 2 rfl ?_
    refine am_J.weak (L' := [some (.ref 52), some (.int a1), some (.ref (am_RO + 16 + 5)), some (.int 0)]) (am_Lle.k (am_Lle.k (am_Lle.k (am_Lle.k am_Lle.nil)))) ?_
    refine am_J.loop (cl := fun s1 => (17, [some (.ref 52), some (.int a1), some (.ref (am_RO + 16 + 5)), some (.int s1)], [], hp A I x)) (GX := fun q => Sum.elim (fun _ => am_Ev (am_ro xs) 0 mc_X8_spells (49, [none, none, none, none], [], hp A I x) r) (fun (z : Int32) => r = (some (.int z), hp A I x)) q) ?_ ?_
    · rintro s1
      unfold f_X8_spells_s5_l1
      refine am_J.go 3 rfl ?_
      refine am_J.ge rfl ?_ ?_
      · refine am_J.go (cf' := (49, [some (.ref 52), some (.int a1), some (.ref (am_RO + 16 + 5)), some (.int s1)], [], hp A I x)) 0 rfl ?_
        exact am_J.leaf (fun k => am_Ev.weak (L' := [none, none, none, none]) (am_Lle.o (am_Lle.o (am_Lle.o (am_Lle.o am_Lle.nil)))) k)
      · refine am_J.go 5 rfl ?_
        refine am_J.bal (xs := (A 53)) (t := 1) rfl (by decide) rfl (fun v2 => ?_)
        refine am_J.go 2 rfl ?_
        refine am_J.sat (j := 5) rfl (Nat.le_of_ble_eq_true rfl) (by decide) (fun v3 => ?_)
        refine am_J.eq rfl ?_ ?_
        · refine am_J.go (cf' := (17, [some (.ref 52), some (.int a1), some (.ref (am_RO + 16 + 5)), some (.int (s1 + 1))], [], hp A I x)) 2 rfl ?_
          exact am_J.leaf (fun k => am_Ev.weak (L' := [some (.ref 52), some (.int a1), some (.ref (am_RO + 16 + 5)), some (.int (s1 + 1))]) (am_Lle.k (am_Lle.k (am_Lle.k (am_Lle.k am_Lle.nil)))) k)
        · refine am_J.go 1 rfl ?_
          exact am_J.retz rfl (Or.inl rfl) (fun k => k)
    · intro q
      rcases q with ⟨⟩ | v
      · refine (?_ : am_J (am_ro xs) 0 mc_X8_spells r (49, [none, none, none, none], [], hp A I x) _ _)
        refine am_J.go 1 rfl ?_
        exact am_J.retz rfl (Or.inr rfl) (fun k => k)
      · intro z hz hk
        cases hz
        exact hk
  · refine am_J.go 1 rfl ?_
    exact am_J.retz rfl (Or.inl rfl) (fun k => k)

def f_X8_nameFrom (A : Nat → List Int32) (I : Nat → Int32) (a1 : Int32) : Option (Int32) :=
  ((f_X8_spells_s0 A I a1).bind fun r1 =>
  (if r1 = 0 then
    ((f_X8_spells_s1 A I a1).bind fun r2 =>
    (if r2 = 0 then
      ((f_X8_spells_s2 A I a1).bind fun r3 =>
      (if r3 = 0 then
        ((f_X8_spells_s3 A I a1).bind fun r4 =>
        (if r4 = 0 then
          ((f_X8_spells_s4 A I a1).bind fun r5 =>
          (if r5 = 0 then
            ((f_X8_spells_s5 A I a1).bind fun r6 =>
            (if r6 = 0 then
              some 0
            else
              some (-6)))
          else
            some (-5)))
        else
          some (-4)))
      else
        some (-3)))
    else
      some (-2)))
  else
    some (-1)))
set_option maxRecDepth 100000 in
set_option maxHeartbeats 4000000 in
theorem t_X8_nameFrom {xs : List Int32} (A : Nat → List Int32) (I : Nat → Int32) (x : am_X) (a1 : Int32) {z : Int32} (hz : f_X8_nameFrom A I a1 = some z) : am_Rt (am_ro xs) 2 ix_X8_nameFrom [.ref 52, .int a1] (hp A I x) (some (.int z), hp A I x) := by
  refine am_Rt.J (k := ix_X8_nameFrom) (M := mc_X8_nameFrom) (nL := 2) (d := 1) (as := [.ref 52, .int a1]) (res := fun z => (some (.int z), hp A I x)) rfl (Nat.le_of_ble_eq_true rfl) (fun r => ?_) hz
  unfold f_X8_nameFrom
  refine am_J.go 3 rfl ?_
  refine am_J.callz (v := fun r1 => r1) (h' := fun r1 => hp A I x) rfl rfl rfl (fun r1 hw => (t_X8_spells_s0 A I x a1 hw)) (fun r1 hr1 => ?_)
  refine am_J.eq rfl ?_ ?_
  · refine am_J.go 3 rfl ?_
    refine am_J.callz (v := fun r2 => r2) (h' := fun r2 => hp A I x) rfl rfl rfl (fun r2 hw => (t_X8_spells_s1 A I x a1 hw)) (fun r2 hr2 => ?_)
    refine am_J.eq rfl ?_ ?_
    · refine am_J.go 3 rfl ?_
      refine am_J.callz (v := fun r3 => r3) (h' := fun r3 => hp A I x) rfl rfl rfl (fun r3 hw => (t_X8_spells_s2 A I x a1 hw)) (fun r3 hr3 => ?_)
      refine am_J.eq rfl ?_ ?_
      · refine am_J.go 3 rfl ?_
        refine am_J.callz (v := fun r4 => r4) (h' := fun r4 => hp A I x) rfl rfl rfl (fun r4 hw => (t_X8_spells_s3 A I x a1 hw)) (fun r4 hr4 => ?_)
        refine am_J.eq rfl ?_ ?_
        · refine am_J.go 3 rfl ?_
          refine am_J.callz (v := fun r5 => r5) (h' := fun r5 => hp A I x) rfl rfl rfl (fun r5 hw => (t_X8_spells_s4 A I x a1 hw)) (fun r5 hr5 => ?_)
          refine am_J.eq rfl ?_ ?_
          · refine am_J.go 3 rfl ?_
            refine am_J.callz (v := fun r6 => r6) (h' := fun r6 => hp A I x) rfl rfl rfl (fun r6 hw => (t_X8_spells_s5 A I x a1 hw)) (fun r6 hr6 => ?_)
            refine am_J.eq rfl ?_ ?_
            · refine am_J.go 1 rfl ?_
              exact am_J.ret rfl (fun k => k)
            · refine am_J.go 1 rfl ?_
              exact am_J.ret rfl (fun k => k)
          · refine am_J.go 1 rfl ?_
            exact am_J.ret rfl (fun k => k)
        · refine am_J.go 1 rfl ?_
          exact am_J.ret rfl (fun k => k)
      · refine am_J.go 1 rfl ?_
        exact am_J.ret rfl (fun k => k)
    · refine am_J.go 1 rfl ?_
      exact am_J.ret rfl (fun k => k)
  · refine am_J.go 1 rfl ?_
    exact am_J.ret rfl (fun k => k)

def f_J7_fill_53178_84_l1 (A : Nat → List Int32) (I : Nat → Int32) (a2 : Int32) (p3 : Int32) : (Int32 × (List Int32)) → Option ((Int32 × (List Int32)) ⊕ ((List Int32))) := fun q => match q with
    | (s1, s2) =>
    (if p3 ≤ s1 then
      some (.inr s2)
    else
      ((am_up s2 s1 a2).bind fun y4 =>
      some (.inl ((s1 + 1), y4))))
def f_J7_fill_53178_84 (A : Nat → List Int32) (I : Nat → Int32) (a2 : Int32) : Option ((List Int32)) :=
  ((wl (f_J7_fill_53178_84_l1 A I a2 (Int32.ofNat (A 84).length)) 100000 (0, (A 84))).bind (fun e5 =>
  some e5))
set_option maxRecDepth 100000 in
set_option maxHeartbeats 4000000 in
theorem t_J7_fill_53178_84 {xs : List Int32} (A : Nat → List Int32) (I : Nat → Int32) (x : am_X) (a2 : Int32) {z : (List Int32)} (hz : f_J7_fill_53178_84 A I a2 = some z) : am_Rt (am_ro xs) 1 ix_J7_fill_53178 [.ref 84, .int a2] (hp A I x) (none, hp (up A 84 z) I x) := by
  refine am_Rt.J (k := ix_J7_fill_53178) (M := mc_J7_fill_53178) (nL := 4) (d := 0) (as := [.ref 84, .int a2]) (res := fun z => (none, hp (up A 84 z) I x)) rfl (Nat.le_of_ble_eq_true rfl) (fun r => ?_) hz
  unfold f_J7_fill_53178_84
  refine am_J.go (cf' := (5, [some (.ref 84), some (.int a2), some (.int 0), some (.int (Int32.ofNat (A 84).length))], [], hp A I x)) 5 rfl ?_
  refine am_J.weak (L' := [some (.ref 84), some (.int a2), some (.int 0), some (.int (Int32.ofNat (A 84).length))]) (am_Lle.k (am_Lle.k (am_Lle.k (am_Lle.k am_Lle.nil)))) ?_
  refine am_J.loop (cl := fun q => match q with | (s1, s2) => (5, [some (.ref 84), some (.int a2), some (.int s1), some (.int (Int32.ofNat (A 84).length))], [], hp (up A 84 s2) I x)) (GX := fun e5 => am_Ev (am_ro xs) 0 mc_J7_fill_53178 (20, [none, none, none, none], [], hp (up A 84 e5) I x) r) ?_ ?_
  · rintro ⟨s1, s2⟩
    unfold f_J7_fill_53178_84_l1
    refine am_J.go 2 rfl ?_
    refine am_J.ge rfl ?_ ?_
    · refine am_J.go (cf' := (20, [some (.ref 84), some (.int a2), some (.int s1), some (.int (Int32.ofNat (A 84).length))], [], hp (up A 84 s2) I x)) 0 rfl ?_
      exact am_J.leaf (fun k => am_Ev.weak (L' := [none, none, none, none]) (am_Lle.o (am_Lle.o (am_Lle.o (am_Lle.o am_Lle.nil)))) k)
    · refine am_J.go 3 rfl ?_
      refine am_J.ias (xs := s2) (h' := fun y4 => hp (up A 84 y4) I x) rfl rfl (fun _ => rfl) (fun y4 => ?_)
      refine am_J.go (cf' := (5, [some (.ref 84), some (.int a2), some (.int (s1 + 1)), some (.int (Int32.ofNat (A 84).length))], [], hp (up A 84 y4) I x)) 2 rfl ?_
      exact am_J.leaf (fun k => am_Ev.weak (L' := [some (.ref 84), some (.int a2), some (.int (s1 + 1)), some (.int (Int32.ofNat (A 84).length))]) (am_Lle.k (am_Lle.k (am_Lle.k (am_Lle.k am_Lle.nil)))) k)
  · rintro e5
    refine (?_ : am_J (am_ro xs) 0 mc_J7_fill_53178 r (20, [none, none, none, none], [], hp (up A 84 e5) I x) _ _)
    exact am_J.ret rfl (fun k => k)

def f_X10_become_83 (A : Nat → List Int32) (I : Nat → Int32) (a1 : Int32) (a2 : Int32) : Option ((List Int32) × Int32 × Int32) :=
  ((f_J7_fill_53178_84 A (up (up I 5312 a1) 5313 a2) 0).bind fun r1 =>
  some (r1, a1, a2))
set_option maxRecDepth 100000 in
set_option maxHeartbeats 4000000 in
theorem t_X10_become_83 {xs : List Int32} (A : Nat → List Int32) (I : Nat → Int32) (x : am_X) (a1 : Int32) (a2 : Int32) {z : (List Int32) × Int32 × Int32} (hz : f_X10_become_83 A I a1 a2 = some z) : am_Rt (am_ro xs) 2 ix_X10_become [.ref 83, .int a1, .int a2] (hp A I x) (none, hp (up A 84 z.1) (up (up I 5312 z.2.1) 5313 z.2.2) x) := by
  refine am_Rt.J (k := ix_X10_become) (M := mc_X10_become) (nL := 3) (d := 1) (as := [.ref 83, .int a1, .int a2]) (res := fun z => (none, hp (up A 84 z.1) (up (up I 5312 z.2.1) 5313 z.2.2) x)) rfl (Nat.le_of_ble_eq_true rfl) (fun r => ?_) hz
  unfold f_X10_become_83
  refine am_J.go 9 rfl ?_
  refine am_J.calln (h' := fun r1 => hp (up A 84 r1) (up (up I 5312 a1) 5313 a2) x) rfl (fun r1 hw => (t_J7_fill_53178_84 A (up (up I 5312 a1) 5313 a2) x 0 hw)) (fun r1 => ?_)
  exact am_J.ret rfl (fun k => k)

def f_X10_holds_81 (A : Nat → List Int32) (I : Nat → Int32) (a1 : Int32) (a2 : Int32) : Option (Int32) :=
  (if a1 < 0 then
    some 0
  else
    (if a2 < 0 then
      some 0
    else
      (if (I 5185) < a2 then
        some 0
      else
        (if ((I 5185) - a2) < a1 then
          some 0
        else
          some 1))))
set_option maxRecDepth 100000 in
set_option maxHeartbeats 4000000 in
theorem t_X10_holds_81 {xs : List Int32} (A : Nat → List Int32) (I : Nat → Int32) (x : am_X) (a1 : Int32) (a2 : Int32) {z : Int32} (hz : f_X10_holds_81 A I a1 a2 = some z) : am_Rt (am_ro xs) 1 ix_X10_holds [.ref 81, .int a1, .int a2] (hp A I x) (some (.int z), hp A I x) := by
  refine am_Rt.J (k := ix_X10_holds) (M := mc_X10_holds) (nL := 3) (d := 0) (as := [.ref 81, .int a1, .int a2]) (res := fun z => (some (.int z), hp A I x)) rfl (Nat.le_of_ble_eq_true rfl) (fun r => ?_) hz
  unfold f_X10_holds_81
  refine am_J.go 1 rfl ?_
  refine am_J.lt rfl ?_ ?_
  · refine am_J.go 1 rfl ?_
    exact am_J.retz rfl (Or.inl rfl) (fun k => k)
  · refine am_J.go 1 rfl ?_
    refine am_J.lt rfl ?_ ?_
    · refine am_J.go 1 rfl ?_
      exact am_J.retz rfl (Or.inl rfl) (fun k => k)
    · refine am_J.go 3 rfl ?_
      refine am_J.gt rfl ?_ ?_
      · refine am_J.go 1 rfl ?_
        exact am_J.retz rfl (Or.inl rfl) (fun k => k)
      · refine am_J.go 5 rfl ?_
        refine am_J.gt rfl ?_ ?_
        · refine am_J.go 1 rfl ?_
          exact am_J.retz rfl (Or.inl rfl) (fun k => k)
        · refine am_J.go 2 rfl ?_
          exact am_J.retz rfl (Or.inr rfl) (fun k => k)

def f_X10_put_81 (A : Nat → List Int32) (I : Nat → Int32) (a1 : Int32) (a2 : Int32) : Option ((List Int32)) :=
  (((if (I 5184) = 0 then
      some (Int8.toInt32 (Int32.toInt8 a2))
    else
      (if (I 5184) = 1 then
        some (Int16.toInt32 (Int32.toInt16 a2))
      else
        some a2)) : Option (Int32)).bind (fun j1 =>
  ((am_up (A 82) a1 j1).bind fun y2 =>
  some y2)))
set_option maxRecDepth 100000 in
set_option maxHeartbeats 4000000 in
theorem t_X10_put_81 {xs : List Int32} (A : Nat → List Int32) (I : Nat → Int32) (x : am_X) (a1 : Int32) (a2 : Int32) {z : (List Int32)} (hz : f_X10_put_81 A I a1 a2 = some z) : am_Rt (am_ro xs) 1 ix_X10_put [.ref 81, .int a1, .int a2] (hp A I x) (none, hp (up A 82 z) I x) := by
  refine am_Rt.J (k := ix_X10_put) (M := mc_X10_put) (nL := 3) (d := 0) (as := [.ref 81, .int a1, .int a2]) (res := fun z => (none, hp (up A 82 z) I x)) rfl (Nat.le_of_ble_eq_true rfl) (fun r => ?_) hz
  unfold f_X10_put_81
  refine am_J.go 5 rfl ?_
  refine am_J.join (β := Int32) (cj := fun j1 => (31, [none, none, none], [.int j1, .int a1, .ref 82], hp A I x)) ?_ ?_
  · refine am_J.ne rfl ?_ ?_
    · refine am_J.go (cf' := (31, [some (.ref 81), some (.int a1), some (.int a2)], [.int (Int8.toInt32 (Int32.toInt8 a2)), .int a1, .ref 82], hp A I x)) 3 rfl ?_
      exact am_J.leaf (fun k => am_Ev.weak (L' := [none, none, none]) (am_Lle.o (am_Lle.o (am_Lle.o am_Lle.nil))) k)
    · refine am_J.go 3 rfl ?_
      refine am_J.ne rfl ?_ ?_
      · refine am_J.go (cf' := (31, [some (.ref 81), some (.int a1), some (.int a2)], [.int (Int16.toInt32 (Int32.toInt16 a2)), .int a1, .ref 82], hp A I x)) 3 rfl ?_
        exact am_J.leaf (fun k => am_Ev.weak (L' := [none, none, none]) (am_Lle.o (am_Lle.o (am_Lle.o am_Lle.nil))) k)
      · refine am_J.go (cf' := (31, [some (.ref 81), some (.int a1), some (.int a2)], [.int a2, .int a1, .ref 82], hp A I x)) 1 rfl ?_
        exact am_J.leaf (fun k => am_Ev.weak (L' := [none, none, none]) (am_Lle.o (am_Lle.o (am_Lle.o am_Lle.nil))) k)
  · rintro j1
    refine am_J.ias (xs := (A 82)) (h' := fun y2 => hp (up A 82 y2) I x) rfl rfl (fun _ => rfl) (fun y2 => ?_)
    exact am_J.ret rfl (fun k => k)

def f_X11_sheet (A : Nat → List Int32) (I : Nat → Int32) (a1 : Int32) (a2 : Int32) (a3 : Int32) : Option (Int32 × (List Int32) × (List Int32) × (List Int32) × (List Int32) × Int32 × Int32 × Int32 × Int32 × Int32 × Int32 × Int32 × Int32) :=
  ((f_X11_isSheet a1).bind fun r1 =>
  (if r1 = 0 then
    some ((-2), (A 78), (A 80), (A 82), (A 84), (I 4928), (I 4929), (I 5056), (I 5057), (I 5184), (I 5185), (I 5312), (I 5313))
  else
    ((f_X11_isWithin a2 (-1) 2).bind fun r2 =>
    (if r2 = 0 then
      some ((-2), (A 78), (A 80), (A 82), (A 84), (I 4928), (I 4929), (I 5056), (I 5057), (I 5184), (I 5185), (I 5312), (I 5313))
    else
      (if a2 = (-1) then
        (if a1 = 0 then
          ((f_X10_become_77 A I (-1) 0).bind fun r7 =>
          some (1, r7.1, (A 80), (A 82), (A 84), r7.2.1, r7.2.2, (I 5056), (I 5057), (I 5184), (I 5185), (I 5312), (I 5313)))
        else
        (if a1 = 1 then
          ((f_X10_become_79 A I (-1) 0).bind fun r8 =>
          some (1, (A 78), r8.1, (A 82), (A 84), (I 4928), (I 4929), r8.2.1, r8.2.2, (I 5184), (I 5185), (I 5312), (I 5313)))
        else
        (if a1 = 2 then
          ((f_X10_become_81 A I (-1) 0).bind fun r9 =>
          some (1, (A 78), (A 80), r9.1, (A 84), (I 4928), (I 4929), (I 5056), (I 5057), r9.2.1, r9.2.2, (I 5312), (I 5313)))
        else
        (if a1 = 3 then
          ((f_X10_become_83 A I (-1) 0).bind fun r10 =>
          some (1, (A 78), (A 80), (A 82), r10.1, (I 4928), (I 4929), (I 5056), (I 5057), (I 5184), (I 5185), r10.2.1, r10.2.2))
        else
        none))))
      else
        (if a3 ≤ 40 then
          (if 0 ≤ a3 then
            (if a1 = 0 then
              ((f_X10_become_77 A I a2 a3).bind fun r3 =>
              some (1, r3.1, (A 80), (A 82), (A 84), r3.2.1, r3.2.2, (I 5056), (I 5057), (I 5184), (I 5185), (I 5312), (I 5313)))
            else
            (if a1 = 1 then
              ((f_X10_become_79 A I a2 a3).bind fun r4 =>
              some (1, (A 78), r4.1, (A 82), (A 84), (I 4928), (I 4929), r4.2.1, r4.2.2, (I 5184), (I 5185), (I 5312), (I 5313)))
            else
            (if a1 = 2 then
              ((f_X10_become_81 A I a2 a3).bind fun r5 =>
              some (1, (A 78), (A 80), r5.1, (A 84), (I 4928), (I 4929), (I 5056), (I 5057), r5.2.1, r5.2.2, (I 5312), (I 5313)))
            else
            (if a1 = 3 then
              ((f_X10_become_83 A I a2 a3).bind fun r6 =>
              some (1, (A 78), (A 80), (A 82), r6.1, (I 4928), (I 4929), (I 5056), (I 5057), (I 5184), (I 5185), r6.2.1, r6.2.2))
            else
            none))))
          else
            some ((-14), (A 78), (A 80), (A 82), (A 84), (I 4928), (I 4929), (I 5056), (I 5057), (I 5184), (I 5185), (I 5312), (I 5313)))
        else
          some ((-2), (A 78), (A 80), (A 82), (A 84), (I 4928), (I 4929), (I 5056), (I 5057), (I 5184), (I 5185), (I 5312), (I 5313))))))))
set_option maxRecDepth 100000 in
set_option maxHeartbeats 4000000 in
theorem t_X11_sheet {xs : List Int32} (A : Nat → List Int32) (I : Nat → Int32) (x : am_X) (a1 : Int32) (a2 : Int32) (a3 : Int32) {z : Int32 × (List Int32) × (List Int32) × (List Int32) × (List Int32) × Int32 × Int32 × Int32 × Int32 × Int32 × Int32 × Int32 × Int32} (hz : f_X11_sheet A I a1 a2 a3 = some z) : am_Rt (am_ro xs) 3 ix_X11_sheet [.ref 0, .int a1, .int a2, .int a3] (hp A I x) (some (.int z.1), hp (up (up (up (up A 78 z.2.1) 80 z.2.2.1) 82 z.2.2.2.1) 84 z.2.2.2.2.1) (up (up (up (up (up (up (up (up I 4928 z.2.2.2.2.2.1) 4929 z.2.2.2.2.2.2.1) 5056 z.2.2.2.2.2.2.2.1) 5057 z.2.2.2.2.2.2.2.2.1) 5184 z.2.2.2.2.2.2.2.2.2.1) 5185 z.2.2.2.2.2.2.2.2.2.2.1) 5312 z.2.2.2.2.2.2.2.2.2.2.2.1) 5313 z.2.2.2.2.2.2.2.2.2.2.2.2) x) := by
  refine am_Rt.J (k := ix_X11_sheet) (M := mc_X11_sheet) (nL := 4) (d := 2) (as := [.ref 0, .int a1, .int a2, .int a3]) (res := fun z => (some (.int z.1), hp (up (up (up (up A 78 z.2.1) 80 z.2.2.1) 82 z.2.2.2.1) 84 z.2.2.2.2.1) (up (up (up (up (up (up (up (up I 4928 z.2.2.2.2.2.1) 4929 z.2.2.2.2.2.2.1) 5056 z.2.2.2.2.2.2.2.1) 5057 z.2.2.2.2.2.2.2.2.1) 5184 z.2.2.2.2.2.2.2.2.2.1) 5185 z.2.2.2.2.2.2.2.2.2.2.1) 5312 z.2.2.2.2.2.2.2.2.2.2.2.1) 5313 z.2.2.2.2.2.2.2.2.2.2.2.2) x)) rfl (Nat.le_of_ble_eq_true rfl) (fun r => ?_) hz
  unfold f_X11_sheet
  refine am_J.go 1 rfl ?_
  refine am_J.callz (v := fun r1 => r1) (h' := fun r1 => hp A I x) rfl rfl rfl (fun r1 hw => (t_X11_isSheet (h := hp A I x) a1 hw)) (fun r1 hr1 => ?_)
  refine am_J.eq rfl ?_ ?_
  · refine am_J.go 1 rfl ?_
    exact am_J.ret rfl (fun k => k)
  · refine am_J.go 3 rfl ?_
    refine am_J.callz (v := fun r2 => r2) (h' := fun r2 => hp A I x) rfl rfl rfl (fun r2 hw => (t_X11_isWithin (h := hp A I x) a2 (-1) 2 hw).mono (Nat.le_of_ble_eq_true rfl)) (fun r2 hr2 => ?_)
    refine am_J.ne rfl ?_ ?_
    · refine am_J.go 1 rfl ?_
      exact am_J.ret rfl (fun k => k)
    · refine am_J.go 2 rfl ?_
      refine am_J.ne rfl ?_ ?_
      · refine am_J.go 3 rfl ?_
        refine am_J.sel rfl rfl ?_ ?_ ?_ ?_
        · refine am_J.go 2 rfl ?_
          refine am_J.calln (h' := fun r7 => hp (up A 78 r7.1) (up (up I 4928 r7.2.1) 4929 r7.2.2) x) rfl (fun r7 hw => (t_X10_become_77 A I x (-1) 0 hw)) (fun r7 => ?_)
          refine am_J.go 1 rfl ?_
          exact am_J.ret rfl (fun k => k)
        · refine am_J.go 2 rfl ?_
          refine am_J.calln (h' := fun r8 => hp (up A 80 r8.1) (up (up I 5056 r8.2.1) 5057 r8.2.2) x) rfl (fun r8 hw => (t_X10_become_79 A I x (-1) 0 hw)) (fun r8 => ?_)
          refine am_J.go 1 rfl ?_
          exact am_J.ret rfl (fun k => k)
        · refine am_J.go 2 rfl ?_
          refine am_J.calln (h' := fun r9 => hp (up A 82 r9.1) (up (up I 5184 r9.2.1) 5185 r9.2.2) x) rfl (fun r9 hw => (t_X10_become_81 A I x (-1) 0 hw)) (fun r9 => ?_)
          refine am_J.go 1 rfl ?_
          exact am_J.ret rfl (fun k => k)
        · refine am_J.go 2 rfl ?_
          refine am_J.calln (h' := fun r10 => hp (up A 84 r10.1) (up (up I 5312 r10.2.1) 5313 r10.2.2) x) rfl (fun r10 hw => (t_X10_become_83 A I x (-1) 0 hw)) (fun r10 => ?_)
          refine am_J.go 1 rfl ?_
          exact am_J.ret rfl (fun k => k)
      · refine am_J.go 2 rfl ?_
        refine am_J.le rfl ?_ ?_
        · refine am_J.go 1 rfl ?_
          refine am_J.ge rfl ?_ ?_
          · refine am_J.go 3 rfl ?_
            refine am_J.sel rfl rfl ?_ ?_ ?_ ?_
            · refine am_J.go 2 rfl ?_
              refine am_J.calln (h' := fun r3 => hp (up A 78 r3.1) (up (up I 4928 r3.2.1) 4929 r3.2.2) x) rfl (fun r3 hw => (t_X10_become_77 A I x a2 a3 hw)) (fun r3 => ?_)
              refine am_J.go 1 rfl ?_
              exact am_J.ret rfl (fun k => k)
            · refine am_J.go 2 rfl ?_
              refine am_J.calln (h' := fun r4 => hp (up A 80 r4.1) (up (up I 5056 r4.2.1) 5057 r4.2.2) x) rfl (fun r4 hw => (t_X10_become_79 A I x a2 a3 hw)) (fun r4 => ?_)
              refine am_J.go 1 rfl ?_
              exact am_J.ret rfl (fun k => k)
            · refine am_J.go 2 rfl ?_
              refine am_J.calln (h' := fun r5 => hp (up A 82 r5.1) (up (up I 5184 r5.2.1) 5185 r5.2.2) x) rfl (fun r5 hw => (t_X10_become_81 A I x a2 a3 hw)) (fun r5 => ?_)
              refine am_J.go 1 rfl ?_
              exact am_J.ret rfl (fun k => k)
            · refine am_J.go 2 rfl ?_
              refine am_J.calln (h' := fun r6 => hp (up A 84 r6.1) (up (up I 5312 r6.2.1) 5313 r6.2.2) x) rfl (fun r6 hw => (t_X10_become_83 A I x a2 a3 hw)) (fun r6 => ?_)
              refine am_J.go 1 rfl ?_
              exact am_J.ret rfl (fun k => k)
          · refine am_J.go 1 rfl ?_
            exact am_J.ret rfl (fun k => k)
        · refine am_J.go 1 rfl ?_
          exact am_J.ret rfl (fun k => k)

def f_X8_findWord_l1 (A : Nat → List Int32) (I : Nat → Int32) (a1 : Int32) : (Int32) → Option ((Int32) ⊕ (Int32)) := fun s1 =>
    (if (I 3329) ≤ s1 then
      some (.inr s1)
    else
      ((am_at (A 53) s1).bind fun v2 =>
      ((f_X8_isLetter v2).bind fun r3 =>
      (if r3 = 0 then
        some (.inr s1)
      else
        some (.inl (s1 + 1))))))
def f_X8_findWord (A : Nat → List Int32) (I : Nat → Int32) (a1 : Int32) : Option (Int32 × (List Int32) × Int32) :=
  ((wl (f_X8_findWord_l1 A I a1) 100000 (I 3332)).bind (fun e4 =>
  ((am_at (A 55) a1).bind fun v5 =>
  ((f_X8_nameFrom A (up I 3332 e4) v5).bind fun r6 =>
  ((am_up (A 56) a1 r6).bind fun y7 =>
  ((am_at y7 a1).bind fun v8 =>
  (if 0 ≤ v8 then
    ((am_at (A 55) a1).bind fun v9 =>
    ((f_X8_keyFrom (up A 56 y7) (up I 3332 e4) v9).bind fun r10 =>
    some (r10, y7, e4)))
  else
    some (3, y7, e4))))))))
set_option maxRecDepth 100000 in
set_option maxHeartbeats 4000000 in
theorem t_X8_findWord {xs : List Int32} (A : Nat → List Int32) (I : Nat → Int32) (x : am_X) (a1 : Int32) {z : Int32 × (List Int32) × Int32} (hz : f_X8_findWord A I a1 = some z) : am_Rt (am_ro xs) 3 ix_X8_findWord [.ref 52, .int a1] (hp A I x) (some (.int z.1), hp (up A 56 z.2.1) (up I 3332 z.2.2) x) := by
  refine am_Rt.J (k := ix_X8_findWord) (M := mc_X8_findWord) (nL := 2) (d := 2) (as := [.ref 52, .int a1]) (res := fun z => (some (.int z.1), hp (up A 56 z.2.1) (up I 3332 z.2.2) x)) rfl (Nat.le_of_ble_eq_true rfl) (fun r => ?_) hz
  unfold f_X8_findWord
  refine am_J.go (cf' := (0, [some (.ref 52), some (.int a1)], [], hp A I x)) 0 rfl ?_
  refine am_J.weak (L' := [some (.ref 52), some (.int a1)]) (am_Lle.k (am_Lle.k am_Lle.nil)) ?_
  refine am_J.loop (cl := fun s1 => (0, [some (.ref 52), some (.int a1)], [], hp A (up I 3332 s1) x)) (GX := fun e4 => am_Ev (am_ro xs) 2 mc_X8_findWord (39, [some (.ref 52), some (.int a1)], [], hp A (up I 3332 e4) x) r) ?_ ?_
  · rintro s1
    unfold f_X8_findWord_l1
    refine am_J.go 4 rfl ?_
    refine am_J.ge rfl ?_ ?_
    · refine am_J.go (cf' := (39, [some (.ref 52), some (.int a1)], [], hp A (up I 3332 s1) x)) 0 rfl ?_
      exact am_J.leaf (fun k => am_Ev.weak (L' := [some (.ref 52), some (.int a1)]) (am_Lle.k (am_Lle.k am_Lle.nil)) k)
    · refine am_J.go 4 rfl ?_
      refine am_J.bal (xs := (A 53)) (t := 1) rfl (by decide) rfl (fun v2 => ?_)
      refine am_J.callz (v := fun r3 => r3) (h' := fun r3 => hp A (up I 3332 s1) x) rfl rfl rfl (fun r3 hw => (t_X8_isLetter (h := hp A (up I 3332 s1) x) v2 hw).mono (Nat.le_of_ble_eq_true rfl)) (fun r3 hr3 => ?_)
      refine am_J.eq rfl ?_ ?_
      · refine am_J.go (cf' := (39, [some (.ref 52), some (.int a1)], [], hp A (up I 3332 s1) x)) 0 rfl ?_
        exact am_J.leaf (fun k => am_Ev.weak (L' := [some (.ref 52), some (.int a1)]) (am_Lle.k (am_Lle.k am_Lle.nil)) k)
      · refine am_J.go (cf' := (0, [some (.ref 52), some (.int a1)], [], hp A (up I 3332 (s1 + 1)) x)) 7 rfl ?_
        exact am_J.leaf (fun k => am_Ev.weak (L' := [some (.ref 52), some (.int a1)]) (am_Lle.k (am_Lle.k am_Lle.nil)) k)
  · rintro e4
    refine (?_ : am_J (am_ro xs) 2 mc_X8_findWord r (39, [some (.ref 52), some (.int a1)], [], hp A (up I 3332 e4) x) _ _)
    refine am_J.go 7 rfl ?_
    refine am_J.ial (xs := (A 55)) rfl (Nat.le_of_ble_eq_true rfl) rfl (fun v5 => ?_)
    refine am_J.call (v := fun r6 => .int r6) (h' := fun r6 => hp A (up I 3332 e4) x) rfl (fun r6 hw => (t_X8_nameFrom A (up I 3332 e4) x v5 hw)) (fun r6 => ?_)
    refine am_J.ias (xs := (A 56)) (h' := fun y7 => hp (up A 56 y7) (up I 3332 e4) x) rfl rfl (fun _ => rfl) (fun y7 => ?_)
    refine am_J.go 3 rfl ?_
    refine am_J.ial (xs := y7) rfl (Nat.le_of_ble_eq_true rfl) rfl (fun v8 => ?_)
    refine am_J.ge rfl ?_ ?_
    · refine am_J.go 4 rfl ?_
      refine am_J.ial (xs := (A 55)) rfl (Nat.le_of_ble_eq_true rfl) rfl (fun v9 => ?_)
      refine am_J.call (v := fun r10 => .int r10) (h' := fun r10 => hp (up A 56 y7) (up I 3332 e4) x) rfl (fun r10 hw => (t_X8_keyFrom (up A 56 y7) (up I 3332 e4) x v9 hw)) (fun r10 => ?_)
      exact am_J.ret rfl (fun k => k)
    · refine am_J.go 2 rfl ?_
      exact am_J.ret rfl (fun k => k)
