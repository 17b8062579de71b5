/-! ===== methods as functions (by wip/whole/dec2.py) ===== -/
def f_X8_findToken (A : Nat → List Int32) (I : Nat → Int32) (a1 : Int32) : Option (Int32 × (List Int32) × Int32) :=
  (if (I 3332) < (I 3329) then
    ((am_at (A 53) (I 3332)).bind fun v1 =>
    ((f_X8_isLetter v1).bind fun r2 =>
    (if r2 = 0 then
      ((am_at (A 53) (I 3332)).bind fun v3 =>
      ((f_X8_isDigit v3).bind fun r4 =>
      (if r4 = 0 then
        ((am_at (A 53) (I 3332)).bind fun v5 =>
        ((f_X8_isSign v5).bind fun r6 =>
        (if r6 = 0 then
          some (1, (A 56), ((I 3332) + 1))
        else
          some (v5, (A 56), ((I 3332) + 1)))))
      else
        ((f_X8_findNumber A I a1).bind fun r7 =>
        some (r7.1, r7.2.1, r7.2.2)))))
    else
      ((f_X8_findWord A I a1).bind fun r8 =>
      some (r8.1, r8.2.1, r8.2.2)))))
  else
    some (0, (A 56), (I 3332)))
set_option maxRecDepth 100000 in
set_option maxHeartbeats 4000000 in
theorem t_X8_findToken {xs : List Int32} (A : Nat → List Int32) (I : Nat → Int32) (x : am_X) (a1 : Int32) {z : Int32 × (List Int32) × Int32} (hz : f_X8_findToken A I a1 = some z) : am_Rt (am_ro xs) 4 ix_X8_findToken [.ref 52, .int a1] (hp A I x) (some (.int z.1), hp (up A 56 z.2.1) (up I 3332 z.2.2) x) := by
  refine am_Rt.J (k := ix_X8_findToken) (M := mc_X8_findToken) (nL := 3) (d := 3) (as := [.ref 52, .int a1]) (res := fun z => (some (.int z.1), hp (up A 56 z.2.1) (up I 3332 z.2.2) x)) rfl (Nat.le_of_ble_eq_true rfl) (fun r => ?_) hz
  unfold f_X8_findToken
  refine am_J.go 4 rfl ?_
  refine am_J.lt rfl ?_ ?_
  · refine am_J.go 4 rfl ?_
    refine am_J.bal (xs := (A 53)) (t := 1) rfl (by decide) rfl (fun v1 => ?_)
    refine am_J.callz (v := fun r2 => r2) (h' := fun r2 => hp A I x) rfl rfl rfl (fun r2 hw => (t_X8_isLetter (h := hp A I x) v1 hw).mono (Nat.le_of_ble_eq_true rfl)) (fun r2 hr2 => ?_)
    refine am_J.eq rfl ?_ ?_
    · refine am_J.go 4 rfl ?_
      refine am_J.bal (xs := (A 53)) (t := 1) rfl (by decide) rfl (fun v3 => ?_)
      refine am_J.callz (v := fun r4 => r4) (h' := fun r4 => hp A I x) rfl rfl rfl (fun r4 hw => (t_X8_isDigit (h := hp A I x) v3 hw).mono (Nat.le_of_ble_eq_true rfl)) (fun r4 hr4 => ?_)
      refine am_J.eq rfl ?_ ?_
      · refine am_J.go 9 rfl ?_
        refine am_J.bal (xs := (A 53)) (t := 1) rfl (by decide) rfl (fun v5 => ?_)
        refine am_J.go 2 rfl ?_
        refine am_J.callz (v := fun r6 => r6) (h' := fun r6 => hp A (up I 3332 ((I 3332) + 1)) x) rfl rfl rfl (fun r6 hw => (t_X8_isSign (h := hp A (up I 3332 ((I 3332) + 1)) x) v5 hw).mono (Nat.le_of_ble_eq_true rfl)) (fun r6 hr6 => ?_)
        refine am_J.eq rfl ?_ ?_
        · refine am_J.go 1 rfl ?_
          exact am_J.ret rfl (fun k => k)
        · refine am_J.go 2 rfl ?_
          exact am_J.ret rfl (fun k => k)
      · refine am_J.go 2 rfl ?_
        refine am_J.call (v := fun r7 => .int r7.1) (h' := fun r7 => hp (up A 56 r7.2.1) (up I 3332 r7.2.2) x) rfl (fun r7 hw => (t_X8_findNumber A I x a1 hw).mono (Nat.le_of_ble_eq_true rfl)) (fun r7 => ?_)
        exact am_J.ret rfl (fun k => k)
    · refine am_J.go 2 rfl ?_
      refine am_J.call (v := fun r8 => .int r8.1) (h' := fun r8 => hp (up A 56 r8.2.1) (up I 3332 r8.2.2) x) rfl (fun r8 hw => (t_X8_findWord A I x a1 hw)) (fun r8 => ?_)
      exact am_J.ret rfl (fun k => k)
  · refine am_J.go 1 rfl ?_
    exact am_J.ret rfl (fun k => k)

def f_X8_findTokens_l1 (A : Nat → List Int32) (I : Nat → Int32) : (Int32 × (List Int32) × (List Int32) × (List Int32) × Int32) → Option ((Int32 × (List Int32) × (List Int32) × (List Int32) × Int32) ⊕ (((List Int32) × (List Int32) × (List Int32) × Int32) ⊕ ((List Int32) × (List Int32) × (List Int32) × Int32))) := fun q => match q with
    | (s1, s2, s3, s4, s5) =>
    (if 160 < s1 then
      some (.inr (.inl (s2, s3, s4, s5)))
    else
      ((f_X8_skipBlanks (up (up (up A 54 s2) 55 s3) 56 s4) (up I 3332 s5)).bind fun r6 =>
      ((am_up s3 s1 r6).bind fun y7 =>
      ((f_X8_findToken (up (up (up A 54 s2) 55 y7) 56 s4) (up I 3332 r6) s1).bind fun r8 =>
      ((am_up s2 s1 r8.1).bind fun y9 =>
      ((am_at y9 s1).bind fun v10 =>
      (if v10 = 0 then
        some (.inr (.inr (y9, y7, r8.2.1, r8.2.2)))
      else
        ((am_at y9 s1).bind fun v11 =>
        (if v11 = 1 then
          some (.inr (.inr (y9, y7, r8.2.1, r8.2.2)))
        else
          some (.inl ((s1 + 1), y9, y7, r8.2.1, r8.2.2)))))))))))
def f_X8_findTokens (A : Nat → List Int32) (I : Nat → Int32) : Option ((List Int32) × (List Int32) × (List Int32) × Int32) :=
  ((wl (f_X8_findTokens_l1 A (up I 3332 0)) 100000 (0, (A 54), (A 55), (A 56), 0)).bind (fun q => match q with
  | .inl (e12, e13, e14, e15) =>
  some (e12, e13, e14, e15)
  | .inr v => some v))
set_option maxRecDepth 100000 in
set_option maxHeartbeats 4000000 in
theorem t_X8_findTokens {xs : List Int32} (A : Nat → List Int32) (I : Nat → Int32) (x : am_X) {z : (List Int32) × (List Int32) × (List Int32) × Int32} (hz : f_X8_findTokens A I = some z) : am_Rt (am_ro xs) 5 ix_X8_findTokens [.ref 52] (hp A I x) (none, hp (up (up (up A 54 z.1) 55 z.2.1) 56 z.2.2.1) (up I 3332 z.2.2.2) x) := by
  refine am_Rt.J (k := ix_X8_findTokens) (M := mc_X8_findTokens) (nL := 2) (d := 4) (as := [.ref 52]) (res := fun z => (none, hp (up (up (up A 54 z.1) 55 z.2.1) 56 z.2.2.1) (up I 3332 z.2.2.2) x)) rfl (Nat.le_of_ble_eq_true rfl) (fun r => ?_) hz
  unfold f_X8_findTokens
  refine am_J.go (cf' := (7, [some (.ref 52), some (.int 0)], [], hp A (up I 3332 0) x)) 5 rfl ?_
  refine am_J.weak (L' := [some (.ref 52), some (.int 0)]) (am_Lle.k (am_Lle.k am_Lle.nil)) ?_
  refine am_J.loop (cl := fun q => match q with | (s1, s2, s3, s4, s5) => (7, [some (.ref 52), some (.int s1)], [], hp (up (up (up A 54 s2) 55 s3) 56 s4) (up I 3332 s5) x)) (GX := fun q => Sum.elim (fun q => match q with | (e12, e13, e14, e15) => am_Ev (am_ro xs) 4 mc_X8_findTokens (65, [none, none], [], hp (up (up (up A 54 e12) 55 e13) 56 e14) (up I 3332 e15) x) r) (fun (z : (List Int32) × (List Int32) × (List Int32) × Int32) => r = (none, hp (up (up (up A 54 z.1) 55 z.2.1) 56 z.2.2.1) (up I 3332 z.2.2.2) x)) q) ?_ ?_
  · rintro ⟨s1, s2, s3, s4, s5⟩
    unfold f_X8_findTokens_l1
    refine am_J.go 2 rfl ?_
    refine am_J.gt rfl ?_ ?_
    · refine am_J.go (cf' := (65, [some (.ref 52), some (.int s1)], [], hp (up (up (up A 54 s2) 55 s3) 56 s4) (up (up I 3332 0) 3332 s5) x)) 0 rfl ?_
      exact am_J.leaf (fun k => am_Ev.weak (L' := [none, none]) (am_Lle.o (am_Lle.o am_Lle.nil)) k)
    · refine am_J.go 1 rfl ?_
      refine am_J.calln (h' := fun r6 => hp (up (up (up A 54 s2) 55 s3) 56 s4) (up (up I 3332 0) 3332 r6) x) rfl (fun r6 hw => (t_X8_skipBlanks (up (up (up A 54 s2) 55 s3) 56 s4) (up (up I 3332 0) 3332 s5) x hw).mono (Nat.le_of_ble_eq_true rfl)) (fun r6 => ?_)
      refine am_J.go 5 rfl ?_
      refine am_J.ias (xs := s3) (h' := fun y7 => hp (up (up (up A 54 s2) 55 y7) 56 s4) (up (up I 3332 0) 3332 r6) x) rfl rfl (fun _ => rfl) (fun y7 => ?_)
      refine am_J.go 5 rfl ?_
      refine am_J.call (v := fun r8 => .int r8.1) (h' := fun r8 => hp (up (up (up A 54 s2) 55 y7) 56 r8.2.1) (up (up I 3332 0) 3332 r8.2.2) x) rfl (fun r8 hw => (t_X8_findToken (up (up (up A 54 s2) 55 y7) 56 s4) (up (up I 3332 0) 3332 r6) x s1 hw)) (fun r8 => ?_)
      refine am_J.ias (xs := s2) (h' := fun y9 => hp (up (up (up A 54 y9) 55 y7) 56 r8.2.1) (up (up I 3332 0) 3332 r8.2.2) x) rfl rfl (fun _ => rfl) (fun y9 => ?_)
      refine am_J.go 3 rfl ?_
      refine am_J.ial (xs := y9) rfl (Nat.le_of_ble_eq_true rfl) rfl (fun v10 => ?_)
      refine am_J.eq rfl ?_ ?_
      · exact am_J.ret rfl (fun k => k)
      · refine am_J.go 3 rfl ?_
        refine am_J.ial (xs := y9) rfl (Nat.le_of_ble_eq_true rfl) rfl (fun v11 => ?_)
        refine am_J.go 1 rfl ?_
        refine am_J.ne rfl ?_ ?_
        · exact am_J.ret rfl (fun k => k)
        · refine am_J.go (cf' := (7, [some (.ref 52), some (.int (s1 + 1))], [], hp (up (up (up A 54 y9) 55 y7) 56 r8.2.1) (up (up I 3332 0) 3332 r8.2.2) x)) 2 rfl ?_
          exact am_J.leaf (fun k => am_Ev.weak (L' := [some (.ref 52), some (.int (s1 + 1))]) (am_Lle.k (am_Lle.k am_Lle.nil)) k)
  · intro q
    rcases q with ⟨e12, e13, e14, e15⟩ | v
    · refine (?_ : am_J (am_ro xs) 4 mc_X8_findTokens r (65, [none, none], [], hp (up (up (up A 54 e12) 55 e13) 56 e14) (up I 3332 e15) x) _ _)
      exact am_J.ret rfl (fun k => k)
    · intro z hz hk
      cases hz
      exact hk

def f_X10_isMissing_83 (A : Nat → List Int32) (I : Nat → Int32) : Option (Int32) :=
  (if (I 5312) = (-1) then
    some 1
  else
    some 0)
set_option maxRecDepth 100000 in
set_option maxHeartbeats 4000000 in
theorem t_X10_isMissing_83 {xs : List Int32} (A : Nat → List Int32) (I : Nat → Int32) (x : am_X) {z : Int32} (hz : f_X10_isMissing_83 A I = some z) : am_Rt (am_ro xs) 1 ix_X10_isMissing [.ref 83] (hp A I x) (some (.int z), hp A I x) := by
  refine am_Rt.J (k := ix_X10_isMissing) (M := mc_X10_isMissing) (nL := 1) (d := 0) (as := [.ref 83]) (res := fun z => (some (.int z), hp A I x)) rfl (Nat.le_of_ble_eq_true rfl) (fun r => ?_) hz
  unfold f_X10_isMissing_83
  refine am_J.go 3 rfl ?_
  refine am_J.ne rfl ?_ ?_
  · refine am_J.go 2 rfl ?_
    exact am_J.retz rfl (Or.inr rfl) (fun k => k)
  · refine am_J.go 1 rfl ?_
    exact am_J.retz rfl (Or.inl rfl) (fun k => k)

def f_X10_holds_83 (A : Nat → List Int32) (I : Nat → Int32) (a1 : Int32) (a2 : Int32) : Option (Int32) :=
  (if a1 < 0 then
    some 0
  else
    (if a2 < 0 then
      some 0
    else
      (if (I 5313) < a2 then
        some 0
      else
        (if ((I 5313) - a2) < a1 then
          some 0
        else
          some 1))))
set_option maxRecDepth 100000 in
set_option maxHeartbeats 4000000 in
theorem t_X10_holds_83 {xs : List Int32} (A : Nat → List Int32) (I : Nat → Int32) (x : am_X) (a1 : Int32) (a2 : Int32) {z : Int32} (hz : f_X10_holds_83 A I a1 a2 = some z) : am_Rt (am_ro xs) 1 ix_X10_holds [.ref 83, .int a1, .int a2] (hp A I x) (some (.int z), hp A I x) := by
  refine am_Rt.J (k := ix_X10_holds) (M := mc_X10_holds) (nL := 3) (d := 0) (as := [.ref 83, .int a1, .int a2]) (res := fun z => (some (.int z), hp A I x)) rfl (Nat.le_of_ble_eq_true rfl) (fun r => ?_) hz
  unfold f_X10_holds_83
  refine am_J.go 1 rfl ?_
  refine am_J.lt rfl ?_ ?_
  · refine am_J.go 1 rfl ?_
    exact am_J.retz rfl (Or.inl rfl) (fun k => k)
  · refine am_J.go 1 rfl ?_
    refine am_J.lt rfl ?_ ?_
    · refine am_J.go 1 rfl ?_
      exact am_J.retz rfl (Or.inl rfl) (fun k => k)
    · refine am_J.go 3 rfl ?_
      refine am_J.gt rfl ?_ ?_
      · refine am_J.go 1 rfl ?_
        exact am_J.retz rfl (Or.inl rfl) (fun k => k)
      · refine am_J.go 5 rfl ?_
        refine am_J.gt rfl ?_ ?_
        · refine am_J.go 1 rfl ?_
          exact am_J.retz rfl (Or.inl rfl) (fun k => k)
        · refine am_J.go 2 rfl ?_
          exact am_J.retz rfl (Or.inr rfl) (fun k => k)

def f_X10_put_83 (A : Nat → List Int32) (I : Nat → Int32) (a1 : Int32) (a2 : Int32) : Option ((List Int32)) :=
  (((if (I 5312) = 0 then
      some (Int8.toInt32 (Int32.toInt8 a2))
    else
      (if (I 5312) = 1 then
        some (Int16.toInt32 (Int32.toInt16 a2))
      else
        some a2)) : Option (Int32)).bind (fun j1 =>
  ((am_up (A 84) a1 j1).bind fun y2 =>
  some y2)))
set_option maxRecDepth 100000 in
set_option maxHeartbeats 4000000 in
theorem t_X10_put_83 {xs : List Int32} (A : Nat → List Int32) (I : Nat → Int32) (x : am_X) (a1 : Int32) (a2 : Int32) {z : (List Int32)} (hz : f_X10_put_83 A I a1 a2 = some z) : am_Rt (am_ro xs) 1 ix_X10_put [.ref 83, .int a1, .int a2] (hp A I x) (none, hp (up A 84 z) I x) := by
  refine am_Rt.J (k := ix_X10_put) (M := mc_X10_put) (nL := 3) (d := 0) (as := [.ref 83, .int a1, .int a2]) (res := fun z => (none, hp (up A 84 z) I x)) rfl (Nat.le_of_ble_eq_true rfl) (fun r => ?_) hz
  unfold f_X10_put_83
  refine am_J.go 5 rfl ?_
  refine am_J.join (β := Int32) (cj := fun j1 => (31, [none, none, none], [.int j1, .int a1, .ref 84], hp A I x)) ?_ ?_
  · refine am_J.ne rfl ?_ ?_
    · refine am_J.go (cf' := (31, [some (.ref 83), some (.int a1), some (.int a2)], [.int (Int8.toInt32 (Int32.toInt8 a2)), .int a1, .ref 84], hp A I x)) 3 rfl ?_
      exact am_J.leaf (fun k => am_Ev.weak (L' := [none, none, none]) (am_Lle.o (am_Lle.o (am_Lle.o am_Lle.nil))) k)
    · refine am_J.go 3 rfl ?_
      refine am_J.ne rfl ?_ ?_
      · refine am_J.go (cf' := (31, [some (.ref 83), some (.int a1), some (.int a2)], [.int (Int16.toInt32 (Int32.toInt16 a2)), .int a1, .ref 84], hp A I x)) 3 rfl ?_
        exact am_J.leaf (fun k => am_Ev.weak (L' := [none, none, none]) (am_Lle.o (am_Lle.o (am_Lle.o am_Lle.nil))) k)
      · refine am_J.go (cf' := (31, [some (.ref 83), some (.int a1), some (.int a2)], [.int a2, .int a1, .ref 84], hp A I x)) 1 rfl ?_
        exact am_J.leaf (fun k => am_Ev.weak (L' := [none, none, none]) (am_Lle.o (am_Lle.o (am_Lle.o am_Lle.nil))) k)
  · rintro j1
    refine am_J.ias (xs := (A 84)) (h' := fun y2 => hp (up A 84 y2) I x) rfl rfl (fun _ => rfl) (fun y2 => ?_)
    exact am_J.ret rfl (fun k => k)

def f_X11_cell (A : Nat → List Int32) (I : Nat → Int32) (a1 : Int32) (a2 : Int32) (a3 : Int32) : Option (Int32 × (List Int32) × (List Int32) × (List Int32) × (List Int32)) :=
  ((f_X11_isSheet a1).bind fun r1 =>
  (if r1 = 0 then
    some ((-2), (A 78), (A 80), (A 82), (A 84))
  else
    (if a1 = 0 then
      ((f_X10_isMissing_77 A I).bind fun r2 =>
      (if r2 = 0 then
        ((f_X11_isWithin a2 0 ((I 4929) - 1)).bind fun r3 =>
        (if r3 = 0 then
          some ((-12), (A 78), (A 80), (A 82), (A 84))
        else
          ((f_X10_put_77 A I a2 a3).bind fun r4 =>
          some (1, r4, (A 80), (A 82), (A 84)))))
      else
        some ((-11), (A 78), (A 80), (A 82), (A 84))))
    else
    (if a1 = 1 then
      ((f_X10_isMissing_79 A I).bind fun r5 =>
      (if r5 = 0 then
        ((f_X11_isWithin a2 0 ((I 5057) - 1)).bind fun r6 =>
        (if r6 = 0 then
          some ((-12), (A 78), (A 80), (A 82), (A 84))
        else
          ((f_X10_put_79 A I a2 a3).bind fun r7 =>
          some (1, (A 78), r7, (A 82), (A 84)))))
      else
        some ((-11), (A 78), (A 80), (A 82), (A 84))))
    else
    (if a1 = 2 then
      ((f_X10_isMissing_81 A I).bind fun r8 =>
      (if r8 = 0 then
        ((f_X11_isWithin a2 0 ((I 5185) - 1)).bind fun r9 =>
        (if r9 = 0 then
          some ((-12), (A 78), (A 80), (A 82), (A 84))
        else
          ((f_X10_put_81 A I a2 a3).bind fun r10 =>
          some (1, (A 78), (A 80), r10, (A 84)))))
      else
        some ((-11), (A 78), (A 80), (A 82), (A 84))))
    else
    (if a1 = 3 then
      ((f_X10_isMissing_83 A I).bind fun r11 =>
      (if r11 = 0 then
        ((f_X11_isWithin a2 0 ((I 5313) - 1)).bind fun r12 =>
        (if r12 = 0 then
          some ((-12), (A 78), (A 80), (A 82), (A 84))
        else
          ((f_X10_put_83 A I a2 a3).bind fun r13 =>
          some (1, (A 78), (A 80), (A 82), r13))))
      else
        some ((-11), (A 78), (A 80), (A 82), (A 84))))
    else
    none))))))
set_option maxRecDepth 100000 in
set_option maxHeartbeats 4000000 in
theorem t_X11_cell {xs : List Int32} (A : Nat → List Int32) (I : Nat → Int32) (x : am_X) (a1 : Int32) (a2 : Int32) (a3 : Int32) {z : Int32 × (List Int32) × (List Int32) × (List Int32) × (List Int32)} (hz : f_X11_cell A I a1 a2 a3 = some z) : am_Rt (am_ro xs) 3 ix_X11_cell [.ref 0, .int a1, .int a2, .int a3] (hp A I x) (some (.int z.1), hp (up (up (up (up A 78 z.2.1) 80 z.2.2.1) 82 z.2.2.2.1) 84 z.2.2.2.2) I x) := by
  refine am_Rt.J (k := ix_X11_cell) (M := mc_X11_cell) (nL := 5) (d := 2) (as := [.ref 0, .int a1, .int a2, .int a3]) (res := fun z => (some (.int z.1), hp (up (up (up (up A 78 z.2.1) 80 z.2.2.1) 82 z.2.2.2.1) 84 z.2.2.2.2) I x)) rfl (Nat.le_of_ble_eq_true rfl) (fun r => ?_) hz
  unfold f_X11_cell
  refine am_J.go 1 rfl ?_
  refine am_J.callz (v := fun r1 => r1) (h' := fun r1 => hp A I x) rfl rfl rfl (fun r1 hw => (t_X11_isSheet (h := hp A I x) a1 hw)) (fun r1 hr1 => ?_)
  refine am_J.ne rfl ?_ ?_
  · refine am_J.go 1 rfl ?_
    exact am_J.ret rfl (fun k => k)
  · refine am_J.go 3 rfl ?_
    refine am_J.sel rfl rfl ?_ ?_ ?_ ?_
    · refine am_J.go 2 rfl ?_
      refine am_J.callz (v := fun r2 => r2) (h' := fun r2 => hp A I x) rfl rfl rfl (fun r2 hw => (t_X10_isMissing_77 A I x hw).mono (Nat.le_of_ble_eq_true rfl)) (fun r2 hr2 => ?_)
      refine am_J.eq rfl ?_ ?_
      · refine am_J.go 6 rfl ?_
        refine am_J.callz (v := fun r3 => r3) (h' := fun r3 => hp A I x) rfl rfl rfl (fun r3 hw => (t_X11_isWithin (h := hp A I x) a2 0 ((I 4929) - 1) hw).mono (Nat.le_of_ble_eq_true rfl)) (fun r3 hr3 => ?_)
        refine am_J.ne rfl ?_ ?_
        · refine am_J.go 1 rfl ?_
          exact am_J.ret rfl (fun k => k)
        · refine am_J.go 3 rfl ?_
          refine am_J.calln (h' := fun r4 => hp (up A 78 r4) I x) rfl (fun r4 hw => (t_X10_put_77 A I x a2 a3 hw).mono (Nat.le_of_ble_eq_true rfl)) (fun r4 => ?_)
          refine am_J.go 1 rfl ?_
          exact am_J.ret rfl (fun k => k)
      · refine am_J.go 1 rfl ?_
        exact am_J.ret rfl (fun k => k)
    · refine am_J.go 2 rfl ?_
      refine am_J.callz (v := fun r5 => r5) (h' := fun r5 => hp A I x) rfl rfl rfl (fun r5 hw => (t_X10_isMissing_79 A I x hw).mono (Nat.le_of_ble_eq_true rfl)) (fun r5 hr5 => ?_)
      refine am_J.eq rfl ?_ ?_
      · refine am_J.go 6 rfl ?_
        refine am_J.callz (v := fun r6 => r6) (h' := fun r6 => hp A I x) rfl rfl rfl (fun r6 hw => (t_X11_isWithin (h := hp A I x) a2 0 ((I 5057) - 1) hw).mono (Nat.le_of_ble_eq_true rfl)) (fun r6 hr6 => ?_)
        refine am_J.ne rfl ?_ ?_
        · refine am_J.go 1 rfl ?_
          exact am_J.ret rfl (fun k => k)
        · refine am_J.go 3 rfl ?_
          refine am_J.calln (h' := fun r7 => hp (up A 80 r7) I x) rfl (fun r7 hw => (t_X10_put_79 A I x a2 a3 hw).mono (Nat.le_of_ble_eq_true rfl)) (fun r7 => ?_)
          refine am_J.go 1 rfl ?_
          exact am_J.ret rfl (fun k => k)
      · refine am_J.go 1 rfl ?_
        exact am_J.ret rfl (fun k => k)
    · refine am_J.go 2 rfl ?_
      refine am_J.callz (v := fun r8 => r8) (h' := fun r8 => hp A I x) rfl rfl rfl (fun r8 hw => (t_X10_isMissing_81 A I x hw).mono (Nat.le_of_ble_eq_true rfl)) (fun r8 hr8 => ?_)
      refine am_J.eq rfl ?_ ?_
      · refine am_J.go 6 rfl ?_
        refine am_J.callz (v := fun r9 => r9) (h' := fun r9 => hp A I x) rfl rfl rfl (fun r9 hw => (t_X11_isWithin (h := hp A I x) a2 0 ((I 5185) - 1) hw).mono (Nat.le_of_ble_eq_true rfl)) (fun r9 hr9 => ?_)
        refine am_J.ne rfl ?_ ?_
        · refine am_J.go 1 rfl ?_
          exact am_J.ret rfl (fun k => k)
        · refine am_J.go 3 rfl ?_
          refine am_J.calln (h' := fun r10 => hp (up A 82 r10) I x) rfl (fun r10 hw => (t_X10_put_81 A I x a2 a3 hw).mono (Nat.le_of_ble_eq_true rfl)) (fun r10 => ?_)
          refine am_J.go 1 rfl ?_
          exact am_J.ret rfl (fun k => k)
      · refine am_J.go 1 rfl ?_
        exact am_J.ret rfl (fun k => k)
    · refine am_J.go 2 rfl ?_
      refine am_J.callz (v := fun r11 => r11) (h' := fun r11 => hp A I x) rfl rfl rfl (fun r11 hw => (t_X10_isMissing_83 A I x hw).mono (Nat.le_of_ble_eq_true rfl)) (fun r11 hr11 => ?_)
      refine am_J.eq rfl ?_ ?_
      · refine am_J.go 6 rfl ?_
        refine am_J.callz (v := fun r12 => r12) (h' := fun r12 => hp A I x) rfl rfl rfl (fun r12 hw => (t_X11_isWithin (h := hp A I x) a2 0 ((I 5313) - 1) hw).mono (Nat.le_of_ble_eq_true rfl)) (fun r12 hr12 => ?_)
        refine am_J.ne rfl ?_ ?_
        · refine am_J.go 1 rfl ?_
          exact am_J.ret rfl (fun k => k)
        · refine am_J.go 3 rfl ?_
          refine am_J.calln (h' := fun r13 => hp (up A 84 r13) I x) rfl (fun r13 hw => (t_X10_put_83 A I x a2 a3 hw).mono (Nat.le_of_ble_eq_true rfl)) (fun r13 => ?_)
          refine am_J.go 1 rfl ?_
          exact am_J.ret rfl (fun k => k)
      · refine am_J.go 1 rfl ?_
        exact am_J.ret rfl (fun k => k)

def f_X11_copy (A : Nat → List Int32) (I : Nat → Int32) (a1 : Int32) (a2 : Int32) (a3 : Int32) (a4 : Int32) (a5 : Int32) : Option (Int32 × (List Int32) × (List Int32) × (List Int32) × (List Int32)) :=
  ((f_X11_isSheet a1).bind fun r1 =>
  (if r1 = 0 then
    some ((-2), (A 78), (A 80), (A 82), (A 84))
  else
    ((f_X11_isSheet a3).bind fun r2 =>
    (if r2 = 0 then
      some ((-2), (A 78), (A 80), (A 82), (A 84))
    else
      (if a1 = 0 then
        (if a3 = 0 then
          ((f_X10_isMissing_77 A I).bind fun r3 =>
          (if r3 = 0 then
            ((f_X10_isMissing_77 A I).bind fun r4 =>
            (if r4 = 0 then
              (if (I 4928) = (I 4928) then
                ((f_X10_holds_77 A I a2 a5).bind fun r5 =>
                (if r5 = 0 then
                  some ((-12), (A 78), (A 80), (A 82), (A 84))
                else
                  ((f_X10_holds_77 A I a4 a5).bind fun r6 =>
                  (if r6 = 0 then
                    some ((-12), (A 78), (A 80), (A 82), (A 84))
                  else
                    ((am_acq (A 78) (A 78) a2 a4 a5).bind fun y7 =>
                    some (a5, y7, (A 80), (A 82), (A 84)))))))
              else
                some ((-13), (A 78), (A 80), (A 82), (A 84)))
            else
              some ((-11), (A 78), (A 80), (A 82), (A 84))))
          else
            some ((-11), (A 78), (A 80), (A 82), (A 84))))
        else
        (if a3 = 1 then
          ((f_X10_isMissing_77 A I).bind fun r8 =>
          (if r8 = 0 then
            ((f_X10_isMissing_79 A I).bind fun r9 =>
            (if r9 = 0 then
              (if (I 4928) = (I 5056) then
                ((f_X10_holds_77 A I a2 a5).bind fun r10 =>
                (if r10 = 0 then
                  some ((-12), (A 78), (A 80), (A 82), (A 84))
                else
                  ((f_X10_holds_79 A I a4 a5).bind fun r11 =>
                  (if r11 = 0 then
                    some ((-12), (A 78), (A 80), (A 82), (A 84))
                  else
                    ((am_acq (A 78) (A 80) a2 a4 a5).bind fun y12 =>
                    some (a5, (A 78), y12, (A 82), (A 84)))))))
              else
                some ((-13), (A 78), (A 80), (A 82), (A 84)))
            else
              some ((-11), (A 78), (A 80), (A 82), (A 84))))
          else
            some ((-11), (A 78), (A 80), (A 82), (A 84))))
        else
        (if a3 = 2 then
          ((f_X10_isMissing_77 A I).bind fun r13 =>
          (if r13 = 0 then
            ((f_X10_isMissing_81 A I).bind fun r14 =>
            (if r14 = 0 then
              (if (I 4928) = (I 5184) then
                ((f_X10_holds_77 A I a2 a5).bind fun r15 =>
                (if r15 = 0 then
                  some ((-12), (A 78), (A 80), (A 82), (A 84))
                else
                  ((f_X10_holds_81 A I a4 a5).bind fun r16 =>
                  (if r16 = 0 then
                    some ((-12), (A 78), (A 80), (A 82), (A 84))
                  else
                    ((am_acq (A 78) (A 82) a2 a4 a5).bind fun y17 =>
                    some (a5, (A 78), (A 80), y17, (A 84)))))))
              else
                some ((-13), (A 78), (A 80), (A 82), (A 84)))
            else
              some ((-11), (A 78), (A 80), (A 82), (A 84))))
          else
            some ((-11), (A 78), (A 80), (A 82), (A 84))))
        else
        (if a3 = 3 then
          ((f_X10_isMissing_77 A I).bind fun r18 =>
          (if r18 = 0 then
            ((f_X10_isMissing_83 A I).bind fun r19 =>
            (if r19 = 0 then
              (if (I 4928) = (I 5312) then
                ((f_X10_holds_77 A I a2 a5).bind fun r20 =>
                (if r20 = 0 then
                  some ((-12), (A 78), (A 80), (A 82), (A 84))
                else
                  ((f_X10_holds_83 A I a4 a5).bind fun r21 =>
                  (if r21 = 0 then
                    some ((-12), (A 78), (A 80), (A 82), (A 84))
                  else
                    ((am_acq (A 78) (A 84) a2 a4 a5).bind fun y22 =>
                    some (a5, (A 78), (A 80), (A 82), y22))))))
              else
                some ((-13), (A 78), (A 80), (A 82), (A 84)))
            else
              some ((-11), (A 78), (A 80), (A 82), (A 84))))
          else
            some ((-11), (A 78), (A 80), (A 82), (A 84))))
        else
        none))))
      else
      (if a1 = 1 then
        (if a3 = 0 then
          ((f_X10_isMissing_79 A I).bind fun r23 =>
          (if r23 = 0 then
            ((f_X10_isMissing_77 A I).bind fun r24 =>
            (if r24 = 0 then
              (if (I 5056) = (I 4928) then
                ((f_X10_holds_79 A I a2 a5).bind fun r25 =>
                (if r25 = 0 then
                  some ((-12), (A 78), (A 80), (A 82), (A 84))
                else
                  ((f_X10_holds_77 A I a4 a5).bind fun r26 =>
                  (if r26 = 0 then
                    some ((-12), (A 78), (A 80), (A 82), (A 84))
                  else
                    ((am_acq (A 80) (A 78) a2 a4 a5).bind fun y27 =>
                    some (a5, y27, (A 80), (A 82), (A 84)))))))
              else
                some ((-13), (A 78), (A 80), (A 82), (A 84)))
            else
              some ((-11), (A 78), (A 80), (A 82), (A 84))))
          else
            some ((-11), (A 78), (A 80), (A 82), (A 84))))
        else
        (if a3 = 1 then
          ((f_X10_isMissing_79 A I).bind fun r28 =>
          (if r28 = 0 then
            ((f_X10_isMissing_79 A I).bind fun r29 =>
            (if r29 = 0 then
              (if (I 5056) = (I 5056) then
                ((f_X10_holds_79 A I a2 a5).bind fun r30 =>
                (if r30 = 0 then
                  some ((-12), (A 78), (A 80), (A 82), (A 84))
                else
                  ((f_X10_holds_79 A I a4 a5).bind fun r31 =>
                  (if r31 = 0 then
                    some ((-12), (A 78), (A 80), (A 82), (A 84))
                  else
                    ((am_acq (A 80) (A 80) a2 a4 a5).bind fun y32 =>
                    some (a5, (A 78), y32, (A 82), (A 84)))))))
              else
                some ((-13), (A 78), (A 80), (A 82), (A 84)))
            else
              some ((-11), (A 78), (A 80), (A 82), (A 84))))
          else
            some ((-11), (A 78), (A 80), (A 82), (A 84))))
        else
        (if a3 = 2 then
          ((f_X10_isMissing_79 A I).bind fun r33 =>
          (if r33 = 0 then
            ((f_X10_isMissing_81 A I).bind fun r34 =>
            (if r34 = 0 then
              (if (I 5056) = (I 5184) then
                ((f_X10_holds_79 A I a2 a5).bind fun r35 =>
                (if r35 = 0 then
                  some ((-12), (A 78), (A 80), (A 82), (A 84))
                else
                  ((f_X10_holds_81 A I a4 a5).bind fun r36 =>
                  (if r36 = 0 then
                    some ((-12), (A 78), (A 80), (A 82), (A 84))
                  else
                    ((am_acq (A 80) (A 82) a2 a4 a5).bind fun y37 =>
                    some (a5, (A 78), (A 80), y37, (A 84)))))))
              else
                some ((-13), (A 78), (A 80), (A 82), (A 84)))
            else
              some ((-11), (A 78), (A 80), (A 82), (A 84))))
          else
            some ((-11), (A 78), (A 80), (A 82), (A 84))))
        else
        (if a3 = 3 then
          ((f_X10_isMissing_79 A I).bind fun r38 =>
          (if r38 = 0 then
            ((f_X10_isMissing_83 A I).bind fun r39 =>
            (if r39 = 0 then
              (if (I 5056) = (I 5312) then
                ((f_X10_holds_79 A I a2 a5).bind fun r40 =>
                (if r40 = 0 then
                  some ((-12), (A 78), (A 80), (A 82), (A 84))
                else
                  ((f_X10_holds_83 A I a4 a5).bind fun r41 =>
                  (if r41 = 0 then
                    some ((-12), (A 78), (A 80), (A 82), (A 84))
                  else
                    ((am_acq (A 80) (A 84) a2 a4 a5).bind fun y42 =>
                    some (a5, (A 78), (A 80), (A 82), y42))))))
              else
                some ((-13), (A 78), (A 80), (A 82), (A 84)))
            else
              some ((-11), (A 78), (A 80), (A 82), (A 84))))
          else
            some ((-11), (A 78), (A 80), (A 82), (A 84))))
        else
        none))))
      else
      (if a1 = 2 then
        (if a3 = 0 then
          ((f_X10_isMissing_81 A I).bind fun r43 =>
          (if r43 = 0 then
            ((f_X10_isMissing_77 A I).bind fun r44 =>
            (if r44 = 0 then
              (if (I 5184) = (I 4928) then
                ((f_X10_holds_81 A I a2 a5).bind fun r45 =>
                (if r45 = 0 then
                  some ((-12), (A 78), (A 80), (A 82), (A 84))
                else
                  ((f_X10_holds_77 A I a4 a5).bind fun r46 =>
                  (if r46 = 0 then
                    some ((-12), (A 78), (A 80), (A 82), (A 84))
                  else
                    ((am_acq (A 82) (A 78) a2 a4 a5).bind fun y47 =>
                    some (a5, y47, (A 80), (A 82), (A 84)))))))
              else
                some ((-13), (A 78), (A 80), (A 82), (A 84)))
            else
              some ((-11), (A 78), (A 80), (A 82), (A 84))))
          else
            some ((-11), (A 78), (A 80), (A 82), (A 84))))
        else
        (if a3 = 1 then
          ((f_X10_isMissing_81 A I).bind fun r48 =>
          (if r48 = 0 then
            ((f_X10_isMissing_79 A I).bind fun r49 =>
            (if r49 = 0 then
              (if (I 5184) = (I 5056) then
                ((f_X10_holds_81 A I a2 a5).bind fun r50 =>
                (if r50 = 0 then
                  some ((-12), (A 78), (A 80), (A 82), (A 84))
                else
                  ((f_X10_holds_79 A I a4 a5).bind fun r51 =>
                  (if r51 = 0 then
                    some ((-12), (A 78), (A 80), (A 82), (A 84))
                  else
                    ((am_acq (A 82) (A 80) a2 a4 a5).bind fun y52 =>
                    some (a5, (A 78), y52, (A 82), (A 84)))))))
              else
                some ((-13), (A 78), (A 80), (A 82), (A 84)))
            else
              some ((-11), (A 78), (A 80), (A 82), (A 84))))
          else
            some ((-11), (A 78), (A 80), (A 82), (A 84))))
        else
        (if a3 = 2 then
          ((f_X10_isMissing_81 A I).bind fun r53 =>
          (if r53 = 0 then
            ((f_X10_isMissing_81 A I).bind fun r54 =>
            (if r54 = 0 then
              (if (I 5184) = (I 5184) then
                ((f_X10_holds_81 A I a2 a5).bind fun r55 =>
                (if r55 = 0 then
                  some ((-12), (A 78), (A 80), (A 82), (A 84))
                else
                  ((f_X10_holds_81 A I a4 a5).bind fun r56 =>
                  (if r56 = 0 then
                    some ((-12), (A 78), (A 80), (A 82), (A 84))
                  else
                    ((am_acq (A 82) (A 82) a2 a4 a5).bind fun y57 =>
                    some (a5, (A 78), (A 80), y57, (A 84)))))))
              else
                some ((-13), (A 78), (A 80), (A 82), (A 84)))
            else
              some ((-11), (A 78), (A 80), (A 82), (A 84))))
          else
            some ((-11), (A 78), (A 80), (A 82), (A 84))))
        else
        (if a3 = 3 then
          ((f_X10_isMissing_81 A I).bind fun r58 =>
          (if r58 = 0 then
            ((f_X10_isMissing_83 A I).bind fun r59 =>
            (if r59 = 0 then
              (if (I 5184) = (I 5312) then
                ((f_X10_holds_81 A I a2 a5).bind fun r60 =>
                (if r60 = 0 then
                  some ((-12), (A 78), (A 80), (A 82), (A 84))
                else
                  ((f_X10_holds_83 A I a4 a5).bind fun r61 =>
                  (if r61 = 0 then
                    some ((-12), (A 78), (A 80), (A 82), (A 84))
                  else
                    ((am_acq (A 82) (A 84) a2 a4 a5).bind fun y62 =>
                    some (a5, (A 78), (A 80), (A 82), y62))))))
              else
                some ((-13), (A 78), (A 80), (A 82), (A 84)))
            else
              some ((-11), (A 78), (A 80), (A 82), (A 84))))
          else
            some ((-11), (A 78), (A 80), (A 82), (A 84))))
        else
        none))))
      else
      (if a1 = 3 then
        (if a3 = 0 then
          ((f_X10_isMissing_83 A I).bind fun r63 =>
          (if r63 = 0 then
            ((f_X10_isMissing_77 A I).bind fun r64 =>
            (if r64 = 0 then
              (if (I 5312) = (I 4928) then
                ((f_X10_holds_83 A I a2 a5).bind fun r65 =>
                (if r65 = 0 then
                  some ((-12), (A 78), (A 80), (A 82), (A 84))
                else
                  ((f_X10_holds_77 A I a4 a5).bind fun r66 =>
                  (if r66 = 0 then
                    some ((-12), (A 78), (A 80), (A 82), (A 84))
                  else
                    ((am_acq (A 84) (A 78) a2 a4 a5).bind fun y67 =>
                    some (a5, y67, (A 80), (A 82), (A 84)))))))
              else
                some ((-13), (A 78), (A 80), (A 82), (A 84)))
            else
              some ((-11), (A 78), (A 80), (A 82), (A 84))))
          else
            some ((-11), (A 78), (A 80), (A 82), (A 84))))
        else
        (if a3 = 1 then
          ((f_X10_isMissing_83 A I).bind fun r68 =>
          (if r68 = 0 then
            ((f_X10_isMissing_79 A I).bind fun r69 =>
            (if r69 = 0 then
              (if (I 5312) = (I 5056) then
                ((f_X10_holds_83 A I a2 a5).bind fun r70 =>
                (if r70 = 0 then
                  some ((-12), (A 78), (A 80), (A 82), (A 84))
                else
                  ((f_X10_holds_79 A I a4 a5).bind fun r71 =>
                  (if r71 = 0 then
                    some ((-12), (A 78), (A 80), (A 82), (A 84))
                  else
                    ((am_acq (A 84) (A 80) a2 a4 a5).bind fun y72 =>
                    some (a5, (A 78), y72, (A 82), (A 84)))))))
              else
                some ((-13), (A 78), (A 80), (A 82), (A 84)))
            else
              some ((-11), (A 78), (A 80), (A 82), (A 84))))
          else
            some ((-11), (A 78), (A 80), (A 82), (A 84))))
        else
        (if a3 = 2 then
          ((f_X10_isMissing_83 A I).bind fun r73 =>
          (if r73 = 0 then
            ((f_X10_isMissing_81 A I).bind fun r74 =>
            (if r74 = 0 then
              (if (I 5312) = (I 5184) then
                ((f_X10_holds_83 A I a2 a5).bind fun r75 =>
                (if r75 = 0 then
                  some ((-12), (A 78), (A 80), (A 82), (A 84))
                else
                  ((f_X10_holds_81 A I a4 a5).bind fun r76 =>
                  (if r76 = 0 then
                    some ((-12), (A 78), (A 80), (A 82), (A 84))
                  else
                    ((am_acq (A 84) (A 82) a2 a4 a5).bind fun y77 =>
                    some (a5, (A 78), (A 80), y77, (A 84)))))))
              else
                some ((-13), (A 78), (A 80), (A 82), (A 84)))
            else
              some ((-11), (A 78), (A 80), (A 82), (A 84))))
          else
            some ((-11), (A 78), (A 80), (A 82), (A 84))))
        else
        (if a3 = 3 then
          ((f_X10_isMissing_83 A I).bind fun r78 =>
          (if r78 = 0 then
            ((f_X10_isMissing_83 A I).bind fun r79 =>
            (if r79 = 0 then
              (if (I 5312) = (I 5312) then
                ((f_X10_holds_83 A I a2 a5).bind fun r80 =>
                (if r80 = 0 then
                  some ((-12), (A 78), (A 80), (A 82), (A 84))
                else
                  ((f_X10_holds_83 A I a4 a5).bind fun r81 =>
                  (if r81 = 0 then
                    some ((-12), (A 78), (A 80), (A 82), (A 84))
                  else
                    ((am_acq (A 84) (A 84) a2 a4 a5).bind fun y82 =>
                    some (a5, (A 78), (A 80), (A 82), y82))))))
              else
                some ((-13), (A 78), (A 80), (A 82), (A 84)))
            else
              some ((-11), (A 78), (A 80), (A 82), (A 84))))
          else
            some ((-11), (A 78), (A 80), (A 82), (A 84))))
        else
        none))))
      else
      none))))))))
set_option maxRecDepth 100000 in
set_option maxHeartbeats 4000000 in
theorem t_X11_copy {xs : List Int32} (A : Nat → List Int32) (I : Nat → Int32) (x : am_X) (a1 : Int32) (a2 : Int32) (a3 : Int32) (a4 : Int32) (a5 : Int32) {z : Int32 × (List Int32) × (List Int32) × (List Int32) × (List Int32)} (hz : f_X11_copy A I a1 a2 a3 a4 a5 = some z) : am_Rt (am_ro xs) 3 ix_X11_copy [.ref 0, .int a1, .int a2, .int a3, .int a4, .int a5] (hp A I x) (some (.int z.1), hp (up (up (up (up A 78 z.2.1) 80 z.2.2.1) 82 z.2.2.2.1) 84 z.2.2.2.2) I x) := by
  refine am_Rt.J (k := ix_X11_copy) (M := mc_X11_copy) (nL := 8) (d := 2) (as := [.ref 0, .int a1, .int a2, .int a3, .int a4, .int a5]) (res := fun z => (some (.int z.1), hp (up (up (up (up A 78 z.2.1) 80 z.2.2.1) 82 z.2.2.2.1) 84 z.2.2.2.2) I x)) rfl (Nat.le_of_ble_eq_true rfl) (fun r => ?_) hz
  unfold f_X11_copy
  refine am_J.go 1 rfl ?_
  refine am_J.callz (v := fun r1 => r1) (h' := fun r1 => hp A I x) rfl rfl rfl (fun r1 hw => (t_X11_isSheet (h := hp A I x) a1 hw)) (fun r1 hr1 => ?_)
  refine am_J.eq rfl ?_ ?_
  · refine am_J.go 1 rfl ?_
    exact am_J.ret rfl (fun k => k)
  · refine am_J.go 1 rfl ?_
    refine am_J.callz (v := fun r2 => r2) (h' := fun r2 => hp A I x) rfl rfl rfl (fun r2 hw => (t_X11_isSheet (h := hp A I x) a3 hw)) (fun r2 hr2 => ?_)
    refine am_J.ne rfl ?_ ?_
    · refine am_J.go 1 rfl ?_
      exact am_J.ret rfl (fun k => k)
    · refine am_J.go 3 rfl ?_
      refine am_J.sel rfl rfl ?_ ?_ ?_ ?_
      · refine am_J.go 4 rfl ?_
        refine am_J.sel rfl rfl ?_ ?_ ?_ ?_
        · refine am_J.go 2 rfl ?_
          refine am_J.callz (v := fun r3 => r3) (h' := fun r3 => hp A I x) rfl rfl rfl (fun r3 hw => (t_X10_isMissing_77 A I x hw).mono (Nat.le_of_ble_eq_true rfl)) (fun r3 hr3 => ?_)
          refine am_J.ne rfl ?_ ?_
          · refine am_J.go 1 rfl ?_
            refine am_J.callz (v := fun r4 => r4) (h' := fun r4 => hp A I x) rfl rfl rfl (fun r4 hw => (t_X10_isMissing_77 A I x hw).mono (Nat.le_of_ble_eq_true rfl)) (fun r4 hr4 => ?_)
            refine am_J.eq rfl ?_ ?_
            · refine am_J.go 4 rfl ?_
              refine am_J.eq rfl ?_ ?_
              · refine am_J.go 3 rfl ?_
                refine am_J.callz (v := fun r5 => r5) (h' := fun r5 => hp A I x) rfl rfl rfl (fun r5 hw => (t_X10_holds_77 A I x a2 a5 hw).mono (Nat.le_of_ble_eq_true rfl)) (fun r5 hr5 => ?_)
                refine am_J.eq rfl ?_ ?_
                · refine am_J.go 1 rfl ?_
                  exact am_J.ret rfl (fun k => k)
                · refine am_J.go 3 rfl ?_
                  refine am_J.callz (v := fun r6 => r6) (h' := fun r6 => hp A I x) rfl rfl rfl (fun r6 hw => (t_X10_holds_77 A I x a4 a5 hw).mono (Nat.le_of_ble_eq_true rfl)) (fun r6 hr6 => ?_)
                  refine am_J.ne rfl ?_ ?_
                  · refine am_J.go 1 rfl ?_
                    exact am_J.ret rfl (fun k => k)
                  · refine am_J.go 7 rfl ?_
                    refine am_J.acp (xs := (A 78)) (ys := (A 78)) (h' := fun y7 => hp (up A 78 y7) I x) rfl rfl rfl (by decide) (fun _ => rfl) (fun y7 => ?_)
                    refine am_J.go 1 rfl ?_
                    exact am_J.ret rfl (fun k => k)
              · refine am_J.go 1 rfl ?_
                exact am_J.ret rfl (fun k => k)
            · refine am_J.go 1 rfl ?_
              exact am_J.ret rfl (fun k => k)
          · refine am_J.go 1 rfl ?_
            exact am_J.ret rfl (fun k => k)
        · refine am_J.go 2 rfl ?_
          refine am_J.callz (v := fun r8 => r8) (h' := fun r8 => hp A I x) rfl rfl rfl (fun r8 hw => (t_X10_isMissing_77 A I x hw).mono (Nat.le_of_ble_eq_true rfl)) (fun r8 hr8 => ?_)
          refine am_J.ne rfl ?_ ?_
          · refine am_J.go 1 rfl ?_
            refine am_J.callz (v := fun r9 => r9) (h' := fun r9 => hp A I x) rfl rfl rfl (fun r9 hw => (t_X10_isMissing_79 A I x hw).mono (Nat.le_of_ble_eq_true rfl)) (fun r9 hr9 => ?_)
            refine am_J.eq rfl ?_ ?_
            · refine am_J.go 4 rfl ?_
              refine am_J.eq rfl ?_ ?_
              · refine am_J.go 3 rfl ?_
                refine am_J.callz (v := fun r10 => r10) (h' := fun r10 => hp A I x) rfl rfl rfl (fun r10 hw => (t_X10_holds_77 A I x a2 a5 hw).mono (Nat.le_of_ble_eq_true rfl)) (fun r10 hr10 => ?_)
                refine am_J.eq rfl ?_ ?_
                · refine am_J.go 1 rfl ?_
                  exact am_J.ret rfl (fun k => k)
                · refine am_J.go 3 rfl ?_
                  refine am_J.callz (v := fun r11 => r11) (h' := fun r11 => hp A I x) rfl rfl rfl (fun r11 hw => (t_X10_holds_79 A I x a4 a5 hw).mono (Nat.le_of_ble_eq_true rfl)) (fun r11 hr11 => ?_)
                  refine am_J.ne rfl ?_ ?_
                  · refine am_J.go 1 rfl ?_
                    exact am_J.ret rfl (fun k => k)
                  · refine am_J.go 7 rfl ?_
                    refine am_J.acp (xs := (A 78)) (ys := (A 80)) (h' := fun y12 => hp (up A 80 y12) I x) rfl rfl rfl (by decide) (fun _ => rfl) (fun y12 => ?_)
                    refine am_J.go 1 rfl ?_
                    exact am_J.ret rfl (fun k => k)
              · refine am_J.go 1 rfl ?_
                exact am_J.ret rfl (fun k => k)
            · refine am_J.go 1 rfl ?_
              exact am_J.ret rfl (fun k => k)
          · refine am_J.go 1 rfl ?_
            exact am_J.ret rfl (fun k => k)
        · refine am_J.go 2 rfl ?_
          refine am_J.callz (v := fun r13 => r13) (h' := fun r13 => hp A I x) rfl rfl rfl (fun r13 hw => (t_X10_isMissing_77 A I x hw).mono (Nat.le_of_ble_eq_true rfl)) (fun r13 hr13 => ?_)
          refine am_J.ne rfl ?_ ?_
          · refine am_J.go 1 rfl ?_
            refine am_J.callz (v := fun r14 => r14) (h' := fun r14 => hp A I x) rfl rfl rfl (fun r14 hw => (t_X10_isMissing_81 A I x hw).mono (Nat.le_of_ble_eq_true rfl)) (fun r14 hr14 => ?_)
            refine am_J.eq rfl ?_ ?_
            · refine am_J.go 4 rfl ?_
              refine am_J.eq rfl ?_ ?_
              · refine am_J.go 3 rfl ?_
                refine am_J.callz (v := fun r15 => r15) (h' := fun r15 => hp A I x) rfl rfl rfl (fun r15 hw => (t_X10_holds_77 A I x a2 a5 hw).mono (Nat.le_of_ble_eq_true rfl)) (fun r15 hr15 => ?_)
                refine am_J.eq rfl ?_ ?_
                · refine am_J.go 1 rfl ?_
                  exact am_J.ret rfl (fun k => k)
                · refine am_J.go 3 rfl ?_
                  refine am_J.callz (v := fun r16 => r16) (h' := fun r16 => hp A I x) rfl rfl rfl (fun r16 hw => (t_X10_holds_81 A I x a4 a5 hw).mono (Nat.le_of_ble_eq_true rfl)) (fun r16 hr16 => ?_)
                  refine am_J.ne rfl ?_ ?_
                  · refine am_J.go 1 rfl ?_
                    exact am_J.ret rfl (fun k => k)
                  · refine am_J.go 7 rfl ?_
                    refine am_J.acp (xs := (A 78)) (ys := (A 82)) (h' := fun y17 => hp (up A 82 y17) I x) rfl rfl rfl (by decide) (fun _ => rfl) (fun y17 => ?_)
                    refine am_J.go 1 rfl ?_
                    exact am_J.ret rfl (fun k => k)
              · refine am_J.go 1 rfl ?_
                exact am_J.ret rfl (fun k => k)
            · refine am_J.go 1 rfl ?_
              exact am_J.ret rfl (fun k => k)
          · refine am_J.go 1 rfl ?_
            exact am_J.ret rfl (fun k => k)
        · refine am_J.go 2 rfl ?_
          refine am_J.callz (v := fun r18 => r18) (h' := fun r18 => hp A I x) rfl rfl rfl (fun r18 hw => (t_X10_isMissing_77 A I x hw).mono (Nat.le_of_ble_eq_true rfl)) (fun r18 hr18 => ?_)
          refine am_J.ne rfl ?_ ?_
          · refine am_J.go 1 rfl ?_
            refine am_J.callz (v := fun r19 => r19) (h' := fun r19 => hp A I x) rfl rfl rfl (fun r19 hw => (t_X10_isMissing_83 A I x hw).mono (Nat.le_of_ble_eq_true rfl)) (fun r19 hr19 => ?_)
            refine am_J.eq rfl ?_ ?_
            · refine am_J.go 4 rfl ?_
              refine am_J.eq rfl ?_ ?_
              · refine am_J.go 3 rfl ?_
                refine am_J.callz (v := fun r20 => r20) (h' := fun r20 => hp A I x) rfl rfl rfl (fun r20 hw => (t_X10_holds_77 A I x a2 a5 hw).mono (Nat.le_of_ble_eq_true rfl)) (fun r20 hr20 => ?_)
                refine am_J.eq rfl ?_ ?_
                · refine am_J.go 1 rfl ?_
                  exact am_J.ret rfl (fun k => k)
                · refine am_J.go 3 rfl ?_
                  refine am_J.callz (v := fun r21 => r21) (h' := fun r21 => hp A I x) rfl rfl rfl (fun r21 hw => (t_X10_holds_83 A I x a4 a5 hw).mono (Nat.le_of_ble_eq_true rfl)) (fun r21 hr21 => ?_)
                  refine am_J.ne rfl ?_ ?_
                  · refine am_J.go 1 rfl ?_
                    exact am_J.ret rfl (fun k => k)
                  · refine am_J.go 7 rfl ?_
                    refine am_J.acp (xs := (A 78)) (ys := (A 84)) (h' := fun y22 => hp (up A 84 y22) I x) rfl rfl rfl (by decide) (fun _ => rfl) (fun y22 => ?_)
                    refine am_J.go 1 rfl ?_
                    exact am_J.ret rfl (fun k => k)
              · refine am_J.go 1 rfl ?_
                exact am_J.ret rfl (fun k => k)
            · refine am_J.go 1 rfl ?_
              exact am_J.ret rfl (fun k => k)
          · refine am_J.go 1 rfl ?_
            exact am_J.ret rfl (fun k => k)
      · refine am_J.go 4 rfl ?_
        refine am_J.sel rfl rfl ?_ ?_ ?_ ?_
        · refine am_J.go 2 rfl ?_
          refine am_J.callz (v := fun r23 => r23) (h' := fun r23 => hp A I x) rfl rfl rfl (fun r23 hw => (t_X10_isMissing_79 A I x hw).mono (Nat.le_of_ble_eq_true rfl)) (fun r23 hr23 => ?_)
          refine am_J.ne rfl ?_ ?_
          · refine am_J.go 1 rfl ?_
            refine am_J.callz (v := fun r24 => r24) (h' := fun r24 => hp A I x) rfl rfl rfl (fun r24 hw => (t_X10_isMissing_77 A I x hw).mono (Nat.le_of_ble_eq_true rfl)) (fun r24 hr24 => ?_)
            refine am_J.eq rfl ?_ ?_
            · refine am_J.go 4 rfl ?_
              refine am_J.eq rfl ?_ ?_
              · refine am_J.go 3 rfl ?_
                refine am_J.callz (v := fun r25 => r25) (h' := fun r25 => hp A I x) rfl rfl rfl (fun r25 hw => (t_X10_holds_79 A I x a2 a5 hw).mono (Nat.le_of_ble_eq_true rfl)) (fun r25 hr25 => ?_)
                refine am_J.eq rfl ?_ ?_
                · refine am_J.go 1 rfl ?_
                  exact am_J.ret rfl (fun k => k)
                · refine am_J.go 3 rfl ?_
                  refine am_J.callz (v := fun r26 => r26) (h' := fun r26 => hp A I x) rfl rfl rfl (fun r26 hw => (t_X10_holds_77 A I x a4 a5 hw).mono (Nat.le_of_ble_eq_true rfl)) (fun r26 hr26 => ?_)
                  refine am_J.ne rfl ?_ ?_
                  · refine am_J.go 1 rfl ?_
                    exact am_J.ret rfl (fun k => k)
                  · refine am_J.go 7 rfl ?_
                    refine am_J.acp (xs := (A 80)) (ys := (A 78)) (h' := fun y27 => hp (up A 78 y27) I x) rfl rfl rfl (by decide) (fun _ => rfl) (fun y27 => ?_)
                    refine am_J.go 1 rfl ?_
                    exact am_J.ret rfl (fun k => k)
              · refine am_J.go 1 rfl ?_
                exact am_J.ret rfl (fun k => k)
            · refine am_J.go 1 rfl ?_
              exact am_J.ret rfl (fun k => k)
          · refine am_J.go 1 rfl ?_
            exact am_J.ret rfl (fun k => k)
        · refine am_J.go 2 rfl ?_
          refine am_J.callz (v := fun r28 => r28) (h' := fun r28 => hp A I x) rfl rfl rfl (fun r28 hw => (t_X10_isMissing_79 A I x hw).mono (Nat.le_of_ble_eq_true rfl)) (fun r28 hr28 => ?_)
          refine am_J.ne rfl ?_ ?_
          · refine am_J.go 1 rfl ?_
            refine am_J.callz (v := fun r29 => r29) (h' := fun r29 => hp A I x) rfl rfl rfl (fun r29 hw => (t_X10_isMissing_79 A I x hw).mono (Nat.le_of_ble_eq_true rfl)) (fun r29 hr29 => ?_)
            refine am_J.eq rfl ?_ ?_
            · refine am_J.go 4 rfl ?_
              refine am_J.eq rfl ?_ ?_
              · refine am_J.go 3 rfl ?_
                refine am_J.callz (v := fun r30 => r30) (h' := fun r30 => hp A I x) rfl rfl rfl (fun r30 hw => (t_X10_holds_79 A I x a2 a5 hw).mono (Nat.le_of_ble_eq_true rfl)) (fun r30 hr30 => ?_)
                refine am_J.eq rfl ?_ ?_
                · refine am_J.go 1 rfl ?_
                  exact am_J.ret rfl (fun k => k)
                · refine am_J.go 3 rfl ?_
                  refine am_J.callz (v := fun r31 => r31) (h' := fun r31 => hp A I x) rfl rfl rfl (fun r31 hw => (t_X10_holds_79 A I x a4 a5 hw).mono (Nat.le_of_ble_eq_true rfl)) (fun r31 hr31 => ?_)
                  refine am_J.ne rfl ?_ ?_
                  · refine am_J.go 1 rfl ?_
                    exact am_J.ret rfl (fun k => k)
                  · refine am_J.go 7 rfl ?_
                    refine am_J.acp (xs := (A 80)) (ys := (A 80)) (h' := fun y32 => hp (up A 80 y32) I x) rfl rfl rfl (by decide) (fun _ => rfl) (fun y32 => ?_)
                    refine am_J.go 1 rfl ?_
                    exact am_J.ret rfl (fun k => k)
              · refine am_J.go 1 rfl ?_
                exact am_J.ret rfl (fun k => k)
            · refine am_J.go 1 rfl ?_
              exact am_J.ret rfl (fun k => k)
          · refine am_J.go 1 rfl ?_
            exact am_J.ret rfl (fun k => k)
        · refine am_J.go 2 rfl ?_
          refine am_J.callz (v := fun r33 => r33) (h' := fun r33 => hp A I x) rfl rfl rfl (fun r33 hw => (t_X10_isMissing_79 A I x hw).mono (Nat.le_of_ble_eq_true rfl)) (fun r33 hr33 => ?_)
          refine am_J.ne rfl ?_ ?_
          · refine am_J.go 1 rfl ?_
            refine am_J.callz (v := fun r34 => r34) (h' := fun r34 => hp A I x) rfl rfl rfl (fun r34 hw => (t_X10_isMissing_81 A I x hw).mono (Nat.le_of_ble_eq_true rfl)) (fun r34 hr34 => ?_)
            refine am_J.eq rfl ?_ ?_
            · refine am_J.go 4 rfl ?_
              refine am_J.eq rfl ?_ ?_
              · refine am_J.go 3 rfl ?_
                refine am_J.callz (v := fun r35 => r35) (h' := fun r35 => hp A I x) rfl rfl rfl (fun r35 hw => (t_X10_holds_79 A I x a2 a5 hw).mono (Nat.le_of_ble_eq_true rfl)) (fun r35 hr35 => ?_)
                refine am_J.eq rfl ?_ ?_
                · refine am_J.go 1 rfl ?_
                  exact am_J.ret rfl (fun k => k)
                · refine am_J.go 3 rfl ?_
                  refine am_J.callz (v := fun r36 => r36) (h' := fun r36 => hp A I x) rfl rfl rfl (fun r36 hw => (t_X10_holds_81 A I x a4 a5 hw).mono (Nat.le_of_ble_eq_true rfl)) (fun r36 hr36 => ?_)
                  refine am_J.ne rfl ?_ ?_
                  · refine am_J.go 1 rfl ?_
                    exact am_J.ret rfl (fun k => k)
                  · refine am_J.go 7 rfl ?_
                    refine am_J.acp (xs := (A 80)) (ys := (A 82)) (h' := fun y37 => hp (up A 82 y37) I x) rfl rfl rfl (by decide) (fun _ => rfl) (fun y37 => ?_)
                    refine am_J.go 1 rfl ?_
                    exact am_J.ret rfl (fun k => k)
              · refine am_J.go 1 rfl ?_
                exact am_J.ret rfl (fun k => k)
            · refine am_J.go 1 rfl ?_
              exact am_J.ret rfl (fun k => k)
          · refine am_J.go 1 rfl ?_
            exact am_J.ret rfl (fun k => k)
        · refine am_J.go 2 rfl ?_
          refine am_J.callz (v := fun r38 => r38) (h' := fun r38 => hp A I x) rfl rfl rfl (fun r38 hw => (t_X10_isMissing_79 A I x hw).mono (Nat.le_of_ble_eq_true rfl)) (fun r38 hr38 => ?_)
          refine am_J.ne rfl ?_ ?_
          · refine am_J.go 1 rfl ?_
            refine am_J.callz (v := fun r39 => r39) (h' := fun r39 => hp A I x) rfl rfl rfl (fun r39 hw => (t_X10_isMissing_83 A I x hw).mono (Nat.le_of_ble_eq_true rfl)) (fun r39 hr39 => ?_)
            refine am_J.eq rfl ?_ ?_
            · refine am_J.go 4 rfl ?_
              refine am_J.eq rfl ?_ ?_
              · refine am_J.go 3 rfl ?_
                refine am_J.callz (v := fun r40 => r40) (h' := fun r40 => hp A I x) rfl rfl rfl (fun r40 hw => (t_X10_holds_79 A I x a2 a5 hw).mono (Nat.le_of_ble_eq_true rfl)) (fun r40 hr40 => ?_)
                refine am_J.eq rfl ?_ ?_
                · refine am_J.go 1 rfl ?_
                  exact am_J.ret rfl (fun k => k)
                · refine am_J.go 3 rfl ?_
                  refine am_J.callz (v := fun r41 => r41) (h' := fun r41 => hp A I x) rfl rfl rfl (fun r41 hw => (t_X10_holds_83 A I x a4 a5 hw).mono (Nat.le_of_ble_eq_true rfl)) (fun r41 hr41 => ?_)
                  refine am_J.ne rfl ?_ ?_
                  · refine am_J.go 1 rfl ?_
                    exact am_J.ret rfl (fun k => k)
                  · refine am_J.go 7 rfl ?_
                    refine am_J.acp (xs := (A 80)) (ys := (A 84)) (h' := fun y42 => hp (up A 84 y42) I x) rfl rfl rfl (by decide) (fun _ => rfl) (fun y42 => ?_)
                    refine am_J.go 1 rfl ?_
                    exact am_J.ret rfl (fun k => k)
              · refine am_J.go 1 rfl ?_
                exact am_J.ret rfl (fun k => k)
            · refine am_J.go 1 rfl ?_
              exact am_J.ret rfl (fun k => k)
          · refine am_J.go 1 rfl ?_
            exact am_J.ret rfl (fun k => k)
      · refine am_J.go 4 rfl ?_
        refine am_J.sel rfl rfl ?_ ?_ ?_ ?_
        · refine am_J.go 2 rfl ?_
          refine am_J.callz (v := fun r43 => r43) (h' := fun r43 => hp A I x) rfl rfl rfl (fun r43 hw => (t_X10_isMissing_81 A I x hw).mono (Nat.le_of_ble_eq_true rfl)) (fun r43 hr43 => ?_)
          refine am_J.ne rfl ?_ ?_
          · refine am_J.go 1 rfl ?_
            refine am_J.callz (v := fun r44 => r44) (h' := fun r44 => hp A I x) rfl rfl rfl (fun r44 hw => (t_X10_isMissing_77 A I x hw).mono (Nat.le_of_ble_eq_true rfl)) (fun r44 hr44 => ?_)
            refine am_J.eq rfl ?_ ?_
            · refine am_J.go 4 rfl ?_
              refine am_J.eq rfl ?_ ?_
              · refine am_J.go 3 rfl ?_
                refine am_J.callz (v := fun r45 => r45) (h' := fun r45 => hp A I x) rfl rfl rfl (fun r45 hw => (t_X10_holds_81 A I x a2 a5 hw).mono (Nat.le_of_ble_eq_true rfl)) (fun r45 hr45 => ?_)
                refine am_J.eq rfl ?_ ?_
                · refine am_J.go 1 rfl ?_
                  exact am_J.ret rfl (fun k => k)
                · refine am_J.go 3 rfl ?_
                  refine am_J.callz (v := fun r46 => r46) (h' := fun r46 => hp A I x) rfl rfl rfl (fun r46 hw => (t_X10_holds_77 A I x a4 a5 hw).mono (Nat.le_of_ble_eq_true rfl)) (fun r46 hr46 => ?_)
                  refine am_J.ne rfl ?_ ?_
                  · refine am_J.go 1 rfl ?_
                    exact am_J.ret rfl (fun k => k)
                  · refine am_J.go 7 rfl ?_
                    refine am_J.acp (xs := (A 82)) (ys := (A 78)) (h' := fun y47 => hp (up A 78 y47) I x) rfl rfl rfl (by decide) (fun _ => rfl) (fun y47 => ?_)
                    refine am_J.go 1 rfl ?_
                    exact am_J.ret rfl (fun k => k)
              · refine am_J.go 1 rfl ?_
                exact am_J.ret rfl (fun k => k)
            · refine am_J.go 1 rfl ?_
              exact am_J.ret rfl (fun k => k)
          · refine am_J.go 1 rfl ?_
            exact am_J.ret rfl (fun k => k)
        · refine am_J.go 2 rfl ?_
          refine am_J.callz (v := fun r48 => r48) (h' := fun r48 => hp A I x) rfl rfl rfl (fun r48 hw => (t_X10_isMissing_81 A I x hw).mono (Nat.le_of_ble_eq_true rfl)) (fun r48 hr48 => ?_)
          refine am_J.ne rfl ?_ ?_
          · refine am_J.go 1 rfl ?_
            refine am_J.callz (v := fun r49 => r49) (h' := fun r49 => hp A I x) rfl rfl rfl (fun r49 hw => (t_X10_isMissing_79 A I x hw).mono (Nat.le_of_ble_eq_true rfl)) (fun r49 hr49 => ?_)
            refine am_J.eq rfl ?_ ?_
            · refine am_J.go 4 rfl ?_
              refine am_J.eq rfl ?_ ?_
              · refine am_J.go 3 rfl ?_
                refine am_J.callz (v := fun r50 => r50) (h' := fun r50 => hp A I x) rfl rfl rfl (fun r50 hw => (t_X10_holds_81 A I x a2 a5 hw).mono (Nat.le_of_ble_eq_true rfl)) (fun r50 hr50 => ?_)
                refine am_J.eq rfl ?_ ?_
                · refine am_J.go 1 rfl ?_
                  exact am_J.ret rfl (fun k => k)
                · refine am_J.go 3 rfl ?_
                  refine am_J.callz (v := fun r51 => r51) (h' := fun r51 => hp A I x) rfl rfl rfl (fun r51 hw => (t_X10_holds_79 A I x a4 a5 hw).mono (Nat.le_of_ble_eq_true rfl)) (fun r51 hr51 => ?_)
                  refine am_J.ne rfl ?_ ?_
                  · refine am_J.go 1 rfl ?_
                    exact am_J.ret rfl (fun k => k)
                  · refine am_J.go 7 rfl ?_
                    refine am_J.acp (xs := (A 82)) (ys := (A 80)) (h' := fun y52 => hp (up A 80 y52) I x) rfl rfl rfl (by decide) (fun _ => rfl) (fun y52 => ?_)
                    refine am_J.go 1 rfl ?_
                    exact am_J.ret rfl (fun k => k)
              · refine am_J.go 1 rfl ?_
                exact am_J.ret rfl (fun k => k)
            · refine am_J.go 1 rfl ?_
              exact am_J.ret rfl (fun k => k)
          · refine am_J.go 1 rfl ?_
            exact am_J.ret rfl (fun k => k)
        · refine am_J.go 2 rfl ?_
          refine am_J.callz (v := fun r53 => r53) (h' := fun r53 => hp A I x) rfl rfl rfl (fun r53 hw => (t_X10_isMissing_81 A I x hw).mono (Nat.le_of_ble_eq_true rfl)) (fun r53 hr53 => ?_)
          refine am_J.ne rfl ?_ ?_
          · refine am_J.go 1 rfl ?_
            refine am_J.callz (v := fun r54 => r54) (h' := fun r54 => hp A I x) rfl rfl rfl (fun r54 hw => (t_X10_isMissing_81 A I x hw).mono (Nat.le_of_ble_eq_true rfl)) (fun r54 hr54 => ?_)
            refine am_J.eq rfl ?_ ?_
            · refine am_J.go 4 rfl ?_
              refine am_J.eq rfl ?_ ?_
              · refine am_J.go 3 rfl ?_
                refine am_J.callz (v := fun r55 => r55) (h' := fun r55 => hp A I x) rfl rfl rfl (fun r55 hw => (t_X10_holds_81 A I x a2 a5 hw).mono (Nat.le_of_ble_eq_true rfl)) (fun r55 hr55 => ?_)
                refine am_J.eq rfl ?_ ?_
                · refine am_J.go 1 rfl ?_
                  exact am_J.ret rfl (fun k => k)
                · refine am_J.go 3 rfl ?_
                  refine am_J.callz (v := fun r56 => r56) (h' := fun r56 => hp A I x) rfl rfl rfl (fun r56 hw => (t_X10_holds_81 A I x a4 a5 hw).mono (Nat.le_of_ble_eq_true rfl)) (fun r56 hr56 => ?_)
                  refine am_J.ne rfl ?_ ?_
                  · refine am_J.go 1 rfl ?_
                    exact am_J.ret rfl (fun k => k)
                  · refine am_J.go 7 rfl ?_
                    refine am_J.acp (xs := (A 82)) (ys := (A 82)) (h' := fun y57 => hp (up A 82 y57) I x) rfl rfl rfl (by decide) (fun _ => rfl) (fun y57 => ?_)
                    refine am_J.go 1 rfl ?_
                    exact am_J.ret rfl (fun k => k)
              · refine am_J.go 1 rfl ?_
                exact am_J.ret rfl (fun k => k)
            · refine am_J.go 1 rfl ?_
              exact am_J.ret rfl (fun k => k)
          · refine am_J.go 1 rfl ?_
            exact am_J.ret rfl (fun k => k)
        · refine am_J.go 2 rfl ?_
          refine am_J.callz (v := fun r58 => r58) (h' := fun r58 => hp A I x) rfl rfl rfl (fun r58 hw => (t_X10_isMissing_81 A I x hw).mono (Nat.le_of_ble_eq_true rfl)) (fun r58 hr58 => ?_)
          refine am_J.ne rfl ?_ ?_
          · refine am_J.go 1 rfl ?_
            refine am_J.callz (v := fun r59 => r59) (h' := fun r59 => hp A I x) rfl rfl rfl (fun r59 hw => (t_X10_isMissing_83 A I x hw).mono (Nat.le_of_ble_eq_true rfl)) (fun r59 hr59 => ?_)
            refine am_J.eq rfl ?_ ?_
            · refine am_J.go 4 rfl ?_
              refine am_J.eq rfl ?_ ?_
              · refine am_J.go 3 rfl ?_
                refine am_J.callz (v := fun r60 => r60) (h' := fun r60 => hp A I x) rfl rfl rfl (fun r60 hw => (t_X10_holds_81 A I x a2 a5 hw).mono (Nat.le_of_ble_eq_true rfl)) (fun r60 hr60 => ?_)
                refine am_J.eq rfl ?_ ?_
                · refine am_J.go 1 rfl ?_
                  exact am_J.ret rfl (fun k => k)
                · refine am_J.go 3 rfl ?_
                  refine am_J.callz (v := fun r61 => r61) (h' := fun r61 => hp A I x) rfl rfl rfl (fun r61 hw => (t_X10_holds_83 A I x a4 a5 hw).mono (Nat.le_of_ble_eq_true rfl)) (fun r61 hr61 => ?_)
                  refine am_J.ne rfl ?_ ?_
                  · refine am_J.go 1 rfl ?_
                    exact am_J.ret rfl (fun k => k)
                  · refine am_J.go 7 rfl ?_
                    refine am_J.acp (xs := (A 82)) (ys := (A 84)) (h' := fun y62 => hp (up A 84 y62) I x) rfl rfl rfl (by decide) (fun _ => rfl) (fun y62 => ?_)
                    refine am_J.go 1 rfl ?_
                    exact am_J.ret rfl (fun k => k)
              · refine am_J.go 1 rfl ?_
                exact am_J.ret rfl (fun k => k)
            · refine am_J.go 1 rfl ?_
              exact am_J.ret rfl (fun k => k)
          · refine am_J.go 1 rfl ?_
            exact am_J.ret rfl (fun k => k)
      · refine am_J.go 4 rfl ?_
        refine am_J.sel rfl rfl ?_ ?_ ?_ ?_
        · refine am_J.go 2 rfl ?_
          refine am_J.callz (v := fun r63 => r63) (h' := fun r63 => hp A I x) rfl rfl rfl (fun r63 hw => (t_X10_isMissing_83 A I x hw).mono (Nat.le_of_ble_eq_true rfl)) (fun r63 hr63 => ?_)
          refine am_J.ne rfl ?_ ?_
          · refine am_J.go 1 rfl ?_
            refine am_J.callz (v := fun r64 => r64) (h' := fun r64 => hp A I x) rfl rfl rfl (fun r64 hw => (t_X10_isMissing_77 A I x hw).mono (Nat.le_of_ble_eq_true rfl)) (fun r64 hr64 => ?_)
            refine am_J.eq rfl ?_ ?_
            · refine am_J.go 4 rfl ?_
              refine am_J.eq rfl ?_ ?_
              · refine am_J.go 3 rfl ?_
                refine am_J.callz (v := fun r65 => r65) (h' := fun r65 => hp A I x) rfl rfl rfl (fun r65 hw => (t_X10_holds_83 A I x a2 a5 hw).mono (Nat.le_of_ble_eq_true rfl)) (fun r65 hr65 => ?_)
                refine am_J.eq rfl ?_ ?_
                · refine am_J.go 1 rfl ?_
                  exact am_J.ret rfl (fun k => k)
                · refine am_J.go 3 rfl ?_
                  refine am_J.callz (v := fun r66 => r66) (h' := fun r66 => hp A I x) rfl rfl rfl (fun r66 hw => (t_X10_holds_77 A I x a4 a5 hw).mono (Nat.le_of_ble_eq_true rfl)) (fun r66 hr66 => ?_)
                  refine am_J.ne rfl ?_ ?_
                  · refine am_J.go 1 rfl ?_
                    exact am_J.ret rfl (fun k => k)
                  · refine am_J.go 7 rfl ?_
                    refine am_J.acp (xs := (A 84)) (ys := (A 78)) (h' := fun y67 => hp (up A 78 y67) I x) rfl rfl rfl (by decide) (fun _ => rfl) (fun y67 => ?_)
                    refine am_J.go 1 rfl ?_
                    exact am_J.ret rfl (fun k => k)
              · refine am_J.go 1 rfl ?_
                exact am_J.ret rfl (fun k => k)
            · refine am_J.go 1 rfl ?_
              exact am_J.ret rfl (fun k => k)
          · refine am_J.go 1 rfl ?_
            exact am_J.ret rfl (fun k => k)
        · refine am_J.go 2 rfl ?_
          refine am_J.callz (v := fun r68 => r68) (h' := fun r68 => hp A I x) rfl rfl rfl (fun r68 hw => (t_X10_isMissing_83 A I x hw).mono (Nat.le_of_ble_eq_true rfl)) (fun r68 hr68 => ?_)
          refine am_J.ne rfl ?_ ?_
          · refine am_J.go 1 rfl ?_
            refine am_J.callz (v := fun r69 => r69) (h' := fun r69 => hp A I x) rfl rfl rfl (fun r69 hw => (t_X10_isMissing_79 A I x hw).mono (Nat.le_of_ble_eq_true rfl)) (fun r69 hr69 => ?_)
            refine am_J.eq rfl ?_ ?_
            · refine am_J.go 4 rfl ?_
              refine am_J.eq rfl ?_ ?_
              · refine am_J.go 3 rfl ?_
                refine am_J.callz (v := fun r70 => r70) (h' := fun r70 => hp A I x) rfl rfl rfl (fun r70 hw => (t_X10_holds_83 A I x a2 a5 hw).mono (Nat.le_of_ble_eq_true rfl)) (fun r70 hr70 => ?_)
                refine am_J.eq rfl ?_ ?_
                · refine am_J.go 1 rfl ?_
                  exact am_J.ret rfl (fun k => k)
                · refine am_J.go 3 rfl ?_
                  refine am_J.callz (v := fun r71 => r71) (h' := fun r71 => hp A I x) rfl rfl rfl (fun r71 hw => (t_X10_holds_79 A I x a4 a5 hw).mono (Nat.le_of_ble_eq_true rfl)) (fun r71 hr71 => ?_)
                  refine am_J.ne rfl ?_ ?_
                  · refine am_J.go 1 rfl ?_
                    exact am_J.ret rfl (fun k => k)
                  · refine am_J.go 7 rfl ?_
                    refine am_J.acp (xs := (A 84)) (ys := (A 80)) (h' := fun y72 => hp (up A 80 y72) I x) rfl rfl rfl (by decide) (fun _ => rfl) (fun y72 => ?_)
                    refine am_J.go 1 rfl ?_
                    exact am_J.ret rfl (fun k => k)
              · refine am_J.go 1 rfl ?_
                exact am_J.ret rfl (fun k => k)
            · refine am_J.go 1 rfl ?_
              exact am_J.ret rfl (fun k => k)
          · refine am_J.go 1 rfl ?_
            exact am_J.ret rfl (fun k => k)
        · refine am_J.go 2 rfl ?_
          refine am_J.callz (v := fun r73 => r73) (h' := fun r73 => hp A I x) rfl rfl rfl (fun r73 hw => (t_X10_isMissing_83 A I x hw).mono (Nat.le_of_ble_eq_true rfl)) (fun r73 hr73 => ?_)
          refine am_J.ne rfl ?_ ?_
          · refine am_J.go 1 rfl ?_
            refine am_J.callz (v := fun r74 => r74) (h' := fun r74 => hp A I x) rfl rfl rfl (fun r74 hw => (t_X10_isMissing_81 A I x hw).mono (Nat.le_of_ble_eq_true rfl)) (fun r74 hr74 => ?_)
            refine am_J.eq rfl ?_ ?_
            · refine am_J.go 4 rfl ?_
              refine am_J.eq rfl ?_ ?_
              · refine am_J.go 3 rfl ?_
                refine am_J.callz (v := fun r75 => r75) (h' := fun r75 => hp A I x) rfl rfl rfl (fun r75 hw => (t_X10_holds_83 A I x a2 a5 hw).mono (Nat.le_of_ble_eq_true rfl)) (fun r75 hr75 => ?_)
                refine am_J.eq rfl ?_ ?_
                · refine am_J.go 1 rfl ?_
                  exact am_J.ret rfl (fun k => k)
                · refine am_J.go 3 rfl ?_
                  refine am_J.callz (v := fun r76 => r76) (h' := fun r76 => hp A I x) rfl rfl rfl (fun r76 hw => (t_X10_holds_81 A I x a4 a5 hw).mono (Nat.le_of_ble_eq_true rfl)) (fun r76 hr76 => ?_)
                  refine am_J.ne rfl ?_ ?_
                  · refine am_J.go 1 rfl ?_
                    exact am_J.ret rfl (fun k => k)
                  · refine am_J.go 7 rfl ?_
                    refine am_J.acp (xs := (A 84)) (ys := (A 82)) (h' := fun y77 => hp (up A 82 y77) I x) rfl rfl rfl (by decide) (fun _ => rfl) (fun y77 => ?_)
                    refine am_J.go 1 rfl ?_
                    exact am_J.ret rfl (fun k => k)
              · refine am_J.go 1 rfl ?_
                exact am_J.ret rfl (fun k => k)
            · refine am_J.go 1 rfl ?_
              exact am_J.ret rfl (fun k => k)
          · refine am_J.go 1 rfl ?_
            exact am_J.ret rfl (fun k => k)
        · refine am_J.go 2 rfl ?_
          refine am_J.callz (v := fun r78 => r78) (h' := fun r78 => hp A I x) rfl rfl rfl (fun r78 hw => (t_X10_isMissing_83 A I x hw).mono (Nat.le_of_ble_eq_true rfl)) (fun r78 hr78 => ?_)
          refine am_J.ne rfl ?_ ?_
          · refine am_J.go 1 rfl ?_
            refine am_J.callz (v := fun r79 => r79) (h' := fun r79 => hp A I x) rfl rfl rfl (fun r79 hw => (t_X10_isMissing_83 A I x hw).mono (Nat.le_of_ble_eq_true rfl)) (fun r79 hr79 => ?_)
            refine am_J.eq rfl ?_ ?_
            · refine am_J.go 4 rfl ?_
              refine am_J.eq rfl ?_ ?_
              · refine am_J.go 3 rfl ?_
                refine am_J.callz (v := fun r80 => r80) (h' := fun r80 => hp A I x) rfl rfl rfl (fun r80 hw => (t_X10_holds_83 A I x a2 a5 hw).mono (Nat.le_of_ble_eq_true rfl)) (fun r80 hr80 => ?_)
                refine am_J.eq rfl ?_ ?_
                · refine am_J.go 1 rfl ?_
                  exact am_J.ret rfl (fun k => k)
                · refine am_J.go 3 rfl ?_
                  refine am_J.callz (v := fun r81 => r81) (h' := fun r81 => hp A I x) rfl rfl rfl (fun r81 hw => (t_X10_holds_83 A I x a4 a5 hw).mono (Nat.le_of_ble_eq_true rfl)) (fun r81 hr81 => ?_)
                  refine am_J.ne rfl ?_ ?_
                  · refine am_J.go 1 rfl ?_
                    exact am_J.ret rfl (fun k => k)
                  · refine am_J.go 7 rfl ?_
                    refine am_J.acp (xs := (A 84)) (ys := (A 84)) (h' := fun y82 => hp (up A 84 y82) I x) rfl rfl rfl (by decide) (fun _ => rfl) (fun y82 => ?_)
                    refine am_J.go 1 rfl ?_
                    exact am_J.ret rfl (fun k => k)
              · refine am_J.go 1 rfl ?_
                exact am_J.ret rfl (fun k => k)
            · refine am_J.go 1 rfl ?_
              exact am_J.ret rfl (fun k => k)
          · refine am_J.go 1 rfl ?_
            exact am_J.ret rfl (fun k => k)

def f_X11_seatsRow_l4 (A : Nat → List Int32) (I : Nat → Int32) (a3 : Int32) (a4 : Int32) : (Int32 × Int32 × (List Int32)) → Option ((Int32 × Int32 × (List Int32)) ⊕ ((Int32 × (List Int32)) ⊕ (Int32 × (List Int32)))) := fun q => match q with
    | (s41, s42, s43) =>
    (if a4 ≤ s42 then
      some (.inr (.inl (s41, s43)))
    else
      ((f_X10_holds_83 (up A 23 s43) I a3 (s42 + 1)).bind fun r44 =>
      (if r44 = 0 then
        some (.inr (.inr ((-12), s43)))
      else
        ((am_at (A 84) (a3 + s42)).bind fun v45 =>
        ((f_X11_isWithin v45 0 99).bind fun r46 =>
        (((if r46 = 0 then
            some (s41, s43)
          else
            ((am_up s43 s42 v45).bind fun y47 =>
            some ((s41 + 1), y47))) : Option (Int32 × (List Int32))).bind (fun q => match q with
        | (j48, j49) =>
        some (.inl (j48, (s42 + 1), j49)))))))))
def f_X11_seatsRow_l3 (A : Nat → List Int32) (I : Nat → Int32) (a3 : Int32) (a4 : Int32) : (Int32 × Int32 × (List Int32)) → Option ((Int32 × Int32 × (List Int32)) ⊕ ((Int32 × (List Int32)) ⊕ (Int32 × (List Int32)))) := fun q => match q with
    | (s29, s30, s31) =>
    (if a4 ≤ s30 then
      some (.inr (.inl (s29, s31)))
    else
      ((f_X10_holds_81 (up A 23 s31) I a3 (s30 + 1)).bind fun r32 =>
      (if r32 = 0 then
        some (.inr (.inr ((-12), s31)))
      else
        ((am_at (A 82) (a3 + s30)).bind fun v33 =>
        ((f_X11_isWithin v33 0 99).bind fun r34 =>
        (((if r34 = 0 then
            some (s29, s31)
          else
            ((am_up s31 s30 v33).bind fun y35 =>
            some ((s29 + 1), y35))) : Option (Int32 × (List Int32))).bind (fun q => match q with
        | (j36, j37) =>
        some (.inl (j36, (s30 + 1), j37)))))))))
def f_X11_seatsRow_l2 (A : Nat → List Int32) (I : Nat → Int32) (a3 : Int32) (a4 : Int32) : (Int32 × Int32 × (List Int32)) → Option ((Int32 × Int32 × (List Int32)) ⊕ ((Int32 × (List Int32)) ⊕ (Int32 × (List Int32)))) := fun q => match q with
    | (s17, s18, s19) =>
    (if a4 ≤ s18 then
      some (.inr (.inl (s17, s19)))
    else
      ((f_X10_holds_79 (up A 23 s19) I a3 (s18 + 1)).bind fun r20 =>
      (if r20 = 0 then
        some (.inr (.inr ((-12), s19)))
      else
        ((am_at (A 80) (a3 + s18)).bind fun v21 =>
        ((f_X11_isWithin v21 0 99).bind fun r22 =>
        (((if r22 = 0 then
            some (s17, s19)
          else
            ((am_up s19 s18 v21).bind fun y23 =>
            some ((s17 + 1), y23))) : Option (Int32 × (List Int32))).bind (fun q => match q with
        | (j24, j25) =>
        some (.inl (j24, (s18 + 1), j25)))))))))
def f_X11_seatsRow_l1 (A : Nat → List Int32) (I : Nat → Int32) (a3 : Int32) (a4 : Int32) : (Int32 × Int32 × (List Int32)) → Option ((Int32 × Int32 × (List Int32)) ⊕ ((Int32 × (List Int32)) ⊕ (Int32 × (List Int32)))) := fun q => match q with
    | (s5, s6, s7) =>
    (if a4 ≤ s6 then
      some (.inr (.inl (s5, s7)))
    else
      ((f_X10_holds_77 (up A 23 s7) I a3 (s6 + 1)).bind fun r8 =>
      (if r8 = 0 then
        some (.inr (.inr ((-12), s7)))
      else
        ((am_at (A 78) (a3 + s6)).bind fun v9 =>
        ((f_X11_isWithin v9 0 99).bind fun r10 =>
        (((if r10 = 0 then
            some (s5, s7)
          else
            ((am_up s7 s6 v9).bind fun y11 =>
            some ((s5 + 1), y11))) : Option (Int32 × (List Int32))).bind (fun q => match q with
        | (j12, j13) =>
        some (.inl (j12, (s6 + 1), j13)))))))))
def f_X11_seatsRow (A : Nat → List Int32) (I : Nat → Int32) (a1 : Int32) (a2 : Int32) (a3 : Int32) (a4 : Int32) : Option (Int32 × (List Int32)) :=
  ((f_X11_isSheet a1).bind fun r1 =>
  (if r1 = 0 then
    some ((-2), (A 23))
  else
    ((f_X11_isWithin a2 0 2).bind fun r2 =>
    (if r2 = 0 then
      some ((-2), (A 23))
    else
      ((f_X11_isWithin a4 0 8).bind fun r3 =>
      (if r3 = 0 then
        some ((-2), (A 23))
      else
        (if a1 = 0 then
          ((f_X10_isMissing_77 A I).bind fun r4 =>
          (if r4 = 0 then
            (if (I 4928) = a2 then
              ((wl (f_X11_seatsRow_l1 A I a3 a4) 100000 (0, 0, (A 23))).bind (fun q => match q with
              | .inl (e14, e15) =>
              some (e14, e15)
              | .inr v => some v))
            else
              some ((-13), (A 23)))
          else
            some ((-11), (A 23))))
        else
        (if a1 = 1 then
          ((f_X10_isMissing_79 A I).bind fun r16 =>
          (if r16 = 0 then
            (if (I 5056) = a2 then
              ((wl (f_X11_seatsRow_l2 A I a3 a4) 100000 (0, 0, (A 23))).bind (fun q => match q with
              | .inl (e26, e27) =>
              some (e26, e27)
              | .inr v => some v))
            else
              some ((-13), (A 23)))
          else
            some ((-11), (A 23))))
        else
        (if a1 = 2 then
          ((f_X10_isMissing_81 A I).bind fun r28 =>
          (if r28 = 0 then
            (if (I 5184) = a2 then
              ((wl (f_X11_seatsRow_l3 A I a3 a4) 100000 (0, 0, (A 23))).bind (fun q => match q with
              | .inl (e38, e39) =>
              some (e38, e39)
              | .inr v => some v))
            else
              some ((-13), (A 23)))
          else
            some ((-11), (A 23))))
        else
        (if a1 = 3 then
          ((f_X10_isMissing_83 A I).bind fun r40 =>
          (if r40 = 0 then
            (if (I 5312) = a2 then
              ((wl (f_X11_seatsRow_l4 A I a3 a4) 100000 (0, 0, (A 23))).bind (fun q => match q with
              | .inl (e50, e51) =>
              some (e50, e51)
              | .inr v => some v))
            else
              some ((-13), (A 23)))
          else
            some ((-11), (A 23))))
        else
        none))))))))))
set_option maxRecDepth 100000 in
set_option maxHeartbeats 4000000 in
theorem t_X11_seatsRow {xs : List Int32} (A : Nat → List Int32) (I : Nat → Int32) (x : am_X) (a1 : Int32) (a2 : Int32) (a3 : Int32) (a4 : Int32) {z : Int32 × (List Int32)} (hz : f_X11_seatsRow A I a1 a2 a3 a4 = some z) : am_Rt (am_ro xs) 3 ix_X11_seatsRow [.ref 0, .int a1, .int a2, .int a3, .int a4] (hp A I x) (some (.int z.1), hp (up A 23 z.2) I x) := by
  refine am_Rt.J (k := ix_X11_seatsRow) (M := mc_X11_seatsRow) (nL := 9) (d := 2) (as := [.ref 0, .int a1, .int a2, .int a3, .int a4]) (res := fun z => (some (.int z.1), hp (up A 23 z.2) I x)) rfl (Nat.le_of_ble_eq_true rfl) (fun r => ?_) hz
  unfold f_X11_seatsRow
  refine am_J.go 1 rfl ?_
  refine am_J.callz (v := fun r1 => r1) (h' := fun r1 => hp A I x) rfl rfl rfl (fun r1 hw => (t_X11_isSheet (h := hp A I x) a1 hw)) (fun r1 hr1 => ?_)
  refine am_J.eq rfl ?_ ?_
  · refine am_J.go 1 rfl ?_
    exact am_J.ret rfl (fun k => k)
  · refine am_J.go 3 rfl ?_
    refine am_J.callz (v := fun r2 => r2) (h' := fun r2 => hp A I x) rfl rfl rfl (fun r2 hw => (t_X11_isWithin (h := hp A I x) a2 0 2 hw).mono (Nat.le_of_ble_eq_true rfl)) (fun r2 hr2 => ?_)
    refine am_J.eq rfl ?_ ?_
    · refine am_J.go 1 rfl ?_
      exact am_J.ret rfl (fun k => k)
    · refine am_J.go 3 rfl ?_
      refine am_J.callz (v := fun r3 => r3) (h' := fun r3 => hp A I x) rfl rfl rfl (fun r3 hw => (t_X11_isWithin (h := hp A I x) a4 0 8 hw).mono (Nat.le_of_ble_eq_true rfl)) (fun r3 hr3 => ?_)
      refine am_J.ne rfl ?_ ?_
      · refine am_J.go 1 rfl ?_
        exact am_J.ret rfl (fun k => k)
      · refine am_J.go 3 rfl ?_
        refine am_J.sel rfl rfl ?_ ?_ ?_ ?_
        · refine am_J.go 2 rfl ?_
          refine am_J.callz (v := fun r4 => r4) (h' := fun r4 => hp A I x) rfl rfl rfl (fun r4 hw => (t_X10_isMissing_77 A I x hw).mono (Nat.le_of_ble_eq_true rfl)) (fun r4 hr4 => ?_)
          refine am_J.eq rfl ?_ ?_
          · refine am_J.go 3 rfl ?_
            refine am_J.eq rfl ?_ ?_
            · refine am_J.go (cf' := (67, [some (.ref 0), some (.int a1), some (.int a2), some (.int a3), some (.int a4), some (.ref 77), some (.int 0), some (.int 0), none], [], hp A I x)) 4 rfl ?_
              refine am_J.weak (L' := [some (.ref 0), none, none, some (.int a3), some (.int a4), some (.ref 77), some (.int 0), some (.int 0), none]) (am_Lle.k (am_Lle.o (am_Lle.o (am_Lle.k (am_Lle.k (am_Lle.k (am_Lle.k (am_Lle.k (am_Lle.o am_Lle.nil))))))))) ?_
              refine am_J.loop (cl := fun q => match q with | (s5, s6, s7) => (67, [some (.ref 0), none, none, some (.int a3), some (.int a4), some (.ref 77), some (.int s5), some (.int s6), none], [], hp (up A 23 s7) I x)) (GX := fun q => Sum.elim (fun q => match q with | (e14, e15) => am_Ev (am_ro xs) 2 mc_X11_seatsRow (134, [none, none, none, none, none, none, some (.int e14), none, none], [], hp (up A 23 e15) I x) r) (fun (z : Int32 × (List Int32)) => r = (some (.int z.1), hp (up A 23 z.2) I x)) q) ?_ ?_
              · rintro ⟨s5, s6, s7⟩
                unfold f_X11_seatsRow_l1
                refine am_J.go 2 rfl ?_
                refine am_J.ge rfl ?_ ?_
                · refine am_J.go (cf' := (134, [some (.ref 0), none, none, some (.int a3), some (.int a4), some (.ref 77), some (.int s5), some (.int s6), none], [], hp (up A 23 s7) I x)) 0 rfl ?_
                  exact am_J.leaf (fun k => am_Ev.weak (L' := [none, none, none, none, none, none, some (.int s5), none, none]) (am_Lle.o (am_Lle.o (am_Lle.o (am_Lle.o (am_Lle.o (am_Lle.o (am_Lle.k (am_Lle.o (am_Lle.o am_Lle.nil))))))))) k)
                · refine am_J.go 5 rfl ?_
                  refine am_J.callz (v := fun r8 => r8) (h' := fun r8 => hp (up A 23 s7) I x) rfl rfl rfl (fun r8 hw => (t_X10_holds_77 (up A 23 s7) I x a3 (s6 + 1) hw).mono (Nat.le_of_ble_eq_true rfl)) (fun r8 hr8 => ?_)
                  refine am_J.ne rfl ?_ ?_
                  · refine am_J.go 1 rfl ?_
                    exact am_J.ret rfl (fun k => k)
                  · refine am_J.go 5 rfl ?_
                    refine am_J.ial (xs := (A 78)) rfl (Nat.le_of_ble_eq_true rfl) rfl (fun v9 => ?_)
                    refine am_J.go 4 rfl ?_
                    refine am_J.callz (v := fun r10 => r10) (h' := fun r10 => hp (up A 23 s7) I x) rfl rfl rfl (fun r10 hw => (t_X11_isWithin (h := hp (up A 23 s7) I x) v9 0 99 hw).mono (Nat.le_of_ble_eq_true rfl)) (fun r10 hr10 => ?_)
                    refine am_J.join (β := Int32 × (List Int32)) (cj := fun q => match q with | (j12, j13) => (128, [some (.ref 0), none, none, some (.int a3), some (.int a4), some (.ref 77), some (.int j12), some (.int s6), none], [], hp (up A 23 j13) I x)) ?_ ?_
                    · refine am_J.eq rfl ?_ ?_
                      · refine am_J.go (cf' := (128, [some (.ref 0), none, none, some (.int a3), some (.int a4), some (.ref 77), some (.int s5), some (.int s6), some (.int v9)], [], hp (up A 23 s7) I x)) 0 rfl ?_
                        exact am_J.leaf (fun k => am_Ev.weak (L' := [some (.ref 0), none, none, some (.int a3), some (.int a4), some (.ref 77), some (.int s5), some (.int s6), none]) (am_Lle.k (am_Lle.o (am_Lle.o (am_Lle.k (am_Lle.k (am_Lle.k (am_Lle.k (am_Lle.k (am_Lle.o am_Lle.nil))))))))) k)
                      · refine am_J.go 5 rfl ?_
                        refine am_J.ias (xs := s7) (h' := fun y11 => hp (up A 23 y11) I x) rfl rfl (fun _ => rfl) (fun y11 => ?_)
                        refine am_J.go (cf' := (128, [some (.ref 0), none, none, some (.int a3), some (.int a4), some (.ref 77), some (.int (s5 + 1)), some (.int s6), some (.int v9)], [], hp (up A 23 y11) I x)) 1 rfl ?_
                        exact am_J.leaf (fun k => am_Ev.weak (L' := [some (.ref 0), none, none, some (.int a3), some (.int a4), some (.ref 77), some (.int (s5 + 1)), some (.int s6), none]) (am_Lle.k (am_Lle.o (am_Lle.o (am_Lle.k (am_Lle.k (am_Lle.k (am_Lle.k (am_Lle.k (am_Lle.o am_Lle.nil))))))))) k)
                    · rintro ⟨j12, j13⟩
                      refine am_J.go (cf' := (67, [some (.ref 0), none, none, some (.int a3), some (.int a4), some (.ref 77), some (.int j12), some (.int (s6 + 1)), none], [], hp (up A 23 j13) I x)) 2 rfl ?_
                      exact am_J.leaf (fun k => am_Ev.weak (L' := [some (.ref 0), none, none, some (.int a3), some (.int a4), some (.ref 77), some (.int j12), some (.int (s6 + 1)), none]) (am_Lle.k (am_Lle.o (am_Lle.o (am_Lle.k (am_Lle.k (am_Lle.k (am_Lle.k (am_Lle.k (am_Lle.o am_Lle.nil))))))))) k)
              · intro q
                rcases q with ⟨e14, e15⟩ | v
                · refine (?_ : am_J (am_ro xs) 2 mc_X11_seatsRow r (134, [none, none, none, none, none, none, some (.int e14), none, none], [], hp (up A 23 e15) I x) _ _)
                  refine am_J.go 1 rfl ?_
                  exact am_J.ret rfl (fun k => k)
                · intro z hz hk
                  cases hz
                  exact hk
            · refine am_J.go 1 rfl ?_
              exact am_J.ret rfl (fun k => k)
          · refine am_J.go 1 rfl ?_
            exact am_J.ret rfl (fun k => k)
        · refine am_J.go 2 rfl ?_
          refine am_J.callz (v := fun r16 => r16) (h' := fun r16 => hp A I x) rfl rfl rfl (fun r16 hw => (t_X10_isMissing_79 A I x hw).mono (Nat.le_of_ble_eq_true rfl)) (fun r16 hr16 => ?_)
          refine am_J.eq rfl ?_ ?_
          · refine am_J.go 3 rfl ?_
            refine am_J.eq rfl ?_ ?_
            · refine am_J.go (cf' := (67, [some (.ref 0), some (.int a1), some (.int a2), some (.int a3), some (.int a4), some (.ref 79), some (.int 0), some (.int 0), none], [], hp A I x)) 4 rfl ?_
              refine am_J.weak (L' := [some (.ref 0), none, none, some (.int a3), some (.int a4), some (.ref 79), some (.int 0), some (.int 0), none]) (am_Lle.k (am_Lle.o (am_Lle.o (am_Lle.k (am_Lle.k (am_Lle.k (am_Lle.k (am_Lle.k (am_Lle.o am_Lle.nil))))))))) ?_
              refine am_J.loop (cl := fun q => match q with | (s17, s18, s19) => (67, [some (.ref 0), none, none, some (.int a3), some (.int a4), some (.ref 79), some (.int s17), some (.int s18), none], [], hp (up A 23 s19) I x)) (GX := fun q => Sum.elim (fun q => match q with | (e26, e27) => am_Ev (am_ro xs) 2 mc_X11_seatsRow (134, [none, none, none, none, none, none, some (.int e26), none, none], [], hp (up A 23 e27) I x) r) (fun (z : Int32 × (List Int32)) => r = (some (.int z.1), hp (up A 23 z.2) I x)) q) ?_ ?_
              · rintro ⟨s17, s18, s19⟩
                unfold f_X11_seatsRow_l2
                refine am_J.go 2 rfl ?_
                refine am_J.ge rfl ?_ ?_
                · refine am_J.go (cf' := (134, [some (.ref 0), none, none, some (.int a3), some (.int a4), some (.ref 79), some (.int s17), some (.int s18), none], [], hp (up A 23 s19) I x)) 0 rfl ?_
                  exact am_J.leaf (fun k => am_Ev.weak (L' := [none, none, none, none, none, none, some (.int s17), none, none]) (am_Lle.o (am_Lle.o (am_Lle.o (am_Lle.o (am_Lle.o (am_Lle.o (am_Lle.k (am_Lle.o (am_Lle.o am_Lle.nil))))))))) k)
                · refine am_J.go 5 rfl ?_
                  refine am_J.callz (v := fun r20 => r20) (h' := fun r20 => hp (up A 23 s19) I x) rfl rfl rfl (fun r20 hw => (t_X10_holds_79 (up A 23 s19) I x a3 (s18 + 1) hw).mono (Nat.le_of_ble_eq_true rfl)) (fun r20 hr20 => ?_)
                  refine am_J.ne rfl ?_ ?_
                  · refine am_J.go 1 rfl ?_
                    exact am_J.ret rfl (fun k => k)
                  · refine am_J.go 5 rfl ?_
                    refine am_J.ial (xs := (A 80)) rfl (Nat.le_of_ble_eq_true rfl) rfl (fun v21 => ?_)
                    refine am_J.go 4 rfl ?_
                    refine am_J.callz (v := fun r22 => r22) (h' := fun r22 => hp (up A 23 s19) I x) rfl rfl rfl (fun r22 hw => (t_X11_isWithin (h := hp (up A 23 s19) I x) v21 0 99 hw).mono (Nat.le_of_ble_eq_true rfl)) (fun r22 hr22 => ?_)
                    refine am_J.join (β := Int32 × (List Int32)) (cj := fun q => match q with | (j24, j25) => (128, [some (.ref 0), none, none, some (.int a3), some (.int a4), some (.ref 79), some (.int j24), some (.int s18), none], [], hp (up A 23 j25) I x)) ?_ ?_
                    · refine am_J.eq rfl ?_ ?_
                      · refine am_J.go (cf' := (128, [some (.ref 0), none, none, some (.int a3), some (.int a4), some (.ref 79), some (.int s17), some (.int s18), some (.int v21)], [], hp (up A 23 s19) I x)) 0 rfl ?_
                        exact am_J.leaf (fun k => am_Ev.weak (L' := [some (.ref 0), none, none, some (.int a3), some (.int a4), some (.ref 79), some (.int s17), some (.int s18), none]) (am_Lle.k (am_Lle.o (am_Lle.o (am_Lle.k (am_Lle.k (am_Lle.k (am_Lle.k (am_Lle.k (am_Lle.o am_Lle.nil))))))))) k)
                      · refine am_J.go 5 rfl ?_
                        refine am_J.ias (xs := s19) (h' := fun y23 => hp (up A 23 y23) I x) rfl rfl (fun _ => rfl) (fun y23 => ?_)
                        refine am_J.go (cf' := (128, [some (.ref 0), none, none, some (.int a3), some (.int a4), some (.ref 79), some (.int (s17 + 1)), some (.int s18), some (.int v21)], [], hp (up A 23 y23) I x)) 1 rfl ?_
                        exact am_J.leaf (fun k => am_Ev.weak (L' := [some (.ref 0), none, none, some (.int a3), some (.int a4), some (.ref 79), some (.int (s17 + 1)), some (.int s18), none]) (am_Lle.k (am_Lle.o (am_Lle.o (am_Lle.k (am_Lle.k (am_Lle.k (am_Lle.k (am_Lle.k (am_Lle.o am_Lle.nil))))))))) k)
                    · rintro ⟨j24, j25⟩
                      refine am_J.go (cf' := (67, [some (.ref 0), none, none, some (.int a3), some (.int a4), some (.ref 79), some (.int j24), some (.int (s18 + 1)), none], [], hp (up A 23 j25) I x)) 2 rfl ?_
                      exact am_J.leaf (fun k => am_Ev.weak (L' := [some (.ref 0), none, none, some (.int a3), some (.int a4), some (.ref 79), some (.int j24), some (.int (s18 + 1)), none]) (am_Lle.k (am_Lle.o (am_Lle.o (am_Lle.k (am_Lle.k (am_Lle.k (am_Lle.k (am_Lle.k (am_Lle.o am_Lle.nil))))))))) k)
              · intro q
                rcases q with ⟨e26, e27⟩ | v
                · refine (?_ : am_J (am_ro xs) 2 mc_X11_seatsRow r (134, [none, none, none, none, none, none, some (.int e26), none, none], [], hp (up A 23 e27) I x) _ _)
                  refine am_J.go 1 rfl ?_
                  exact am_J.ret rfl (fun k => k)
                · intro z hz hk
                  cases hz
                  exact hk
            · refine am_J.go 1 rfl ?_
              exact am_J.ret rfl (fun k => k)
          · refine am_J.go 1 rfl ?_
            exact am_J.ret rfl (fun k => k)
        · refine am_J.go 2 rfl ?_
          refine am_J.callz (v := fun r28 => r28) (h' := fun r28 => hp A I x) rfl rfl rfl (fun r28 hw => (t_X10_isMissing_81 A I x hw).mono (Nat.le_of_ble_eq_true rfl)) (fun r28 hr28 => ?_)
          refine am_J.eq rfl ?_ ?_
          · refine am_J.go 3 rfl ?_
            refine am_J.eq rfl ?_ ?_
            · refine am_J.go (cf' := (67, [some (.ref 0), some (.int a1), some (.int a2), some (.int a3), some (.int a4), some (.ref 81), some (.int 0), some (.int 0), none], [], hp A I x)) 4 rfl ?_
              refine am_J.weak (L' := [some (.ref 0), none, none, some (.int a3), some (.int a4), some (.ref 81), some (.int 0), some (.int 0), none]) (am_Lle.k (am_Lle.o (am_Lle.o (am_Lle.k (am_Lle.k (am_Lle.k (am_Lle.k (am_Lle.k (am_Lle.o am_Lle.nil))))))))) ?_
              refine am_J.loop (cl := fun q => match q with | (s29, s30, s31) => (67, [some (.ref 0), none, none, some (.int a3), some (.int a4), some (.ref 81), some (.int s29), some (.int s30), none], [], hp (up A 23 s31) I x)) (GX := fun q => Sum.elim (fun q => match q with | (e38, e39) => am_Ev (am_ro xs) 2 mc_X11_seatsRow (134, [none, none, none, none, none, none, some (.int e38), none, none], [], hp (up A 23 e39) I x) r) (fun (z : Int32 × (List Int32)) => r = (some (.int z.1), hp (up A 23 z.2) I x)) q) ?_ ?_
              · rintro ⟨s29, s30, s31⟩
                unfold f_X11_seatsRow_l3
                refine am_J.go 2 rfl ?_
                refine am_J.ge rfl ?_ ?_
                · refine am_J.go (cf' := (134, [some (.ref 0), none, none, some (.int a3), some (.int a4), some (.ref 81), some (.int s29), some (.int s30), none], [], hp (up A 23 s31) I x)) 0 rfl ?_
                  exact am_J.leaf (fun k => am_Ev.weak (L' := [none, none, none, none, none, none, some (.int s29), none, none]) (am_Lle.o (am_Lle.o (am_Lle.o (am_Lle.o (am_Lle.o (am_Lle.o (am_Lle.k (am_Lle.o (am_Lle.o am_Lle.nil))))))))) k)
                · refine am_J.go 5 rfl ?_
                  refine am_J.callz (v := fun r32 => r32) (h' := fun r32 => hp (up A 23 s31) I x) rfl rfl rfl (fun r32 hw => (t_X10_holds_81 (up A 23 s31) I x a3 (s30 + 1) hw).mono (Nat.le_of_ble_eq_true rfl)) (fun r32 hr32 => ?_)
                  refine am_J.ne rfl ?_ ?_
                  · refine am_J.go 1 rfl ?_
                    exact am_J.ret rfl (fun k => k)
                  · refine am_J.go 5 rfl ?_
                    refine am_J.ial (xs := (A 82)) rfl (Nat.le_of_ble_eq_true rfl) rfl (fun v33 => ?_)
                    refine am_J.go 4 rfl ?_
                    refine am_J.callz (v := fun r34 => r34) (h' := fun r34 => hp (up A 23 s31) I x) rfl rfl rfl (fun r34 hw => (t_X11_isWithin (h := hp (up A 23 s31) I x) v33 0 99 hw).mono (Nat.le_of_ble_eq_true rfl)) (fun r34 hr34 => ?_)
                    refine am_J.join (β := Int32 × (List Int32)) (cj := fun q => match q with | (j36, j37) => (128, [some (.ref 0), none, none, some (.int a3), some (.int a4), some (.ref 81), some (.int j36), some (.int s30), none], [], hp (up A 23 j37) I x)) ?_ ?_
                    · refine am_J.eq rfl ?_ ?_
                      · refine am_J.go (cf' := (128, [some (.ref 0), none, none, some (.int a3), some (.int a4), some (.ref 81), some (.int s29), some (.int s30), some (.int v33)], [], hp (up A 23 s31) I x)) 0 rfl ?_
                        exact am_J.leaf (fun k => am_Ev.weak (L' := [some (.ref 0), none, none, some (.int a3), some (.int a4), some (.ref 81), some (.int s29), some (.int s30), none]) (am_Lle.k (am_Lle.o (am_Lle.o (am_Lle.k (am_Lle.k (am_Lle.k (am_Lle.k (am_Lle.k (am_Lle.o am_Lle.nil))))))))) k)
                      · refine am_J.go 5 rfl ?_
                        refine am_J.ias (xs := s31) (h' := fun y35 => hp (up A 23 y35) I x) rfl rfl (fun _ => rfl) (fun y35 => ?_)
                        refine am_J.go (cf' := (128, [some (.ref 0), none, none, some (.int a3), some (.int a4), some (.ref 81), some (.int (s29 + 1)), some (.int s30), some (.int v33)], [], hp (up A 23 y35) I x)) 1 rfl ?_
                        exact am_J.leaf (fun k => am_Ev.weak (L' := [some (.ref 0), none, none, some (.int a3), some (.int a4), some (.ref 81), some (.int (s29 + 1)), some (.int s30), none]) (am_Lle.k (am_Lle.o (am_Lle.o (am_Lle.k (am_Lle.k (am_Lle.k (am_Lle.k (am_Lle.k (am_Lle.o am_Lle.nil))))))))) k)
                    · rintro ⟨j36, j37⟩
                      refine am_J.go (cf' := (67, [some (.ref 0), none, none, some (.int a3), some (.int a4), some (.ref 81), some (.int j36), some (.int (s30 + 1)), none], [], hp (up A 23 j37) I x)) 2 rfl ?_
                      exact am_J.leaf (fun k => am_Ev.weak (L' := [some (.ref 0), none, none, some (.int a3), some (.int a4), some (.ref 81), some (.int j36), some (.int (s30 + 1)), none]) (am_Lle.k (am_Lle.o (am_Lle.o (am_Lle.k (am_Lle.k (am_Lle.k (am_Lle.k (am_Lle.k (am_Lle.o am_Lle.nil))))))))) k)
              · intro q
                rcases q with ⟨e38, e39⟩ | v
                · refine (?_ : am_J (am_ro xs) 2 mc_X11_seatsRow r (134, [none, none, none, none, none, none, some (.int e38), none, none], [], hp (up A 23 e39) I x) _ _)
                  refine am_J.go 1 rfl ?_
                  exact am_J.ret rfl (fun k => k)
                · intro z hz hk
                  cases hz
                  exact hk
            · refine am_J.go 1 rfl ?_
              exact am_J.ret rfl (fun k => k)
          · refine am_J.go 1 rfl ?_
            exact am_J.ret rfl (fun k => k)
        · refine am_J.go 2 rfl ?_
          refine am_J.callz (v := fun r40 => r40) (h' := fun r40 => hp A I x) rfl rfl rfl (fun r40 hw => (t_X10_isMissing_83 A I x hw).mono (Nat.le_of_ble_eq_true rfl)) (fun r40 hr40 => ?_)
          refine am_J.eq rfl ?_ ?_
          · refine am_J.go 3 rfl ?_
            refine am_J.eq rfl ?_ ?_
            · refine am_J.go (cf' := (67, [some (.ref 0), some (.int a1), some (.int a2), some (.int a3), some (.int a4), some (.ref 83), some (.int 0), some (.int 0), none], [], hp A I x)) 4 rfl ?_
              refine am_J.weak (L' := [some (.ref 0), none, none, some (.int a3), some (.int a4), some (.ref 83), some (.int 0), some (.int 0), none]) (am_Lle.k (am_Lle.o (am_Lle.o (am_Lle.k (am_Lle.k (am_Lle.k (am_Lle.k (am_Lle.k (am_Lle.o am_Lle.nil))))))))) ?_
              refine am_J.loop (cl := fun q => match q with | (s41, s42, s43) => (67, [some (.ref 0), none, none, some (.int a3), some (.int a4), some (.ref 83), some (.int s41), some (.int s42), none], [], hp (up A 23 s43) I x)) (GX := fun q => Sum.elim (fun q => match q with | (e50, e51) => am_Ev (am_ro xs) 2 mc_X11_seatsRow (134, [none, none, none, none, none, none, some (.int e50), none, none], [], hp (up A 23 e51) I x) r) (fun (z : Int32 × (List Int32)) => r = (some (.int z.1), hp (up A 23 z.2) I x)) q) ?_ ?_
              · rintro ⟨s41, s42, s43⟩
                unfold f_X11_seatsRow_l4
                refine am_J.go 2 rfl ?_
                refine am_J.ge rfl ?_ ?_
                · refine am_J.go (cf' := (134, [some (.ref 0), none, none, some (.int a3), some (.int a4), some (.ref 83), some (.int s41), some (.int s42), none], [], hp (up A 23 s43) I x)) 0 rfl ?_
                  exact am_J.leaf (fun k => am_Ev.weak (L' := [none, none, none, none, none, none, some (.int s41), none, none]) (am_Lle.o (am_Lle.o (am_Lle.o (am_Lle.o (am_Lle.o (am_Lle.o (am_Lle.k (am_Lle.o (am_Lle.o am_Lle.nil))))))))) k)
                · refine am_J.go 5 rfl ?_
                  refine am_J.callz (v := fun r44 => r44) (h' := fun r44 => hp (up A 23 s43) I x) rfl rfl rfl (fun r44 hw => (t_X10_holds_83 (up A 23 s43) I x a3 (s42 + 1) hw).mono (Nat.le_of_ble_eq_true rfl)) (fun r44 hr44 => ?_)
                  refine am_J.ne rfl ?_ ?_
                  · refine am_J.go 1 rfl ?_
                    exact am_J.ret rfl (fun k => k)
                  · refine am_J.go 5 rfl ?_
                    refine am_J.ial (xs := (A 84)) rfl (Nat.le_of_ble_eq_true rfl) rfl (fun v45 => ?_)
                    refine am_J.go 4 rfl ?_
                    refine am_J.callz (v := fun r46 => r46) (h' := fun r46 => hp (up A 23 s43) I x) rfl rfl rfl (fun r46 hw => (t_X11_isWithin (h := hp (up A 23 s43) I x) v45 0 99 hw).mono (Nat.le_of_ble_eq_true rfl)) (fun r46 hr46 => ?_)
                    refine am_J.join (β := Int32 × (List Int32)) (cj := fun q => match q with | (j48, j49) => (128, [some (.ref 0), none, none, some (.int a3), some (.int a4), some (.ref 83), some (.int j48), some (.int s42), none], [], hp (up A 23 j49) I x)) ?_ ?_
                    · refine am_J.eq rfl ?_ ?_
                      · refine am_J.go (cf' := (128, [some (.ref 0), none, none, some (.int a3), some (.int a4), some (.ref 83), some (.int s41), some (.int s42), some (.int v45)], [], hp (up A 23 s43) I x)) 0 rfl ?_
                        exact am_J.leaf (fun k => am_Ev.weak (L' := [some (.ref 0), none, none, some (.int a3), some (.int a4), some (.ref 83), some (.int s41), some (.int s42), none]) (am_Lle.k (am_Lle.o (am_Lle.o (am_Lle.k (am_Lle.k (am_Lle.k (am_Lle.k (am_Lle.k (am_Lle.o am_Lle.nil))))))))) k)
                      · refine am_J.go 5 rfl ?_
                        refine am_J.ias (xs := s43) (h' := fun y47 => hp (up A 23 y47) I x) rfl rfl (fun _ => rfl) (fun y47 => ?_)
                        refine am_J.go (cf' := (128, [some (.ref 0), none, none, some (.int a3), some (.int a4), some (.ref 83), some (.int (s41 + 1)), some (.int s42), some (.int v45)], [], hp (up A 23 y47) I x)) 1 rfl ?_
                        exact am_J.leaf (fun k => am_Ev.weak (L' := [some (.ref 0), none, none, some (.int a3), some (.int a4), some (.ref 83), some (.int (s41 + 1)), some (.int s42), none]) (am_Lle.k (am_Lle.o (am_Lle.o (am_Lle.k (am_Lle.k (am_Lle.k (am_Lle.k (am_Lle.k (am_Lle.o am_Lle.nil))))))))) k)
                    · rintro ⟨j48, j49⟩
                      refine am_J.go (cf' := (67, [some (.ref 0), none, none, some (.int a3), some (.int a4), some (.ref 83), some (.int j48), some (.int (s42 + 1)), none], [], hp (up A 23 j49) I x)) 2 rfl ?_
                      exact am_J.leaf (fun k => am_Ev.weak (L' := [some (.ref 0), none, none, some (.int a3), some (.int a4), some (.ref 83), some (.int j48), some (.int (s42 + 1)), none]) (am_Lle.k (am_Lle.o (am_Lle.o (am_Lle.k (am_Lle.k (am_Lle.k (am_Lle.k (am_Lle.k (am_Lle.o am_Lle.nil))))))))) k)
              · intro q
                rcases q with ⟨e50, e51⟩ | v
                · refine (?_ : am_J (am_ro xs) 2 mc_X11_seatsRow r (134, [none, none, none, none, none, none, some (.int e50), none, none], [], hp (up A 23 e51) I x) _ _)
                  refine am_J.go 1 rfl ?_
                  exact am_J.ret rfl (fun k => k)
                · intro z hz hk
                  cases hz
                  exact hk
            · refine am_J.go 1 rfl ?_
              exact am_J.ret rfl (fun k => k)
          · refine am_J.go 1 rfl ?_
            exact am_J.ret rfl (fun k => k)
