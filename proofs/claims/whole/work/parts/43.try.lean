def f_X12_in (A : Nat → List Int32) (I : Nat → Int32) (a1 : Int32) (a2 : Int32) (a3 : Int32) : Option (Int32) :=
  (if a1 < a2 then
    some 0
  else
    (if a3 < a1 then
      some 0
    else
      some 1))
set_option maxRecDepth 100000 in
set_option maxHeartbeats 4000000 in
theorem t_X12_in {xs : List Int32} (A : Nat → List Int32) (I : Nat → Int32) (x : am_X) (a1 : Int32) (a2 : Int32) (a3 : Int32) {z : Int32} (hz : f_X12_in A I a1 a2 a3 = some z) : am_Rt (am_ro xs) 1 ix_X12_in [.ref 85, .int a1, .int a2, .int a3] (hp A I x) (some (.int z), hp A I x) := by
  refine am_Rt.J (k := ix_X12_in) (M := mc_X12_in) (nL := 4) (d := 0) (as := [.ref 85, .int a1, .int a2, .int a3]) (res := fun z => (some (.int z), hp A I x)) rfl (Nat.le_of_ble_eq_true rfl) (fun r => ?_) hz
  unfold f_X12_in
  refine am_J.go 2 rfl ?_
  refine am_J.lt rfl ?_ ?_
  · refine am_J.go 1 rfl ?_
    exact am_J.retz rfl (Or.inl rfl) (fun k => k)
  · refine am_J.go 2 rfl ?_
    refine am_J.gt rfl ?_ ?_
    · refine am_J.go 1 rfl ?_
      exact am_J.retz rfl (Or.inl rfl) (fun k => k)
    · refine am_J.go 2 rfl ?_
      exact am_J.retz rfl (Or.inr rfl) (fun k => k)

def f_X12_isLand (A : Nat → List Int32) (I : Nat → Int32) (a1 : Int32) : Option (Int32) :=
  ((f_X12_in A I a1 0 7).bind fun r1 =>
  some r1)
set_option maxRecDepth 100000 in
set_option maxHeartbeats 4000000 in
theorem t_X12_isLand {xs : List Int32} (A : Nat → List Int32) (I : Nat → Int32) (x : am_X) (a1 : Int32) {z : Int32} (hz : f_X12_isLand A I a1 = some z) : am_Rt (am_ro xs) 2 ix_X12_isLand [.ref 85, .int a1] (hp A I x) (some (.int z), hp A I x) := by
  refine am_Rt.J (k := ix_X12_isLand) (M := mc_X12_isLand) (nL := 2) (d := 1) (as := [.ref 85, .int a1]) (res := fun z => (some (.int z), hp A I x)) rfl (Nat.le_of_ble_eq_true rfl) (fun r => ?_) hz
  unfold f_X12_isLand
  refine am_J.go 4 rfl ?_
  refine am_J.callz (v := fun r1 => r1) (h' := fun r1 => hp A I x) rfl rfl rfl (fun r1 hw => (t_X12_in A I x a1 0 7 hw)) (fun r1 hr1 => ?_)
  exact am_J.retz rfl hr1 (fun k => k)

def f_X12_isOffice (A : Nat → List Int32) (I : Nat → Int32) (a1 : Int32) : Option (Int32) :=
  ((f_X12_in A I a1 0 5).bind fun r1 =>
  some r1)
set_option maxRecDepth 100000 in
set_option maxHeartbeats 4000000 in
theorem t_X12_isOffice {xs : List Int32} (A : Nat → List Int32) (I : Nat → Int32) (x : am_X) (a1 : Int32) {z : Int32} (hz : f_X12_isOffice A I a1 = some z) : am_Rt (am_ro xs) 2 ix_X12_isOffice [.ref 85, .int a1] (hp A I x) (some (.int z), hp A I x) := by
  refine am_Rt.J (k := ix_X12_isOffice) (M := mc_X12_isOffice) (nL := 2) (d := 1) (as := [.ref 85, .int a1]) (res := fun z => (some (.int z), hp A I x)) rfl (Nat.le_of_ble_eq_true rfl) (fun r => ?_) hz
  unfold f_X12_isOffice
  refine am_J.go 4 rfl ?_
  refine am_J.callz (v := fun r1 => r1) (h' := fun r1 => hp A I x) rfl rfl rfl (fun r1 hw => (t_X12_in A I x a1 0 5 hw)) (fun r1 hr1 => ?_)
  exact am_J.retz rfl hr1 (fun k => k)

def f_X12_isPerson (A : Nat → List Int32) (I : Nat → Int32) (a1 : Int32) : Option (Int32) :=
  ((f_X12_in A I a1 0 ((I 5442) - 1)).bind fun r1 =>
  some r1)
set_option maxRecDepth 100000 in
set_option maxHeartbeats 4000000 in
theorem t_X12_isPerson {xs : List Int32} (A : Nat → List Int32) (I : Nat → Int32) (x : am_X) (a1 : Int32) {z : Int32} (hz : f_X12_isPerson A I a1 = some z) : am_Rt (am_ro xs) 2 ix_X12_isPerson [.ref 85, .int a1] (hp A I x) (some (.int z), hp A I x) := by
  refine am_Rt.J (k := ix_X12_isPerson) (M := mc_X12_isPerson) (nL := 2) (d := 1) (as := [.ref 85, .int a1]) (res := fun z => (some (.int z), hp A I x)) rfl (Nat.le_of_ble_eq_true rfl) (fun r => ?_) hz
  unfold f_X12_isPerson
  refine am_J.go 7 rfl ?_
  refine am_J.callz (v := fun r1 => r1) (h' := fun r1 => hp A I x) rfl rfl rfl (fun r1 hw => (t_X12_in A I x a1 0 ((I 5442) - 1) hw)) (fun r1 hr1 => ?_)
  exact am_J.retz rfl hr1 (fun k => k)

def f_X12_office (A : Nat → List Int32) (I : Nat → Int32) (a1 : Int32) (a2 : Int32) : Option (Int32 × (List Int32)) :=
  ((f_X12_isOffice A I a1).bind fun r1 =>
  (if r1 = 0 then
    some ((-2), (A 89))
  else
    ((f_X12_isLand A I a2).bind fun r2 =>
    (if r2 = 0 then
      some ((-2), (A 89))
    else
      ((am_at (A 89) a1).bind fun v3 =>
      ((am_up (A 89) a1 a2).bind fun y4 =>
      some (v3, y4)))))))
set_option maxRecDepth 100000 in
set_option maxHeartbeats 4000000 in
theorem t_X12_office {xs : List Int32} (A : Nat → List Int32) (I : Nat → Int32) (x : am_X) (a1 : Int32) (a2 : Int32) {z : Int32 × (List Int32)} (hz : f_X12_office A I a1 a2 = some z) : am_Rt (am_ro xs) 3 ix_X12_office [.ref 85, .int a1, .int a2] (hp A I x) (some (.int z.1), hp (up A 89 z.2) I x) := by
  refine am_Rt.J (k := ix_X12_office) (M := mc_X12_office) (nL := 4) (d := 2) (as := [.ref 85, .int a1, .int a2]) (res := fun z => (some (.int z.1), hp (up A 89 z.2) I x)) rfl (Nat.le_of_ble_eq_true rfl) (fun r => ?_) hz
  unfold f_X12_office
  refine am_J.go 2 rfl ?_
  refine am_J.callz (v := fun r1 => r1) (h' := fun r1 => hp A I x) rfl rfl rfl (fun r1 hw => (t_X12_isOffice A I x a1 hw)) (fun r1 hr1 => ?_)
  refine am_J.eq rfl ?_ ?_
  · refine am_J.go 1 rfl ?_
    exact am_J.ret rfl (fun k => k)
  · refine am_J.go 2 rfl ?_
    refine am_J.callz (v := fun r2 => r2) (h' := fun r2 => hp A I x) rfl rfl rfl (fun r2 hw => (t_X12_isLand A I x a2 hw)) (fun r2 hr2 => ?_)
    refine am_J.ne rfl ?_ ?_
    · refine am_J.go 1 rfl ?_
      exact am_J.ret rfl (fun k => k)
    · refine am_J.go 3 rfl ?_
      refine am_J.ial (xs := (A 89)) rfl (Nat.le_of_ble_eq_true rfl) rfl (fun v3 => ?_)
      refine am_J.go 5 rfl ?_
      refine am_J.ias (xs := (A 89)) (h' := fun y4 => hp (up A 89 y4) I x) rfl rfl (fun _ => rfl) (fun y4 => ?_)
      refine am_J.go 1 rfl ?_
      exact am_J.ret rfl (fun k => k)

def f_X12_ones_l1 (A : Nat → List Int32) (I : Nat → Int32) : (Int32 × Int32) → Option ((Int32 × Int32) ⊕ (Int32)) := fun q => match q with
    | (s1, s2) =>
    (if s2 = 0 then
      some (.inr s1)
    else
      some (.inl ((s1 + 1), (s2 &&& (s2 - 1)))))
def f_X12_ones (A : Nat → List Int32) (I : Nat → Int32) (a1 : Int32) : Option (Int32) :=
  ((wl (f_X12_ones_l1 A I) 100000 (0, a1)).bind (fun e3 =>
  some e3))
set_option maxRecDepth 100000 in
set_option maxHeartbeats 4000000 in
theorem t_X12_ones {xs : List Int32} (A : Nat → List Int32) (I : Nat → Int32) (x : am_X) (a1 : Int32) {z : Int32} (hz : f_X12_ones A I a1 = some z) : am_Rt (am_ro xs) 1 ix_X12_ones [.ref 85, .int a1] (hp A I x) (some (.int z), hp A I x) := by
  refine am_Rt.J (k := ix_X12_ones) (M := mc_X12_ones) (nL := 4) (d := 0) (as := [.ref 85, .int a1]) (res := fun z => (some (.int z), hp A I x)) rfl (Nat.le_of_ble_eq_true rfl) (fun r => ?_) hz
  unfold f_X12_ones
  refine am_J.go (cf' := (4, [some (.ref 85), some (.int a1), some (.int 0), some (.int a1)], [], hp A I x)) 4 rfl ?_
  refine am_J.weak (L' := [some (.ref 85), none, some (.int 0), some (.int a1)]) (am_Lle.k (am_Lle.o (am_Lle.k (am_Lle.k am_Lle.nil)))) ?_
  refine am_J.loop (cl := fun q => match q with | (s1, s2) => (4, [some (.ref 85), none, some (.int s1), some (.int s2)], [], hp A I x)) (GX := fun e3 => am_Ev (am_ro xs) 0 mc_X12_ones (20, [none, none, some (.int e3), none], [], hp A I x) r) ?_ ?_
  · rintro ⟨s1, s2⟩
    unfold f_X12_ones_l1
    refine am_J.go 1 rfl ?_
    refine am_J.eq rfl ?_ ?_
    · refine am_J.go (cf' := (20, [some (.ref 85), none, some (.int s1), some (.int s2)], [], hp A I x)) 0 rfl ?_
      exact am_J.leaf (fun k => am_Ev.weak (L' := [none, none, some (.int s1), none]) (am_Lle.o (am_Lle.o (am_Lle.k (am_Lle.o am_Lle.nil)))) k)
    · refine am_J.go (cf' := (4, [some (.ref 85), none, some (.int (s1 + 1)), some (.int (s2 &&& (s2 - 1)))], [], hp A I x)) 8 rfl ?_
      exact am_J.leaf (fun k => am_Ev.weak (L' := [some (.ref 85), none, some (.int (s1 + 1)), some (.int (s2 &&& (s2 - 1)))]) (am_Lle.k (am_Lle.o (am_Lle.k (am_Lle.k am_Lle.nil)))) k)
  · rintro e3
    refine (?_ : am_J (am_ro xs) 0 mc_X12_ones r (20, [none, none, some (.int e3), none], [], hp A I x) _ _)
    refine am_J.go 1 rfl ?_
    exact am_J.ret rfl (fun k => k)

def f_X12_person (A : Nat → List Int32) (I : Nat → Int32) (a1 : Int32) : Option (Int32 × (List Int32) × Int32) :=
  ((f_X12_isLand A I a1).bind fun r1 =>
  (if r1 = 0 then
    some ((-2), (A 88), (I 5442))
  else
    (if (I 5442) = 12 then
      some ((-4), (A 88), (I 5442))
    else
      ((am_up (A 88) (I 5442) a1).bind fun y2 =>
      some ((((I 5442) + 1) - 1), y2, ((I 5442) + 1))))))
set_option maxRecDepth 100000 in
set_option maxHeartbeats 4000000 in
theorem t_X12_person {xs : List Int32} (A : Nat → List Int32) (I : Nat → Int32) (x : am_X) (a1 : Int32) {z : Int32 × (List Int32) × Int32} (hz : f_X12_person A I a1 = some z) : am_Rt (am_ro xs) 3 ix_X12_person [.ref 85, .int a1] (hp A I x) (some (.int z.1), hp (up A 88 z.2.1) (up I 5442 z.2.2) x) := by
  refine am_Rt.J (k := ix_X12_person) (M := mc_X12_person) (nL := 2) (d := 2) (as := [.ref 85, .int a1]) (res := fun z => (some (.int z.1), hp (up A 88 z.2.1) (up I 5442 z.2.2) x)) rfl (Nat.le_of_ble_eq_true rfl) (fun r => ?_) hz
  unfold f_X12_person
  refine am_J.go 2 rfl ?_
  refine am_J.callz (v := fun r1 => r1) (h' := fun r1 => hp A I x) rfl rfl rfl (fun r1 hw => (t_X12_isLand A I x a1 hw)) (fun r1 hr1 => ?_)
  refine am_J.ne rfl ?_ ?_
  · refine am_J.go 1 rfl ?_
    exact am_J.ret rfl (fun k => k)
  · refine am_J.go 3 rfl ?_
    refine am_J.ne rfl ?_ ?_
    · refine am_J.go 1 rfl ?_
      exact am_J.ret rfl (fun k => k)
    · refine am_J.go 5 rfl ?_
      refine am_J.ias (xs := (A 88)) (h' := fun y2 => hp (up A 88 y2) I x) rfl rfl (fun _ => rfl) (fun y2 => ?_)
      refine am_J.go 10 rfl ?_
      exact am_J.ret rfl (fun k => k)

def f_X12_sideOf_l1 (A : Nat → List Int32) (I : Nat → Int32) (a1 : Int32) (a2 : Int32) : (Int32 × Int32) → Option ((Int32 × Int32) ⊕ (Int32)) := fun q => match q with
    | (s1, s2) =>
    (if (I 5443) ≤ s2 then
      some (.inr s1)
    else
      ((am_at (A 91) s2).bind fun v3 =>
      (((if v3 = a1 then
          ((am_at (A 92) s2).bind fun v4 =>
          (if a2 < v4 then
            some s1
          else
            (if s1 < 0 then
              some s2
            else
              ((am_at (A 92) s2).bind fun v5 =>
              ((am_at (A 92) s1).bind fun v6 =>
              (if v5 < v6 then
                some s1
              else
                some s2))))))
        else
          some s1) : Option (Int32)).bind (fun j7 =>
      some (.inl (j7, (s2 + 1)))))))
def f_X12_sideOf (A : Nat → List Int32) (I : Nat → Int32) (a1 : Int32) (a2 : Int32) : Option (Int32) :=
  ((wl (f_X12_sideOf_l1 A I a1 a2) 100000 ((-1), 0)).bind (fun e8 =>
  (if 0 ≤ e8 then
    ((am_at (A 93) e8).bind fun v9 =>
    some v9)
  else
    some 0)))
set_option maxRecDepth 100000 in
set_option maxHeartbeats 4000000 in
theorem t_X12_sideOf {xs : List Int32} (A : Nat → List Int32) (I : Nat → Int32) (x : am_X) (a1 : Int32) (a2 : Int32) {z : Int32} (hz : f_X12_sideOf A I a1 a2 = some z) : am_Rt (am_ro xs) 1 ix_X12_sideOf [.ref 85, .int a1, .int a2] (hp A I x) (some (.int z), hp A I x) := by
  refine am_Rt.J (k := ix_X12_sideOf) (M := mc_X12_sideOf) (nL := 5) (d := 0) (as := [.ref 85, .int a1, .int a2]) (res := fun z => (some (.int z), hp A I x)) rfl (Nat.le_of_ble_eq_true rfl) (fun r => ?_) hz
  unfold f_X12_sideOf
  refine am_J.go (cf' := (5, [some (.ref 85), some (.int a1), some (.int a2), some (.int (-1)), some (.int 0)], [], hp A I x)) 4 rfl ?_
  refine am_J.weak (L' := [some (.ref 85), some (.int a1), some (.int a2), some (.int (-1)), some (.int 0)]) (am_Lle.k (am_Lle.k (am_Lle.k (am_Lle.k (am_Lle.k am_Lle.nil))))) ?_
  refine am_J.loop (cl := fun q => match q with | (s1, s2) => (5, [some (.ref 85), some (.int a1), some (.int a2), some (.int s1), some (.int s2)], [], hp A I x)) (GX := fun e8 => am_Ev (am_ro xs) 0 mc_X12_sideOf (65, [some (.ref 85), none, none, some (.int e8), none], [], hp A I x) r) ?_ ?_
  · rintro ⟨s1, s2⟩
    unfold f_X12_sideOf_l1
    refine am_J.go 3 rfl ?_
    refine am_J.ge rfl ?_ ?_
    · refine am_J.go (cf' := (65, [some (.ref 85), some (.int a1), some (.int a2), some (.int s1), some (.int s2)], [], hp A I x)) 0 rfl ?_
      exact am_J.leaf (fun k => am_Ev.weak (L' := [some (.ref 85), none, none, some (.int s1), none]) (am_Lle.k (am_Lle.o (am_Lle.o (am_Lle.k (am_Lle.o am_Lle.nil))))) k)
    · refine am_J.go 3 rfl ?_
      refine am_J.ial (xs := (A 91)) rfl (Nat.le_of_ble_eq_true rfl) rfl (fun v3 => ?_)
      refine am_J.go 1 rfl ?_
      refine am_J.join (β := Int32) (cj := fun j7 => (59, [some (.ref 85), some (.int a1), some (.int a2), some (.int j7), some (.int s2)], [], hp A I x)) ?_ ?_
      · refine am_J.ne rfl ?_ ?_
        · refine am_J.go 3 rfl ?_
          refine am_J.ial (xs := (A 92)) rfl (Nat.le_of_ble_eq_true rfl) rfl (fun v4 => ?_)
          refine am_J.go 1 rfl ?_
          refine am_J.gt rfl ?_ ?_
          · refine am_J.go (cf' := (59, [some (.ref 85), some (.int a1), some (.int a2), some (.int s1), some (.int s2)], [], hp A I x)) 0 rfl ?_
            exact am_J.leaf (fun k => am_Ev.weak (L' := [some (.ref 85), some (.int a1), some (.int a2), some (.int s1), some (.int s2)]) (am_Lle.k (am_Lle.k (am_Lle.k (am_Lle.k (am_Lle.k am_Lle.nil))))) k)
          · refine am_J.go 1 rfl ?_
            refine am_J.lt rfl ?_ ?_
            · refine am_J.go (cf' := (59, [some (.ref 85), some (.int a1), some (.int a2), some (.int s2), some (.int s2)], [], hp A I x)) 2 rfl ?_
              exact am_J.leaf (fun k => am_Ev.weak (L' := [some (.ref 85), some (.int a1), some (.int a2), some (.int s2), some (.int s2)]) (am_Lle.k (am_Lle.k (am_Lle.k (am_Lle.k (am_Lle.k am_Lle.nil))))) k)
            · refine am_J.go 3 rfl ?_
              refine am_J.ial (xs := (A 92)) rfl (Nat.le_of_ble_eq_true rfl) rfl (fun v5 => ?_)
              refine am_J.go 3 rfl ?_
              refine am_J.ial (xs := (A 92)) rfl (Nat.le_of_ble_eq_true rfl) rfl (fun v6 => ?_)
              refine am_J.lt rfl ?_ ?_
              · refine am_J.go (cf' := (59, [some (.ref 85), some (.int a1), some (.int a2), some (.int s1), some (.int s2)], [], hp A I x)) 0 rfl ?_
                exact am_J.leaf (fun k => am_Ev.weak (L' := [some (.ref 85), some (.int a1), some (.int a2), some (.int s1), some (.int s2)]) (am_Lle.k (am_Lle.k (am_Lle.k (am_Lle.k (am_Lle.k am_Lle.nil))))) k)
              · refine am_J.go (cf' := (59, [some (.ref 85), some (.int a1), some (.int a2), some (.int s2), some (.int s2)], [], hp A I x)) 2 rfl ?_
                exact am_J.leaf (fun k => am_Ev.weak (L' := [some (.ref 85), some (.int a1), some (.int a2), some (.int s2), some (.int s2)]) (am_Lle.k (am_Lle.k (am_Lle.k (am_Lle.k (am_Lle.k am_Lle.nil))))) k)
        · refine am_J.go (cf' := (59, [some (.ref 85), some (.int a1), some (.int a2), some (.int s1), some (.int s2)], [], hp A I x)) 0 rfl ?_
          exact am_J.leaf (fun k => am_Ev.weak (L' := [some (.ref 85), some (.int a1), some (.int a2), some (.int s1), some (.int s2)]) (am_Lle.k (am_Lle.k (am_Lle.k (am_Lle.k (am_Lle.k am_Lle.nil))))) k)
      · rintro j7
        refine am_J.go (cf' := (5, [some (.ref 85), some (.int a1), some (.int a2), some (.int j7), some (.int (s2 + 1))], [], hp A I x)) 2 rfl ?_
        exact am_J.leaf (fun k => am_Ev.weak (L' := [some (.ref 85), some (.int a1), some (.int a2), some (.int j7), some (.int (s2 + 1))]) (am_Lle.k (am_Lle.k (am_Lle.k (am_Lle.k (am_Lle.k am_Lle.nil))))) k)
  · rintro e8
    refine (?_ : am_J (am_ro xs) 0 mc_X12_sideOf r (65, [some (.ref 85), none, none, some (.int e8), none], [], hp A I x) _ _)
    refine am_J.go 1 rfl ?_
    refine am_J.ge rfl ?_ ?_
    · refine am_J.go 3 rfl ?_
      refine am_J.ial (xs := (A 93)) rfl (Nat.le_of_ble_eq_true rfl) rfl (fun v9 => ?_)
      exact am_J.ret rfl (fun k => k)
    · refine am_J.go 2 rfl ?_
      exact am_J.ret rfl (fun k => k)

def f_X6_turnOn_l1 (A : Nat → List Int32) (I : Nat → Int32) (a1 : Int32) (a2 : Int32) : (Int32 × Int32) → Option ((Int32 × Int32) ⊕ (Int32)) := fun q => match q with
    | (s1, s2) =>
    (if (I 69) ≤ s2 then
      some (.inr s1)
    else
      ((am_at (A 20) s2).bind fun v3 =>
      (((if v3 = a1 then
          ((am_at (A 21) s2).bind fun v4 =>
          (if a2 < v4 then
            some 0
          else
            some 1))
        else
          some 0) : Option (Int32)).bind (fun j5 =>
      (((if j5 = 0 then
          some s1
        else
          (if s1 = (-1) then
            some s2
          else
            ((am_at (A 21) s2).bind fun v6 =>
            ((am_at (A 21) s1).bind fun v7 =>
            (if v6 < v7 then
              some s1
            else
              some s2))))) : Option (Int32)).bind (fun j8 =>
      some (.inl (j8, (s2 + 1)))))))))
def f_X6_turnOn (A : Nat → List Int32) (I : Nat → Int32) (a1 : Int32) (a2 : Int32) : Option (Int32) :=
  ((wl (f_X6_turnOn_l1 A I a1 a2) 100000 ((-1), 0)).bind (fun e9 =>
  some e9))
set_option maxRecDepth 100000 in
set_option maxHeartbeats 4000000 in
theorem t_X6_turnOn {xs : List Int32} (A : Nat → List Int32) (I : Nat → Int32) (x : am_X) (a1 : Int32) (a2 : Int32) {z : Int32} (hz : f_X6_turnOn A I a1 a2 = some z) : am_Rt (am_ro xs) 1 ix_X6_turnOn [.ref 1, .int a1, .int a2] (hp A I x) (some (.int z), hp A I x) := by
  refine am_Rt.J (k := ix_X6_turnOn) (M := mc_X6_turnOn) (nL := 6) (d := 0) (as := [.ref 1, .int a1, .int a2]) (res := fun z => (some (.int z), hp A I x)) rfl (Nat.le_of_ble_eq_true rfl) (fun r => ?_) hz
  unfold f_X6_turnOn
  refine am_J.go (cf' := (5, [some (.ref 1), some (.int a1), some (.int a2), some (.int (-1)), some (.int 0), none], [], hp A I x)) 4 rfl ?_
  refine am_J.weak (L' := [some (.ref 1), some (.int a1), some (.int a2), some (.int (-1)), some (.int 0), none]) (am_Lle.k (am_Lle.k (am_Lle.k (am_Lle.k (am_Lle.k (am_Lle.o am_Lle.nil)))))) ?_
  refine am_J.loop (cl := fun q => match q with | (s1, s2) => (5, [some (.ref 1), some (.int a1), some (.int a2), some (.int s1), some (.int s2), none], [], hp A I x)) (GX := fun e9 => am_Ev (am_ro xs) 0 mc_X6_turnOn (78, [none, none, none, some (.int e9), none, none], [], hp A I x) r) ?_ ?_
  · rintro ⟨s1, s2⟩
    unfold f_X6_turnOn_l1
    refine am_J.go 3 rfl ?_
    refine am_J.ge rfl ?_ ?_
    · refine am_J.go (cf' := (78, [some (.ref 1), some (.int a1), some (.int a2), some (.int s1), some (.int s2), none], [], hp A I x)) 0 rfl ?_
      exact am_J.leaf (fun k => am_Ev.weak (L' := [none, none, none, some (.int s1), none, none]) (am_Lle.o (am_Lle.o (am_Lle.o (am_Lle.k (am_Lle.o (am_Lle.o am_Lle.nil)))))) k)
    · refine am_J.go 3 rfl ?_
      refine am_J.ial (xs := (A 20)) rfl (Nat.le_of_ble_eq_true rfl) rfl (fun v3 => ?_)
      refine am_J.go 1 rfl ?_
      refine am_J.join (β := Int32) (cj := fun j5 => (41, [some (.ref 1), some (.int a1), some (.int a2), some (.int s1), some (.int s2), none], [.int j5], hp A I x)) ?_ ?_
      · refine am_J.ne rfl ?_ ?_
        · refine am_J.go 3 rfl ?_
          refine am_J.ial (xs := (A 21)) rfl (Nat.le_of_ble_eq_true rfl) rfl (fun v4 => ?_)
          refine am_J.go 1 rfl ?_
          refine am_J.gt rfl ?_ ?_
          · refine am_J.go (cf' := (41, [some (.ref 1), some (.int a1), some (.int a2), some (.int s1), some (.int s2), none], [.int 0], hp A I x)) 1 rfl ?_
            exact am_J.leaf (fun k => am_Ev.weak (L' := [some (.ref 1), some (.int a1), some (.int a2), some (.int s1), some (.int s2), none]) (am_Lle.k (am_Lle.k (am_Lle.k (am_Lle.k (am_Lle.k (am_Lle.o am_Lle.nil)))))) k)
          · refine am_J.go (cf' := (41, [some (.ref 1), some (.int a1), some (.int a2), some (.int s1), some (.int s2), none], [.int 1], hp A I x)) 2 rfl ?_
            exact am_J.leaf (fun k => am_Ev.weak (L' := [some (.ref 1), some (.int a1), some (.int a2), some (.int s1), some (.int s2), none]) (am_Lle.k (am_Lle.k (am_Lle.k (am_Lle.k (am_Lle.k (am_Lle.o am_Lle.nil)))))) k)
        · refine am_J.go (cf' := (41, [some (.ref 1), some (.int a1), some (.int a2), some (.int s1), some (.int s2), none], [.int 0], hp A I x)) 1 rfl ?_
          exact am_J.leaf (fun k => am_Ev.weak (L' := [some (.ref 1), some (.int a1), some (.int a2), some (.int s1), some (.int s2), none]) (am_Lle.k (am_Lle.k (am_Lle.k (am_Lle.k (am_Lle.k (am_Lle.o am_Lle.nil)))))) k)
      · rintro j5
        refine am_J.go 2 rfl ?_
        refine am_J.join (β := Int32) (cj := fun j8 => (72, [some (.ref 1), some (.int a1), some (.int a2), some (.int j8), some (.int s2), none], [], hp A I x)) ?_ ?_
        · refine am_J.eq rfl ?_ ?_
          · refine am_J.go (cf' := (72, [some (.ref 1), some (.int a1), some (.int a2), some (.int s1), some (.int s2), some (.int j5)], [], hp A I x)) 0 rfl ?_
            exact am_J.leaf (fun k => am_Ev.weak (L' := [some (.ref 1), some (.int a1), some (.int a2), some (.int s1), some (.int s2), none]) (am_Lle.k (am_Lle.k (am_Lle.k (am_Lle.k (am_Lle.k (am_Lle.o am_Lle.nil)))))) k)
          · refine am_J.go 2 rfl ?_
            refine am_J.eq rfl ?_ ?_
            · refine am_J.go (cf' := (72, [some (.ref 1), some (.int a1), some (.int a2), some (.int s2), some (.int s2), some (.int j5)], [], hp A I x)) 2 rfl ?_
              exact am_J.leaf (fun k => am_Ev.weak (L' := [some (.ref 1), some (.int a1), some (.int a2), some (.int s2), some (.int s2), none]) (am_Lle.k (am_Lle.k (am_Lle.k (am_Lle.k (am_Lle.k (am_Lle.o am_Lle.nil)))))) k)
            · refine am_J.go 3 rfl ?_
              refine am_J.ial (xs := (A 21)) rfl (Nat.le_of_ble_eq_true rfl) rfl (fun v6 => ?_)
              refine am_J.go 3 rfl ?_
              refine am_J.ial (xs := (A 21)) rfl (Nat.le_of_ble_eq_true rfl) rfl (fun v7 => ?_)
              refine am_J.lt rfl ?_ ?_
              · refine am_J.go (cf' := (72, [some (.ref 1), some (.int a1), some (.int a2), some (.int s1), some (.int s2), some (.int j5)], [], hp A I x)) 0 rfl ?_
                exact am_J.leaf (fun k => am_Ev.weak (L' := [some (.ref 1), some (.int a1), some (.int a2), some (.int s1), some (.int s2), none]) (am_Lle.k (am_Lle.k (am_Lle.k (am_Lle.k (am_Lle.k (am_Lle.o am_Lle.nil)))))) k)
              · refine am_J.go (cf' := (72, [some (.ref 1), some (.int a1), some (.int a2), some (.int s2), some (.int s2), some (.int j5)], [], hp A I x)) 2 rfl ?_
                exact am_J.leaf (fun k => am_Ev.weak (L' := [some (.ref 1), some (.int a1), some (.int a2), some (.int s2), some (.int s2), none]) (am_Lle.k (am_Lle.k (am_Lle.k (am_Lle.k (am_Lle.k (am_Lle.o am_Lle.nil)))))) k)
        · rintro j8
          refine am_J.go (cf' := (5, [some (.ref 1), some (.int a1), some (.int a2), some (.int j8), some (.int (s2 + 1)), none], [], hp A I x)) 2 rfl ?_
          exact am_J.leaf (fun k => am_Ev.weak (L' := [some (.ref 1), some (.int a1), some (.int a2), some (.int j8), some (.int (s2 + 1)), none]) (am_Lle.k (am_Lle.k (am_Lle.k (am_Lle.k (am_Lle.k (am_Lle.o am_Lle.nil)))))) k)
  · rintro e9
    refine (?_ : am_J (am_ro xs) 0 mc_X6_turnOn r (78, [none, none, none, some (.int e9), none, none], [], hp A I x) _ _)
    refine am_J.go 1 rfl ?_
    exact am_J.ret rfl (fun k => k)
