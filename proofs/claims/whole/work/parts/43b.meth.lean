/-! ===== methods as functions (by wip/whole/dec.py) ===== -/
def f_X12_priceOf_l1 (A : Nat → List Int32) (I : Nat → Int32) (a1 : Int32) : (Int32 × Int32) → Option ((Int32 × Int32) ⊕ (Int32)) := fun q => match q with
    | (s1, s2) =>
    (if (I 5481) ≤ s2 then
      some (.inr s1)
    else
      (((if ((a1 >>> (s2 &&& 31)) &&& 1) = 1 then
          ((am_at (A 113) s2).bind fun v3 =>
          some v3)
        else
          some 0) : Option (Int32)).bind (fun j4 =>
      some (.inl ((s1 + j4), (s2 + 1))))))
def f_X12_priceOf (A : Nat → List Int32) (I : Nat → Int32) (a1 : Int32) : Option (Int32) :=
  ((wl (f_X12_priceOf_l1 A I a1) 100000 (0, 0)).bind (fun e5 =>
  some e5))
set_option maxRecDepth 100000 in
set_option maxHeartbeats 4000000 in
theorem t_X12_priceOf {xs : List Int32} (A : Nat → List Int32) (I : Nat → Int32) (x : am_X) (a1 : Int32) {z : Int32} (hz : f_X12_priceOf A I a1 = some z) : am_Rt (am_ro xs) 1 ix_X12_priceOf [.ref 85, .int a1] (hp A I x) (some (.int z), hp A I x) := by
  refine am_Rt.J (k := ix_X12_priceOf) (M := mc_X12_priceOf) (nL := 4) (d := 0) (as := [.ref 85, .int a1]) (res := fun z => (some (.int z), hp A I x)) rfl (Nat.le_of_ble_eq_true rfl) (fun r => ?_) hz
  unfold f_X12_priceOf
  refine am_J.go (cf' := (4, [some (.ref 85), some (.int a1), some (.int 0), some (.int 0)], [], hp A I x)) 4 rfl ?_
  refine am_J.weak (L' := [some (.ref 85), some (.int a1), some (.int 0), some (.int 0)]) (am_Lle.k (am_Lle.k (am_Lle.k (am_Lle.k am_Lle.nil)))) ?_
  refine am_J.loop (cl := fun q => match q with | (s1, s2) => (4, [some (.ref 85), some (.int a1), some (.int s1), some (.int s2)], [], hp A I x)) (GX := fun e5 => am_Ev (am_ro xs) 0 mc_X12_priceOf (40, [none, none, some (.int e5), none], [], hp A I x) r) ?_ ?_
  · rintro ⟨s1, s2⟩
    unfold f_X12_priceOf_l1
    refine am_J.go 3 rfl ?_
    refine am_J.ge rfl ?_ ?_
    · refine am_J.go (cf' := (40, [some (.ref 85), some (.int a1), some (.int s1), some (.int s2)], [], hp A I x)) 0 rfl ?_
      exact am_J.leaf (fun k => am_Ev.weak (L' := [none, none, some (.int s1), none]) (am_Lle.o (am_Lle.o (am_Lle.k (am_Lle.o am_Lle.nil)))) k)
    · refine am_J.go 7 rfl ?_
      refine am_J.join (β := Int32) (cj := fun j4 => (32, [some (.ref 85), some (.int a1), none, some (.int s2)], [.int j4, .int s1], hp A I x)) ?_ ?_
      · refine am_J.ne rfl ?_ ?_
        · refine am_J.go 3 rfl ?_
          refine am_J.ial (xs := (A 113)) rfl (Nat.le_of_ble_eq_true rfl) rfl (fun v3 => ?_)
          refine am_J.go (cf' := (32, [some (.ref 85), some (.int a1), some (.int s1), some (.int s2)], [.int v3, .int s1], hp A I x)) 1 rfl ?_
          exact am_J.leaf (fun k => am_Ev.weak (L' := [some (.ref 85), some (.int a1), none, some (.int s2)]) (am_Lle.k (am_Lle.k (am_Lle.o (am_Lle.k am_Lle.nil)))) k)
        · refine am_J.go (cf' := (32, [some (.ref 85), some (.int a1), some (.int s1), some (.int s2)], [.int 0, .int s1], hp A I x)) 1 rfl ?_
          exact am_J.leaf (fun k => am_Ev.weak (L' := [some (.ref 85), some (.int a1), none, some (.int s2)]) (am_Lle.k (am_Lle.k (am_Lle.o (am_Lle.k am_Lle.nil)))) k)
      · rintro j4
        refine am_J.go (cf' := (4, [some (.ref 85), some (.int a1), some (.int (s1 + j4)), some (.int (s2 + 1))], [], hp A I x)) 4 rfl ?_
        exact am_J.leaf (fun k => am_Ev.weak (L' := [some (.ref 85), some (.int a1), some (.int (s1 + j4)), some (.int (s2 + 1))]) (am_Lle.k (am_Lle.k (am_Lle.k (am_Lle.k am_Lle.nil)))) k)
  · rintro e5
    refine (?_ : am_J (am_ro xs) 0 mc_X12_priceOf r (40, [none, none, some (.int e5), none], [], hp A I x) _ _)
    refine am_J.go 1 rfl ?_
    exact am_J.ret rfl (fun k => k)

def f_X12_put (A : Nat → List Int32) (I : Nat → Int32) (a1 : Int32) : Option ((List Int32) × (List Int32)) :=
  ((am_at (A 103) (I 5473)).bind fun v1 =>
  ((am_up (A 104) ((160 * (I 5473)) + v1) a1).bind fun y2 =>
  ((am_at (A 103) (I 5473)).bind fun v3 =>
  ((am_up (A 103) (I 5473) (v3 + 1)).bind fun y4 =>
  some (y4, y2)))))
set_option maxRecDepth 100000 in
set_option maxHeartbeats 4000000 in
theorem t_X12_put {xs : List Int32} (A : Nat → List Int32) (I : Nat → Int32) (x : am_X) (a1 : Int32) {z : (List Int32) × (List Int32)} (hz : f_X12_put A I a1 = some z) : am_Rt (am_ro xs) 1 ix_X12_put [.ref 85, .int a1] (hp A I x) (none, hp (up (up A 103 z.1) 104 z.2) I x) := by
  refine am_Rt.J (k := ix_X12_put) (M := mc_X12_put) (nL := 2) (d := 0) (as := [.ref 85, .int a1]) (res := fun z => (none, hp (up (up A 103 z.1) 104 z.2) I x)) rfl (Nat.le_of_ble_eq_true rfl) (fun r => ?_) hz
  unfold f_X12_put
  refine am_J.go 10 rfl ?_
  refine am_J.ial (xs := (A 103)) rfl (Nat.le_of_ble_eq_true rfl) rfl (fun v1 => ?_)
  refine am_J.go 2 rfl ?_
  refine am_J.ias (xs := (A 104)) (h' := fun y2 => hp (up A 104 y2) I x) rfl rfl (fun _ => rfl) (fun y2 => ?_)
  refine am_J.go 5 rfl ?_
  refine am_J.ial (xs := (A 103)) rfl (Nat.le_of_ble_eq_true rfl) rfl (fun v3 => ?_)
  refine am_J.go 2 rfl ?_
  refine am_J.ias (xs := (A 103)) (h' := fun y4 => hp (up (up A 103 y4) 104 y2) I x) rfl rfl (fun _ => rfl) (fun y4 => ?_)
  exact am_J.ret rfl (fun k => k)

def f_X12_rank (A : Nat → List Int32) (I : Nat → Int32) (a1 : Int32) : Option (Int32) :=
  (if a1 = (-1) then
    some 1
  else
    (if a1 = (-2) then
      some 2
    else
      (if a1 = (-3) then
        some 3
      else
        (if a1 = (-4) then
          some 4
        else
          (if a1 = (-5) then
            some 4
          else
            (if a1 = (-6) then
              some 5
            else
              (if a1 = (-7) then
                some 5
              else
                (if a1 = (-8) then
                  some 6
                else
                  (if a1 = (-9) then
                    some 7
                  else
                    some 0)))))))))
set_option maxRecDepth 100000 in
set_option maxHeartbeats 4000000 in
theorem t_X12_rank {xs : List Int32} (A : Nat → List Int32) (I : Nat → Int32) (x : am_X) (a1 : Int32) {z : Int32} (hz : f_X12_rank A I a1 = some z) : am_Rt (am_ro xs) 1 ix_X12_rank [.ref 85, .int a1] (hp A I x) (some (.int z), hp A I x) := by
  refine am_Rt.J (k := ix_X12_rank) (M := mc_X12_rank) (nL := 2) (d := 0) (as := [.ref 85, .int a1]) (res := fun z => (some (.int z), hp A I x)) rfl (Nat.le_of_ble_eq_true rfl) (fun r => ?_) hz
  unfold f_X12_rank
  refine am_J.go 2 rfl ?_
  refine am_J.ne rfl ?_ ?_
  · refine am_J.go 2 rfl ?_
    exact am_J.ret rfl (fun k => k)
  · refine am_J.go 2 rfl ?_
    refine am_J.ne rfl ?_ ?_
    · refine am_J.go 2 rfl ?_
      exact am_J.ret rfl (fun k => k)
    · refine am_J.go 2 rfl ?_
      refine am_J.ne rfl ?_ ?_
      · refine am_J.go 2 rfl ?_
        exact am_J.ret rfl (fun k => k)
      · refine am_J.go 2 rfl ?_
        refine am_J.eq rfl ?_ ?_
        · refine am_J.go 2 rfl ?_
          exact am_J.ret rfl (fun k => k)
        · refine am_J.go 2 rfl ?_
          refine am_J.ne rfl ?_ ?_
          · refine am_J.go 2 rfl ?_
            exact am_J.ret rfl (fun k => k)
          · refine am_J.go 2 rfl ?_
            refine am_J.eq rfl ?_ ?_
            · refine am_J.go 2 rfl ?_
              exact am_J.ret rfl (fun k => k)
            · refine am_J.go 2 rfl ?_
              refine am_J.ne rfl ?_ ?_
              · refine am_J.go 2 rfl ?_
                exact am_J.ret rfl (fun k => k)
              · refine am_J.go 2 rfl ?_
                refine am_J.ne rfl ?_ ?_
                · refine am_J.go 2 rfl ?_
                  exact am_J.ret rfl (fun k => k)
                · refine am_J.go 2 rfl ?_
                  refine am_J.ne rfl ?_ ?_
                  · refine am_J.go 2 rfl ?_
                    exact am_J.ret rfl (fun k => k)
                  · refine am_J.go 1 rfl ?_
                    exact am_J.ret rfl (fun k => k)

def f_X12_rankOf (A : Nat → List Int32) (I : Nat → Int32) (a1 : Int32) : Option (Int32) :=
  ((am_at (A 94) a1).bind fun v1 =>
  (if v1 = 1 then
    some 3
  else
    ((am_at (A 94) a1).bind fun v2 =>
    (if v2 = 2 then
      some 2
    else
      ((am_at (A 94) a1).bind fun v3 =>
      (if v3 = 4 then
        some 4
      else
        ((am_at (A 94) a1).bind fun v4 =>
        (if v4 = 5 then
          some 5
        else
          some 1))))))))
set_option maxRecDepth 100000 in
set_option maxHeartbeats 4000000 in
theorem t_X12_rankOf {xs : List Int32} (A : Nat → List Int32) (I : Nat → Int32) (x : am_X) (a1 : Int32) {z : Int32} (hz : f_X12_rankOf A I a1 = some z) : am_Rt (am_ro xs) 1 ix_X12_rankOf [.ref 85, .int a1] (hp A I x) (some (.int z), hp A I x) := by
  refine am_Rt.J (k := ix_X12_rankOf) (M := mc_X12_rankOf) (nL := 2) (d := 0) (as := [.ref 85, .int a1]) (res := fun z => (some (.int z), hp A I x)) rfl (Nat.le_of_ble_eq_true rfl) (fun r => ?_) hz
  unfold f_X12_rankOf
  refine am_J.go 3 rfl ?_
  refine am_J.ial (xs := (A 94)) rfl (Nat.le_of_ble_eq_true rfl) rfl (fun v1 => ?_)
  refine am_J.go 1 rfl ?_
  refine am_J.ne rfl ?_ ?_
  · refine am_J.go 2 rfl ?_
    exact am_J.ret rfl (fun k => k)
  · refine am_J.go 3 rfl ?_
    refine am_J.ial (xs := (A 94)) rfl (Nat.le_of_ble_eq_true rfl) rfl (fun v2 => ?_)
    refine am_J.go 1 rfl ?_
    refine am_J.ne rfl ?_ ?_
    · refine am_J.go 2 rfl ?_
      exact am_J.ret rfl (fun k => k)
    · refine am_J.go 3 rfl ?_
      refine am_J.ial (xs := (A 94)) rfl (Nat.le_of_ble_eq_true rfl) rfl (fun v3 => ?_)
      refine am_J.go 1 rfl ?_
      refine am_J.ne rfl ?_ ?_
      · refine am_J.go 2 rfl ?_
        exact am_J.ret rfl (fun k => k)
      · refine am_J.go 3 rfl ?_
        refine am_J.ial (xs := (A 94)) rfl (Nat.le_of_ble_eq_true rfl) rfl (fun v4 => ?_)
        refine am_J.go 1 rfl ?_
        refine am_J.ne rfl ?_ ?_
        · refine am_J.go 2 rfl ?_
          exact am_J.ret rfl (fun k => k)
        · refine am_J.go 1 rfl ?_
          exact am_J.ret rfl (fun k => k)

def f_X12_road (A : Nat → List Int32) (I : Nat → Int32) (a1 : Int32) (a2 : Int32) (a3 : Int32) : Option (Int32 × (List Int32)) :=
  ((f_X12_isLand A I a1).bind fun r1 =>
  (if r1 = 0 then
    some ((-2), (A 86))
  else
    ((f_X12_isLand A I a2).bind fun r2 =>
    (if r2 = 0 then
      some ((-2), (A 86))
    else
      (if a1 = a2 then
        some ((-2), (A 86))
      else
        ((f_X12_in A I a3 1 99).bind fun r3 =>
        (if r3 = 0 then
          (if a3 = 999 then
            ((am_at (A 86) ((8 * a1) + a2)).bind fun v7 =>
            ((am_up (A 86) ((8 * a1) + a2) a3).bind fun y8 =>
            ((am_up y8 ((8 * a2) + a1) a3).bind fun y9 =>
            some (v7, y9))))
          else
            some ((-2), (A 86)))
        else
          ((am_at (A 86) ((8 * a1) + a2)).bind fun v4 =>
          ((am_up (A 86) ((8 * a1) + a2) a3).bind fun y5 =>
          ((am_up y5 ((8 * a2) + a1) a3).bind fun y6 =>
          some (v4, y6)))))))))))
set_option maxRecDepth 100000 in
set_option maxHeartbeats 4000000 in
theorem t_X12_road {xs : List Int32} (A : Nat → List Int32) (I : Nat → Int32) (x : am_X) (a1 : Int32) (a2 : Int32) (a3 : Int32) {z : Int32 × (List Int32)} (hz : f_X12_road A I a1 a2 a3 = some z) : am_Rt (am_ro xs) 3 ix_X12_road [.ref 85, .int a1, .int a2, .int a3] (hp A I x) (some (.int z.1), hp (up A 86 z.2) I x) := by
  refine am_Rt.J (k := ix_X12_road) (M := mc_X12_road) (nL := 5) (d := 2) (as := [.ref 85, .int a1, .int a2, .int a3]) (res := fun z => (some (.int z.1), hp (up A 86 z.2) I x)) rfl (Nat.le_of_ble_eq_true rfl) (fun r => ?_) hz
  unfold f_X12_road
  refine am_J.go 2 rfl ?_
  refine am_J.callz (v := fun r1 => r1) (h' := fun r1 => hp A I x) rfl rfl rfl (fun r1 hw => (t_X12_isLand A I x a1 hw)) (fun r1 hr1 => ?_)
  refine am_J.eq rfl ?_ ?_
  · refine am_J.go 1 rfl ?_
    exact am_J.ret rfl (fun k => k)
  · refine am_J.go 2 rfl ?_
    refine am_J.callz (v := fun r2 => r2) (h' := fun r2 => hp A I x) rfl rfl rfl (fun r2 hw => (t_X12_isLand A I x a2 hw)) (fun r2 hr2 => ?_)
    refine am_J.eq rfl ?_ ?_
    · refine am_J.go 1 rfl ?_
      exact am_J.ret rfl (fun k => k)
    · refine am_J.go 2 rfl ?_
      refine am_J.eq rfl ?_ ?_
      · refine am_J.go 1 rfl ?_
        exact am_J.ret rfl (fun k => k)
      · refine am_J.go 4 rfl ?_
        refine am_J.callz (v := fun r3 => r3) (h' := fun r3 => hp A I x) rfl rfl rfl (fun r3 hw => (t_X12_in A I x a3 1 99 hw).mono (Nat.le_of_ble_eq_true rfl)) (fun r3 hr3 => ?_)
        refine am_J.ne rfl ?_ ?_
        · refine am_J.go 2 rfl ?_
          refine am_J.eq rfl ?_ ?_
          · refine am_J.go 7 rfl ?_
            refine am_J.ial (xs := (A 86)) rfl (Nat.le_of_ble_eq_true rfl) rfl (fun v7 => ?_)
            refine am_J.go 9 rfl ?_
            refine am_J.ias (xs := (A 86)) (h' := fun y8 => hp (up A 86 y8) I x) rfl rfl (fun _ => rfl) (fun y8 => ?_)
            refine am_J.go 8 rfl ?_
            refine am_J.ias (xs := y8) (h' := fun y9 => hp (up A 86 y9) I x) rfl rfl (fun _ => rfl) (fun y9 => ?_)
            refine am_J.go 1 rfl ?_
            exact am_J.ret rfl (fun k => k)
          · refine am_J.go 1 rfl ?_
            exact am_J.ret rfl (fun k => k)
        · refine am_J.go 7 rfl ?_
          refine am_J.ial (xs := (A 86)) rfl (Nat.le_of_ble_eq_true rfl) rfl (fun v4 => ?_)
          refine am_J.go 9 rfl ?_
          refine am_J.ias (xs := (A 86)) (h' := fun y5 => hp (up A 86 y5) I x) rfl rfl (fun _ => rfl) (fun y5 => ?_)
          refine am_J.go 8 rfl ?_
          refine am_J.ias (xs := y5) (h' := fun y6 => hp (up A 86 y6) I x) rfl rfl (fun _ => rfl) (fun y6 => ?_)
          refine am_J.go 1 rfl ?_
          exact am_J.ret rfl (fun k => k)

def f_X12_rule (A : Nat → List Int32) (I : Nat → Int32) (a1 : Int32) (a2 : Int32) : Option (Int32 × (List Int32)) :=
  ((f_X12_isSide A I a1).bind fun r1 =>
  (if r1 = 0 then
    some ((-2), (A 102))
  else
    ((f_X12_in A I a2 0 ((I 5460) - 1)).bind fun r2 =>
    (if r2 = 0 then
      some ((-2), (A 102))
    else
      ((am_at (A 102) a1).bind fun v3 =>
      ((am_up (A 102) a1 a2).bind fun y4 =>
      some (v3, y4)))))))
set_option maxRecDepth 100000 in
set_option maxHeartbeats 4000000 in
theorem t_X12_rule {xs : List Int32} (A : Nat → List Int32) (I : Nat → Int32) (x : am_X) (a1 : Int32) (a2 : Int32) {z : Int32 × (List Int32)} (hz : f_X12_rule A I a1 a2 = some z) : am_Rt (am_ro xs) 3 ix_X12_rule [.ref 85, .int a1, .int a2] (hp A I x) (some (.int z.1), hp (up A 102 z.2) I x) := by
  refine am_Rt.J (k := ix_X12_rule) (M := mc_X12_rule) (nL := 4) (d := 2) (as := [.ref 85, .int a1, .int a2]) (res := fun z => (some (.int z.1), hp (up A 102 z.2) I x)) rfl (Nat.le_of_ble_eq_true rfl) (fun r => ?_) hz
  unfold f_X12_rule
  refine am_J.go 2 rfl ?_
  refine am_J.callz (v := fun r1 => r1) (h' := fun r1 => hp A I x) rfl rfl rfl (fun r1 hw => (t_X12_isSide A I x a1 hw)) (fun r1 hr1 => ?_)
  refine am_J.eq rfl ?_ ?_
  · refine am_J.go 1 rfl ?_
    exact am_J.ret rfl (fun k => k)
  · refine am_J.go 7 rfl ?_
    refine am_J.callz (v := fun r2 => r2) (h' := fun r2 => hp A I x) rfl rfl rfl (fun r2 hw => (t_X12_in A I x a2 0 ((I 5460) - 1) hw).mono (Nat.le_of_ble_eq_true rfl)) (fun r2 hr2 => ?_)
    refine am_J.ne rfl ?_ ?_
    · refine am_J.go 1 rfl ?_
      exact am_J.ret rfl (fun k => k)
    · refine am_J.go 3 rfl ?_
      refine am_J.ial (xs := (A 102)) rfl (Nat.le_of_ble_eq_true rfl) rfl (fun v3 => ?_)
      refine am_J.go 5 rfl ?_
      refine am_J.ias (xs := (A 102)) (h' := fun y4 => hp (up A 102 y4) I x) rfl rfl (fun _ => rfl) (fun y4 => ?_)
      refine am_J.go 1 rfl ?_
      exact am_J.ret rfl (fun k => k)

def f_X12_ruleZero (A : Nat → List Int32) (I : Nat → Int32) : Option ((List Int32) × (List Int32)) :=
  ((am_up (A 103) 0 1).bind fun y1 =>
  ((am_up (A 104) 0 10003).bind fun y2 =>
  ((am_up y1 1 1).bind fun y3 =>
  ((am_up y2 160 10005).bind fun y4 =>
  some (y3, y4)))))
set_option maxRecDepth 100000 in
set_option maxHeartbeats 4000000 in
theorem t_X12_ruleZero {xs : List Int32} (A : Nat → List Int32) (I : Nat → Int32) (x : am_X) {z : (List Int32) × (List Int32)} (hz : f_X12_ruleZero A I = some z) : am_Rt (am_ro xs) 1 ix_X12_ruleZero [.ref 85] (hp A I x) (none, hp (up (up A 103 z.1) 104 z.2) I x) := by
  refine am_Rt.J (k := ix_X12_ruleZero) (M := mc_X12_ruleZero) (nL := 1) (d := 0) (as := [.ref 85]) (res := fun z => (none, hp (up (up A 103 z.1) 104 z.2) I x)) rfl (Nat.le_of_ble_eq_true rfl) (fun r => ?_) hz
  unfold f_X12_ruleZero
  refine am_J.go 4 rfl ?_
  refine am_J.ias (xs := (A 103)) (h' := fun y1 => hp (up A 103 y1) I x) rfl rfl (fun _ => rfl) (fun y1 => ?_)
  refine am_J.go 4 rfl ?_
  refine am_J.ias (xs := (A 104)) (h' := fun y2 => hp (up (up A 103 y1) 104 y2) I x) rfl rfl (fun _ => rfl) (fun y2 => ?_)
  refine am_J.go 4 rfl ?_
  refine am_J.ias (xs := y1) (h' := fun y3 => hp (up (up A 103 y3) 104 y2) I x) rfl rfl (fun _ => rfl) (fun y3 => ?_)
  refine am_J.go 4 rfl ?_
  refine am_J.ias (xs := y2) (h' := fun y4 => hp (up (up A 103 y3) 104 y4) I x) rfl rfl (fun _ => rfl) (fun y4 => ?_)
  exact am_J.ret rfl (fun k => k)

def f_X12_seat (A : Nat → List Int32) (I : Nat → Int32) (a1 : Int32) (a2 : Int32) : Option (Int32 × (List Int32)) :=
  ((f_X12_isOffice A I a1).bind fun r1 =>
  (if r1 = 0 then
    some ((-5), (A 90))
  else
    (if a2 = (-1) then
      ((am_at (A 90) a1).bind fun v2 =>
      ((am_up (A 90) a1 a2).bind fun y3 =>
      some (v2, y3)))
    else
      ((f_X12_isPerson A I a2).bind fun r4 =>
      (if r4 = 0 then
        some ((-5), (A 90))
      else
        ((am_at (A 90) a1).bind fun v5 =>
        ((am_up (A 90) a1 a2).bind fun y6 =>
        some (v5, y6))))))))
set_option maxRecDepth 100000 in
set_option maxHeartbeats 4000000 in
theorem t_X12_seat {xs : List Int32} (A : Nat → List Int32) (I : Nat → Int32) (x : am_X) (a1 : Int32) (a2 : Int32) {z : Int32 × (List Int32)} (hz : f_X12_seat A I a1 a2 = some z) : am_Rt (am_ro xs) 3 ix_X12_seat [.ref 85, .int a1, .int a2] (hp A I x) (some (.int z.1), hp (up A 90 z.2) I x) := by
  refine am_Rt.J (k := ix_X12_seat) (M := mc_X12_seat) (nL := 4) (d := 2) (as := [.ref 85, .int a1, .int a2]) (res := fun z => (some (.int z.1), hp (up A 90 z.2) I x)) rfl (Nat.le_of_ble_eq_true rfl) (fun r => ?_) hz
  unfold f_X12_seat
  refine am_J.go 2 rfl ?_
  refine am_J.callz (v := fun r1 => r1) (h' := fun r1 => hp A I x) rfl rfl rfl (fun r1 hw => (t_X12_isOffice A I x a1 hw)) (fun r1 hr1 => ?_)
  refine am_J.eq rfl ?_ ?_
  · refine am_J.go 1 rfl ?_
    exact am_J.ret rfl (fun k => k)
  · refine am_J.go 2 rfl ?_
    refine am_J.eq rfl ?_ ?_
    · refine am_J.go 3 rfl ?_
      refine am_J.ial (xs := (A 90)) rfl (Nat.le_of_ble_eq_true rfl) rfl (fun v2 => ?_)
      refine am_J.go 5 rfl ?_
      refine am_J.ias (xs := (A 90)) (h' := fun y3 => hp (up A 90 y3) I x) rfl rfl (fun _ => rfl) (fun y3 => ?_)
      refine am_J.go 1 rfl ?_
      exact am_J.ret rfl (fun k => k)
    · refine am_J.go 2 rfl ?_
      refine am_J.callz (v := fun r4 => r4) (h' := fun r4 => hp A I x) rfl rfl rfl (fun r4 hw => (t_X12_isPerson A I x a2 hw)) (fun r4 hr4 => ?_)
      refine am_J.ne rfl ?_ ?_
      · refine am_J.go 1 rfl ?_
        exact am_J.ret rfl (fun k => k)
      · refine am_J.go 3 rfl ?_
        refine am_J.ial (xs := (A 90)) rfl (Nat.le_of_ble_eq_true rfl) rfl (fun v5 => ?_)
        refine am_J.go 5 rfl ?_
        refine am_J.ias (xs := (A 90)) (h' := fun y6 => hp (up A 90 y6) I x) rfl rfl (fun _ => rfl) (fun y6 => ?_)
        refine am_J.go 1 rfl ?_
        exact am_J.ret rfl (fun k => k)

def f_X12_seats (A : Nat → List Int32) (I : Nat → Int32) (a1 : Int32) (a2 : Int32) : Option (Int32 × (List Int32)) :=
  ((f_X12_isLand A I a1).bind fun r1 =>
  (if r1 = 0 then
    some ((-2), (A 116))
  else
    ((f_X12_in A I a2 0 99).bind fun r2 =>
    (if r2 = 0 then
      some ((-2), (A 116))
    else
      ((am_at (A 116) a1).bind fun v3 =>
      ((am_up (A 116) a1 a2).bind fun y4 =>
      some (v3, y4)))))))
set_option maxRecDepth 100000 in
set_option maxHeartbeats 4000000 in
theorem t_X12_seats {xs : List Int32} (A : Nat → List Int32) (I : Nat → Int32) (x : am_X) (a1 : Int32) (a2 : Int32) {z : Int32 × (List Int32)} (hz : f_X12_seats A I a1 a2 = some z) : am_Rt (am_ro xs) 3 ix_X12_seats [.ref 85, .int a1, .int a2] (hp A I x) (some (.int z.1), hp (up A 116 z.2) I x) := by
  refine am_Rt.J (k := ix_X12_seats) (M := mc_X12_seats) (nL := 4) (d := 2) (as := [.ref 85, .int a1, .int a2]) (res := fun z => (some (.int z.1), hp (up A 116 z.2) I x)) rfl (Nat.le_of_ble_eq_true rfl) (fun r => ?_) hz
  unfold f_X12_seats
  refine am_J.go 2 rfl ?_
  refine am_J.callz (v := fun r1 => r1) (h' := fun r1 => hp A I x) rfl rfl rfl (fun r1 hw => (t_X12_isLand A I x a1 hw)) (fun r1 hr1 => ?_)
  refine am_J.eq rfl ?_ ?_
  · refine am_J.go 1 rfl ?_
    exact am_J.ret rfl (fun k => k)
  · refine am_J.go 4 rfl ?_
    refine am_J.callz (v := fun r2 => r2) (h' := fun r2 => hp A I x) rfl rfl rfl (fun r2 hw => (t_X12_in A I x a2 0 99 hw).mono (Nat.le_of_ble_eq_true rfl)) (fun r2 hr2 => ?_)
    refine am_J.ne rfl ?_ ?_
    · refine am_J.go 1 rfl ?_
      exact am_J.ret rfl (fun k => k)
    · refine am_J.go 3 rfl ?_
      refine am_J.ial (xs := (A 116)) rfl (Nat.le_of_ble_eq_true rfl) rfl (fun v3 => ?_)
      refine am_J.go 5 rfl ?_
      refine am_J.ias (xs := (A 116)) (h' := fun y4 => hp (up A 116 y4) I x) rfl rfl (fun _ => rfl) (fun y4 => ?_)
      refine am_J.go 1 rfl ?_
      exact am_J.ret rfl (fun k => k)

def f_X12_seatsRow_l1 (A : Nat → List Int32) (I : Nat → Int32) (a1 : Int32) (a3 : Int32) (a4 : Int32) : (Int32 × Int32 × (List Int32)) → Option ((Int32 × Int32 × (List Int32)) ⊕ ((Int32 × (List Int32)) ⊕ (Int32 × (List Int32)))) := fun q => match q with
    | (s6, s7, s8) =>
    (if a4 ≤ s7 then
      some (.inr (.inl (s6, s8)))
    else
      (if a3 < 0 then
        some (.inr (.inr ((-12), s8)))
      else
        ((am_at (A 125) a1).bind fun v9 =>
        (if a3 ≤ ((v9 - s7) - 1) then
          ((am_at (A 126) (((40 * a1) + a3) + s7)).bind fun v10 =>
          ((f_X12_seats (up A 116 s8) I s7 v10).bind fun r11 =>
          (((if r11.1 < 0 then
              some 0
            else
              some 1) : Option (Int32)).bind (fun j12 =>
          some (.inl ((s6 + j12), (s7 + 1), r11.2))))))
        else
          some (.inr (.inr ((-12), s8)))))))
def f_X12_seatsRow_l2 (A : Nat → List Int32) (I : Nat → Int32) (a1 : Int32) (a3 : Int32) (a4 : Int32) : (Int32 × Int32 × (List Int32)) → Option ((Int32 × Int32 × (List Int32)) ⊕ ((Int32 × (List Int32)) ⊕ (Int32 × (List Int32)))) := fun q => match q with
    | (s17, s18, s19) =>
    (if a4 ≤ s18 then
      some (.inr (.inl (s17, s19)))
    else
      (if a3 < 0 then
        some (.inr (.inr ((-12), s19)))
      else
        ((am_at (A 125) a1).bind fun v20 =>
        (if a3 ≤ ((v20 - s18) - 1) then
          ((am_at (A 126) (((40 * a1) + a3) + s18)).bind fun v21 =>
          ((f_X12_seats (up A 116 s19) I s18 v21).bind fun r22 =>
          (((if r22.1 < 0 then
              some 0
            else
              some 1) : Option (Int32)).bind (fun j23 =>
          some (.inl ((s17 + j23), (s18 + 1), r22.2))))))
        else
          some (.inr (.inr ((-12), s19)))))))
def f_X12_seatsRow (A : Nat → List Int32) (I : Nat → Int32) (a1 : Int32) (a2 : Int32) (a3 : Int32) (a4 : Int32) : Option (Int32 × (List Int32)) :=
  ((f_X12_isSheet A I a1).bind fun r1 =>
  (if r1 = 0 then
    some ((-2), (A 116))
  else
    ((f_X12_in A I a2 0 2).bind fun r2 =>
    (if r2 = 0 then
      some ((-2), (A 116))
    else
      ((f_X12_in A I a4 0 8).bind fun r3 =>
      (if r3 = 0 then
        some ((-2), (A 116))
      else
        ((am_at (A 124) a1).bind fun v4 =>
        (if v4 < 0 then
          ((am_at (A 124) a1).bind fun v5 =>
          (if 0 ≤ v5 then
            ((wl (f_X12_seatsRow_l1 A I a1 a3 a4) 100000 (0, 0, (A 116))).bind (fun q => match q with
            | .inl (e13, e14) =>
            some (e13, e14)
            | .inr v => some v))
          else
            some ((-11), (A 116))))
        else
          ((am_at (A 124) a1).bind fun v15 =>
          (if v15 = a2 then
            ((am_at (A 124) a1).bind fun v16 =>
            (if 0 ≤ v16 then
              ((wl (f_X12_seatsRow_l2 A I a1 a3 a4) 100000 (0, 0, (A 116))).bind (fun q => match q with
              | .inl (e24, e25) =>
              some (e24, e25)
              | .inr v => some v))
            else
              some ((-11), (A 116))))
          else
            some ((-13), (A 116))))))))))))
set_option maxRecDepth 100000 in
set_option maxHeartbeats 4000000 in
theorem t_X12_seatsRow {xs : List Int32} (A : Nat → List Int32) (I : Nat → Int32) (x : am_X) (a1 : Int32) (a2 : Int32) (a3 : Int32) (a4 : Int32) {z : Int32 × (List Int32)} (hz : f_X12_seatsRow A I a1 a2 a3 a4 = some z) : am_Rt (am_ro xs) 4 ix_X12_seatsRow [.ref 85, .int a1, .int a2, .int a3, .int a4] (hp A I x) (some (.int z.1), hp (up A 116 z.2) I x) := by
  refine am_Rt.J (k := ix_X12_seatsRow) (M := mc_X12_seatsRow) (nL := 7) (d := 3) (as := [.ref 85, .int a1, .int a2, .int a3, .int a4]) (res := fun z => (some (.int z.1), hp (up A 116 z.2) I x)) rfl (Nat.le_of_ble_eq_true rfl) (fun r => ?_) hz
  unfold f_X12_seatsRow
  refine am_J.go 2 rfl ?_
  refine am_J.callz (v := fun r1 => r1) (h' := fun r1 => hp A I x) rfl rfl rfl (fun r1 hw => (t_X12_isSheet A I x a1 hw).mono (Nat.le_of_ble_eq_true rfl)) (fun r1 hr1 => ?_)
  refine am_J.eq rfl ?_ ?_
  · refine am_J.go 1 rfl ?_
    exact am_J.ret rfl (fun k => k)
  · refine am_J.go 4 rfl ?_
    refine am_J.callz (v := fun r2 => r2) (h' := fun r2 => hp A I x) rfl rfl rfl (fun r2 hw => (t_X12_in A I x a2 0 2 hw).mono (Nat.le_of_ble_eq_true rfl)) (fun r2 hr2 => ?_)
    refine am_J.eq rfl ?_ ?_
    · refine am_J.go 1 rfl ?_
      exact am_J.ret rfl (fun k => k)
    · refine am_J.go 4 rfl ?_
      refine am_J.callz (v := fun r3 => r3) (h' := fun r3 => hp A I x) rfl rfl rfl (fun r3 hw => (t_X12_in A I x a4 0 8 hw).mono (Nat.le_of_ble_eq_true rfl)) (fun r3 hr3 => ?_)
      refine am_J.ne rfl ?_ ?_
      · refine am_J.go 1 rfl ?_
        exact am_J.ret rfl (fun k => k)
      · refine am_J.go 3 rfl ?_
        refine am_J.ial (xs := (A 124)) rfl (Nat.le_of_ble_eq_true rfl) rfl (fun v4 => ?_)
        refine am_J.lt rfl ?_ ?_
        · refine am_J.go 3 rfl ?_
          refine am_J.ial (xs := (A 124)) rfl (Nat.le_of_ble_eq_true rfl) rfl (fun v5 => ?_)
          refine am_J.ge rfl ?_ ?_
          · refine am_J.go (cf' := (73, [some (.ref 85), some (.int a1), some (.int a2), some (.int a3), some (.int a4), some (.int 0), some (.int 0)], [], hp A I x)) 4 rfl ?_
            refine am_J.weak (L' := [some (.ref 85), some (.int a1), none, some (.int a3), some (.int a4), some (.int 0), some (.int 0)]) (am_Lle.k (am_Lle.k (am_Lle.o (am_Lle.k (am_Lle.k (am_Lle.k (am_Lle.k am_Lle.nil))))))) ?_
            refine am_J.loop (cl := fun q => match q with | (s6, s7, s8) => (73, [some (.ref 85), some (.int a1), none, some (.int a3), some (.int a4), some (.int s6), some (.int s7)], [], hp (up A 116 s8) I x)) (GX := fun q => Sum.elim (fun q => match q with | (e13, e14) => am_Ev (am_ro xs) 3 mc_X12_seatsRow (141, [none, none, none, none, none, some (.int e13), none], [], hp (up A 116 e14) I x) r) (fun (z : Int32 × (List Int32)) => r = (some (.int z.1), hp (up A 116 z.2) I x)) q) ?_ ?_
            · rintro ⟨s6, s7, s8⟩
              unfold f_X12_seatsRow_l1
              refine am_J.go 2 rfl ?_
              refine am_J.ge rfl ?_ ?_
              · refine am_J.go (cf' := (141, [some (.ref 85), some (.int a1), none, some (.int a3), some (.int a4), some (.int s6), some (.int s7)], [], hp (up A 116 s8) I x)) 0 rfl ?_
                exact am_J.leaf (fun k => am_Ev.weak (L' := [none, none, none, none, none, some (.int s6), none]) (am_Lle.o (am_Lle.o (am_Lle.o (am_Lle.o (am_Lle.o (am_Lle.k (am_Lle.o am_Lle.nil))))))) k)
              · refine am_J.go 1 rfl ?_
                refine am_J.lt rfl ?_ ?_
                · refine am_J.go 1 rfl ?_
                  exact am_J.ret rfl (fun k => k)
                · refine am_J.go 4 rfl ?_
                  refine am_J.ial (xs := (A 125)) rfl (Nat.le_of_ble_eq_true rfl) rfl (fun v9 => ?_)
                  refine am_J.go 4 rfl ?_
                  refine am_J.le rfl ?_ ?_
                  · refine am_J.go 12 rfl ?_
                    refine am_J.ial (xs := (A 126)) rfl (Nat.le_of_ble_eq_true rfl) rfl (fun v10 => ?_)
                    refine am_J.call (v := fun r11 => .int r11.1) (h' := fun r11 => hp (up A 116 r11.2) I x) rfl (fun r11 hw => (t_X12_seats (up A 116 s8) I x s7 v10 hw)) (fun r11 => ?_)
                    refine am_J.join (β := Int32) (cj := fun j12 => (132, [some (.ref 85), some (.int a1), none, some (.int a3), some (.int a4), none, some (.int s7)], [.int j12, .int s6], hp (up A 116 r11.2) I x)) ?_ ?_
                    · refine am_J.lt rfl ?_ ?_
                      · refine am_J.go (cf' := (132, [some (.ref 85), some (.int a1), none, some (.int a3), some (.int a4), some (.int s6), some (.int s7)], [.int 0, .int s6], hp (up A 116 r11.2) I x)) 1 rfl ?_
                        exact am_J.leaf (fun k => am_Ev.weak (L' := [some (.ref 85), some (.int a1), none, some (.int a3), some (.int a4), none, some (.int s7)]) (am_Lle.k (am_Lle.k (am_Lle.o (am_Lle.k (am_Lle.k (am_Lle.o (am_Lle.k am_Lle.nil))))))) k)
                      · refine am_J.go (cf' := (132, [some (.ref 85), some (.int a1), none, some (.int a3), some (.int a4), some (.int s6), some (.int s7)], [.int 1, .int s6], hp (up A 116 r11.2) I x)) 2 rfl ?_
                        exact am_J.leaf (fun k => am_Ev.weak (L' := [some (.ref 85), some (.int a1), none, some (.int a3), some (.int a4), none, some (.int s7)]) (am_Lle.k (am_Lle.k (am_Lle.o (am_Lle.k (am_Lle.k (am_Lle.o (am_Lle.k am_Lle.nil))))))) k)
                    · rintro j12
                      refine am_J.go (cf' := (73, [some (.ref 85), some (.int a1), none, some (.int a3), some (.int a4), some (.int (s6 + j12)), some (.int (s7 + 1))], [], hp (up A 116 r11.2) I x)) 4 rfl ?_
                      exact am_J.leaf (fun k => am_Ev.weak (L' := [some (.ref 85), some (.int a1), none, some (.int a3), some (.int a4), some (.int (s6 + j12)), some (.int (s7 + 1))]) (am_Lle.k (am_Lle.k (am_Lle.o (am_Lle.k (am_Lle.k (am_Lle.k (am_Lle.k am_Lle.nil))))))) k)
                  · refine am_J.go 1 rfl ?_
                    exact am_J.ret rfl (fun k => k)
            · intro q
              rcases q with ⟨e13, e14⟩ | v
              · refine (?_ : am_J (am_ro xs) 3 mc_X12_seatsRow r (141, [none, none, none, none, none, some (.int e13), none], [], hp (up A 116 e14) I x) _ _)
                refine am_J.go 1 rfl ?_
                exact am_J.ret rfl (fun k => k)
              · intro z hz hk
                cases hz
                exact hk
          · refine am_J.go 1 rfl ?_
            exact am_J.ret rfl (fun k => k)
        · refine am_J.go 3 rfl ?_
          refine am_J.ial (xs := (A 124)) rfl (Nat.le_of_ble_eq_true rfl) rfl (fun v15 => ?_)
          refine am_J.go 1 rfl ?_
          refine am_J.eq rfl ?_ ?_
          · refine am_J.go 3 rfl ?_
            refine am_J.ial (xs := (A 124)) rfl (Nat.le_of_ble_eq_true rfl) rfl (fun v16 => ?_)
            refine am_J.ge rfl ?_ ?_
            · refine am_J.go (cf' := (73, [some (.ref 85), some (.int a1), some (.int a2), some (.int a3), some (.int a4), some (.int 0), some (.int 0)], [], hp A I x)) 4 rfl ?_
              refine am_J.weak (L' := [some (.ref 85), some (.int a1), none, some (.int a3), some (.int a4), some (.int 0), some (.int 0)]) (am_Lle.k (am_Lle.k (am_Lle.o (am_Lle.k (am_Lle.k (am_Lle.k (am_Lle.k am_Lle.nil))))))) ?_
              refine am_J.loop (cl := fun q => match q with | (s17, s18, s19) => (73, [some (.ref 85), some (.int a1), none, some (.int a3), some (.int a4), some (.int s17), some (.int s18)], [], hp (up A 116 s19) I x)) (GX := fun q => Sum.elim (fun q => match q with | (e24, e25) => am_Ev (am_ro xs) 3 mc_X12_seatsRow (141, [none, none, none, none, none, some (.int e24), none], [], hp (up A 116 e25) I x) r) (fun (z : Int32 × (List Int32)) => r = (some (.int z.1), hp (up A 116 z.2) I x)) q) ?_ ?_
              · rintro ⟨s17, s18, s19⟩
                unfold f_X12_seatsRow_l2
                refine am_J.go 2 rfl ?_
                refine am_J.ge rfl ?_ ?_
                · refine am_J.go (cf' := (141, [some (.ref 85), some (.int a1), none, some (.int a3), some (.int a4), some (.int s17), some (.int s18)], [], hp (up A 116 s19) I x)) 0 rfl ?_
                  exact am_J.leaf (fun k => am_Ev.weak (L' := [none, none, none, none, none, some (.int s17), none]) (am_Lle.o (am_Lle.o (am_Lle.o (am_Lle.o (am_Lle.o (am_Lle.k (am_Lle.o am_Lle.nil))))))) k)
                · refine am_J.go 1 rfl ?_
                  refine am_J.lt rfl ?_ ?_
                  · refine am_J.go 1 rfl ?_
                    exact am_J.ret rfl (fun k => k)
                  · refine am_J.go 4 rfl ?_
                    refine am_J.ial (xs := (A 125)) rfl (Nat.le_of_ble_eq_true rfl) rfl (fun v20 => ?_)
                    refine am_J.go 4 rfl ?_
                    refine am_J.le rfl ?_ ?_
                    · refine am_J.go 12 rfl ?_
                      refine am_J.ial (xs := (A 126)) rfl (Nat.le_of_ble_eq_true rfl) rfl (fun v21 => ?_)
                      refine am_J.call (v := fun r22 => .int r22.1) (h' := fun r22 => hp (up A 116 r22.2) I x) rfl (fun r22 hw => (t_X12_seats (up A 116 s19) I x s18 v21 hw)) (fun r22 => ?_)
                      refine am_J.join (β := Int32) (cj := fun j23 => (132, [some (.ref 85), some (.int a1), none, some (.int a3), some (.int a4), none, some (.int s18)], [.int j23, .int s17], hp (up A 116 r22.2) I x)) ?_ ?_
                      · refine am_J.lt rfl ?_ ?_
                        · refine am_J.go (cf' := (132, [some (.ref 85), some (.int a1), none, some (.int a3), some (.int a4), some (.int s17), some (.int s18)], [.int 0, .int s17], hp (up A 116 r22.2) I x)) 1 rfl ?_
                          exact am_J.leaf (fun k => am_Ev.weak (L' := [some (.ref 85), some (.int a1), none, some (.int a3), some (.int a4), none, some (.int s18)]) (am_Lle.k (am_Lle.k (am_Lle.o (am_Lle.k (am_Lle.k (am_Lle.o (am_Lle.k am_Lle.nil))))))) k)
                        · refine am_J.go (cf' := (132, [some (.ref 85), some (.int a1), none, some (.int a3), some (.int a4), some (.int s17), some (.int s18)], [.int 1, .int s17], hp (up A 116 r22.2) I x)) 2 rfl ?_
                          exact am_J.leaf (fun k => am_Ev.weak (L' := [some (.ref 85), some (.int a1), none, some (.int a3), some (.int a4), none, some (.int s18)]) (am_Lle.k (am_Lle.k (am_Lle.o (am_Lle.k (am_Lle.k (am_Lle.o (am_Lle.k am_Lle.nil))))))) k)
                      · rintro j23
                        refine am_J.go (cf' := (73, [some (.ref 85), some (.int a1), none, some (.int a3), some (.int a4), some (.int (s17 + j23)), some (.int (s18 + 1))], [], hp (up A 116 r22.2) I x)) 4 rfl ?_
                        exact am_J.leaf (fun k => am_Ev.weak (L' := [some (.ref 85), some (.int a1), none, some (.int a3), some (.int a4), some (.int (s17 + j23)), some (.int (s18 + 1))]) (am_Lle.k (am_Lle.k (am_Lle.o (am_Lle.k (am_Lle.k (am_Lle.k (am_Lle.k am_Lle.nil))))))) k)
                    · refine am_J.go 1 rfl ?_
                      exact am_J.ret rfl (fun k => k)
              · intro q
                rcases q with ⟨e24, e25⟩ | v
                · refine (?_ : am_J (am_ro xs) 3 mc_X12_seatsRow r (141, [none, none, none, none, none, some (.int e24), none], [], hp (up A 116 e25) I x) _ _)
                  refine am_J.go 1 rfl ?_
                  exact am_J.ret rfl (fun k => k)
                · intro z hz hk
                  cases hz
                  exact hk
            · refine am_J.go 1 rfl ?_
              exact am_J.ret rfl (fun k => k)
          · refine am_J.go 1 rfl ?_
            exact am_J.ret rfl (fun k => k)

def f_X12_settle_l1 (A : Nat → List Int32) (I : Nat → Int32) (a1 : Int32) : ((List Int32) × (List Int32) × Int32 × Int32) → Option (((List Int32) × (List Int32) × Int32 × Int32) ⊕ ((List Int32) × (List Int32) × Int32 × Int32)) := fun q => match q with
    | (s1, s2, s3, s4) =>
    (if s3 ≤ 0 then
      some (.inr (s1, s2, s3, s4))
    else
      ((am_at (A 105) (s3 - 1)).bind fun v5 =>
      ((f_X12_rank (up (up A 103 s1) 104 s2) (up (up I 5470 s3) 5472 s4) v5).bind fun r6 =>
      (if r6 < a1 then
        some (.inr (s1, s2, s3, s4))
      else
        ((am_at (A 105) (s3 - 1)).bind fun v7 =>
        ((f_X12_put (up (up A 103 s1) 104 s2) (up (up I 5470 (s3 - 1)) 5472 s4) v7).bind fun r8 =>
        ((am_at (A 105) (s3 - 1)).bind fun v9 =>
        (if v9 = (-3) then
          some (.inl (r8.1, r8.2, (s3 - 1), (s4 - 1)))
        else
          ((am_at (A 105) (s3 - 1)).bind fun v10 =>
          (if v10 = (-9) then
            some (.inl (r8.1, r8.2, (s3 - 1), (s4 - 1)))
          else
            some (.inl (r8.1, r8.2, (s3 - 1), s4))))))))))))
def f_X12_settle (A : Nat → List Int32) (I : Nat → Int32) (a1 : Int32) : Option ((List Int32) × (List Int32) × Int32 × Int32) :=
  ((wl (f_X12_settle_l1 A I a1) 100000 ((A 103), (A 104), (I 5470), (I 5472))).bind (fun q => match q with
  | (e11, e12, e13, e14) =>
  some (e11, e12, e13, e14)))
set_option maxRecDepth 100000 in
set_option maxHeartbeats 4000000 in
theorem t_X12_settle {xs : List Int32} (A : Nat → List Int32) (I : Nat → Int32) (x : am_X) (a1 : Int32) {z : (List Int32) × (List Int32) × Int32 × Int32} (hz : f_X12_settle A I a1 = some z) : am_Rt (am_ro xs) 2 ix_X12_settle [.ref 85, .int a1] (hp A I x) (none, hp (up (up A 103 z.1) 104 z.2.1) (up (up I 5470 z.2.2.1) 5472 z.2.2.2) x) := by
  refine am_Rt.J (k := ix_X12_settle) (M := mc_X12_settle) (nL := 2) (d := 1) (as := [.ref 85, .int a1]) (res := fun z => (none, hp (up (up A 103 z.1) 104 z.2.1) (up (up I 5470 z.2.2.1) 5472 z.2.2.2) x)) rfl (Nat.le_of_ble_eq_true rfl) (fun r => ?_) hz
  unfold f_X12_settle
  refine am_J.go (cf' := (0, [some (.ref 85), some (.int a1)], [], hp A I x)) 0 rfl ?_
  refine am_J.weak (L' := [some (.ref 85), some (.int a1)]) (am_Lle.k (am_Lle.k am_Lle.nil)) ?_
  refine am_J.loop (cl := fun q => match q with | (s1, s2, s3, s4) => (0, [some (.ref 85), some (.int a1)], [], hp (up (up A 103 s1) 104 s2) (up (up I 5470 s3) 5472 s4) x)) (GX := fun q => match q with | (e11, e12, e13, e14) => am_Ev (am_ro xs) 1 mc_X12_settle (90, [none, none], [], hp (up (up A 103 e11) 104 e12) (up (up I 5470 e13) 5472 e14) x) r) ?_ ?_
  · rintro ⟨s1, s2, s3, s4⟩
    unfold f_X12_settle_l1
    refine am_J.go 2 rfl ?_
    refine am_J.le rfl ?_ ?_
    · refine am_J.go (cf' := (90, [some (.ref 85), some (.int a1)], [], hp (up (up A 103 s1) 104 s2) (up (up I 5470 s3) 5472 s4) x)) 0 rfl ?_
      exact am_J.leaf (fun k => am_Ev.weak (L' := [none, none]) (am_Lle.o (am_Lle.o am_Lle.nil)) k)
    · refine am_J.go 7 rfl ?_
      refine am_J.ial (xs := (A 105)) rfl (Nat.le_of_ble_eq_true rfl) rfl (fun v5 => ?_)
      refine am_J.call (v := fun r6 => .int r6) (h' := fun r6 => hp (up (up A 103 s1) 104 s2) (up (up I 5470 s3) 5472 s4) x) rfl (fun r6 hw => (t_X12_rank (up (up A 103 s1) 104 s2) (up (up I 5470 s3) 5472 s4) x v5 hw)) (fun r6 => ?_)
      refine am_J.go 1 rfl ?_
      refine am_J.lt rfl ?_ ?_
      · refine am_J.go (cf' := (90, [some (.ref 85), some (.int a1)], [], hp (up (up A 103 s1) 104 s2) (up (up I 5470 s3) 5472 s4) x)) 0 rfl ?_
        exact am_J.leaf (fun k => am_Ev.weak (L' := [none, none]) (am_Lle.o (am_Lle.o am_Lle.nil)) k)
      · refine am_J.go 11 rfl ?_
        refine am_J.ial (xs := (A 105)) rfl (Nat.le_of_ble_eq_true rfl) rfl (fun v7 => ?_)
        refine am_J.calln (h' := fun r8 => hp (up (up A 103 r8.1) 104 r8.2) (up (up I 5470 (s3 - 1)) 5472 s4) x) rfl (fun r8 hw => (t_X12_put (up (up A 103 s1) 104 s2) (up (up I 5470 (s3 - 1)) 5472 s4) x v7 hw)) (fun r8 => ?_)
        refine am_J.go 4 rfl ?_
        refine am_J.ial (xs := (A 105)) rfl (Nat.le_of_ble_eq_true rfl) rfl (fun v9 => ?_)
        refine am_J.go 1 rfl ?_
        refine am_J.eq rfl ?_ ?_
        · refine am_J.go (cf' := (0, [some (.ref 85), some (.int a1)], [], hp (up (up A 103 r8.1) 104 r8.2) (up (up I 5470 (s3 - 1)) 5472 (s4 - 1)) x)) 7 rfl ?_
          exact am_J.leaf (fun k => am_Ev.weak (L' := [some (.ref 85), some (.int a1)]) (am_Lle.k (am_Lle.k am_Lle.nil)) k)
        · refine am_J.go 4 rfl ?_
          refine am_J.ial (xs := (A 105)) rfl (Nat.le_of_ble_eq_true rfl) rfl (fun v10 => ?_)
          refine am_J.go 1 rfl ?_
          refine am_J.ne rfl ?_ ?_
          · refine am_J.go (cf' := (0, [some (.ref 85), some (.int a1)], [], hp (up (up A 103 r8.1) 104 r8.2) (up (up I 5470 (s3 - 1)) 5472 (s4 - 1)) x)) 7 rfl ?_
            exact am_J.leaf (fun k => am_Ev.weak (L' := [some (.ref 85), some (.int a1)]) (am_Lle.k (am_Lle.k am_Lle.nil)) k)
          · refine am_J.go (cf' := (0, [some (.ref 85), some (.int a1)], [], hp (up (up A 103 r8.1) 104 r8.2) (up (up I 5470 (s3 - 1)) 5472 s4) x)) 0 rfl ?_
            exact am_J.leaf (fun k => am_Ev.weak (L' := [some (.ref 85), some (.int a1)]) (am_Lle.k (am_Lle.k am_Lle.nil)) k)
  · rintro ⟨e11, e12, e13, e14⟩
    refine (?_ : am_J (am_ro xs) 1 mc_X12_settle r (90, [none, none], [], hp (up (up A 103 e11) 104 e12) (up (up I 5470 e13) 5472 e14) x) _ _)
    exact am_J.ret rfl (fun k => k)

def f_X12_sheet_l1 (A : Nat → List Int32) (I : Nat → Int32) (a1 : Int32) : (Int32 × (List Int32)) → Option ((Int32 × (List Int32)) ⊕ ((List Int32))) := fun q => match q with
    | (s6, s7) =>
    (if 40 ≤ s6 then
      some (.inr s7)
    else
      ((am_up s7 ((40 * a1) + s6) 0).bind fun y8 =>
      some (.inl ((s6 + 1), y8))))
def f_X12_sheet_l2 (A : Nat → List Int32) (I : Nat → Int32) (a1 : Int32) : (Int32 × (List Int32)) → Option ((Int32 × (List Int32)) ⊕ ((List Int32))) := fun q => match q with
    | (s13, s14) =>
    (if 40 ≤ s13 then
      some (.inr s14)
    else
      ((am_up s14 ((40 * a1) + s13) 0).bind fun y15 =>
      some (.inl ((s13 + 1), y15))))
def f_X12_sheet_l3 (A : Nat → List Int32) (I : Nat → Int32) (a1 : Int32) : (Int32 × (List Int32)) → Option ((Int32 × (List Int32)) ⊕ ((List Int32))) := fun q => match q with
    | (s20, s21) =>
    (if 40 ≤ s20 then
      some (.inr s21)
    else
      ((am_up s21 ((40 * a1) + s20) 0).bind fun y22 =>
      some (.inl ((s20 + 1), y22))))
def f_X12_sheet_l4 (A : Nat → List Int32) (I : Nat → Int32) (a1 : Int32) : (Int32 × (List Int32)) → Option ((Int32 × (List Int32)) ⊕ ((List Int32))) := fun q => match q with
    | (s27, s28) =>
    (if 40 ≤ s27 then
      some (.inr s28)
    else
      ((am_up s28 ((40 * a1) + s27) 0).bind fun y29 =>
      some (.inl ((s27 + 1), y29))))
def f_X12_sheet (A : Nat → List Int32) (I : Nat → Int32) (a1 : Int32) (a2 : Int32) (a3 : Int32) : Option (Int32 × (List Int32) × (List Int32) × (List Int32)) :=
  ((f_X12_isSheet A I a1).bind fun r1 =>
  (if r1 = 0 then
    some ((-2), (A 124), (A 125), (A 126))
  else
    ((f_X12_in A I a2 (-1) 2).bind fun r2 =>
    (if r2 = 0 then
      some ((-2), (A 124), (A 125), (A 126))
    else
      (if a2 < 0 then
        (if a2 < 0 then
          ((am_up (A 124) a1 a2).bind fun y3 =>
          (((if 0 ≤ a2 then
              some a3
            else
              some 0) : Option (Int32)).bind (fun j4 =>
          ((am_up (A 125) a1 j4).bind fun y5 =>
          ((wl (f_X12_sheet_l1 (up (up A 124 y3) 125 y5) I a1) 100000 (0, (A 126))).bind (fun e9 =>
          some (1, y3, y5, e9)))))))
        else
          (if 0 ≤ a3 then
            ((am_up (A 124) a1 a2).bind fun y10 =>
            (((if 0 ≤ a2 then
                some a3
              else
                some 0) : Option (Int32)).bind (fun j11 =>
            ((am_up (A 125) a1 j11).bind fun y12 =>
            ((wl (f_X12_sheet_l2 (up (up A 124 y10) 125 y12) I a1) 100000 (0, (A 126))).bind (fun e16 =>
            some (1, y10, y12, e16)))))))
          else
            some ((-14), (A 124), (A 125), (A 126))))
      else
        (if a3 ≤ 40 then
          (if a2 < 0 then
            ((am_up (A 124) a1 a2).bind fun y17 =>
            (((if 0 ≤ a2 then
                some a3
              else
                some 0) : Option (Int32)).bind (fun j18 =>
            ((am_up (A 125) a1 j18).bind fun y19 =>
            ((wl (f_X12_sheet_l3 (up (up A 124 y17) 125 y19) I a1) 100000 (0, (A 126))).bind (fun e23 =>
            some (1, y17, y19, e23)))))))
          else
            (if 0 ≤ a3 then
              ((am_up (A 124) a1 a2).bind fun y24 =>
              (((if 0 ≤ a2 then
                  some a3
                else
                  some 0) : Option (Int32)).bind (fun j25 =>
              ((am_up (A 125) a1 j25).bind fun y26 =>
              ((wl (f_X12_sheet_l4 (up (up A 124 y24) 125 y26) I a1) 100000 (0, (A 126))).bind (fun e30 =>
              some (1, y24, y26, e30)))))))
            else
              some ((-14), (A 124), (A 125), (A 126))))
        else
          some ((-2), (A 124), (A 125), (A 126))))))))
set_option maxRecDepth 100000 in
set_option maxHeartbeats 4000000 in
theorem t_X12_sheet {xs : List Int32} (A : Nat → List Int32) (I : Nat → Int32) (x : am_X) (a1 : Int32) (a2 : Int32) (a3 : Int32) {z : Int32 × (List Int32) × (List Int32) × (List Int32)} (hz : f_X12_sheet A I a1 a2 a3 = some z) : am_Rt (am_ro xs) 3 ix_X12_sheet [.ref 85, .int a1, .int a2, .int a3] (hp A I x) (some (.int z.1), hp (up (up (up A 124 z.2.1) 125 z.2.2.1) 126 z.2.2.2) I x) := by
  refine am_Rt.J (k := ix_X12_sheet) (M := mc_X12_sheet) (nL := 5) (d := 2) (as := [.ref 85, .int a1, .int a2, .int a3]) (res := fun z => (some (.int z.1), hp (up (up (up A 124 z.2.1) 125 z.2.2.1) 126 z.2.2.2) I x)) rfl (Nat.le_of_ble_eq_true rfl) (fun r => ?_) hz
  unfold f_X12_sheet
  refine am_J.go 2 rfl ?_
  refine am_J.callz (v := fun r1 => r1) (h' := fun r1 => hp A I x) rfl rfl rfl (fun r1 hw => (t_X12_isSheet A I x a1 hw)) (fun r1 hr1 => ?_)
  refine am_J.eq rfl ?_ ?_
  · refine am_J.go 1 rfl ?_
    exact am_J.ret rfl (fun k => k)
  · refine am_J.go 4 rfl ?_
    refine am_J.callz (v := fun r2 => r2) (h' := fun r2 => hp A I x) rfl rfl rfl (fun r2 hw => (t_X12_in A I x a2 (-1) 2 hw).mono (Nat.le_of_ble_eq_true rfl)) (fun r2 hr2 => ?_)
    refine am_J.eq rfl ?_ ?_
    · refine am_J.go 1 rfl ?_
      exact am_J.ret rfl (fun k => k)
    · refine am_J.go 1 rfl ?_
      refine am_J.lt rfl ?_ ?_
      · refine am_J.go 1 rfl ?_
        refine am_J.lt rfl ?_ ?_
        · refine am_J.go 4 rfl ?_
          refine am_J.ias (xs := (A 124)) (h' := fun y3 => hp (up A 124 y3) I x) rfl rfl (fun _ => rfl) (fun y3 => ?_)
          refine am_J.go 4 rfl ?_
          refine am_J.join (β := Int32) (cj := fun j4 => (63, [some (.ref 85), some (.int a1), none, none, none], [.int j4, .int a1, .ref 125], hp (up A 124 y3) I x)) ?_ ?_
          · refine am_J.ge rfl ?_ ?_
            · refine am_J.go (cf' := (63, [some (.ref 85), some (.int a1), some (.int a2), some (.int a3), none], [.int a3, .int a1, .ref 125], hp (up A 124 y3) I x)) 1 rfl ?_
              exact am_J.leaf (fun k => am_Ev.weak (L' := [some (.ref 85), some (.int a1), none, none, none]) (am_Lle.k (am_Lle.k (am_Lle.o (am_Lle.o (am_Lle.o am_Lle.nil))))) k)
            · refine am_J.go (cf' := (63, [some (.ref 85), some (.int a1), some (.int a2), some (.int a3), none], [.int 0, .int a1, .ref 125], hp (up A 124 y3) I x)) 2 rfl ?_
              exact am_J.leaf (fun k => am_Ev.weak (L' := [some (.ref 85), some (.int a1), none, none, none]) (am_Lle.k (am_Lle.k (am_Lle.o (am_Lle.o (am_Lle.o am_Lle.nil))))) k)
          · rintro j4
            refine am_J.ias (xs := (A 125)) (h' := fun y5 => hp (up (up A 124 y3) 125 y5) I x) rfl rfl (fun _ => rfl) (fun y5 => ?_)
            refine am_J.go (cf' := (67, [some (.ref 85), some (.int a1), none, none, some (.int 0)], [], hp (up (up A 124 y3) 125 y5) I x)) 2 rfl ?_
            refine am_J.weak (L' := [some (.ref 85), some (.int a1), none, none, some (.int 0)]) (am_Lle.k (am_Lle.k (am_Lle.o (am_Lle.o (am_Lle.k am_Lle.nil))))) ?_
            refine am_J.loop (cl := fun q => match q with | (s6, s7) => (67, [some (.ref 85), some (.int a1), none, none, some (.int s6)], [], hp (up (up (up A 124 y3) 125 y5) 126 s7) I x)) (GX := fun e9 => am_Ev (am_ro xs) 2 mc_X12_sheet (93, [none, none, none, none, none], [], hp (up (up (up A 124 y3) 125 y5) 126 e9) I x) r) ?_ ?_
            · rintro ⟨s6, s7⟩
              unfold f_X12_sheet_l1
              refine am_J.go 2 rfl ?_
              refine am_J.ge rfl ?_ ?_
              · refine am_J.go (cf' := (93, [some (.ref 85), some (.int a1), none, none, some (.int s6)], [], hp (up (up (up A 124 y3) 125 y5) 126 s7) I x)) 0 rfl ?_
                exact am_J.leaf (fun k => am_Ev.weak (L' := [none, none, none, none, none]) (am_Lle.o (am_Lle.o (am_Lle.o (am_Lle.o (am_Lle.o am_Lle.nil))))) k)
              · refine am_J.go 8 rfl ?_
                refine am_J.ias (xs := s7) (h' := fun y8 => hp (up (up (up A 124 y3) 125 y5) 126 y8) I x) rfl rfl (fun _ => rfl) (fun y8 => ?_)
                refine am_J.go (cf' := (67, [some (.ref 85), some (.int a1), none, none, some (.int (s6 + 1))], [], hp (up (up (up A 124 y3) 125 y5) 126 y8) I x)) 2 rfl ?_
                exact am_J.leaf (fun k => am_Ev.weak (L' := [some (.ref 85), some (.int a1), none, none, some (.int (s6 + 1))]) (am_Lle.k (am_Lle.k (am_Lle.o (am_Lle.o (am_Lle.k am_Lle.nil))))) k)
            · rintro e9
              refine (?_ : am_J (am_ro xs) 2 mc_X12_sheet r (93, [none, none, none, none, none], [], hp (up (up (up A 124 y3) 125 y5) 126 e9) I x) _ _)
              refine am_J.go 1 rfl ?_
              exact am_J.ret rfl (fun k => k)
        · refine am_J.go 1 rfl ?_
          refine am_J.ge rfl ?_ ?_
          · refine am_J.go 4 rfl ?_
            refine am_J.ias (xs := (A 124)) (h' := fun y10 => hp (up A 124 y10) I x) rfl rfl (fun _ => rfl) (fun y10 => ?_)
            refine am_J.go 4 rfl ?_
            refine am_J.join (β := Int32) (cj := fun j11 => (63, [some (.ref 85), some (.int a1), none, none, none], [.int j11, .int a1, .ref 125], hp (up A 124 y10) I x)) ?_ ?_
            · refine am_J.ge rfl ?_ ?_
              · refine am_J.go (cf' := (63, [some (.ref 85), some (.int a1), some (.int a2), some (.int a3), none], [.int a3, .int a1, .ref 125], hp (up A 124 y10) I x)) 1 rfl ?_
                exact am_J.leaf (fun k => am_Ev.weak (L' := [some (.ref 85), some (.int a1), none, none, none]) (am_Lle.k (am_Lle.k (am_Lle.o (am_Lle.o (am_Lle.o am_Lle.nil))))) k)
              · refine am_J.go (cf' := (63, [some (.ref 85), some (.int a1), some (.int a2), some (.int a3), none], [.int 0, .int a1, .ref 125], hp (up A 124 y10) I x)) 2 rfl ?_
                exact am_J.leaf (fun k => am_Ev.weak (L' := [some (.ref 85), some (.int a1), none, none, none]) (am_Lle.k (am_Lle.k (am_Lle.o (am_Lle.o (am_Lle.o am_Lle.nil))))) k)
            · rintro j11
              refine am_J.ias (xs := (A 125)) (h' := fun y12 => hp (up (up A 124 y10) 125 y12) I x) rfl rfl (fun _ => rfl) (fun y12 => ?_)
              refine am_J.go (cf' := (67, [some (.ref 85), some (.int a1), none, none, some (.int 0)], [], hp (up (up A 124 y10) 125 y12) I x)) 2 rfl ?_
              refine am_J.weak (L' := [some (.ref 85), some (.int a1), none, none, some (.int 0)]) (am_Lle.k (am_Lle.k (am_Lle.o (am_Lle.o (am_Lle.k am_Lle.nil))))) ?_
              refine am_J.loop (cl := fun q => match q with | (s13, s14) => (67, [some (.ref 85), some (.int a1), none, none, some (.int s13)], [], hp (up (up (up A 124 y10) 125 y12) 126 s14) I x)) (GX := fun e16 => am_Ev (am_ro xs) 2 mc_X12_sheet (93, [none, none, none, none, none], [], hp (up (up (up A 124 y10) 125 y12) 126 e16) I x) r) ?_ ?_
              · rintro ⟨s13, s14⟩
                unfold f_X12_sheet_l2
                refine am_J.go 2 rfl ?_
                refine am_J.ge rfl ?_ ?_
                · refine am_J.go (cf' := (93, [some (.ref 85), some (.int a1), none, none, some (.int s13)], [], hp (up (up (up A 124 y10) 125 y12) 126 s14) I x)) 0 rfl ?_
                  exact am_J.leaf (fun k => am_Ev.weak (L' := [none, none, none, none, none]) (am_Lle.o (am_Lle.o (am_Lle.o (am_Lle.o (am_Lle.o am_Lle.nil))))) k)
                · refine am_J.go 8 rfl ?_
                  refine am_J.ias (xs := s14) (h' := fun y15 => hp (up (up (up A 124 y10) 125 y12) 126 y15) I x) rfl rfl (fun _ => rfl) (fun y15 => ?_)
                  refine am_J.go (cf' := (67, [some (.ref 85), some (.int a1), none, none, some (.int (s13 + 1))], [], hp (up (up (up A 124 y10) 125 y12) 126 y15) I x)) 2 rfl ?_
                  exact am_J.leaf (fun k => am_Ev.weak (L' := [some (.ref 85), some (.int a1), none, none, some (.int (s13 + 1))]) (am_Lle.k (am_Lle.k (am_Lle.o (am_Lle.o (am_Lle.k am_Lle.nil))))) k)
              · rintro e16
                refine (?_ : am_J (am_ro xs) 2 mc_X12_sheet r (93, [none, none, none, none, none], [], hp (up (up (up A 124 y10) 125 y12) 126 e16) I x) _ _)
                refine am_J.go 1 rfl ?_
                exact am_J.ret rfl (fun k => k)
          · refine am_J.go 1 rfl ?_
            exact am_J.ret rfl (fun k => k)
      · refine am_J.go 2 rfl ?_
        refine am_J.le rfl ?_ ?_
        · refine am_J.go 1 rfl ?_
          refine am_J.lt rfl ?_ ?_
          · refine am_J.go 4 rfl ?_
            refine am_J.ias (xs := (A 124)) (h' := fun y17 => hp (up A 124 y17) I x) rfl rfl (fun _ => rfl) (fun y17 => ?_)
            refine am_J.go 4 rfl ?_
            refine am_J.join (β := Int32) (cj := fun j18 => (63, [some (.ref 85), some (.int a1), none, none, none], [.int j18, .int a1, .ref 125], hp (up A 124 y17) I x)) ?_ ?_
            · refine am_J.ge rfl ?_ ?_
              · refine am_J.go (cf' := (63, [some (.ref 85), some (.int a1), some (.int a2), some (.int a3), none], [.int a3, .int a1, .ref 125], hp (up A 124 y17) I x)) 1 rfl ?_
                exact am_J.leaf (fun k => am_Ev.weak (L' := [some (.ref 85), some (.int a1), none, none, none]) (am_Lle.k (am_Lle.k (am_Lle.o (am_Lle.o (am_Lle.o am_Lle.nil))))) k)
              · refine am_J.go (cf' := (63, [some (.ref 85), some (.int a1), some (.int a2), some (.int a3), none], [.int 0, .int a1, .ref 125], hp (up A 124 y17) I x)) 2 rfl ?_
                exact am_J.leaf (fun k => am_Ev.weak (L' := [some (.ref 85), some (.int a1), none, none, none]) (am_Lle.k (am_Lle.k (am_Lle.o (am_Lle.o (am_Lle.o am_Lle.nil))))) k)
            · rintro j18
              refine am_J.ias (xs := (A 125)) (h' := fun y19 => hp (up (up A 124 y17) 125 y19) I x) rfl rfl (fun _ => rfl) (fun y19 => ?_)
              refine am_J.go (cf' := (67, [some (.ref 85), some (.int a1), none, none, some (.int 0)], [], hp (up (up A 124 y17) 125 y19) I x)) 2 rfl ?_
              refine am_J.weak (L' := [some (.ref 85), some (.int a1), none, none, some (.int 0)]) (am_Lle.k (am_Lle.k (am_Lle.o (am_Lle.o (am_Lle.k am_Lle.nil))))) ?_
              refine am_J.loop (cl := fun q => match q with | (s20, s21) => (67, [some (.ref 85), some (.int a1), none, none, some (.int s20)], [], hp (up (up (up A 124 y17) 125 y19) 126 s21) I x)) (GX := fun e23 => am_Ev (am_ro xs) 2 mc_X12_sheet (93, [none, none, none, none, none], [], hp (up (up (up A 124 y17) 125 y19) 126 e23) I x) r) ?_ ?_
              · rintro ⟨s20, s21⟩
                unfold f_X12_sheet_l3
                refine am_J.go 2 rfl ?_
                refine am_J.ge rfl ?_ ?_
                · refine am_J.go (cf' := (93, [some (.ref 85), some (.int a1), none, none, some (.int s20)], [], hp (up (up (up A 124 y17) 125 y19) 126 s21) I x)) 0 rfl ?_
                  exact am_J.leaf (fun k => am_Ev.weak (L' := [none, none, none, none, none]) (am_Lle.o (am_Lle.o (am_Lle.o (am_Lle.o (am_Lle.o am_Lle.nil))))) k)
                · refine am_J.go 8 rfl ?_
                  refine am_J.ias (xs := s21) (h' := fun y22 => hp (up (up (up A 124 y17) 125 y19) 126 y22) I x) rfl rfl (fun _ => rfl) (fun y22 => ?_)
                  refine am_J.go (cf' := (67, [some (.ref 85), some (.int a1), none, none, some (.int (s20 + 1))], [], hp (up (up (up A 124 y17) 125 y19) 126 y22) I x)) 2 rfl ?_
                  exact am_J.leaf (fun k => am_Ev.weak (L' := [some (.ref 85), some (.int a1), none, none, some (.int (s20 + 1))]) (am_Lle.k (am_Lle.k (am_Lle.o (am_Lle.o (am_Lle.k am_Lle.nil))))) k)
              · rintro e23
                refine (?_ : am_J (am_ro xs) 2 mc_X12_sheet r (93, [none, none, none, none, none], [], hp (up (up (up A 124 y17) 125 y19) 126 e23) I x) _ _)
                refine am_J.go 1 rfl ?_
                exact am_J.ret rfl (fun k => k)
          · refine am_J.go 1 rfl ?_
            refine am_J.ge rfl ?_ ?_
            · refine am_J.go 4 rfl ?_
              refine am_J.ias (xs := (A 124)) (h' := fun y24 => hp (up A 124 y24) I x) rfl rfl (fun _ => rfl) (fun y24 => ?_)
              refine am_J.go 4 rfl ?_
              refine am_J.join (β := Int32) (cj := fun j25 => (63, [some (.ref 85), some (.int a1), none, none, none], [.int j25, .int a1, .ref 125], hp (up A 124 y24) I x)) ?_ ?_
              · refine am_J.ge rfl ?_ ?_
                · refine am_J.go (cf' := (63, [some (.ref 85), some (.int a1), some (.int a2), some (.int a3), none], [.int a3, .int a1, .ref 125], hp (up A 124 y24) I x)) 1 rfl ?_
                  exact am_J.leaf (fun k => am_Ev.weak (L' := [some (.ref 85), some (.int a1), none, none, none]) (am_Lle.k (am_Lle.k (am_Lle.o (am_Lle.o (am_Lle.o am_Lle.nil))))) k)
                · refine am_J.go (cf' := (63, [some (.ref 85), some (.int a1), some (.int a2), some (.int a3), none], [.int 0, .int a1, .ref 125], hp (up A 124 y24) I x)) 2 rfl ?_
                  exact am_J.leaf (fun k => am_Ev.weak (L' := [some (.ref 85), some (.int a1), none, none, none]) (am_Lle.k (am_Lle.k (am_Lle.o (am_Lle.o (am_Lle.o am_Lle.nil))))) k)
              · rintro j25
                refine am_J.ias (xs := (A 125)) (h' := fun y26 => hp (up (up A 124 y24) 125 y26) I x) rfl rfl (fun _ => rfl) (fun y26 => ?_)
                refine am_J.go (cf' := (67, [some (.ref 85), some (.int a1), none, none, some (.int 0)], [], hp (up (up A 124 y24) 125 y26) I x)) 2 rfl ?_
                refine am_J.weak (L' := [some (.ref 85), some (.int a1), none, none, some (.int 0)]) (am_Lle.k (am_Lle.k (am_Lle.o (am_Lle.o (am_Lle.k am_Lle.nil))))) ?_
                refine am_J.loop (cl := fun q => match q with | (s27, s28) => (67, [some (.ref 85), some (.int a1), none, none, some (.int s27)], [], hp (up (up (up A 124 y24) 125 y26) 126 s28) I x)) (GX := fun e30 => am_Ev (am_ro xs) 2 mc_X12_sheet (93, [none, none, none, none, none], [], hp (up (up (up A 124 y24) 125 y26) 126 e30) I x) r) ?_ ?_
                · rintro ⟨s27, s28⟩
                  unfold f_X12_sheet_l4
                  refine am_J.go 2 rfl ?_
                  refine am_J.ge rfl ?_ ?_
                  · refine am_J.go (cf' := (93, [some (.ref 85), some (.int a1), none, none, some (.int s27)], [], hp (up (up (up A 124 y24) 125 y26) 126 s28) I x)) 0 rfl ?_
                    exact am_J.leaf (fun k => am_Ev.weak (L' := [none, none, none, none, none]) (am_Lle.o (am_Lle.o (am_Lle.o (am_Lle.o (am_Lle.o am_Lle.nil))))) k)
                  · refine am_J.go 8 rfl ?_
                    refine am_J.ias (xs := s28) (h' := fun y29 => hp (up (up (up A 124 y24) 125 y26) 126 y29) I x) rfl rfl (fun _ => rfl) (fun y29 => ?_)
                    refine am_J.go (cf' := (67, [some (.ref 85), some (.int a1), none, none, some (.int (s27 + 1))], [], hp (up (up (up A 124 y24) 125 y26) 126 y29) I x)) 2 rfl ?_
                    exact am_J.leaf (fun k => am_Ev.weak (L' := [some (.ref 85), some (.int a1), none, none, some (.int (s27 + 1))]) (am_Lle.k (am_Lle.k (am_Lle.o (am_Lle.o (am_Lle.k am_Lle.nil))))) k)
                · rintro e30
                  refine (?_ : am_J (am_ro xs) 2 mc_X12_sheet r (93, [none, none, none, none, none], [], hp (up (up (up A 124 y24) 125 y26) 126 e30) I x) _ _)
                  refine am_J.go 1 rfl ?_
                  exact am_J.ret rfl (fun k => k)
            · refine am_J.go 1 rfl ?_
              exact am_J.ret rfl (fun k => k)
        · refine am_J.go 1 rfl ?_
          exact am_J.ret rfl (fun k => k)

def f_X12_sideOf_l1 (A : Nat → List Int32) (I : Nat → Int32) (a1 : Int32) (a2 : Int32) : (Int32 × Int32) → Option ((Int32 × Int32) ⊕ (Int32)) := fun q => match q with
    | (s1, s2) =>
    (if (I 5443) ≤ s2 then
      some (.inr s1)
    else
      ((am_at (A 91) s2).bind fun v3 =>
      (((if v3 = a1 then
          ((am_at (A 92) s2).bind fun v4 =>
          (if a2 < v4 then
            some s1
          else
            (if s1 < 0 then
              some s2
            else
              ((am_at (A 92) s2).bind fun v5 =>
              ((am_at (A 92) s1).bind fun v6 =>
              (if v5 < v6 then
                some s1
              else
                some s2))))))
        else
          some s1) : Option (Int32)).bind (fun j7 =>
      some (.inl (j7, (s2 + 1)))))))
def f_X12_sideOf (A : Nat → List Int32) (I : Nat → Int32) (a1 : Int32) (a2 : Int32) : Option (Int32) :=
  ((wl (f_X12_sideOf_l1 A I a1 a2) 100000 ((-1), 0)).bind (fun e8 =>
  (if 0 ≤ e8 then
    ((am_at (A 93) e8).bind fun v9 =>
    some v9)
  else
    some 0)))
set_option maxRecDepth 100000 in
set_option maxHeartbeats 4000000 in
theorem t_X12_sideOf {xs : List Int32} (A : Nat → List Int32) (I : Nat → Int32) (x : am_X) (a1 : Int32) (a2 : Int32) {z : Int32} (hz : f_X12_sideOf A I a1 a2 = some z) : am_Rt (am_ro xs) 1 ix_X12_sideOf [.ref 85, .int a1, .int a2] (hp A I x) (some (.int z), hp A I x) := by
  refine am_Rt.J (k := ix_X12_sideOf) (M := mc_X12_sideOf) (nL := 5) (d := 0) (as := [.ref 85, .int a1, .int a2]) (res := fun z => (some (.int z), hp A I x)) rfl (Nat.le_of_ble_eq_true rfl) (fun r => ?_) hz
  unfold f_X12_sideOf
  refine am_J.go (cf' := (5, [some (.ref 85), some (.int a1), some (.int a2), some (.int (-1)), some (.int 0)], [], hp A I x)) 4 rfl ?_
  refine am_J.weak (L' := [some (.ref 85), some (.int a1), some (.int a2), some (.int (-1)), some (.int 0)]) (am_Lle.k (am_Lle.k (am_Lle.k (am_Lle.k (am_Lle.k am_Lle.nil))))) ?_
  refine am_J.loop (cl := fun q => match q with | (s1, s2) => (5, [some (.ref 85), some (.int a1), some (.int a2), some (.int s1), some (.int s2)], [], hp A I x)) (GX := fun e8 => am_Ev (am_ro xs) 0 mc_X12_sideOf (65, [some (.ref 85), none, none, some (.int e8), none], [], hp A I x) r) ?_ ?_
  · rintro ⟨s1, s2⟩
    unfold f_X12_sideOf_l1
    refine am_J.go 3 rfl ?_
    refine am_J.ge rfl ?_ ?_
    · refine am_J.go (cf' := (65, [some (.ref 85), some (.int a1), some (.int a2), some (.int s1), some (.int s2)], [], hp A I x)) 0 rfl ?_
      exact am_J.leaf (fun k => am_Ev.weak (L' := [some (.ref 85), none, none, some (.int s1), none]) (am_Lle.k (am_Lle.o (am_Lle.o (am_Lle.k (am_Lle.o am_Lle.nil))))) k)
    · refine am_J.go 3 rfl ?_
      refine am_J.ial (xs := (A 91)) rfl (Nat.le_of_ble_eq_true rfl) rfl (fun v3 => ?_)
      refine am_J.go 1 rfl ?_
      refine am_J.join (β := Int32) (cj := fun j7 => (59, [some (.ref 85), some (.int a1), some (.int a2), some (.int j7), some (.int s2)], [], hp A I x)) ?_ ?_
      · refine am_J.ne rfl ?_ ?_
        · refine am_J.go 3 rfl ?_
          refine am_J.ial (xs := (A 92)) rfl (Nat.le_of_ble_eq_true rfl) rfl (fun v4 => ?_)
          refine am_J.go 1 rfl ?_
          refine am_J.gt rfl ?_ ?_
          · refine am_J.go (cf' := (59, [some (.ref 85), some (.int a1), some (.int a2), some (.int s1), some (.int s2)], [], hp A I x)) 0 rfl ?_
            exact am_J.leaf (fun k => am_Ev.weak (L' := [some (.ref 85), some (.int a1), some (.int a2), some (.int s1), some (.int s2)]) (am_Lle.k (am_Lle.k (am_Lle.k (am_Lle.k (am_Lle.k am_Lle.nil))))) k)
          · refine am_J.go 1 rfl ?_
            refine am_J.lt rfl ?_ ?_
            · refine am_J.go (cf' := (59, [some (.ref 85), some (.int a1), some (.int a2), some (.int s2), some (.int s2)], [], hp A I x)) 2 rfl ?_
              exact am_J.leaf (fun k => am_Ev.weak (L' := [some (.ref 85), some (.int a1), some (.int a2), some (.int s2), some (.int s2)]) (am_Lle.k (am_Lle.k (am_Lle.k (am_Lle.k (am_Lle.k am_Lle.nil))))) k)
            · refine am_J.go 3 rfl ?_
              refine am_J.ial (xs := (A 92)) rfl (Nat.le_of_ble_eq_true rfl) rfl (fun v5 => ?_)
              refine am_J.go 3 rfl ?_
              refine am_J.ial (xs := (A 92)) rfl (Nat.le_of_ble_eq_true rfl) rfl (fun v6 => ?_)
              refine am_J.lt rfl ?_ ?_
              · refine am_J.go (cf' := (59, [some (.ref 85), some (.int a1), some (.int a2), some (.int s1), some (.int s2)], [], hp A I x)) 0 rfl ?_
                exact am_J.leaf (fun k => am_Ev.weak (L' := [some (.ref 85), some (.int a1), some (.int a2), some (.int s1), some (.int s2)]) (am_Lle.k (am_Lle.k (am_Lle.k (am_Lle.k (am_Lle.k am_Lle.nil))))) k)
              · refine am_J.go (cf' := (59, [some (.ref 85), some (.int a1), some (.int a2), some (.int s2), some (.int s2)], [], hp A I x)) 2 rfl ?_
                exact am_J.leaf (fun k => am_Ev.weak (L' := [some (.ref 85), some (.int a1), some (.int a2), some (.int s2), some (.int s2)]) (am_Lle.k (am_Lle.k (am_Lle.k (am_Lle.k (am_Lle.k am_Lle.nil))))) k)
        · refine am_J.go (cf' := (59, [some (.ref 85), some (.int a1), some (.int a2), some (.int s1), some (.int s2)], [], hp A I x)) 0 rfl ?_
          exact am_J.leaf (fun k => am_Ev.weak (L' := [some (.ref 85), some (.int a1), some (.int a2), some (.int s1), some (.int s2)]) (am_Lle.k (am_Lle.k (am_Lle.k (am_Lle.k (am_Lle.k am_Lle.nil))))) k)
      · rintro j7
        refine am_J.go (cf' := (5, [some (.ref 85), some (.int a1), some (.int a2), some (.int j7), some (.int (s2 + 1))], [], hp A I x)) 2 rfl ?_
        exact am_J.leaf (fun k => am_Ev.weak (L' := [some (.ref 85), some (.int a1), some (.int a2), some (.int j7), some (.int (s2 + 1))]) (am_Lle.k (am_Lle.k (am_Lle.k (am_Lle.k (am_Lle.k am_Lle.nil))))) k)
  · rintro e8
    refine (?_ : am_J (am_ro xs) 0 mc_X12_sideOf r (65, [some (.ref 85), none, none, some (.int e8), none], [], hp A I x) _ _)
    refine am_J.go 1 rfl ?_
    refine am_J.ge rfl ?_ ?_
    · refine am_J.go 3 rfl ?_
      refine am_J.ial (xs := (A 93)) rfl (Nat.le_of_ble_eq_true rfl) rfl (fun v9 => ?_)
      exact am_J.ret rfl (fun k => k)
    · refine am_J.go 2 rfl ?_
      exact am_J.ret rfl (fun k => k)

def f_X12_signOf (A : Nat → List Int32) (I : Nat → Int32) : Option (Int32) :=
  ((f_X12_isKey A I 2).bind fun r1 =>
  (if r1 = 0 then
    ((f_X12_isKey A I 3).bind fun r2 =>
    (if r2 = 0 then
      ((f_X12_isSign A I 60).bind fun r3 =>
      (if r3 = 0 then
        ((f_X12_isSign A I 61).bind fun r4 =>
        (if r4 = 0 then
          ((f_X12_isSign A I 43).bind fun r5 =>
          (if r5 = 0 then
            ((f_X12_isSign A I 45).bind fun r6 =>
            (if r6 = 0 then
              ((f_X12_isSign A I 42).bind fun r7 =>
              (if r7 = 0 then
                some 0
              else
                some (-8)))
            else
              some (-7)))
          else
            some (-6)))
        else
          some (-5)))
      else
        some (-4)))
    else
      some (-2)))
  else
    some (-1)))
set_option maxRecDepth 100000 in
set_option maxHeartbeats 4000000 in
theorem t_X12_signOf {xs : List Int32} (A : Nat → List Int32) (I : Nat → Int32) (x : am_X) {z : Int32} (hz : f_X12_signOf A I = some z) : am_Rt (am_ro xs) 2 ix_X12_signOf [.ref 85] (hp A I x) (some (.int z), hp A I x) := by
  refine am_Rt.J (k := ix_X12_signOf) (M := mc_X12_signOf) (nL := 1) (d := 1) (as := [.ref 85]) (res := fun z => (some (.int z), hp A I x)) rfl (Nat.le_of_ble_eq_true rfl) (fun r => ?_) hz
  unfold f_X12_signOf
  refine am_J.go 2 rfl ?_
  refine am_J.callz (v := fun r1 => r1) (h' := fun r1 => hp A I x) rfl rfl rfl (fun r1 hw => (t_X12_isKey A I x 2 hw)) (fun r1 hr1 => ?_)
  refine am_J.eq rfl ?_ ?_
  · refine am_J.go 2 rfl ?_
    refine am_J.callz (v := fun r2 => r2) (h' := fun r2 => hp A I x) rfl rfl rfl (fun r2 hw => (t_X12_isKey A I x 3 hw)) (fun r2 hr2 => ?_)
    refine am_J.eq rfl ?_ ?_
    · refine am_J.go 2 rfl ?_
      refine am_J.callz (v := fun r3 => r3) (h' := fun r3 => hp A I x) rfl rfl rfl (fun r3 hw => (t_X12_isSign A I x 60 hw)) (fun r3 hr3 => ?_)
      refine am_J.eq rfl ?_ ?_
      · refine am_J.go 2 rfl ?_
        refine am_J.callz (v := fun r4 => r4) (h' := fun r4 => hp A I x) rfl rfl rfl (fun r4 hw => (t_X12_isSign A I x 61 hw)) (fun r4 hr4 => ?_)
        refine am_J.eq rfl ?_ ?_
        · refine am_J.go 2 rfl ?_
          refine am_J.callz (v := fun r5 => r5) (h' := fun r5 => hp A I x) rfl rfl rfl (fun r5 hw => (t_X12_isSign A I x 43 hw)) (fun r5 hr5 => ?_)
          refine am_J.eq rfl ?_ ?_
          · refine am_J.go 2 rfl ?_
            refine am_J.callz (v := fun r6 => r6) (h' := fun r6 => hp A I x) rfl rfl rfl (fun r6 hw => (t_X12_isSign A I x 45 hw)) (fun r6 hr6 => ?_)
            refine am_J.eq rfl ?_ ?_
            · refine am_J.go 2 rfl ?_
              refine am_J.callz (v := fun r7 => r7) (h' := fun r7 => hp A I x) rfl rfl rfl (fun r7 hw => (t_X12_isSign A I x 42 hw)) (fun r7 hr7 => ?_)
              refine am_J.eq rfl ?_ ?_
              · refine am_J.go 1 rfl ?_
                exact am_J.ret rfl (fun k => k)
              · refine am_J.go 2 rfl ?_
                exact am_J.ret rfl (fun k => k)
            · refine am_J.go 2 rfl ?_
              exact am_J.ret rfl (fun k => k)
          · refine am_J.go 2 rfl ?_
            exact am_J.ret rfl (fun k => k)
        · refine am_J.go 2 rfl ?_
          exact am_J.ret rfl (fun k => k)
      · refine am_J.go 2 rfl ?_
        exact am_J.ret rfl (fun k => k)
    · refine am_J.go 2 rfl ?_
      exact am_J.ret rfl (fun k => k)
  · refine am_J.go 2 rfl ?_
    exact am_J.ret rfl (fun k => k)

def f_X12_taken (A : Nat → List Int32) (I : Nat → Int32) (a1 : Int32) (a2 : Int32) : Option (Int32) :=
  ((f_X12_in A I a2 0 5).bind fun r1 =>
  (if r1 = 0 then
    some (-2)
  else
    ((f_X12_isAct A I a1).bind fun r2 =>
    (if r2 = 0 then
      some (-11)
    else
      ((am_at (A 94) a1).bind fun v3 =>
      ((f_X12_isUnder A I v3 a2).bind fun r4 =>
      (if r4 = 0 then
        some (-13)
      else
        ((f_X12_rankOf A I a1).bind fun r5 =>
        some r5))))))))
set_option maxRecDepth 100000 in
set_option maxHeartbeats 4000000 in
theorem t_X12_taken {xs : List Int32} (A : Nat → List Int32) (I : Nat → Int32) (x : am_X) (a1 : Int32) (a2 : Int32) {z : Int32} (hz : f_X12_taken A I a1 a2 = some z) : am_Rt (am_ro xs) 3 ix_X12_taken [.ref 85, .int a1, .int a2] (hp A I x) (some (.int z), hp A I x) := by
  refine am_Rt.J (k := ix_X12_taken) (M := mc_X12_taken) (nL := 3) (d := 2) (as := [.ref 85, .int a1, .int a2]) (res := fun z => (some (.int z), hp A I x)) rfl (Nat.le_of_ble_eq_true rfl) (fun r => ?_) hz
  unfold f_X12_taken
  refine am_J.go 4 rfl ?_
  refine am_J.callz (v := fun r1 => r1) (h' := fun r1 => hp A I x) rfl rfl rfl (fun r1 hw => (t_X12_in A I x a2 0 5 hw).mono (Nat.le_of_ble_eq_true rfl)) (fun r1 hr1 => ?_)
  refine am_J.ne rfl ?_ ?_
  · refine am_J.go 1 rfl ?_
    exact am_J.ret rfl (fun k => k)
  · refine am_J.go 2 rfl ?_
    refine am_J.callz (v := fun r2 => r2) (h' := fun r2 => hp A I x) rfl rfl rfl (fun r2 hw => (t_X12_isAct A I x a1 hw)) (fun r2 hr2 => ?_)
    refine am_J.ne rfl ?_ ?_
    · refine am_J.go 1 rfl ?_
      exact am_J.ret rfl (fun k => k)
    · refine am_J.go 4 rfl ?_
      refine am_J.ial (xs := (A 94)) rfl (Nat.le_of_ble_eq_true rfl) rfl (fun v3 => ?_)
      refine am_J.go 1 rfl ?_
      refine am_J.callz (v := fun r4 => r4) (h' := fun r4 => hp A I x) rfl rfl rfl (fun r4 hw => (t_X12_isUnder A I x v3 a2 hw).mono (Nat.le_of_ble_eq_true rfl)) (fun r4 hr4 => ?_)
      refine am_J.eq rfl ?_ ?_
      · refine am_J.go 1 rfl ?_
        exact am_J.ret rfl (fun k => k)
      · refine am_J.go 2 rfl ?_
        refine am_J.call (v := fun r5 => .int r5) (h' := fun r5 => hp A I x) rfl (fun r5 hw => (t_X12_rankOf A I x a1 hw).mono (Nat.le_of_ble_eq_true rfl)) (fun r5 => ?_)
        refine am_J.go 1 rfl ?_
        exact am_J.ret rfl (fun k => k)

def f_X12_takersOf_l2 (A : Nat → List Int32) (I : Nat → Int32) (a1 : Int32) (s1 : Int32) (s2 : Int32) : (Int32 × Int32) → Option ((Int32 × Int32) ⊕ (Int32)) := fun q => match q with
    | (s3, s4) =>
    (if (I 5486) ≤ s4 then
      some (.inr s3)
    else
      (((if ((a1 >>> (s4 &&& 31)) &&& 1) = 1 then
          ((am_at (A 118) ((8 * s4) + s2)).bind fun v5 =>
          some v5)
        else
          some 0) : Option (Int32)).bind (fun j6 =>
      some (.inl ((s3 + j6), (s4 + 1))))))
def f_X12_takersOf_l1 (A : Nat → List Int32) (I : Nat → Int32) (a1 : Int32) : (Int32 × Int32) → Option ((Int32 × Int32) ⊕ (Int32)) := fun q => match q with
    | (s1, s2) =>
    (if 8 ≤ s2 then
      some (.inr s1)
    else
      ((wl (f_X12_takersOf_l2 A I a1 s1 s2) 100000 (0, 0)).bind (fun e7 =>
      (((if 0 ≤ e7 then
          some (1 <<< (s2 &&& 31))
        else
          some 0) : Option (Int32)).bind (fun j8 =>
      some (.inl ((s1 ||| j8), (s2 + 1))))))))
def f_X12_takersOf (A : Nat → List Int32) (I : Nat → Int32) (a1 : Int32) : Option (Int32) :=
  ((wl (f_X12_takersOf_l1 A I a1) 100000 (0, 0)).bind (fun e9 =>
  some e9))
set_option maxRecDepth 100000 in
set_option maxHeartbeats 4000000 in
theorem t_X12_takersOf {xs : List Int32} (A : Nat → List Int32) (I : Nat → Int32) (x : am_X) (a1 : Int32) {z : Int32} (hz : f_X12_takersOf A I a1 = some z) : am_Rt (am_ro xs) 1 ix_X12_takersOf [.ref 85, .int a1] (hp A I x) (some (.int z), hp A I x) := by
  refine am_Rt.J (k := ix_X12_takersOf) (M := mc_X12_takersOf) (nL := 6) (d := 0) (as := [.ref 85, .int a1]) (res := fun z => (some (.int z), hp A I x)) rfl (Nat.le_of_ble_eq_true rfl) (fun r => ?_) hz
  unfold f_X12_takersOf
  refine am_J.go (cf' := (4, [some (.ref 85), some (.int a1), some (.int 0), some (.int 0), none, none], [], hp A I x)) 4 rfl ?_
  refine am_J.weak (L' := [some (.ref 85), some (.int a1), some (.int 0), some (.int 0), none, none]) (am_Lle.k (am_Lle.k (am_Lle.k (am_Lle.k (am_Lle.o (am_Lle.o am_Lle.nil)))))) ?_
  refine am_J.loop (cl := fun q => match q with | (s1, s2) => (4, [some (.ref 85), some (.int a1), some (.int s1), some (.int s2), none, none], [], hp A I x)) (GX := fun e9 => am_Ev (am_ro xs) 0 mc_X12_takersOf (83, [none, none, some (.int e9), none, none, none], [], hp A I x) r) ?_ ?_
  · rintro ⟨s1, s2⟩
    unfold f_X12_takersOf_l1
    refine am_J.go 2 rfl ?_
    refine am_J.ge rfl ?_ ?_
    · refine am_J.go (cf' := (83, [some (.ref 85), some (.int a1), some (.int s1), some (.int s2), none, none], [], hp A I x)) 0 rfl ?_
      exact am_J.leaf (fun k => am_Ev.weak (L' := [none, none, some (.int s1), none, none, none]) (am_Lle.o (am_Lle.o (am_Lle.k (am_Lle.o (am_Lle.o (am_Lle.o am_Lle.nil)))))) k)
    · refine am_J.go (cf' := (16, [some (.ref 85), some (.int a1), some (.int s1), some (.int s2), some (.int 0), some (.int 0)], [], hp A I x)) 4 rfl ?_
      refine am_J.weak (L' := [some (.ref 85), some (.int a1), some (.int s1), some (.int s2), some (.int 0), some (.int 0)]) (am_Lle.k (am_Lle.k (am_Lle.k (am_Lle.k (am_Lle.k (am_Lle.k am_Lle.nil)))))) ?_
      refine am_J.loop (cl := fun q => match q with | (s3, s4) => (16, [some (.ref 85), some (.int a1), some (.int s1), some (.int s2), some (.int s3), some (.int s4)], [], hp A I x)) (GX := fun e7 => am_Ev (am_ro xs) 0 mc_X12_takersOf (62, [some (.ref 85), some (.int a1), some (.int s1), some (.int s2), some (.int e7), none], [], hp A I x) r) ?_ ?_
      · rintro ⟨s3, s4⟩
        unfold f_X12_takersOf_l2
        refine am_J.go 3 rfl ?_
        refine am_J.ge rfl ?_ ?_
        · refine am_J.go (cf' := (62, [some (.ref 85), some (.int a1), some (.int s1), some (.int s2), some (.int s3), some (.int s4)], [], hp A I x)) 0 rfl ?_
          exact am_J.leaf (fun k => am_Ev.weak (L' := [some (.ref 85), some (.int a1), some (.int s1), some (.int s2), some (.int s3), none]) (am_Lle.k (am_Lle.k (am_Lle.k (am_Lle.k (am_Lle.k (am_Lle.o am_Lle.nil)))))) k)
        · refine am_J.go 7 rfl ?_
          refine am_J.join (β := Int32) (cj := fun j6 => (53, [some (.ref 85), some (.int a1), some (.int s1), some (.int s2), none, some (.int s4)], [.int j6, .int s3], hp A I x)) ?_ ?_
          · refine am_J.ne rfl ?_ ?_
            · refine am_J.go 7 rfl ?_
              refine am_J.ial (xs := (A 118)) rfl (Nat.le_of_ble_eq_true rfl) rfl (fun v5 => ?_)
              refine am_J.go (cf' := (53, [some (.ref 85), some (.int a1), some (.int s1), some (.int s2), some (.int s3), some (.int s4)], [.int v5, .int s3], hp A I x)) 1 rfl ?_
              exact am_J.leaf (fun k => am_Ev.weak (L' := [some (.ref 85), some (.int a1), some (.int s1), some (.int s2), none, some (.int s4)]) (am_Lle.k (am_Lle.k (am_Lle.k (am_Lle.k (am_Lle.o (am_Lle.k am_Lle.nil)))))) k)
            · refine am_J.go (cf' := (53, [some (.ref 85), some (.int a1), some (.int s1), some (.int s2), some (.int s3), some (.int s4)], [.int 0, .int s3], hp A I x)) 1 rfl ?_
              exact am_J.leaf (fun k => am_Ev.weak (L' := [some (.ref 85), some (.int a1), some (.int s1), some (.int s2), none, some (.int s4)]) (am_Lle.k (am_Lle.k (am_Lle.k (am_Lle.k (am_Lle.o (am_Lle.k am_Lle.nil)))))) k)
          · rintro j6
            refine am_J.go (cf' := (16, [some (.ref 85), some (.int a1), some (.int s1), some (.int s2), some (.int (s3 + j6)), some (.int (s4 + 1))], [], hp A I x)) 4 rfl ?_
            exact am_J.leaf (fun k => am_Ev.weak (L' := [some (.ref 85), some (.int a1), some (.int s1), some (.int s2), some (.int (s3 + j6)), some (.int (s4 + 1))]) (am_Lle.k (am_Lle.k (am_Lle.k (am_Lle.k (am_Lle.k (am_Lle.k am_Lle.nil)))))) k)
      · rintro e7
        refine (?_ : am_J (am_ro xs) 0 mc_X12_takersOf r (62, [some (.ref 85), some (.int a1), some (.int s1), some (.int s2), some (.int e7), none], [], hp A I x) _ _)
        refine am_J.go 2 rfl ?_
        refine am_J.join (β := Int32) (cj := fun j8 => (75, [some (.ref 85), some (.int a1), none, some (.int s2), none, none], [.int j8, .int s1], hp A I x)) ?_ ?_
        · refine am_J.ge rfl ?_ ?_
          · refine am_J.go (cf' := (75, [some (.ref 85), some (.int a1), some (.int s1), some (.int s2), some (.int e7), none], [.int (1 <<< (s2 &&& 31)), .int s1], hp A I x)) 3 rfl ?_
            exact am_J.leaf (fun k => am_Ev.weak (L' := [some (.ref 85), some (.int a1), none, some (.int s2), none, none]) (am_Lle.k (am_Lle.k (am_Lle.o (am_Lle.k (am_Lle.o (am_Lle.o am_Lle.nil)))))) k)
          · refine am_J.go (cf' := (75, [some (.ref 85), some (.int a1), some (.int s1), some (.int s2), some (.int e7), none], [.int 0, .int s1], hp A I x)) 2 rfl ?_
            exact am_J.leaf (fun k => am_Ev.weak (L' := [some (.ref 85), some (.int a1), none, some (.int s2), none, none]) (am_Lle.k (am_Lle.k (am_Lle.o (am_Lle.k (am_Lle.o (am_Lle.o am_Lle.nil)))))) k)
        · rintro j8
          refine am_J.go (cf' := (4, [some (.ref 85), some (.int a1), some (.int (s1 ||| j8)), some (.int (s2 + 1)), none, none], [], hp A I x)) 4 rfl ?_
          exact am_J.leaf (fun k => am_Ev.weak (L' := [some (.ref 85), some (.int a1), some (.int (s1 ||| j8)), some (.int (s2 + 1)), none, none]) (am_Lle.k (am_Lle.k (am_Lle.k (am_Lle.k (am_Lle.o (am_Lle.o am_Lle.nil)))))) k)
  · rintro e9
    refine (?_ : am_J (am_ro xs) 0 mc_X12_takersOf r (83, [none, none, some (.int e9), none, none, none], [], hp A I x) _ _)
    refine am_J.go 1 rfl ?_
    exact am_J.ret rfl (fun k => k)

def f_X12_turn (A : Nat → List Int32) (I : Nat → Int32) (a1 : Int32) (a2 : Int32) (a3 : Int32) : Option (Int32 × (List Int32) × (List Int32) × (List Int32) × Int32) :=
  ((f_X12_isTurn A I a1 a2 a3).bind fun r1 =>
  (if r1 = 0 then
    some ((-2), (A 91), (A 92), (A 93), (I 5443))
  else
    (if (I 5443) = 30 then
      some ((-4), (A 91), (A 92), (A 93), (I 5443))
    else
      ((f_X12_note A I a1 a2 a3).bind fun r2 =>
      some ((r2.2.2.2 - 1), r2.1, r2.2.1, r2.2.2.1, r2.2.2.2)))))
set_option maxRecDepth 100000 in
set_option maxHeartbeats 4000000 in
theorem t_X12_turn {xs : List Int32} (A : Nat → List Int32) (I : Nat → Int32) (x : am_X) (a1 : Int32) (a2 : Int32) (a3 : Int32) {z : Int32 × (List Int32) × (List Int32) × (List Int32) × Int32} (hz : f_X12_turn A I a1 a2 a3 = some z) : am_Rt (am_ro xs) 4 ix_X12_turn [.ref 85, .int a1, .int a2, .int a3] (hp A I x) (some (.int z.1), hp (up (up (up A 91 z.2.1) 92 z.2.2.1) 93 z.2.2.2.1) (up I 5443 z.2.2.2.2) x) := by
  refine am_Rt.J (k := ix_X12_turn) (M := mc_X12_turn) (nL := 4) (d := 3) (as := [.ref 85, .int a1, .int a2, .int a3]) (res := fun z => (some (.int z.1), hp (up (up (up A 91 z.2.1) 92 z.2.2.1) 93 z.2.2.2.1) (up I 5443 z.2.2.2.2) x)) rfl (Nat.le_of_ble_eq_true rfl) (fun r => ?_) hz
  unfold f_X12_turn
  refine am_J.go 4 rfl ?_
  refine am_J.callz (v := fun r1 => r1) (h' := fun r1 => hp A I x) rfl rfl rfl (fun r1 hw => (t_X12_isTurn A I x a1 a2 a3 hw)) (fun r1 hr1 => ?_)
  refine am_J.ne rfl ?_ ?_
  · refine am_J.go 1 rfl ?_
    exact am_J.ret rfl (fun k => k)
  · refine am_J.go 3 rfl ?_
    refine am_J.ne rfl ?_ ?_
    · refine am_J.go 1 rfl ?_
      exact am_J.ret rfl (fun k => k)
    · refine am_J.go 4 rfl ?_
      refine am_J.calln (h' := fun r2 => hp (up (up (up A 91 r2.1) 92 r2.2.1) 93 r2.2.2.1) (up I 5443 r2.2.2.2) x) rfl (fun r2 hw => (t_X12_note A I x a1 a2 a3 hw).mono (Nat.le_of_ble_eq_true rfl)) (fun r2 => ?_)
      refine am_J.go 4 rfl ?_
      exact am_J.ret rfl (fun k => k)

def f_X12_undoneBy_l1 (A : Nat → List Int32) (I : Nat → Int32) (a1 : Int32) (a2 : Int32) : (Int32 × Int32) → Option ((Int32 × Int32) ⊕ (Int32)) := fun q => match q with
    | (s1, s2) =>
    (if (I 5486) ≤ s2 then
      some (.inr s1)
    else
      (((if ((a1 >>> (s2 &&& 31)) &&& 1) = 1 then
          ((am_at (A 117) s2).bind fun v3 =>
          some v3)
        else
          some 0) : Option (Int32)).bind (fun j4 =>
      some (.inl ((s1 ||| j4), (s2 + 1))))))
def f_X12_undoneBy (A : Nat → List Int32) (I : Nat → Int32) (a1 : Int32) (a2 : Int32) : Option (Int32) :=
  ((wl (f_X12_undoneBy_l1 A I a1 a2) 100000 (0, 0)).bind (fun e5 =>
  ((f_X12_ones A I (e5 &&& a2)).bind fun r6 =>
  some r6)))
set_option maxRecDepth 100000 in
set_option maxHeartbeats 4000000 in
theorem t_X12_undoneBy {xs : List Int32} (A : Nat → List Int32) (I : Nat → Int32) (x : am_X) (a1 : Int32) (a2 : Int32) {z : Int32} (hz : f_X12_undoneBy A I a1 a2 = some z) : am_Rt (am_ro xs) 2 ix_X12_undoneBy [.ref 85, .int a1, .int a2] (hp A I x) (some (.int z), hp A I x) := by
  refine am_Rt.J (k := ix_X12_undoneBy) (M := mc_X12_undoneBy) (nL := 5) (d := 1) (as := [.ref 85, .int a1, .int a2]) (res := fun z => (some (.int z), hp A I x)) rfl (Nat.le_of_ble_eq_true rfl) (fun r => ?_) hz
  unfold f_X12_undoneBy
  refine am_J.go (cf' := (5, [some (.ref 85), some (.int a1), some (.int a2), some (.int 0), some (.int 0)], [], hp A I x)) 4 rfl ?_
  refine am_J.weak (L' := [some (.ref 85), some (.int a1), some (.int a2), some (.int 0), some (.int 0)]) (am_Lle.k (am_Lle.k (am_Lle.k (am_Lle.k (am_Lle.k am_Lle.nil))))) ?_
  refine am_J.loop (cl := fun q => match q with | (s1, s2) => (5, [some (.ref 85), some (.int a1), some (.int a2), some (.int s1), some (.int s2)], [], hp A I x)) (GX := fun e5 => am_Ev (am_ro xs) 1 mc_X12_undoneBy (44, [some (.ref 85), none, some (.int a2), some (.int e5), none], [], hp A I x) r) ?_ ?_
  · rintro ⟨s1, s2⟩
    unfold f_X12_undoneBy_l1
    refine am_J.go 3 rfl ?_
    refine am_J.ge rfl ?_ ?_
    · refine am_J.go (cf' := (44, [some (.ref 85), some (.int a1), some (.int a2), some (.int s1), some (.int s2)], [], hp A I x)) 0 rfl ?_
      exact am_J.leaf (fun k => am_Ev.weak (L' := [some (.ref 85), none, some (.int a2), some (.int s1), none]) (am_Lle.k (am_Lle.o (am_Lle.k (am_Lle.k (am_Lle.o am_Lle.nil))))) k)
    · refine am_J.go 7 rfl ?_
      refine am_J.join (β := Int32) (cj := fun j4 => (36, [some (.ref 85), some (.int a1), some (.int a2), none, some (.int s2)], [.int j4, .int s1], hp A I x)) ?_ ?_
      · refine am_J.ne rfl ?_ ?_
        · refine am_J.go 3 rfl ?_
          refine am_J.ial (xs := (A 117)) rfl (Nat.le_of_ble_eq_true rfl) rfl (fun v3 => ?_)
          refine am_J.go (cf' := (36, [some (.ref 85), some (.int a1), some (.int a2), some (.int s1), some (.int s2)], [.int v3, .int s1], hp A I x)) 1 rfl ?_
          exact am_J.leaf (fun k => am_Ev.weak (L' := [some (.ref 85), some (.int a1), some (.int a2), none, some (.int s2)]) (am_Lle.k (am_Lle.k (am_Lle.k (am_Lle.o (am_Lle.k am_Lle.nil))))) k)
        · refine am_J.go (cf' := (36, [some (.ref 85), some (.int a1), some (.int a2), some (.int s1), some (.int s2)], [.int 0, .int s1], hp A I x)) 1 rfl ?_
          exact am_J.leaf (fun k => am_Ev.weak (L' := [some (.ref 85), some (.int a1), some (.int a2), none, some (.int s2)]) (am_Lle.k (am_Lle.k (am_Lle.k (am_Lle.o (am_Lle.k am_Lle.nil))))) k)
      · rintro j4
        refine am_J.go (cf' := (5, [some (.ref 85), some (.int a1), some (.int a2), some (.int (s1 ||| j4)), some (.int (s2 + 1))], [], hp A I x)) 4 rfl ?_
        exact am_J.leaf (fun k => am_Ev.weak (L' := [some (.ref 85), some (.int a1), some (.int a2), some (.int (s1 ||| j4)), some (.int (s2 + 1))]) (am_Lle.k (am_Lle.k (am_Lle.k (am_Lle.k (am_Lle.k am_Lle.nil))))) k)
  · rintro e5
    refine (?_ : am_J (am_ro xs) 1 mc_X12_undoneBy r (44, [some (.ref 85), none, some (.int a2), some (.int e5), none], [], hp A I x) _ _)
    refine am_J.go 4 rfl ?_
    refine am_J.call (v := fun r6 => .int r6) (h' := fun r6 => hp A I x) rfl (fun r6 hw => (t_X12_ones A I x (e5 &&& a2) hw)) (fun r6 => ?_)
    exact am_J.ret rfl (fun k => k)

def f_X12_wonBy_l1 (A : Nat → List Int32) (I : Nat → Int32) : (Int32 × Int32 × Int32 × Int32) → Option ((Int32 × Int32 × Int32 × Int32) ⊕ ((Int32) ⊕ (Int32))) := fun q => match q with
    | (s1, s2, s3, s4) =>
    (if (I 5494) ≤ s4 then
      some (.inr (.inl s3))
    else
      ((am_at (A 121) s4).bind fun v5 =>
      ((am_at (A 123) v5).bind fun v6 =>
      ((am_at (A 87) ((8 * s1) + v6)).bind fun v7 =>
      (if v7 < 999 then
        ((am_at (A 121) s4).bind fun v8 =>
        ((am_at (A 123) v8).bind fun v9 =>
        ((am_at (A 120) v9).bind fun v10 =>
        (((if v10 < (s2 + v7) then
            some 0
          else
            some 1) : Option (Int32)).bind (fun j11 =>
        some (.inl (v9, ((s2 + v7) + 3), (s3 + j11), (s4 + 1))))))))
      else
        some (.inr (.inr s3)))))))
def f_X12_wonBy (A : Nat → List Int32) (I : Nat → Int32) (a1 : Int32) : Option (Int32) :=
  ((wl (f_X12_wonBy_l1 A I) 100000 (a1, 0, 0, 0)).bind (fun q => match q with
  | .inl e12 =>
  some e12
  | .inr v => some v))
set_option maxRecDepth 100000 in
set_option maxHeartbeats 4000000 in
theorem t_X12_wonBy {xs : List Int32} (A : Nat → List Int32) (I : Nat → Int32) (x : am_X) (a1 : Int32) {z : Int32} (hz : f_X12_wonBy A I a1 = some z) : am_Rt (am_ro xs) 1 ix_X12_wonBy [.ref 85, .int a1] (hp A I x) (some (.int z), hp A I x) := by
  refine am_Rt.J (k := ix_X12_wonBy) (M := mc_X12_wonBy) (nL := 7) (d := 0) (as := [.ref 85, .int a1]) (res := fun z => (some (.int z), hp A I x)) rfl (Nat.le_of_ble_eq_true rfl) (fun r => ?_) hz
  unfold f_X12_wonBy
  refine am_J.go (cf' := (10, [some (.ref 85), some (.int a1), some (.int a1), some (.int 0), some (.int 0), some (.int 0), none], [], hp A I x)) 8 rfl ?_
  refine am_J.weak (L' := [some (.ref 85), none, some (.int a1), some (.int 0), some (.int 0), some (.int 0), none]) (am_Lle.k (am_Lle.o (am_Lle.k (am_Lle.k (am_Lle.k (am_Lle.k (am_Lle.o am_Lle.nil))))))) ?_
  refine am_J.loop (cl := fun q => match q with | (s1, s2, s3, s4) => (10, [some (.ref 85), none, some (.int s1), some (.int s2), some (.int s3), some (.int s4), none], [], hp A I x)) (GX := fun q => Sum.elim (fun e12 => am_Ev (am_ro xs) 0 mc_X12_wonBy (101, [none, none, none, none, some (.int e12), none, none], [], hp A I x) r) (fun (z : Int32) => r = (some (.int z), hp A I x)) q) ?_ ?_
  · rintro ⟨s1, s2, s3, s4⟩
    unfold f_X12_wonBy_l1
    refine am_J.go 3 rfl ?_
    refine am_J.ge rfl ?_ ?_
    · refine am_J.go (cf' := (101, [some (.ref 85), none, some (.int s1), some (.int s2), some (.int s3), some (.int s4), none], [], hp A I x)) 0 rfl ?_
      exact am_J.leaf (fun k => am_Ev.weak (L' := [none, none, none, none, some (.int s3), none, none]) (am_Lle.o (am_Lle.o (am_Lle.o (am_Lle.o (am_Lle.k (am_Lle.o (am_Lle.o am_Lle.nil))))))) k)
    · refine am_J.go 10 rfl ?_
      refine am_J.ial (xs := (A 121)) rfl (Nat.le_of_ble_eq_true rfl) rfl (fun v5 => ?_)
      refine am_J.ial (xs := (A 123)) rfl (Nat.le_of_ble_eq_true rfl) rfl (fun v6 => ?_)
      refine am_J.go 1 rfl ?_
      refine am_J.ial (xs := (A 87)) rfl (Nat.le_of_ble_eq_true rfl) rfl (fun v7 => ?_)
      refine am_J.go 3 rfl ?_
      refine am_J.lt rfl ?_ ?_
      · refine am_J.go 9 rfl ?_
        refine am_J.ial (xs := (A 121)) rfl (Nat.le_of_ble_eq_true rfl) rfl (fun v8 => ?_)
        refine am_J.ial (xs := (A 123)) rfl (Nat.le_of_ble_eq_true rfl) rfl (fun v9 => ?_)
        refine am_J.go 6 rfl ?_
        refine am_J.ial (xs := (A 120)) rfl (Nat.le_of_ble_eq_true rfl) rfl (fun v10 => ?_)
        refine am_J.join (β := Int32) (cj := fun j11 => (89, [some (.ref 85), none, some (.int v9), some (.int (s2 + v7)), none, some (.int s4), none], [.int j11, .int s3], hp A I x)) ?_ ?_
        · refine am_J.gt rfl ?_ ?_
          · refine am_J.go (cf' := (89, [some (.ref 85), none, some (.int v9), some (.int (s2 + v7)), some (.int s3), some (.int s4), some (.int v7)], [.int 0, .int s3], hp A I x)) 1 rfl ?_
            exact am_J.leaf (fun k => am_Ev.weak (L' := [some (.ref 85), none, some (.int v9), some (.int (s2 + v7)), none, some (.int s4), none]) (am_Lle.k (am_Lle.o (am_Lle.k (am_Lle.k (am_Lle.o (am_Lle.k (am_Lle.o am_Lle.nil))))))) k)
          · refine am_J.go (cf' := (89, [some (.ref 85), none, some (.int v9), some (.int (s2 + v7)), some (.int s3), some (.int s4), some (.int v7)], [.int 1, .int s3], hp A I x)) 2 rfl ?_
            exact am_J.leaf (fun k => am_Ev.weak (L' := [some (.ref 85), none, some (.int v9), some (.int (s2 + v7)), none, some (.int s4), none]) (am_Lle.k (am_Lle.o (am_Lle.k (am_Lle.k (am_Lle.o (am_Lle.k (am_Lle.o am_Lle.nil))))))) k)
        · rintro j11
          refine am_J.go (cf' := (10, [some (.ref 85), none, some (.int v9), some (.int ((s2 + v7) + 3)), some (.int (s3 + j11)), some (.int (s4 + 1)), none], [], hp A I x)) 5 rfl ?_
          exact am_J.leaf (fun k => am_Ev.weak (L' := [some (.ref 85), none, some (.int v9), some (.int ((s2 + v7) + 3)), some (.int (s3 + j11)), some (.int (s4 + 1)), none]) (am_Lle.k (am_Lle.o (am_Lle.k (am_Lle.k (am_Lle.k (am_Lle.k (am_Lle.o am_Lle.nil))))))) k)
      · refine am_J.go 1 rfl ?_
        exact am_J.ret rfl (fun k => k)
  · intro q
    rcases q with e12 | v
    · refine (?_ : am_J (am_ro xs) 0 mc_X12_wonBy r (101, [none, none, none, none, some (.int e12), none, none], [], hp A I x) _ _)
      refine am_J.go 1 rfl ?_
      exact am_J.ret rfl (fun k => k)
    · intro z hz hk
      cases hz
      exact hk

def f_X12_wordToken_l1 (A : Nat → List Int32) (I : Nat → Int32) : (Int32) → Option ((Int32) ⊕ (Int32)) := fun s1 =>
    (if (I 5459) ≤ s1 then
      some (.inr s1)
    else
      ((am_at (A 101) s1).bind fun v2 =>
      ((f_X12_isLetter A (up I 5464 s1) v2).bind fun r3 =>
      (if r3 = 0 then
        some (.inr s1)
      else
        some (.inl (s1 + 1))))))
def f_X12_wordToken (A : Nat → List Int32) (I : Nat → Int32) : Option (Int32 × Int32 × Int32) :=
  ((wl (f_X12_wordToken_l1 A I) 100000 (I 5464)).bind (fun e4 =>
  ((f_X12_isWord A (up (up I 5464 e4) 5465 2) 370116).bind fun r5 =>
  (((if r5 = 0 then
      ((f_X12_isWord A (up (up I 5464 e4) 5465 2) 4153).bind fun r6 =>
      (if r6 = 0 then
        ((f_X12_isWord A (up (up I 5464 e4) 5465 2) 591307).bind fun r7 =>
        (if r7 = 0 then
          ((f_X12_isWord A (up (up I 5464 e4) 5465 2) 624037).bind fun r8 =>
          (if r8 = 0 then
            ((f_X12_isWord A (up (up I 5464 e4) 5465 2) 8435955).bind fun r9 =>
            (if r9 = 0 then
              ((f_X12_isWord A (up (up I 5464 e4) 5465 2) 6334088).bind fun r10 =>
              (if r10 = 0 then
                some (-1)
              else
                some 5))
            else
              some 4))
          else
            some 3))
        else
          some 2))
      else
        some 1))
    else
      some 0) : Option (Int32)).bind (fun j11 =>
  (if j11 < 0 then
    ((f_X12_isWord A (up (up (up I 5464 e4) 5465 3) 5466 j11) 2406547).bind fun r12 =>
    (((if r12 = 0 then
        ((f_X12_isWord A (up (up (up I 5464 e4) 5465 3) 5466 j11) 19978404).bind fun r13 =>
        (if r13 = 0 then
          ((f_X12_isWord A (up (up (up I 5464 e4) 5465 3) 5466 j11) 498).bind fun r14 =>
          (if r14 = 0 then
            ((f_X12_isWord A (up (up (up I 5464 e4) 5465 3) 5466 j11) 1476).bind fun r15 =>
            (if r15 = 0 then
              ((f_X12_isWord A (up (up (up I 5464 e4) 5465 3) 5466 j11) 14836).bind fun r16 =>
              (if r16 = 0 then
                some (-1)
              else
                some 4))
            else
              some 3))
          else
            some 2))
        else
          some 1))
      else
        some 0) : Option (Int32)).bind (fun j17 =>
    (if 0 ≤ j17 then
      some (e4, 3, j17)
    else
      some (e4, 5, j17)))))
  else
    some (e4, 2, j11)))))))
set_option maxRecDepth 100000 in
set_option maxHeartbeats 4000000 in
theorem t_X12_wordToken {xs : List Int32} (A : Nat → List Int32) (I : Nat → Int32) (x : am_X) {z : Int32 × Int32 × Int32} (hz : f_X12_wordToken A I = some z) : am_Rt (am_ro xs) 2 ix_X12_wordToken [.ref 85] (hp A I x) (none, hp A (up (up (up I 5464 z.1) 5465 z.2.1) 5466 z.2.2) x) := by
  refine am_Rt.J (k := ix_X12_wordToken) (M := mc_X12_wordToken) (nL := 1) (d := 1) (as := [.ref 85]) (res := fun z => (none, hp A (up (up (up I 5464 z.1) 5465 z.2.1) 5466 z.2.2) x)) rfl (Nat.le_of_ble_eq_true rfl) (fun r => ?_) hz
  unfold f_X12_wordToken
  refine am_J.go (cf' := (0, [some (.ref 85)], [], hp A I x)) 0 rfl ?_
  refine am_J.weak (L' := [some (.ref 85)]) (am_Lle.k am_Lle.nil) ?_
  refine am_J.loop (cl := fun s1 => (0, [some (.ref 85)], [], hp A (up I 5464 s1) x)) (GX := fun e4 => am_Ev (am_ro xs) 1 mc_X12_wordToken (40, [some (.ref 85)], [], hp A (up I 5464 e4) x) r) ?_ ?_
  · rintro s1
    unfold f_X12_wordToken_l1
    refine am_J.go 4 rfl ?_
    refine am_J.ge rfl ?_ ?_
    · refine am_J.go (cf' := (40, [some (.ref 85)], [], hp A (up I 5464 s1) x)) 0 rfl ?_
      exact am_J.leaf (fun k => am_Ev.weak (L' := [some (.ref 85)]) (am_Lle.k am_Lle.nil) k)
    · refine am_J.go 5 rfl ?_
      refine am_J.bal (xs := (A 101)) (t := 1) rfl (by decide) rfl (fun v2 => ?_)
      refine am_J.callz (v := fun r3 => r3) (h' := fun r3 => hp A (up I 5464 s1) x) rfl rfl rfl (fun r3 hw => (t_X12_isLetter A (up I 5464 s1) x v2 hw)) (fun r3 hr3 => ?_)
      refine am_J.eq rfl ?_ ?_
      · refine am_J.go (cf' := (40, [some (.ref 85)], [], hp A (up I 5464 s1) x)) 0 rfl ?_
        exact am_J.leaf (fun k => am_Ev.weak (L' := [some (.ref 85)]) (am_Lle.k am_Lle.nil) k)
      · refine am_J.go (cf' := (0, [some (.ref 85)], [], hp A (up I 5464 (s1 + 1)) x)) 7 rfl ?_
        exact am_J.leaf (fun k => am_Ev.weak (L' := [some (.ref 85)]) (am_Lle.k am_Lle.nil) k)
  · rintro e4
    refine (?_ : am_J (am_ro xs) 1 mc_X12_wordToken r (40, [some (.ref 85)], [], hp A (up I 5464 e4) x) _ _)
    refine am_J.go 6 rfl ?_
    refine am_J.callz (v := fun r5 => r5) (h' := fun r5 => hp A (up (up I 5464 e4) 5465 2) x) rfl rfl rfl (fun r5 hw => (t_X12_isWord A (up (up I 5464 e4) 5465 2) x 370116 hw)) (fun r5 hr5 => ?_)
    refine am_J.join (β := Int32) (cj := fun j11 => (131, [some (.ref 85)], [.int j11, .ref 85], hp A (up (up I 5464 e4) 5465 2) x)) ?_ ?_
    · refine am_J.eq rfl ?_ ?_
      · refine am_J.go 2 rfl ?_
        refine am_J.callz (v := fun r6 => r6) (h' := fun r6 => hp A (up (up I 5464 e4) 5465 2) x) rfl rfl rfl (fun r6 hw => (t_X12_isWord A (up (up I 5464 e4) 5465 2) x 4153 hw)) (fun r6 hr6 => ?_)
        refine am_J.eq rfl ?_ ?_
        · refine am_J.go 2 rfl ?_
          refine am_J.callz (v := fun r7 => r7) (h' := fun r7 => hp A (up (up I 5464 e4) 5465 2) x) rfl rfl rfl (fun r7 hw => (t_X12_isWord A (up (up I 5464 e4) 5465 2) x 591307 hw)) (fun r7 hr7 => ?_)
          refine am_J.eq rfl ?_ ?_
          · refine am_J.go 2 rfl ?_
            refine am_J.callz (v := fun r8 => r8) (h' := fun r8 => hp A (up (up I 5464 e4) 5465 2) x) rfl rfl rfl (fun r8 hw => (t_X12_isWord A (up (up I 5464 e4) 5465 2) x 624037 hw)) (fun r8 hr8 => ?_)
            refine am_J.eq rfl ?_ ?_
            · refine am_J.go 2 rfl ?_
              refine am_J.callz (v := fun r9 => r9) (h' := fun r9 => hp A (up (up I 5464 e4) 5465 2) x) rfl rfl rfl (fun r9 hw => (t_X12_isWord A (up (up I 5464 e4) 5465 2) x 8435955 hw)) (fun r9 hr9 => ?_)
              refine am_J.eq rfl ?_ ?_
              · refine am_J.go 2 rfl ?_
                refine am_J.callz (v := fun r10 => r10) (h' := fun r10 => hp A (up (up I 5464 e4) 5465 2) x) rfl rfl rfl (fun r10 hw => (t_X12_isWord A (up (up I 5464 e4) 5465 2) x 6334088 hw)) (fun r10 hr10 => ?_)
                refine am_J.eq rfl ?_ ?_
                · refine am_J.go (cf' := (131, [some (.ref 85)], [.int (-1), .ref 85], hp A (up (up I 5464 e4) 5465 2) x)) 1 rfl ?_
                  exact am_J.leaf (fun k => am_Ev.weak (L' := [some (.ref 85)]) (am_Lle.k am_Lle.nil) k)
                · refine am_J.go (cf' := (131, [some (.ref 85)], [.int 5, .ref 85], hp A (up (up I 5464 e4) 5465 2) x)) 2 rfl ?_
                  exact am_J.leaf (fun k => am_Ev.weak (L' := [some (.ref 85)]) (am_Lle.k am_Lle.nil) k)
              · refine am_J.go (cf' := (131, [some (.ref 85)], [.int 4, .ref 85], hp A (up (up I 5464 e4) 5465 2) x)) 2 rfl ?_
                exact am_J.leaf (fun k => am_Ev.weak (L' := [some (.ref 85)]) (am_Lle.k am_Lle.nil) k)
            · refine am_J.go (cf' := (131, [some (.ref 85)], [.int 3, .ref 85], hp A (up (up I 5464 e4) 5465 2) x)) 2 rfl ?_
              exact am_J.leaf (fun k => am_Ev.weak (L' := [some (.ref 85)]) (am_Lle.k am_Lle.nil) k)
          · refine am_J.go (cf' := (131, [some (.ref 85)], [.int 2, .ref 85], hp A (up (up I 5464 e4) 5465 2) x)) 2 rfl ?_
            exact am_J.leaf (fun k => am_Ev.weak (L' := [some (.ref 85)]) (am_Lle.k am_Lle.nil) k)
        · refine am_J.go (cf' := (131, [some (.ref 85)], [.int 1, .ref 85], hp A (up (up I 5464 e4) 5465 2) x)) 2 rfl ?_
          exact am_J.leaf (fun k => am_Ev.weak (L' := [some (.ref 85)]) (am_Lle.k am_Lle.nil) k)
      · refine am_J.go (cf' := (131, [some (.ref 85)], [.int 0, .ref 85], hp A (up (up I 5464 e4) 5465 2) x)) 2 rfl ?_
        exact am_J.leaf (fun k => am_Ev.weak (L' := [some (.ref 85)]) (am_Lle.k am_Lle.nil) k)
    · rintro j11
      refine am_J.go 3 rfl ?_
      refine am_J.lt rfl ?_ ?_
      · refine am_J.go 6 rfl ?_
        refine am_J.callz (v := fun r12 => r12) (h' := fun r12 => hp A (up (up (up I 5464 e4) 5465 3) 5466 j11) x) rfl rfl rfl (fun r12 hw => (t_X12_isWord A (up (up (up I 5464 e4) 5465 3) 5466 j11) x 2406547 hw)) (fun r12 hr12 => ?_)
        refine am_J.join (β := Int32) (cj := fun j17 => (219, [some (.ref 85)], [.int j17, .ref 85], hp A (up (up (up I 5464 e4) 5465 3) 5466 j11) x)) ?_ ?_
        · refine am_J.eq rfl ?_ ?_
          · refine am_J.go 2 rfl ?_
            refine am_J.callz (v := fun r13 => r13) (h' := fun r13 => hp A (up (up (up I 5464 e4) 5465 3) 5466 j11) x) rfl rfl rfl (fun r13 hw => (t_X12_isWord A (up (up (up I 5464 e4) 5465 3) 5466 j11) x 19978404 hw)) (fun r13 hr13 => ?_)
            refine am_J.eq rfl ?_ ?_
            · refine am_J.go 2 rfl ?_
              refine am_J.callz (v := fun r14 => r14) (h' := fun r14 => hp A (up (up (up I 5464 e4) 5465 3) 5466 j11) x) rfl rfl rfl (fun r14 hw => (t_X12_isWord A (up (up (up I 5464 e4) 5465 3) 5466 j11) x 498 hw)) (fun r14 hr14 => ?_)
              refine am_J.eq rfl ?_ ?_
              · refine am_J.go 2 rfl ?_
                refine am_J.callz (v := fun r15 => r15) (h' := fun r15 => hp A (up (up (up I 5464 e4) 5465 3) 5466 j11) x) rfl rfl rfl (fun r15 hw => (t_X12_isWord A (up (up (up I 5464 e4) 5465 3) 5466 j11) x 1476 hw)) (fun r15 hr15 => ?_)
                refine am_J.eq rfl ?_ ?_
                · refine am_J.go 2 rfl ?_
                  refine am_J.callz (v := fun r16 => r16) (h' := fun r16 => hp A (up (up (up I 5464 e4) 5465 3) 5466 j11) x) rfl rfl rfl (fun r16 hw => (t_X12_isWord A (up (up (up I 5464 e4) 5465 3) 5466 j11) x 14836 hw)) (fun r16 hr16 => ?_)
                  refine am_J.eq rfl ?_ ?_
                  · refine am_J.go (cf' := (219, [some (.ref 85)], [.int (-1), .ref 85], hp A (up (up (up I 5464 e4) 5465 3) 5466 j11) x)) 1 rfl ?_
                    exact am_J.leaf (fun k => am_Ev.weak (L' := [some (.ref 85)]) (am_Lle.k am_Lle.nil) k)
                  · refine am_J.go (cf' := (219, [some (.ref 85)], [.int 4, .ref 85], hp A (up (up (up I 5464 e4) 5465 3) 5466 j11) x)) 2 rfl ?_
                    exact am_J.leaf (fun k => am_Ev.weak (L' := [some (.ref 85)]) (am_Lle.k am_Lle.nil) k)
                · refine am_J.go (cf' := (219, [some (.ref 85)], [.int 3, .ref 85], hp A (up (up (up I 5464 e4) 5465 3) 5466 j11) x)) 2 rfl ?_
                  exact am_J.leaf (fun k => am_Ev.weak (L' := [some (.ref 85)]) (am_Lle.k am_Lle.nil) k)
              · refine am_J.go (cf' := (219, [some (.ref 85)], [.int 2, .ref 85], hp A (up (up (up I 5464 e4) 5465 3) 5466 j11) x)) 2 rfl ?_
                exact am_J.leaf (fun k => am_Ev.weak (L' := [some (.ref 85)]) (am_Lle.k am_Lle.nil) k)
            · refine am_J.go (cf' := (219, [some (.ref 85)], [.int 1, .ref 85], hp A (up (up (up I 5464 e4) 5465 3) 5466 j11) x)) 2 rfl ?_
              exact am_J.leaf (fun k => am_Ev.weak (L' := [some (.ref 85)]) (am_Lle.k am_Lle.nil) k)
          · refine am_J.go (cf' := (219, [some (.ref 85)], [.int 0, .ref 85], hp A (up (up (up I 5464 e4) 5465 3) 5466 j11) x)) 2 rfl ?_
            exact am_J.leaf (fun k => am_Ev.weak (L' := [some (.ref 85)]) (am_Lle.k am_Lle.nil) k)
        · rintro j17
          refine am_J.go 3 rfl ?_
          refine am_J.ge rfl ?_ ?_
          · exact am_J.ret rfl (fun k => k)
          · refine am_J.go 3 rfl ?_
            exact am_J.ret rfl (fun k => k)
      · exact am_J.ret rfl (fun k => k)

def f_X12_work_l1 (A : Nat → List Int32) (I : Nat → Int32) (p4 : Int32) : (Int32 × Int32 × (List Int32)) → Option ((Int32 × Int32 × (List Int32)) ⊕ ((List Int32))) := fun q => match q with
    | (s1, s2, s3) =>
    ((am_at (A 103) p4).bind fun v5 =>
    (if v5 ≤ s2 then
      some (.inr s3)
    else
      ((am_at (A 104) ((160 * p4) + s2)).bind fun v6 =>
      (((if v6 < 0 then
          (if v6 = (-3) then
            (((if v6 = (-9) then
                ((am_at s3 (s1 - 1)).bind fun v8 =>
                some (-v8))
              else
                ((am_at s3 (s1 - 1)).bind fun v7 =>
                (if v7 = 0 then
                  some 1
                else
                  some 0))) : Option (Int32)).bind (fun j9 =>
            ((am_up s3 (s1 - 1) j9).bind fun y10 =>
            some (s1, y10))))
          else
            (if v6 = (-9) then
              (((if v6 = (-9) then
                  ((am_at s3 (s1 - 1)).bind fun v16 =>
                  some (-v16))
                else
                  ((am_at s3 (s1 - 1)).bind fun v15 =>
                  (if v15 = 0 then
                    some 1
                  else
                    some 0))) : Option (Int32)).bind (fun j17 =>
              ((am_up s3 (s1 - 1) j17).bind fun y18 =>
              some (s1, y18))))
            else
              ((am_at s3 ((s1 + (-1)) - 1)).bind fun v11 =>
              ((am_at s3 (s1 + (-1))).bind fun v12 =>
              ((f_X12_both (up A 108 s3) I v6 v11 v12).bind fun r13 =>
              ((am_up s3 ((s1 + (-1)) - 1) r13).bind fun y14 =>
              some ((s1 + (-1)), y14)))))))
        else
          (((if 10000 ≤ v6 then
              ((am_at (A 107) (v6 - 10000)).bind fun v19 =>
              some v19)
            else
              some v6) : Option (Int32)).bind (fun j20 =>
          ((am_up s3 s1 j20).bind fun y21 =>
          some ((s1 + 1), y21))))) : Option (Int32 × (List Int32))).bind (fun q => match q with
      | (j22, j23) =>
      some (.inl (j22, (s2 + 1), j23)))))))
def f_X12_work (A : Nat → List Int32) (I : Nat → Int32) (a1 : Int32) (a2 : Int32) : Option (Int32 × (List Int32)) :=
  ((wl (f_X12_work_l1 A I ((2 * a1) + a2)) 100000 (0, 0, (A 108))).bind (fun e24 =>
  ((am_at e24 0).bind fun v25 =>
  some (v25, e24))))
set_option maxRecDepth 100000 in
set_option maxHeartbeats 4000000 in
theorem t_X12_work {xs : List Int32} (A : Nat → List Int32) (I : Nat → Int32) (x : am_X) (a1 : Int32) (a2 : Int32) {z : Int32 × (List Int32)} (hz : f_X12_work A I a1 a2 = some z) : am_Rt (am_ro xs) 2 ix_X12_work [.ref 85, .int a1, .int a2] (hp A I x) (some (.int z.1), hp (up A 108 z.2) I x) := by
  refine am_Rt.J (k := ix_X12_work) (M := mc_X12_work) (nL := 7) (d := 1) (as := [.ref 85, .int a1, .int a2]) (res := fun z => (some (.int z.1), hp (up A 108 z.2) I x)) rfl (Nat.le_of_ble_eq_true rfl) (fun r => ?_) hz
  unfold f_X12_work
  refine am_J.go (cf' := (12, [some (.ref 85), some (.int a1), some (.int a2), some (.int ((2 * a1) + a2)), some (.int 0), some (.int 0), none], [], hp A I x)) 10 rfl ?_
  refine am_J.weak (L' := [some (.ref 85), none, none, some (.int ((2 * a1) + a2)), some (.int 0), some (.int 0), none]) (am_Lle.k (am_Lle.o (am_Lle.o (am_Lle.k (am_Lle.k (am_Lle.k (am_Lle.o am_Lle.nil))))))) ?_
  refine am_J.loop (cl := fun q => match q with | (s1, s2, s3) => (12, [some (.ref 85), none, none, some (.int ((2 * a1) + a2)), some (.int s1), some (.int s2), none], [], hp (up A 108 s3) I x)) (GX := fun e24 => am_Ev (am_ro xs) 1 mc_X12_work (183, [some (.ref 85), none, none, none, none, none, none], [], hp (up A 108 e24) I x) r) ?_ ?_
  · rintro ⟨s1, s2, s3⟩
    unfold f_X12_work_l1
    refine am_J.go 4 rfl ?_
    refine am_J.ial (xs := (A 103)) rfl (Nat.le_of_ble_eq_true rfl) rfl (fun v5 => ?_)
    refine am_J.ge rfl ?_ ?_
    · refine am_J.go (cf' := (183, [some (.ref 85), none, none, some (.int ((2 * a1) + a2)), some (.int s1), some (.int s2), none], [], hp (up A 108 s3) I x)) 0 rfl ?_
      exact am_J.leaf (fun k => am_Ev.weak (L' := [some (.ref 85), none, none, none, none, none, none]) (am_Lle.k (am_Lle.o (am_Lle.o (am_Lle.o (am_Lle.o (am_Lle.o (am_Lle.o am_Lle.nil))))))) k)
    · refine am_J.go 7 rfl ?_
      refine am_J.ial (xs := (A 104)) rfl (Nat.le_of_ble_eq_true rfl) rfl (fun v6 => ?_)
      refine am_J.go 2 rfl ?_
      refine am_J.join (β := Int32 × (List Int32)) (cj := fun q => match q with | (j22, j23) => (177, [some (.ref 85), none, none, some (.int ((2 * a1) + a2)), some (.int j22), some (.int s2), none], [], hp (up A 108 j23) I x)) ?_ ?_
      · refine am_J.lt rfl ?_ ?_
        · refine am_J.go 2 rfl ?_
          refine am_J.eq rfl ?_ ?_
          · refine am_J.go 7 rfl ?_
            refine am_J.join (β := Int32) (cj := fun j9 => (139, [some (.ref 85), none, none, some (.int ((2 * a1) + a2)), some (.int s1), some (.int s2), none], [.int j9, .int (s1 - 1), .ref 108], hp (up A 108 s3) I x)) ?_ ?_
            · refine am_J.ne rfl ?_ ?_
              · refine am_J.go 5 rfl ?_
                refine am_J.ial (xs := s3) rfl (Nat.le_of_ble_eq_true rfl) rfl (fun v8 => ?_)
                refine am_J.go (cf' := (139, [some (.ref 85), none, none, some (.int ((2 * a1) + a2)), some (.int s1), some (.int s2), some (.int v6)], [.int (-v8), .int (s1 - 1), .ref 108], hp (up A 108 s3) I x)) 2 rfl ?_
                exact am_J.leaf (fun k => am_Ev.weak (L' := [some (.ref 85), none, none, some (.int ((2 * a1) + a2)), some (.int s1), some (.int s2), none]) (am_Lle.k (am_Lle.o (am_Lle.o (am_Lle.k (am_Lle.k (am_Lle.k (am_Lle.o am_Lle.nil))))))) k)
              · refine am_J.go 5 rfl ?_
                refine am_J.ial (xs := s3) rfl (Nat.le_of_ble_eq_true rfl) rfl (fun v7 => ?_)
                refine am_J.ne rfl ?_ ?_
                · refine am_J.go (cf' := (139, [some (.ref 85), none, none, some (.int ((2 * a1) + a2)), some (.int s1), some (.int s2), some (.int v6)], [.int 1, .int (s1 - 1), .ref 108], hp (up A 108 s3) I x)) 2 rfl ?_
                  exact am_J.leaf (fun k => am_Ev.weak (L' := [some (.ref 85), none, none, some (.int ((2 * a1) + a2)), some (.int s1), some (.int s2), none]) (am_Lle.k (am_Lle.o (am_Lle.o (am_Lle.k (am_Lle.k (am_Lle.k (am_Lle.o am_Lle.nil))))))) k)
                · refine am_J.go (cf' := (139, [some (.ref 85), none, none, some (.int ((2 * a1) + a2)), some (.int s1), some (.int s2), some (.int v6)], [.int 0, .int (s1 - 1), .ref 108], hp (up A 108 s3) I x)) 1 rfl ?_
                  exact am_J.leaf (fun k => am_Ev.weak (L' := [some (.ref 85), none, none, some (.int ((2 * a1) + a2)), some (.int s1), some (.int s2), none]) (am_Lle.k (am_Lle.o (am_Lle.o (am_Lle.k (am_Lle.k (am_Lle.k (am_Lle.o am_Lle.nil))))))) k)
            · rintro j9
              refine am_J.ias (xs := s3) (h' := fun y10 => hp (up A 108 y10) I x) rfl rfl (fun _ => rfl) (fun y10 => ?_)
              refine am_J.go (cf' := (177, [some (.ref 85), none, none, some (.int ((2 * a1) + a2)), some (.int s1), some (.int s2), none], [], hp (up A 108 y10) I x)) 1 rfl ?_
              exact am_J.leaf (fun k => am_Ev.weak (L' := [some (.ref 85), none, none, some (.int ((2 * a1) + a2)), some (.int s1), some (.int s2), none]) (am_Lle.k (am_Lle.o (am_Lle.o (am_Lle.k (am_Lle.k (am_Lle.k (am_Lle.o am_Lle.nil))))))) k)
          · refine am_J.go 2 rfl ?_
            refine am_J.ne rfl ?_ ?_
            · refine am_J.go 7 rfl ?_
              refine am_J.join (β := Int32) (cj := fun j17 => (139, [some (.ref 85), none, none, some (.int ((2 * a1) + a2)), some (.int s1), some (.int s2), none], [.int j17, .int (s1 - 1), .ref 108], hp (up A 108 s3) I x)) ?_ ?_
              · refine am_J.ne rfl ?_ ?_
                · refine am_J.go 5 rfl ?_
                  refine am_J.ial (xs := s3) rfl (Nat.le_of_ble_eq_true rfl) rfl (fun v16 => ?_)
                  refine am_J.go (cf' := (139, [some (.ref 85), none, none, some (.int ((2 * a1) + a2)), some (.int s1), some (.int s2), some (.int v6)], [.int (-v16), .int (s1 - 1), .ref 108], hp (up A 108 s3) I x)) 2 rfl ?_
                  exact am_J.leaf (fun k => am_Ev.weak (L' := [some (.ref 85), none, none, some (.int ((2 * a1) + a2)), some (.int s1), some (.int s2), none]) (am_Lle.k (am_Lle.o (am_Lle.o (am_Lle.k (am_Lle.k (am_Lle.k (am_Lle.o am_Lle.nil))))))) k)
                · refine am_J.go 5 rfl ?_
                  refine am_J.ial (xs := s3) rfl (Nat.le_of_ble_eq_true rfl) rfl (fun v15 => ?_)
                  refine am_J.ne rfl ?_ ?_
                  · refine am_J.go (cf' := (139, [some (.ref 85), none, none, some (.int ((2 * a1) + a2)), some (.int s1), some (.int s2), some (.int v6)], [.int 1, .int (s1 - 1), .ref 108], hp (up A 108 s3) I x)) 2 rfl ?_
                    exact am_J.leaf (fun k => am_Ev.weak (L' := [some (.ref 85), none, none, some (.int ((2 * a1) + a2)), some (.int s1), some (.int s2), none]) (am_Lle.k (am_Lle.o (am_Lle.o (am_Lle.k (am_Lle.k (am_Lle.k (am_Lle.o am_Lle.nil))))))) k)
                  · refine am_J.go (cf' := (139, [some (.ref 85), none, none, some (.int ((2 * a1) + a2)), some (.int s1), some (.int s2), some (.int v6)], [.int 0, .int (s1 - 1), .ref 108], hp (up A 108 s3) I x)) 1 rfl ?_
                    exact am_J.leaf (fun k => am_Ev.weak (L' := [some (.ref 85), none, none, some (.int ((2 * a1) + a2)), some (.int s1), some (.int s2), none]) (am_Lle.k (am_Lle.o (am_Lle.o (am_Lle.k (am_Lle.k (am_Lle.k (am_Lle.o am_Lle.nil))))))) k)
              · rintro j17
                refine am_J.ias (xs := s3) (h' := fun y18 => hp (up A 108 y18) I x) rfl rfl (fun _ => rfl) (fun y18 => ?_)
                refine am_J.go (cf' := (177, [some (.ref 85), none, none, some (.int ((2 * a1) + a2)), some (.int s1), some (.int s2), none], [], hp (up A 108 y18) I x)) 1 rfl ?_
                exact am_J.leaf (fun k => am_Ev.weak (L' := [some (.ref 85), none, none, some (.int ((2 * a1) + a2)), some (.int s1), some (.int s2), none]) (am_Lle.k (am_Lle.o (am_Lle.o (am_Lle.k (am_Lle.k (am_Lle.k (am_Lle.o am_Lle.nil))))))) k)
            · refine am_J.go 13 rfl ?_
              refine am_J.ial (xs := s3) rfl (Nat.le_of_ble_eq_true rfl) rfl (fun v11 => ?_)
              refine am_J.go 3 rfl ?_
              refine am_J.ial (xs := s3) rfl (Nat.le_of_ble_eq_true rfl) rfl (fun v12 => ?_)
              refine am_J.call (v := fun r13 => .int r13) (h' := fun r13 => hp (up A 108 s3) I x) rfl (fun r13 hw => (t_X12_both (up A 108 s3) I x v6 v11 v12 hw)) (fun r13 => ?_)
              refine am_J.ias (xs := s3) (h' := fun y14 => hp (up A 108 y14) I x) rfl rfl (fun _ => rfl) (fun y14 => ?_)
              refine am_J.go (cf' := (177, [some (.ref 85), none, none, some (.int ((2 * a1) + a2)), some (.int (s1 + (-1))), some (.int s2), some (.int v6)], [], hp (up A 108 y14) I x)) 0 rfl ?_
              exact am_J.leaf (fun k => am_Ev.weak (L' := [some (.ref 85), none, none, some (.int ((2 * a1) + a2)), some (.int (s1 + (-1))), some (.int s2), none]) (am_Lle.k (am_Lle.o (am_Lle.o (am_Lle.k (am_Lle.k (am_Lle.k (am_Lle.o am_Lle.nil))))))) k)
        · refine am_J.go 5 rfl ?_
          refine am_J.join (β := Int32) (cj := fun j20 => (73, [some (.ref 85), none, none, some (.int ((2 * a1) + a2)), some (.int s1), some (.int s2), none], [.int j20, .int s1, .ref 108], hp (up A 108 s3) I x)) ?_ ?_
          · refine am_J.ge rfl ?_ ?_
            · refine am_J.go 5 rfl ?_
              refine am_J.ial (xs := (A 107)) rfl (Nat.le_of_ble_eq_true rfl) rfl (fun v19 => ?_)
              refine am_J.go (cf' := (73, [some (.ref 85), none, none, some (.int ((2 * a1) + a2)), some (.int s1), some (.int s2), some (.int v6)], [.int v19, .int s1, .ref 108], hp (up A 108 s3) I x)) 0 rfl ?_
              exact am_J.leaf (fun k => am_Ev.weak (L' := [some (.ref 85), none, none, some (.int ((2 * a1) + a2)), some (.int s1), some (.int s2), none]) (am_Lle.k (am_Lle.o (am_Lle.o (am_Lle.k (am_Lle.k (am_Lle.k (am_Lle.o am_Lle.nil))))))) k)
            · refine am_J.go (cf' := (73, [some (.ref 85), none, none, some (.int ((2 * a1) + a2)), some (.int s1), some (.int s2), some (.int v6)], [.int v6, .int s1, .ref 108], hp (up A 108 s3) I x)) 2 rfl ?_
              exact am_J.leaf (fun k => am_Ev.weak (L' := [some (.ref 85), none, none, some (.int ((2 * a1) + a2)), some (.int s1), some (.int s2), none]) (am_Lle.k (am_Lle.o (am_Lle.o (am_Lle.k (am_Lle.k (am_Lle.k (am_Lle.o am_Lle.nil))))))) k)
          · rintro j20
            refine am_J.ias (xs := s3) (h' := fun y21 => hp (up A 108 y21) I x) rfl rfl (fun _ => rfl) (fun y21 => ?_)
            refine am_J.go (cf' := (177, [some (.ref 85), none, none, some (.int ((2 * a1) + a2)), some (.int (s1 + 1)), some (.int s2), none], [], hp (up A 108 y21) I x)) 2 rfl ?_
            exact am_J.leaf (fun k => am_Ev.weak (L' := [some (.ref 85), none, none, some (.int ((2 * a1) + a2)), some (.int (s1 + 1)), some (.int s2), none]) (am_Lle.k (am_Lle.o (am_Lle.o (am_Lle.k (am_Lle.k (am_Lle.k (am_Lle.o am_Lle.nil))))))) k)
      · rintro ⟨j22, j23⟩
        refine am_J.go (cf' := (12, [some (.ref 85), none, none, some (.int ((2 * a1) + a2)), some (.int j22), some (.int (s2 + 1)), none], [], hp (up A 108 j23) I x)) 2 rfl ?_
        exact am_J.leaf (fun k => am_Ev.weak (L' := [some (.ref 85), none, none, some (.int ((2 * a1) + a2)), some (.int j22), some (.int (s2 + 1)), none]) (am_Lle.k (am_Lle.o (am_Lle.o (am_Lle.k (am_Lle.k (am_Lle.k (am_Lle.o am_Lle.nil))))))) k)
  · rintro e24
    refine (?_ : am_J (am_ro xs) 1 mc_X12_work r (183, [some (.ref 85), none, none, none, none, none, none], [], hp (up A 108 e24) I x) _ _)
    refine am_J.go 3 rfl ?_
    refine am_J.ial (xs := e24) rfl (Nat.le_of_ble_eq_true rfl) rfl (fun v25 => ?_)
    exact am_J.ret rfl (fun k => k)

def f_X12_worth (A : Nat → List Int32) (I : Nat → Int32) (a1 : Int32) (a2 : Int32) (a3 : Int32) : Option (Int32 × (List Int32)) :=
  ((f_X12_isClause A I a1).bind fun r1 =>
  (if r1 = 0 then
    some ((-1000), (A 118))
  else
    ((f_X12_isLand A I a2).bind fun r2 =>
    (if r2 = 0 then
      some ((-1000), (A 118))
    else
      ((f_X12_in A I a3 (-99) 99).bind fun r3 =>
      (if r3 = 0 then
        some ((-1000), (A 118))
      else
        ((am_at (A 118) ((8 * a1) + a2)).bind fun v4 =>
        ((am_up (A 118) ((8 * a1) + a2) a3).bind fun y5 =>
        some (v4, y5)))))))))
set_option maxRecDepth 100000 in
set_option maxHeartbeats 4000000 in
theorem t_X12_worth {xs : List Int32} (A : Nat → List Int32) (I : Nat → Int32) (x : am_X) (a1 : Int32) (a2 : Int32) (a3 : Int32) {z : Int32 × (List Int32)} (hz : f_X12_worth A I a1 a2 a3 = some z) : am_Rt (am_ro xs) 3 ix_X12_worth [.ref 85, .int a1, .int a2, .int a3] (hp A I x) (some (.int z.1), hp (up A 118 z.2) I x) := by
  refine am_Rt.J (k := ix_X12_worth) (M := mc_X12_worth) (nL := 5) (d := 2) (as := [.ref 85, .int a1, .int a2, .int a3]) (res := fun z => (some (.int z.1), hp (up A 118 z.2) I x)) rfl (Nat.le_of_ble_eq_true rfl) (fun r => ?_) hz
  unfold f_X12_worth
  refine am_J.go 2 rfl ?_
  refine am_J.callz (v := fun r1 => r1) (h' := fun r1 => hp A I x) rfl rfl rfl (fun r1 hw => (t_X12_isClause A I x a1 hw)) (fun r1 hr1 => ?_)
  refine am_J.eq rfl ?_ ?_
  · refine am_J.go 1 rfl ?_
    exact am_J.ret rfl (fun k => k)
  · refine am_J.go 2 rfl ?_
    refine am_J.callz (v := fun r2 => r2) (h' := fun r2 => hp A I x) rfl rfl rfl (fun r2 hw => (t_X12_isLand A I x a2 hw)) (fun r2 hr2 => ?_)
    refine am_J.eq rfl ?_ ?_
    · refine am_J.go 1 rfl ?_
      exact am_J.ret rfl (fun k => k)
    · refine am_J.go 4 rfl ?_
      refine am_J.callz (v := fun r3 => r3) (h' := fun r3 => hp A I x) rfl rfl rfl (fun r3 hw => (t_X12_in A I x a3 (-99) 99 hw).mono (Nat.le_of_ble_eq_true rfl)) (fun r3 hr3 => ?_)
      refine am_J.ne rfl ?_ ?_
      · refine am_J.go 1 rfl ?_
        exact am_J.ret rfl (fun k => k)
      · refine am_J.go 7 rfl ?_
        refine am_J.ial (xs := (A 118)) rfl (Nat.le_of_ble_eq_true rfl) rfl (fun v4 => ?_)
        refine am_J.go 9 rfl ?_
        refine am_J.ias (xs := (A 118)) (h' := fun y5 => hp (up A 118 y5) I x) rfl rfl (fun _ => rfl) (fun y5 => ?_)
        refine am_J.go 1 rfl ?_
        exact am_J.ret rfl (fun k => k)

def f_X1_hangingWithin_l1 (A : Nat → List Int32) (I : Nat → Int32) (a1 : Int32) : (Int32 × Int32) → Option ((Int32 × Int32) ⊕ (Int32)) := fun q => match q with
    | (s1, s2) =>
    (if (I 1863) ≤ s2 then
      some (.inr s1)
    else
      ((am_at (A 35) s2).bind fun v3 =>
      (((if (v3 &&& (a1 ^^^ (-1))) = 0 then
          some (1 <<< (s2 &&& 31))
        else
          some 0) : Option (Int32)).bind (fun j4 =>
      some (.inl ((s1 ||| j4), (s2 + 1)))))))
def f_X1_hangingWithin (A : Nat → List Int32) (I : Nat → Int32) (a1 : Int32) : Option (Int32) :=
  ((wl (f_X1_hangingWithin_l1 A I a1) 100000 (0, 0)).bind (fun e5 =>
  some e5))
set_option maxRecDepth 100000 in
set_option maxHeartbeats 4000000 in
theorem t_X1_hangingWithin {xs : List Int32} (A : Nat → List Int32) (I : Nat → Int32) (x : am_X) (a1 : Int32) {z : Int32} (hz : f_X1_hangingWithin A I a1 = some z) : am_Rt (am_ro xs) 1 ix_X1_hangingWithin [.ref 37, .int a1] (hp A I x) (some (.int z), hp A I x) := by
  refine am_Rt.J (k := ix_X1_hangingWithin) (M := mc_X1_hangingWithin) (nL := 4) (d := 0) (as := [.ref 37, .int a1]) (res := fun z => (some (.int z), hp A I x)) rfl (Nat.le_of_ble_eq_true rfl) (fun r => ?_) hz
  unfold f_X1_hangingWithin
  refine am_J.go (cf' := (4, [some (.ref 37), some (.int a1), some (.int 0), some (.int 0)], [], hp A I x)) 4 rfl ?_
  refine am_J.weak (L' := [some (.ref 37), some (.int a1), some (.int 0), some (.int 0)]) (am_Lle.k (am_Lle.k (am_Lle.k (am_Lle.k am_Lle.nil)))) ?_
  refine am_J.loop (cl := fun q => match q with | (s1, s2) => (4, [some (.ref 37), some (.int a1), some (.int s1), some (.int s2)], [], hp A I x)) (GX := fun e5 => am_Ev (am_ro xs) 0 mc_X1_hangingWithin (47, [none, none, some (.int e5), none], [], hp A I x) r) ?_ ?_
  · rintro ⟨s1, s2⟩
    unfold f_X1_hangingWithin_l1
    refine am_J.go 4 rfl ?_
    refine am_J.ge rfl ?_ ?_
    · refine am_J.go (cf' := (47, [some (.ref 37), some (.int a1), some (.int s1), some (.int s2)], [], hp A I x)) 0 rfl ?_
      exact am_J.leaf (fun k => am_Ev.weak (L' := [none, none, some (.int s1), none]) (am_Lle.o (am_Lle.o (am_Lle.k (am_Lle.o am_Lle.nil)))) k)
    · refine am_J.go 5 rfl ?_
      refine am_J.ial (xs := (A 35)) rfl (Nat.le_of_ble_eq_true rfl) rfl (fun v3 => ?_)
      refine am_J.go 4 rfl ?_
      refine am_J.join (β := Int32) (cj := fun j4 => (39, [some (.ref 37), some (.int a1), none, some (.int s2)], [.int j4, .int s1], hp A I x)) ?_ ?_
      · refine am_J.ne rfl ?_ ?_
        · refine am_J.go (cf' := (39, [some (.ref 37), some (.int a1), some (.int s1), some (.int s2)], [.int (1 <<< (s2 &&& 31)), .int s1], hp A I x)) 4 rfl ?_
          exact am_J.leaf (fun k => am_Ev.weak (L' := [some (.ref 37), some (.int a1), none, some (.int s2)]) (am_Lle.k (am_Lle.k (am_Lle.o (am_Lle.k am_Lle.nil)))) k)
        · refine am_J.go (cf' := (39, [some (.ref 37), some (.int a1), some (.int s1), some (.int s2)], [.int 0, .int s1], hp A I x)) 1 rfl ?_
          exact am_J.leaf (fun k => am_Ev.weak (L' := [some (.ref 37), some (.int a1), none, some (.int s2)]) (am_Lle.k (am_Lle.k (am_Lle.o (am_Lle.k am_Lle.nil)))) k)
      · rintro j4
        refine am_J.go (cf' := (4, [some (.ref 37), some (.int a1), some (.int (s1 ||| j4)), some (.int (s2 + 1))], [], hp A I x)) 4 rfl ?_
        exact am_J.leaf (fun k => am_Ev.weak (L' := [some (.ref 37), some (.int a1), some (.int (s1 ||| j4)), some (.int (s2 + 1))]) (am_Lle.k (am_Lle.k (am_Lle.k (am_Lle.k am_Lle.nil)))) k)
  · rintro e5
    refine (?_ : am_J (am_ro xs) 0 mc_X1_hangingWithin r (47, [none, none, some (.int e5), none], [], hp A I x) _ _)
    refine am_J.go 1 rfl ?_
    exact am_J.ret rfl (fun k => k)
