/-! ===== methods as functions (by wip/whole/dec.py) ===== -/
def f_X11_turn (A : Nat → List Int32) (I : Nat → Int32) (a1 : Int32) (a2 : Int32) (a3 : Int32) : Option (Int32 × (List Int32) × (List Int32) × (List Int32) × Int32) :=
  ((f_X11_isLand a1).bind fun r1 =>
  (if r1 = 0 then
    some ((-2), (A 20), (A 21), (A 22), (I 69))
  else
    ((f_X11_isDay a2).bind fun r2 =>
    (if r2 = 0 then
      some ((-2), (A 20), (A 21), (A 22), (I 69))
    else
      ((f_X11_isWithin a3 0 1).bind fun r3 =>
      (if r3 = 0 then
        some ((-2), (A 20), (A 21), (A 22), (I 69))
      else
        (if (I 69) < 30 then
          ((f_X6_addTurn A I a1 a2 a3).bind fun r4 =>
          some (r4.1, r4.2.1, r4.2.2.1, r4.2.2.2.1, r4.2.2.2.2))
        else
          some ((-4), (A 20), (A 21), (A 22), (I 69)))))))))
set_option maxRecDepth 100000 in
set_option maxHeartbeats 4000000 in
theorem t_X11_turn {xs : List Int32} (A : Nat → List Int32) (I : Nat → Int32) (x : am_X) (a1 : Int32) (a2 : Int32) (a3 : Int32) {z : Int32 × (List Int32) × (List Int32) × (List Int32) × Int32} (hz : f_X11_turn A I a1 a2 a3 = some z) : am_Rt (am_ro xs) 3 ix_X11_turn [.ref 0, .int a1, .int a2, .int a3] (hp A I x) (some (.int z.1), hp (up (up (up A 20 z.2.1) 21 z.2.2.1) 22 z.2.2.2.1) (up I 69 z.2.2.2.2) x) := by
  refine am_Rt.J (k := ix_X11_turn) (M := mc_X11_turn) (nL := 4) (d := 2) (as := [.ref 0, .int a1, .int a2, .int a3]) (res := fun z => (some (.int z.1), hp (up (up (up A 20 z.2.1) 21 z.2.2.1) 22 z.2.2.2.1) (up I 69 z.2.2.2.2) x)) rfl (Nat.le_of_ble_eq_true rfl) (fun r => ?_) hz
  unfold f_X11_turn
  refine am_J.go 1 rfl ?_
  refine am_J.callz (v := fun r1 => r1) (h' := fun r1 => hp A I x) rfl rfl rfl (fun r1 hw => (t_X11_isLand (h := hp A I x) a1 hw)) (fun r1 hr1 => ?_)
  refine am_J.eq rfl ?_ ?_
  · refine am_J.go 1 rfl ?_
    exact am_J.ret rfl (fun k => k)
  · refine am_J.go 1 rfl ?_
    refine am_J.callz (v := fun r2 => r2) (h' := fun r2 => hp A I x) rfl rfl rfl (fun r2 hw => (t_X11_isDay (h := hp A I x) a2 hw)) (fun r2 hr2 => ?_)
    refine am_J.eq rfl ?_ ?_
    · refine am_J.go 1 rfl ?_
      exact am_J.ret rfl (fun k => k)
    · refine am_J.go 3 rfl ?_
      refine am_J.callz (v := fun r3 => r3) (h' := fun r3 => hp A I x) rfl rfl rfl (fun r3 hw => (t_X11_isWithin (h := hp A I x) a3 0 1 hw).mono (Nat.le_of_ble_eq_true rfl)) (fun r3 hr3 => ?_)
      refine am_J.ne rfl ?_ ?_
      · refine am_J.go 1 rfl ?_
        exact am_J.ret rfl (fun k => k)
      · refine am_J.go 4 rfl ?_
        refine am_J.lt rfl ?_ ?_
        · refine am_J.go 5 rfl ?_
          refine am_J.call (v := fun r4 => .int r4.1) (h' := fun r4 => hp (up (up (up A 20 r4.2.1) 21 r4.2.2.1) 22 r4.2.2.2.1) (up I 69 r4.2.2.2.2) x) rfl (fun r4 hw => (t_X6_addTurn A I x a1 a2 a3 hw).mono (Nat.le_of_ble_eq_true rfl)) (fun r4 => ?_)
          exact am_J.ret rfl (fun k => k)
        · refine am_J.go 2 rfl ?_
          exact am_J.ret rfl (fun k => k)

def f_X11_worth (A : Nat → List Int32) (I : Nat → Int32) (a1 : Int32) (a2 : Int32) (a3 : Int32) : Option (Int32 × (Nat → List Int32)) :=
  ((f_X11_isClause A I a1).bind fun r1 =>
  (if r1 = 0 then
    some ((-1000), A)
  else
    ((f_X11_isLand a2).bind fun r2 =>
    (if r2 = 0 then
      some ((-1000), A)
    else
      ((f_X11_isWithin a3 (-99) 99).bind fun r3 =>
      (if r3 = 0 then
        some ((-1000), A)
      else
        ((am_row 65 a2).bind fun w4 =>
        ((am_at (A w4) a1).bind fun v5 =>
        ((am_row 65 a2).bind fun w6 =>
        ((am_up (A w6) a1 a3).bind fun y7 =>
        some (v5, (up A w6 y7))))))))))))
set_option maxRecDepth 100000 in
set_option maxHeartbeats 4000000 in
theorem t_X11_worth {xs : List Int32} (A : Nat → List Int32) (I : Nat → Int32) (x : am_X) (a1 : Int32) (a2 : Int32) (a3 : Int32) {z : Int32 × (Nat → List Int32)} (hz : f_X11_worth A I a1 a2 a3 = some z) : am_Rt (am_ro xs) 3 ix_X11_worth [.ref 0, .int a1, .int a2, .int a3] (hp A I x) (some (.int z.1), hp z.2 I x) := by
  refine am_Rt.J (k := ix_X11_worth) (M := mc_X11_worth) (nL := 5) (d := 2) (as := [.ref 0, .int a1, .int a2, .int a3]) (res := fun z => (some (.int z.1), hp z.2 I x)) rfl (Nat.le_of_ble_eq_true rfl) (fun r => ?_) hz
  unfold f_X11_worth
  refine am_J.go 2 rfl ?_
  refine am_J.callz (v := fun r1 => r1) (h' := fun r1 => hp A I x) rfl rfl rfl (fun r1 hw => (t_X11_isClause A I x a1 hw)) (fun r1 hr1 => ?_)
  refine am_J.eq rfl ?_ ?_
  · refine am_J.go 1 rfl ?_
    exact am_J.ret rfl (fun k => k)
  · refine am_J.go 1 rfl ?_
    refine am_J.callz (v := fun r2 => r2) (h' := fun r2 => hp A I x) rfl rfl rfl (fun r2 hw => (t_X11_isLand (h := hp A I x) a2 hw)) (fun r2 hr2 => ?_)
    refine am_J.eq rfl ?_ ?_
    · refine am_J.go 1 rfl ?_
      exact am_J.ret rfl (fun k => k)
    · refine am_J.go 3 rfl ?_
      refine am_J.callz (v := fun r3 => r3) (h' := fun r3 => hp A I x) rfl rfl rfl (fun r3 hw => (t_X11_isWithin (h := hp A I x) a3 (-99) 99 hw).mono (Nat.le_of_ble_eq_true rfl)) (fun r3 hr3 => ?_)
      refine am_J.ne rfl ?_ ?_
      · refine am_J.go 1 rfl ?_
        exact am_J.ret rfl (fun k => k)
      · refine am_J.go 4 rfl ?_
        refine am_J.row (base := 65) rfl rfl (by decide) (fun w4 hw4 => ?_)
        refine am_J.go 1 rfl ?_
        refine am_J.ial (xs := (A w4)) rfl (am_rlt hw4) (hp_row hw4) (fun v5 => ?_)
        refine am_J.go 5 rfl ?_
        refine am_J.row (base := 65) rfl rfl (by decide) (fun w6 hw6 => ?_)
        refine am_J.go 2 rfl ?_
        refine am_J.ias (xs := (A w6)) (h' := fun y7 => hp (up A w6 y7) I x) rfl (hp_row hw6) (fun _ => hp_row_set hw6) (fun y7 => ?_)
        refine am_J.go 1 rfl ?_
        exact am_J.ret rfl (fun k => k)

def f_X12_act (A : Nat → List Int32) (I : Nat → Int32) (a1 : Int32) (a2 : Int32) (a3 : Int32) (a4 : Int32) (a5 : Int32) : Option (Int32 × (List Int32) × (List Int32) × (List Int32) × (List Int32) × (List Int32) × (List Int32) × (List Int32) × Int32) :=
  ((f_X12_in A I a1 0 5).bind fun r1 =>
  (if r1 = 0 then
    some ((-2), (A 94), (A 95), (A 96), (A 97), (A 98), (A 99), (A 100), (I 5450))
  else
    ((f_X12_isPerson A I a2).bind fun r2 =>
    (if r2 = 0 then
      some ((-2), (A 94), (A 95), (A 96), (A 97), (A 98), (A 99), (A 100), (I 5450))
    else
      (((if a1 = 1 then
          some 71
        else
          some 99) : Option (Int32)).bind (fun j3 =>
      ((f_X12_in A I a3 0 j3).bind fun r4 =>
      (if r4 = 0 then
        some ((-2), (A 94), (A 95), (A 96), (A 97), (A 98), (A 99), (A 100), (I 5450))
      else
        ((f_X12_isDay A I a4).bind fun r5 =>
        (if r5 = 0 then
          some ((-2), (A 94), (A 95), (A 96), (A 97), (A 98), (A 99), (A 100), (I 5450))
        else
          ((f_X12_in A I a5 0 1).bind fun r6 =>
          (if r6 = 0 then
            some ((-2), (A 94), (A 95), (A 96), (A 97), (A 98), (A 99), (A 100), (I 5450))
          else
            (if a1 = 1 then
              ((f_X12_isPerson A I (a3 - a3 / 12 * 12)).bind fun r14 =>
              (if r14 = 0 then
                some ((-2), (A 94), (A 95), (A 96), (A 97), (A 98), (A 99), (A 100), (I 5450))
              else
                (if (I 5450) = 24 then
                  some ((-4), (A 94), (A 95), (A 96), (A 97), (A 98), (A 99), (A 100), (I 5450))
                else
                  ((am_up (A 94) (I 5450) a1).bind fun y15 =>
                  ((am_up (A 95) (I 5450) a2).bind fun y16 =>
                  ((am_up (A 96) (I 5450) a3).bind fun y17 =>
                  ((am_up (A 97) (I 5450) a4).bind fun y18 =>
                  ((am_up (A 98) (I 5450) a5).bind fun y19 =>
                  ((am_up (A 99) (I 5450) 0).bind fun y20 =>
                  ((am_up (A 100) (I 5450) (-1)).bind fun y21 =>
                  some ((((I 5450) + 1) - 1), y15, y16, y17, y18, y19, y20, y21, ((I 5450) + 1))))))))))))
            else
              (if (I 5450) = 24 then
                some ((-4), (A 94), (A 95), (A 96), (A 97), (A 98), (A 99), (A 100), (I 5450))
              else
                ((am_up (A 94) (I 5450) a1).bind fun y7 =>
                ((am_up (A 95) (I 5450) a2).bind fun y8 =>
                ((am_up (A 96) (I 5450) a3).bind fun y9 =>
                ((am_up (A 97) (I 5450) a4).bind fun y10 =>
                ((am_up (A 98) (I 5450) a5).bind fun y11 =>
                ((am_up (A 99) (I 5450) 0).bind fun y12 =>
                ((am_up (A 100) (I 5450) (-1)).bind fun y13 =>
                some ((((I 5450) + 1) - 1), y7, y8, y9, y10, y11, y12, y13, ((I 5450) + 1)))))))))))))))))))))))
set_option maxRecDepth 100000 in
set_option maxHeartbeats 4000000 in
theorem t_X12_act {xs : List Int32} (A : Nat → List Int32) (I : Nat → Int32) (x : am_X) (a1 : Int32) (a2 : Int32) (a3 : Int32) (a4 : Int32) (a5 : Int32) {z : Int32 × (List Int32) × (List Int32) × (List Int32) × (List Int32) × (List Int32) × (List Int32) × (List Int32) × Int32} (hz : f_X12_act A I a1 a2 a3 a4 a5 = some z) : am_Rt (am_ro xs) 3 ix_X12_act [.ref 85, .int a1, .int a2, .int a3, .int a4, .int a5] (hp A I x) (some (.int z.1), hp (up (up (up (up (up (up (up A 94 z.2.1) 95 z.2.2.1) 96 z.2.2.2.1) 97 z.2.2.2.2.1) 98 z.2.2.2.2.2.1) 99 z.2.2.2.2.2.2.1) 100 z.2.2.2.2.2.2.2.1) (up I 5450 z.2.2.2.2.2.2.2.2) x) := by
  refine am_Rt.J (k := ix_X12_act) (M := mc_X12_act) (nL := 6) (d := 2) (as := [.ref 85, .int a1, .int a2, .int a3, .int a4, .int a5]) (res := fun z => (some (.int z.1), hp (up (up (up (up (up (up (up A 94 z.2.1) 95 z.2.2.1) 96 z.2.2.2.1) 97 z.2.2.2.2.1) 98 z.2.2.2.2.2.1) 99 z.2.2.2.2.2.2.1) 100 z.2.2.2.2.2.2.2.1) (up I 5450 z.2.2.2.2.2.2.2.2) x)) rfl (Nat.le_of_ble_eq_true rfl) (fun r => ?_) hz
  unfold f_X12_act
  refine am_J.go 4 rfl ?_
  refine am_J.callz (v := fun r1 => r1) (h' := fun r1 => hp A I x) rfl rfl rfl (fun r1 hw => (t_X12_in A I x a1 0 5 hw).mono (Nat.le_of_ble_eq_true rfl)) (fun r1 hr1 => ?_)
  refine am_J.eq rfl ?_ ?_
  · refine am_J.go 1 rfl ?_
    exact am_J.ret rfl (fun k => k)
  · refine am_J.go 2 rfl ?_
    refine am_J.callz (v := fun r2 => r2) (h' := fun r2 => hp A I x) rfl rfl rfl (fun r2 hw => (t_X12_isPerson A I x a2 hw)) (fun r2 hr2 => ?_)
    refine am_J.eq rfl ?_ ?_
    · refine am_J.go 1 rfl ?_
      exact am_J.ret rfl (fun k => k)
    · refine am_J.go 5 rfl ?_
      refine am_J.join (β := Int32) (cj := fun j3 => (33, [some (.ref 85), some (.int a1), some (.int a2), some (.int a3), some (.int a4), some (.int a5)], [.int j3, .int 0, .int a3, .ref 85], hp A I x)) ?_ ?_
      · refine am_J.ne rfl ?_ ?_
        · refine am_J.go (cf' := (33, [some (.ref 85), some (.int a1), some (.int a2), some (.int a3), some (.int a4), some (.int a5)], [.int 71, .int 0, .int a3, .ref 85], hp A I x)) 2 rfl ?_
          exact am_J.leaf (fun k => am_Ev.weak (L' := [some (.ref 85), some (.int a1), some (.int a2), some (.int a3), some (.int a4), some (.int a5)]) (am_Lle.k (am_Lle.k (am_Lle.k (am_Lle.k (am_Lle.k (am_Lle.k am_Lle.nil)))))) k)
        · refine am_J.go (cf' := (33, [some (.ref 85), some (.int a1), some (.int a2), some (.int a3), some (.int a4), some (.int a5)], [.int 99, .int 0, .int a3, .ref 85], hp A I x)) 1 rfl ?_
          exact am_J.leaf (fun k => am_Ev.weak (L' := [some (.ref 85), some (.int a1), some (.int a2), some (.int a3), some (.int a4), some (.int a5)]) (am_Lle.k (am_Lle.k (am_Lle.k (am_Lle.k (am_Lle.k (am_Lle.k am_Lle.nil)))))) k)
      · rintro j3
        refine am_J.callz (v := fun r4 => r4) (h' := fun r4 => hp A I x) rfl rfl rfl (fun r4 hw => (t_X12_in A I x a3 0 j3 hw).mono (Nat.le_of_ble_eq_true rfl)) (fun r4 hr4 => ?_)
        refine am_J.eq rfl ?_ ?_
        · refine am_J.go 1 rfl ?_
          exact am_J.ret rfl (fun k => k)
        · refine am_J.go 2 rfl ?_
          refine am_J.callz (v := fun r5 => r5) (h' := fun r5 => hp A I x) rfl rfl rfl (fun r5 hw => (t_X12_isDay A I x a4 hw)) (fun r5 hr5 => ?_)
          refine am_J.eq rfl ?_ ?_
          · refine am_J.go 1 rfl ?_
            exact am_J.ret rfl (fun k => k)
          · refine am_J.go 4 rfl ?_
            refine am_J.callz (v := fun r6 => r6) (h' := fun r6 => hp A I x) rfl rfl rfl (fun r6 hw => (t_X12_in A I x a5 0 1 hw).mono (Nat.le_of_ble_eq_true rfl)) (fun r6 hr6 => ?_)
            refine am_J.ne rfl ?_ ?_
            · refine am_J.go 1 rfl ?_
              exact am_J.ret rfl (fun k => k)
            · refine am_J.go 2 rfl ?_
              refine am_J.ne rfl ?_ ?_
              · refine am_J.go 4 rfl ?_
                refine am_J.callz (v := fun r14 => r14) (h' := fun r14 => hp A I x) rfl rfl rfl (fun r14 hw => (t_X12_isPerson A I x (a3 - a3 / 12 * 12) hw)) (fun r14 hr14 => ?_)
                refine am_J.ne rfl ?_ ?_
                · refine am_J.go 1 rfl ?_
                  exact am_J.ret rfl (fun k => k)
                · refine am_J.go 3 rfl ?_
                  refine am_J.ne rfl ?_ ?_
                  · refine am_J.go 1 rfl ?_
                    exact am_J.ret rfl (fun k => k)
                  · refine am_J.go 5 rfl ?_
                    refine am_J.ias (xs := (A 94)) (h' := fun y15 => hp (up A 94 y15) I x) rfl rfl (fun _ => rfl) (fun y15 => ?_)
                    refine am_J.go 5 rfl ?_
                    refine am_J.ias (xs := (A 95)) (h' := fun y16 => hp (up (up A 94 y15) 95 y16) I x) rfl rfl (fun _ => rfl) (fun y16 => ?_)
                    refine am_J.go 5 rfl ?_
                    refine am_J.ias (xs := (A 96)) (h' := fun y17 => hp (up (up (up A 94 y15) 95 y16) 96 y17) I x) rfl rfl (fun _ => rfl) (fun y17 => ?_)
                    refine am_J.go 5 rfl ?_
                    refine am_J.ias (xs := (A 97)) (h' := fun y18 => hp (up (up (up (up A 94 y15) 95 y16) 96 y17) 97 y18) I x) rfl rfl (fun _ => rfl) (fun y18 => ?_)
                    refine am_J.go 5 rfl ?_
                    refine am_J.ias (xs := (A 98)) (h' := fun y19 => hp (up (up (up (up (up A 94 y15) 95 y16) 96 y17) 97 y18) 98 y19) I x) rfl rfl (fun _ => rfl) (fun y19 => ?_)
                    refine am_J.go 5 rfl ?_
                    refine am_J.ias (xs := (A 99)) (h' := fun y20 => hp (up (up (up (up (up (up A 94 y15) 95 y16) 96 y17) 97 y18) 98 y19) 99 y20) I x) rfl rfl (fun _ => rfl) (fun y20 => ?_)
                    refine am_J.go 5 rfl ?_
                    refine am_J.ias (xs := (A 100)) (h' := fun y21 => hp (up (up (up (up (up (up (up A 94 y15) 95 y16) 96 y17) 97 y18) 98 y19) 99 y20) 100 y21) I x) rfl rfl (fun _ => rfl) (fun y21 => ?_)
                    refine am_J.go 10 rfl ?_
                    exact am_J.ret rfl (fun k => k)
              · refine am_J.go 3 rfl ?_
                refine am_J.ne rfl ?_ ?_
                · refine am_J.go 1 rfl ?_
                  exact am_J.ret rfl (fun k => k)
                · refine am_J.go 5 rfl ?_
                  refine am_J.ias (xs := (A 94)) (h' := fun y7 => hp (up A 94 y7) I x) rfl rfl (fun _ => rfl) (fun y7 => ?_)
                  refine am_J.go 5 rfl ?_
                  refine am_J.ias (xs := (A 95)) (h' := fun y8 => hp (up (up A 94 y7) 95 y8) I x) rfl rfl (fun _ => rfl) (fun y8 => ?_)
                  refine am_J.go 5 rfl ?_
                  refine am_J.ias (xs := (A 96)) (h' := fun y9 => hp (up (up (up A 94 y7) 95 y8) 96 y9) I x) rfl rfl (fun _ => rfl) (fun y9 => ?_)
                  refine am_J.go 5 rfl ?_
                  refine am_J.ias (xs := (A 97)) (h' := fun y10 => hp (up (up (up (up A 94 y7) 95 y8) 96 y9) 97 y10) I x) rfl rfl (fun _ => rfl) (fun y10 => ?_)
                  refine am_J.go 5 rfl ?_
                  refine am_J.ias (xs := (A 98)) (h' := fun y11 => hp (up (up (up (up (up A 94 y7) 95 y8) 96 y9) 97 y10) 98 y11) I x) rfl rfl (fun _ => rfl) (fun y11 => ?_)
                  refine am_J.go 5 rfl ?_
                  refine am_J.ias (xs := (A 99)) (h' := fun y12 => hp (up (up (up (up (up (up A 94 y7) 95 y8) 96 y9) 97 y10) 98 y11) 99 y12) I x) rfl rfl (fun _ => rfl) (fun y12 => ?_)
                  refine am_J.go 5 rfl ?_
                  refine am_J.ias (xs := (A 100)) (h' := fun y13 => hp (up (up (up (up (up (up (up A 94 y7) 95 y8) 96 y9) 97 y10) 98 y11) 99 y12) 100 y13) I x) rfl rfl (fun _ => rfl) (fun y13 => ?_)
                  refine am_J.go 10 rfl ?_
                  exact am_J.ret rfl (fun k => k)

def f_X12_actTold (A : Nat → List Int32) (I : Nat → Int32) (a1 : Int32) (a2 : Int32) : Option (Int32) :=
  ((f_X12_isAct A I a1).bind fun r1 =>
  (if r1 = 0 then
    some (-2)
  else
    (if a2 = 0 then
      ((am_at (A 94) a1).bind fun v2 =>
      some v2)
    else
    (if a2 = 1 then
      ((am_at (A 95) a1).bind fun v3 =>
      some v3)
    else
    (if a2 = 2 then
      ((am_at (A 96) a1).bind fun v4 =>
      some v4)
    else
    (if a2 = 3 then
      ((am_at (A 97) a1).bind fun v5 =>
      some v5)
    else
    (if a2 = 4 then
      ((am_at (A 98) a1).bind fun v6 =>
      some v6)
    else
    (if a2 = 5 then
      ((f_X12_rankOf A I a1).bind fun r7 =>
      some r7)
    else
    (if a2 = 6 then
      ((f_X12_lastsOf A I a1).bind fun r8 =>
      some r8)
    else
    (if a2 = 7 then
      ((am_at (A 99) a1).bind fun v9 =>
      some v9)
    else
    some (-2)))))))))))
set_option maxRecDepth 100000 in
set_option maxHeartbeats 4000000 in
theorem t_X12_actTold {xs : List Int32} (A : Nat → List Int32) (I : Nat → Int32) (x : am_X) (a1 : Int32) (a2 : Int32) {z : Int32} (hz : f_X12_actTold A I a1 a2 = some z) : am_Rt (am_ro xs) 3 ix_X12_actTold [.ref 85, .int a1, .int a2] (hp A I x) (some (.int z), hp A I x) := by
  refine am_Rt.J (k := ix_X12_actTold) (M := mc_X12_actTold) (nL := 3) (d := 2) (as := [.ref 85, .int a1, .int a2]) (res := fun z => (some (.int z), hp A I x)) rfl (Nat.le_of_ble_eq_true rfl) (fun r => ?_) hz
  unfold f_X12_actTold
  refine am_J.go 2 rfl ?_
  refine am_J.callz (v := fun r1 => r1) (h' := fun r1 => hp A I x) rfl rfl rfl (fun r1 hw => (t_X12_isAct A I x a1 hw)) (fun r1 hr1 => ?_)
  refine am_J.ne rfl ?_ ?_
  · refine am_J.go 1 rfl ?_
    exact am_J.ret rfl (fun k => k)
  · refine am_J.go 1 rfl ?_
    refine am_J.sw (c := 0) (fun v => (12, [some (.ref 85), some (.int a1), some (.int a2)], [.int v], hp A I x)) ?_ (fun hs0 => ?_)
    · refine am_J.go 1 rfl ?_
      refine am_J.go 3 rfl ?_
      refine am_J.ial (xs := (A 94)) rfl (Nat.le_of_ble_eq_true rfl) rfl (fun v2 => ?_)
      exact am_J.ret rfl (fun k => k)
    refine am_J.sw (c := 1) (fun v => (12, [some (.ref 85), some (.int a1), some (.int a2)], [.int v], hp A I x)) ?_ (fun hs1 => ?_)
    · refine am_J.go 1 rfl ?_
      refine am_J.go 3 rfl ?_
      refine am_J.ial (xs := (A 95)) rfl (Nat.le_of_ble_eq_true rfl) rfl (fun v3 => ?_)
      exact am_J.ret rfl (fun k => k)
    refine am_J.sw (c := 2) (fun v => (12, [some (.ref 85), some (.int a1), some (.int a2)], [.int v], hp A I x)) ?_ (fun hs2 => ?_)
    · refine am_J.go 1 rfl ?_
      refine am_J.go 3 rfl ?_
      refine am_J.ial (xs := (A 96)) rfl (Nat.le_of_ble_eq_true rfl) rfl (fun v4 => ?_)
      exact am_J.ret rfl (fun k => k)
    refine am_J.sw (c := 3) (fun v => (12, [some (.ref 85), some (.int a1), some (.int a2)], [.int v], hp A I x)) ?_ (fun hs3 => ?_)
    · refine am_J.go 1 rfl ?_
      refine am_J.go 3 rfl ?_
      refine am_J.ial (xs := (A 97)) rfl (Nat.le_of_ble_eq_true rfl) rfl (fun v5 => ?_)
      exact am_J.ret rfl (fun k => k)
    refine am_J.sw (c := 4) (fun v => (12, [some (.ref 85), some (.int a1), some (.int a2)], [.int v], hp A I x)) ?_ (fun hs4 => ?_)
    · refine am_J.go 1 rfl ?_
      refine am_J.go 3 rfl ?_
      refine am_J.ial (xs := (A 98)) rfl (Nat.le_of_ble_eq_true rfl) rfl (fun v6 => ?_)
      exact am_J.ret rfl (fun k => k)
    refine am_J.sw (c := 5) (fun v => (12, [some (.ref 85), some (.int a1), some (.int a2)], [.int v], hp A I x)) ?_ (fun hs5 => ?_)
    · refine am_J.go 1 rfl ?_
      refine am_J.go 2 rfl ?_
      refine am_J.call (v := fun r7 => .int r7) (h' := fun r7 => hp A I x) rfl (fun r7 hw => (t_X12_rankOf A I x a1 hw).mono (Nat.le_of_ble_eq_true rfl)) (fun r7 => ?_)
      exact am_J.ret rfl (fun k => k)
    refine am_J.sw (c := 6) (fun v => (12, [some (.ref 85), some (.int a1), some (.int a2)], [.int v], hp A I x)) ?_ (fun hs6 => ?_)
    · refine am_J.go 1 rfl ?_
      refine am_J.go 2 rfl ?_
      refine am_J.call (v := fun r8 => .int r8) (h' := fun r8 => hp A I x) rfl (fun r8 hw => (t_X12_lastsOf A I x a1 hw).mono (Nat.le_of_ble_eq_true rfl)) (fun r8 => ?_)
      exact am_J.ret rfl (fun k => k)
    refine am_J.sw (c := 7) (fun v => (12, [some (.ref 85), some (.int a1), some (.int a2)], [.int v], hp A I x)) ?_ (fun hs7 => ?_)
    · refine am_J.go 1 rfl ?_
      refine am_J.go 3 rfl ?_
      refine am_J.ial (xs := (A 99)) rfl (Nat.le_of_ble_eq_true rfl) rfl (fun v9 => ?_)
      exact am_J.ret rfl (fun k => k)
    refine am_J.swd rfl (am_out (0) (7) (fun c h1 h2 q => ?_)) rfl ?_
    · rcases (show c = 0 ∨ c = 1 ∨ c = 2 ∨ c = 3 ∨ c = 4 ∨ c = 5 ∨ c = 6 ∨ c = 7 by omega) with rfl | rfl | rfl | rfl | rfl | rfl | rfl | rfl
      · exact hs0 (Int32.toInt_inj.mp (q.trans (by decide)))
      · exact hs1 (Int32.toInt_inj.mp (q.trans (by decide)))
      · exact hs2 (Int32.toInt_inj.mp (q.trans (by decide)))
      · exact hs3 (Int32.toInt_inj.mp (q.trans (by decide)))
      · exact hs4 (Int32.toInt_inj.mp (q.trans (by decide)))
      · exact hs5 (Int32.toInt_inj.mp (q.trans (by decide)))
      · exact hs6 (Int32.toInt_inj.mp (q.trans (by decide)))
      · exact hs7 (Int32.toInt_inj.mp (q.trans (by decide)))
    · refine am_J.go 1 rfl ?_
      exact am_J.ret rfl (fun k => k)

def f_X12_against (A : Nat → List Int32) (I : Nat → Int32) (a1 : Int32) (a2 : Int32) : Option (Int32 × (List Int32)) :=
  ((f_X12_isClause A I a1).bind fun r1 =>
  (if r1 = 0 then
    some ((-2), (A 119))
  else
    ((f_X12_isClause A I a2).bind fun r2 =>
    (if r2 = 0 then
      some ((-2), (A 119))
    else
      (if a1 = a2 then
        some ((-2), (A 119))
      else
        ((am_at (A 119) a1).bind fun v3 =>
        (((if ((v3 >>> (a2 &&& 31)) &&& 1) = 1 then
            some 0
          else
            some 1) : Option (Int32)).bind (fun j4 =>
        ((am_at (A 119) a1).bind fun v5 =>
        ((am_up (A 119) a1 (v5 ||| (1 <<< (a2 &&& 31)))).bind fun y6 =>
        ((am_at y6 a2).bind fun v7 =>
        ((am_up y6 a2 (v7 ||| (1 <<< (a1 &&& 31)))).bind fun y8 =>
        some (j4, y8)))))))))))))
set_option maxRecDepth 100000 in
set_option maxHeartbeats 4000000 in
theorem t_X12_against {xs : List Int32} (A : Nat → List Int32) (I : Nat → Int32) (x : am_X) (a1 : Int32) (a2 : Int32) {z : Int32 × (List Int32)} (hz : f_X12_against A I a1 a2 = some z) : am_Rt (am_ro xs) 3 ix_X12_against [.ref 85, .int a1, .int a2] (hp A I x) (some (.int z.1), hp (up A 119 z.2) I x) := by
  refine am_Rt.J (k := ix_X12_against) (M := mc_X12_against) (nL := 4) (d := 2) (as := [.ref 85, .int a1, .int a2]) (res := fun z => (some (.int z.1), hp (up A 119 z.2) I x)) rfl (Nat.le_of_ble_eq_true rfl) (fun r => ?_) hz
  unfold f_X12_against
  refine am_J.go 2 rfl ?_
  refine am_J.callz (v := fun r1 => r1) (h' := fun r1 => hp A I x) rfl rfl rfl (fun r1 hw => (t_X12_isClause A I x a1 hw)) (fun r1 hr1 => ?_)
  refine am_J.eq rfl ?_ ?_
  · refine am_J.go 1 rfl ?_
    exact am_J.ret rfl (fun k => k)
  · refine am_J.go 2 rfl ?_
    refine am_J.callz (v := fun r2 => r2) (h' := fun r2 => hp A I x) rfl rfl rfl (fun r2 hw => (t_X12_isClause A I x a2 hw)) (fun r2 hr2 => ?_)
    refine am_J.eq rfl ?_ ?_
    · refine am_J.go 1 rfl ?_
      exact am_J.ret rfl (fun k => k)
    · refine am_J.go 2 rfl ?_
      refine am_J.ne rfl ?_ ?_
      · refine am_J.go 1 rfl ?_
        exact am_J.ret rfl (fun k => k)
      · refine am_J.go 3 rfl ?_
        refine am_J.ial (xs := (A 119)) rfl (Nat.le_of_ble_eq_true rfl) rfl (fun v3 => ?_)
        refine am_J.go 5 rfl ?_
        refine am_J.join (β := Int32) (cj := fun j4 => (43, [some (.ref 85), some (.int a1), some (.int a2), none], [.int j4], hp A I x)) ?_ ?_
        · refine am_J.ne rfl ?_ ?_
          · refine am_J.go (cf' := (43, [some (.ref 85), some (.int a1), some (.int a2), none], [.int 0], hp A I x)) 2 rfl ?_
            exact am_J.leaf (fun k => am_Ev.weak (L' := [some (.ref 85), some (.int a1), some (.int a2), none]) (am_Lle.k (am_Lle.k (am_Lle.k (am_Lle.o am_Lle.nil)))) k)
          · refine am_J.go (cf' := (43, [some (.ref 85), some (.int a1), some (.int a2), none], [.int 1], hp A I x)) 1 rfl ?_
            exact am_J.leaf (fun k => am_Ev.weak (L' := [some (.ref 85), some (.int a1), some (.int a2), none]) (am_Lle.k (am_Lle.k (am_Lle.k (am_Lle.o am_Lle.nil)))) k)
        · rintro j4
          refine am_J.go 5 rfl ?_
          refine am_J.ial (xs := (A 119)) rfl (Nat.le_of_ble_eq_true rfl) rfl (fun v5 => ?_)
          refine am_J.go 4 rfl ?_
          refine am_J.ias (xs := (A 119)) (h' := fun y6 => hp (up A 119 y6) I x) rfl rfl (fun _ => rfl) (fun y6 => ?_)
          refine am_J.go 4 rfl ?_
          refine am_J.ial (xs := y6) rfl (Nat.le_of_ble_eq_true rfl) rfl (fun v7 => ?_)
          refine am_J.go 4 rfl ?_
          refine am_J.ias (xs := y6) (h' := fun y8 => hp (up A 119 y8) I x) rfl rfl (fun _ => rfl) (fun y8 => ?_)
          refine am_J.go 1 rfl ?_
          exact am_J.ret rfl (fun k => k)

def f_X12_ahead (A : Nat → List Int32) (I : Nat → Int32) (a1 : Int32) : Option (Int32) :=
  (if (I 5465) = 1 then
    some 1
  else
    (if (I 5465) = 2 then
      some 1
    else
      (if (I 5472) = 5 then
        some 0
      else
        ((f_X12_isKey A I 4).bind fun r1 =>
        (if r1 = 0 then
          ((f_X12_isSign A I 40).bind fun r2 =>
          (if r2 = 0 then
            ((f_X12_isSign A I 45).bind fun r3 =>
            (if r3 = 0 then
              some 0
            else
              some 1))
          else
            some 1))
        else
          (if a1 = 0 ∨ a1 = 1 then some a1 else none))))))
set_option maxRecDepth 100000 in
set_option maxHeartbeats 4000000 in
theorem t_X12_ahead {xs : List Int32} (A : Nat → List Int32) (I : Nat → Int32) (x : am_X) (a1 : Int32) {z : Int32} (hz : f_X12_ahead A I a1 = some z) : am_Rt (am_ro xs) 2 ix_X12_ahead [.ref 85, .int a1] (hp A I x) (some (.int z), hp A I x) := by
  refine am_Rt.J (k := ix_X12_ahead) (M := mc_X12_ahead) (nL := 2) (d := 1) (as := [.ref 85, .int a1]) (res := fun z => (some (.int z), hp A I x)) rfl (Nat.le_of_ble_eq_true rfl) (fun r => ?_) hz
  unfold f_X12_ahead
  refine am_J.go 3 rfl ?_
  refine am_J.eq rfl ?_ ?_
  · refine am_J.go 1 rfl ?_
    exact am_J.retz rfl (Or.inr rfl) (fun k => k)
  · refine am_J.go 3 rfl ?_
    refine am_J.ne rfl ?_ ?_
    · refine am_J.go 1 rfl ?_
      exact am_J.retz rfl (Or.inr rfl) (fun k => k)
    · refine am_J.go 3 rfl ?_
      refine am_J.ne rfl ?_ ?_
      · refine am_J.go 1 rfl ?_
        exact am_J.retz rfl (Or.inl rfl) (fun k => k)
      · refine am_J.go 2 rfl ?_
        refine am_J.callz (v := fun r1 => r1) (h' := fun r1 => hp A I x) rfl rfl rfl (fun r1 hw => (t_X12_isKey A I x 4 hw)) (fun r1 hr1 => ?_)
        refine am_J.eq rfl ?_ ?_
        · refine am_J.go 2 rfl ?_
          refine am_J.callz (v := fun r2 => r2) (h' := fun r2 => hp A I x) rfl rfl rfl (fun r2 hw => (t_X12_isSign A I x 40 hw)) (fun r2 hr2 => ?_)
          refine am_J.ne rfl ?_ ?_
          · refine am_J.go 2 rfl ?_
            refine am_J.callz (v := fun r3 => r3) (h' := fun r3 => hp A I x) rfl rfl rfl (fun r3 hw => (t_X12_isSign A I x 45 hw)) (fun r3 hr3 => ?_)
            refine am_J.eq rfl ?_ ?_
            · refine am_J.go 1 rfl ?_
              exact am_J.retz rfl (Or.inl rfl) (fun k => k)
            · refine am_J.go 2 rfl ?_
              exact am_J.retz rfl (Or.inr rfl) (fun k => k)
          · refine am_J.go 2 rfl ?_
            exact am_J.retz rfl (Or.inr rfl) (fun k => k)
        · refine am_J.go 1 rfl ?_
          exact am_J.retc rfl (fun k => k)

def f_X12_ask (A : Nat → List Int32) (I : Nat → Int32) (a1 : Int32) (a2 : Int32) (a3 : Int32) : Option (Int32 × (List Int32) × (List Int32)) :=
  ((am_at (A 94) a2).bind fun v1 =>
  ((am_up (A 107) 0 v1).bind fun y2 =>
  ((am_at (A 97) a2).bind fun v3 =>
  ((am_up y2 1 v3).bind fun y4 =>
  ((f_X12_rankOf (up A 107 y4) I a2).bind fun r5 =>
  ((am_up y4 2 r5).bind fun y6 =>
  (((if a1 = 2 then
      some 1
    else
      ((am_at (A 95) a2).bind fun v7 =>
      ((am_at (A 88) v7).bind fun v8 =>
      ((am_at (A 97) a2).bind fun v9 =>
      ((f_X12_sideOf (up A 107 y6) I v8 v9).bind fun r10 =>
      (if r10 = a1 then
        some 1
      else
        some 0)))))) : Option (Int32)).bind (fun j11 =>
  ((am_up y6 3 j11).bind fun y12 =>
  ((am_at (A 99) a2).bind fun v13 =>
  ((f_X12_ones (up A 107 y12) I v13).bind fun r14 =>
  ((am_up y12 4 r14).bind fun y15 =>
  ((am_at (A 98) a2).bind fun v16 =>
  ((am_up y15 5 v16).bind fun y17 =>
  ((am_at (A 102) a1).bind fun v18 =>
  ((f_X12_work (up A 107 y17) I v18 a3).bind fun r19 =>
  some (r19.1, y17, r19.2)))))))))))))))))
set_option maxRecDepth 100000 in
set_option maxHeartbeats 4000000 in
theorem t_X12_ask {xs : List Int32} (A : Nat → List Int32) (I : Nat → Int32) (x : am_X) (a1 : Int32) (a2 : Int32) (a3 : Int32) {z : Int32 × (List Int32) × (List Int32)} (hz : f_X12_ask A I a1 a2 a3 = some z) : am_Rt (am_ro xs) 3 ix_X12_ask [.ref 85, .int a1, .int a2, .int a3] (hp A I x) (some (.int z.1), hp (up (up A 107 z.2.1) 108 z.2.2) I x) := by
  refine am_Rt.J (k := ix_X12_ask) (M := mc_X12_ask) (nL := 4) (d := 2) (as := [.ref 85, .int a1, .int a2, .int a3]) (res := fun z => (some (.int z.1), hp (up (up A 107 z.2.1) 108 z.2.2) I x)) rfl (Nat.le_of_ble_eq_true rfl) (fun r => ?_) hz
  unfold f_X12_ask
  refine am_J.go 6 rfl ?_
  refine am_J.ial (xs := (A 94)) rfl (Nat.le_of_ble_eq_true rfl) rfl (fun v1 => ?_)
  refine am_J.ias (xs := (A 107)) (h' := fun y2 => hp (up A 107 y2) I x) rfl rfl (fun _ => rfl) (fun y2 => ?_)
  refine am_J.go 6 rfl ?_
  refine am_J.ial (xs := (A 97)) rfl (Nat.le_of_ble_eq_true rfl) rfl (fun v3 => ?_)
  refine am_J.ias (xs := y2) (h' := fun y4 => hp (up A 107 y4) I x) rfl rfl (fun _ => rfl) (fun y4 => ?_)
  refine am_J.go 5 rfl ?_
  refine am_J.call (v := fun r5 => .int r5) (h' := fun r5 => hp (up A 107 y4) I x) rfl (fun r5 hw => (t_X12_rankOf (up A 107 y4) I x a2 hw).mono (Nat.le_of_ble_eq_true rfl)) (fun r5 => ?_)
  refine am_J.ias (xs := y4) (h' := fun y6 => hp (up A 107 y6) I x) rfl rfl (fun _ => rfl) (fun y6 => ?_)
  refine am_J.go 5 rfl ?_
  refine am_J.join (β := Int32) (cj := fun j11 => (75, [some (.ref 85), some (.int a1), some (.int a2), some (.int a3)], [.int j11, .int 3, .ref 107], hp (up A 107 y6) I x)) ?_ ?_
  · refine am_J.eq rfl ?_ ?_
    · refine am_J.go (cf' := (75, [some (.ref 85), some (.int a1), some (.int a2), some (.int a3)], [.int 1, .int 3, .ref 107], hp (up A 107 y6) I x)) 2 rfl ?_
      exact am_J.leaf (fun k => am_Ev.weak (L' := [some (.ref 85), some (.int a1), some (.int a2), some (.int a3)]) (am_Lle.k (am_Lle.k (am_Lle.k (am_Lle.k am_Lle.nil)))) k)
    · refine am_J.go 6 rfl ?_
      refine am_J.ial (xs := (A 95)) rfl (Nat.le_of_ble_eq_true rfl) rfl (fun v7 => ?_)
      refine am_J.ial (xs := (A 88)) rfl (Nat.le_of_ble_eq_true rfl) rfl (fun v8 => ?_)
      refine am_J.go 3 rfl ?_
      refine am_J.ial (xs := (A 97)) rfl (Nat.le_of_ble_eq_true rfl) rfl (fun v9 => ?_)
      refine am_J.call (v := fun r10 => .int r10) (h' := fun r10 => hp (up A 107 y6) I x) rfl (fun r10 hw => (t_X12_sideOf (up A 107 y6) I x v8 v9 hw).mono (Nat.le_of_ble_eq_true rfl)) (fun r10 => ?_)
      refine am_J.go 1 rfl ?_
      refine am_J.ne rfl ?_ ?_
      · refine am_J.go (cf' := (75, [some (.ref 85), some (.int a1), some (.int a2), some (.int a3)], [.int 1, .int 3, .ref 107], hp (up A 107 y6) I x)) 2 rfl ?_
        exact am_J.leaf (fun k => am_Ev.weak (L' := [some (.ref 85), some (.int a1), some (.int a2), some (.int a3)]) (am_Lle.k (am_Lle.k (am_Lle.k (am_Lle.k am_Lle.nil)))) k)
      · refine am_J.go (cf' := (75, [some (.ref 85), some (.int a1), some (.int a2), some (.int a3)], [.int 0, .int 3, .ref 107], hp (up A 107 y6) I x)) 1 rfl ?_
        exact am_J.leaf (fun k => am_Ev.weak (L' := [some (.ref 85), some (.int a1), some (.int a2), some (.int a3)]) (am_Lle.k (am_Lle.k (am_Lle.k (am_Lle.k am_Lle.nil)))) k)
  · rintro j11
    refine am_J.ias (xs := y6) (h' := fun y12 => hp (up A 107 y12) I x) rfl rfl (fun _ => rfl) (fun y12 => ?_)
    refine am_J.go 7 rfl ?_
    refine am_J.ial (xs := (A 99)) rfl (Nat.le_of_ble_eq_true rfl) rfl (fun v13 => ?_)
    refine am_J.call (v := fun r14 => .int r14) (h' := fun r14 => hp (up A 107 y12) I x) rfl (fun r14 hw => (t_X12_ones (up A 107 y12) I x v13 hw).mono (Nat.le_of_ble_eq_true rfl)) (fun r14 => ?_)
    refine am_J.ias (xs := y12) (h' := fun y15 => hp (up A 107 y15) I x) rfl rfl (fun _ => rfl) (fun y15 => ?_)
    refine am_J.go 6 rfl ?_
    refine am_J.ial (xs := (A 98)) rfl (Nat.le_of_ble_eq_true rfl) rfl (fun v16 => ?_)
    refine am_J.ias (xs := y15) (h' := fun y17 => hp (up A 107 y17) I x) rfl rfl (fun _ => rfl) (fun y17 => ?_)
    refine am_J.go 4 rfl ?_
    refine am_J.ial (xs := (A 102)) rfl (Nat.le_of_ble_eq_true rfl) rfl (fun v18 => ?_)
    refine am_J.go 1 rfl ?_
    refine am_J.call (v := fun r19 => .int r19.1) (h' := fun r19 => hp (up (up A 107 y17) 108 r19.2) I x) rfl (fun r19 hw => (t_X12_work (up A 107 y17) I x v18 a3 hw)) (fun r19 => ?_)
    exact am_J.ret rfl (fun k => k)

def f_X12_bound (A : Nat → List Int32) (I : Nat → Int32) (a1 : Int32) (a2 : Int32) : Option (Int32 × (List Int32)) :=
  ((f_X12_isLand A I a1).bind fun r1 =>
  (if r1 = 0 then
    some ((-2), (A 120))
  else
    ((f_X12_in A I a2 0 999).bind fun r2 =>
    (if r2 = 0 then
      some ((-2), (A 120))
    else
      ((am_at (A 120) a1).bind fun v3 =>
      ((am_up (A 120) a1 a2).bind fun y4 =>
      some (v3, y4)))))))
set_option maxRecDepth 100000 in
set_option maxHeartbeats 4000000 in
theorem t_X12_bound {xs : List Int32} (A : Nat → List Int32) (I : Nat → Int32) (x : am_X) (a1 : Int32) (a2 : Int32) {z : Int32 × (List Int32)} (hz : f_X12_bound A I a1 a2 = some z) : am_Rt (am_ro xs) 3 ix_X12_bound [.ref 85, .int a1, .int a2] (hp A I x) (some (.int z.1), hp (up A 120 z.2) I x) := by
  refine am_Rt.J (k := ix_X12_bound) (M := mc_X12_bound) (nL := 4) (d := 2) (as := [.ref 85, .int a1, .int a2]) (res := fun z => (some (.int z.1), hp (up A 120 z.2) I x)) rfl (Nat.le_of_ble_eq_true rfl) (fun r => ?_) hz
  unfold f_X12_bound
  refine am_J.go 2 rfl ?_
  refine am_J.callz (v := fun r1 => r1) (h' := fun r1 => hp A I x) rfl rfl rfl (fun r1 hw => (t_X12_isLand A I x a1 hw)) (fun r1 hr1 => ?_)
  refine am_J.eq rfl ?_ ?_
  · refine am_J.go 1 rfl ?_
    exact am_J.ret rfl (fun k => k)
  · refine am_J.go 4 rfl ?_
    refine am_J.callz (v := fun r2 => r2) (h' := fun r2 => hp A I x) rfl rfl rfl (fun r2 hw => (t_X12_in A I x a2 0 999 hw).mono (Nat.le_of_ble_eq_true rfl)) (fun r2 hr2 => ?_)
    refine am_J.ne rfl ?_ ?_
    · refine am_J.go 1 rfl ?_
      exact am_J.ret rfl (fun k => k)
    · refine am_J.go 3 rfl ?_
      refine am_J.ial (xs := (A 120)) rfl (Nat.le_of_ble_eq_true rfl) rfl (fun v3 => ?_)
      refine am_J.go 5 rfl ?_
      refine am_J.ias (xs := (A 120)) (h' := fun y4 => hp (up A 120 y4) I x) rfl rfl (fun _ => rfl) (fun y4 => ?_)
      refine am_J.go 1 rfl ?_
      exact am_J.ret rfl (fun k => k)

def f_X12_canBuy_l1 (A : Nat → List Int32) (I : Nat → Int32) (a1 : Int32) : (Int32 × Int32) → Option ((Int32 × Int32) ⊕ ((Int32) ⊕ (Int32))) := fun q => match q with
    | (s2, s3) =>
    (if (I 5481) ≤ s3 then
      some (.inr (.inl s2))
    else
      ((am_at (A 114) s3).bind fun v4 =>
      (if ((a1 >>> (s3 &&& 31)) &&& 1) = 1 then
        ((am_at (A 114) s3).bind fun v5 =>
        (if v5 = 1 then
          some (.inr (.inr 0))
        else
          ((am_at (A 115) s3).bind fun v6 =>
          (if (v6 &&& a1) = 0 then
            some (.inl ((s2 + v4), (s3 + 1)))
          else
            some (.inr (.inr 0))))))
      else
        some (.inl ((s2 + v4), (s3 + 1))))))
def f_X12_canBuy (A : Nat → List Int32) (I : Nat → Int32) (a1 : Int32) : Option (Int32) :=
  ((f_X12_ones A I a1).bind fun r1 =>
  ((wl (f_X12_canBuy_l1 A I a1) 100000 (r1, 0)).bind (fun q => match q with
  | .inl e7 =>
  (if (2 * e7) ≤ (I 5481) then
    some 0
  else
    some 1)
  | .inr v => some v)))
set_option maxRecDepth 100000 in
set_option maxHeartbeats 4000000 in
theorem t_X12_canBuy {xs : List Int32} (A : Nat → List Int32) (I : Nat → Int32) (x : am_X) (a1 : Int32) {z : Int32} (hz : f_X12_canBuy A I a1 = some z) : am_Rt (am_ro xs) 2 ix_X12_canBuy [.ref 85, .int a1] (hp A I x) (some (.int z), hp A I x) := by
  refine am_Rt.J (k := ix_X12_canBuy) (M := mc_X12_canBuy) (nL := 4) (d := 1) (as := [.ref 85, .int a1]) (res := fun z => (some (.int z), hp A I x)) rfl (Nat.le_of_ble_eq_true rfl) (fun r => ?_) hz
  unfold f_X12_canBuy
  refine am_J.go 2 rfl ?_
  refine am_J.call (v := fun r1 => .int r1) (h' := fun r1 => hp A I x) rfl (fun r1 hw => (t_X12_ones A I x a1 hw)) (fun r1 => ?_)
  refine am_J.go (cf' := (8, [some (.ref 85), some (.int a1), some (.int r1), some (.int 0)], [], hp A I x)) 3 rfl ?_
  refine am_J.weak (L' := [some (.ref 85), some (.int a1), some (.int r1), some (.int 0)]) (am_Lle.k (am_Lle.k (am_Lle.k (am_Lle.k am_Lle.nil)))) ?_
  refine am_J.loop (cl := fun q => match q with | (s2, s3) => (8, [some (.ref 85), some (.int a1), some (.int s2), some (.int s3)], [], hp A I x)) (GX := fun q => Sum.elim (fun e7 => am_Ev (am_ro xs) 1 mc_X12_canBuy (63, [some (.ref 85), none, some (.int e7), none], [], hp A I x) r) (fun (z : Int32) => r = (some (.int z), hp A I x)) q) ?_ ?_
  · rintro ⟨s2, s3⟩
    unfold f_X12_canBuy_l1
    refine am_J.go 3 rfl ?_
    refine am_J.ge rfl ?_ ?_
    · refine am_J.go (cf' := (63, [some (.ref 85), some (.int a1), some (.int s2), some (.int s3)], [], hp A I x)) 0 rfl ?_
      exact am_J.leaf (fun k => am_Ev.weak (L' := [some (.ref 85), none, some (.int s2), none]) (am_Lle.k (am_Lle.o (am_Lle.k (am_Lle.o am_Lle.nil)))) k)
    · refine am_J.go 4 rfl ?_
      refine am_J.ial (xs := (A 114)) rfl (Nat.le_of_ble_eq_true rfl) rfl (fun v4 => ?_)
      refine am_J.go 8 rfl ?_
      refine am_J.ne rfl ?_ ?_
      · refine am_J.go 3 rfl ?_
        refine am_J.ial (xs := (A 114)) rfl (Nat.le_of_ble_eq_true rfl) rfl (fun v5 => ?_)
        refine am_J.go 1 rfl ?_
        refine am_J.eq rfl ?_ ?_
        · refine am_J.go 1 rfl ?_
          exact am_J.retz rfl (Or.inl rfl) (fun k => k)
        · refine am_J.go 3 rfl ?_
          refine am_J.ial (xs := (A 115)) rfl (Nat.le_of_ble_eq_true rfl) rfl (fun v6 => ?_)
          refine am_J.go 2 rfl ?_
          refine am_J.eq rfl ?_ ?_
          · refine am_J.go (cf' := (8, [some (.ref 85), some (.int a1), some (.int (s2 + v4)), some (.int (s3 + 1))], [], hp A I x)) 2 rfl ?_
            exact am_J.leaf (fun k => am_Ev.weak (L' := [some (.ref 85), some (.int a1), some (.int (s2 + v4)), some (.int (s3 + 1))]) (am_Lle.k (am_Lle.k (am_Lle.k (am_Lle.k am_Lle.nil)))) k)
          · refine am_J.go 1 rfl ?_
            exact am_J.retz rfl (Or.inl rfl) (fun k => k)
      · refine am_J.go (cf' := (8, [some (.ref 85), some (.int a1), some (.int (s2 + v4)), some (.int (s3 + 1))], [], hp A I x)) 2 rfl ?_
        exact am_J.leaf (fun k => am_Ev.weak (L' := [some (.ref 85), some (.int a1), some (.int (s2 + v4)), some (.int (s3 + 1))]) (am_Lle.k (am_Lle.k (am_Lle.k (am_Lle.k am_Lle.nil)))) k)
  · intro q
    rcases q with e7 | v
    · refine (?_ : am_J (am_ro xs) 1 mc_X12_canBuy r (63, [some (.ref 85), none, some (.int e7), none], [], hp A I x) _ _)
      refine am_J.go 5 rfl ?_
      refine am_J.le rfl ?_ ?_
      · refine am_J.go 1 rfl ?_
        exact am_J.retz rfl (Or.inl rfl) (fun k => k)
      · refine am_J.go 2 rfl ?_
        exact am_J.retz rfl (Or.inr rfl) (fun k => k)
    · intro z hz hk
      cases hz
      exact hk

def f_X12_cell (A : Nat → List Int32) (I : Nat → Int32) (a1 : Int32) (a2 : Int32) (a3 : Int32) : Option (Int32 × (List Int32)) :=
  ((f_X12_isSheet A I a1).bind fun r1 =>
  (if r1 = 0 then
    some ((-2), (A 126))
  else
    ((am_at (A 124) a1).bind fun v2 =>
    (if 0 ≤ v2 then
      ((am_at (A 125) a1).bind fun v3 =>
      ((f_X12_in A I a2 0 (v3 - 1)).bind fun r4 =>
      (if r4 = 0 then
        some ((-12), (A 126))
      else
        ((am_at (A 124) a1).bind fun v5 =>
        (((if v5 = 0 then
            some (Int8.toInt32 (Int32.toInt8 a3))
          else
            ((am_at (A 124) a1).bind fun v6 =>
            (if v6 = 1 then
              some (Int16.toInt32 (Int32.toInt16 a3))
            else
              some a3))) : Option (Int32)).bind (fun j7 =>
        ((am_up (A 126) ((40 * a1) + a2) j7).bind fun y8 =>
        some (1, y8))))))))
    else
      some ((-11), (A 126))))))
set_option maxRecDepth 100000 in
set_option maxHeartbeats 4000000 in
theorem t_X12_cell {xs : List Int32} (A : Nat → List Int32) (I : Nat → Int32) (x : am_X) (a1 : Int32) (a2 : Int32) (a3 : Int32) {z : Int32 × (List Int32)} (hz : f_X12_cell A I a1 a2 a3 = some z) : am_Rt (am_ro xs) 3 ix_X12_cell [.ref 85, .int a1, .int a2, .int a3] (hp A I x) (some (.int z.1), hp (up A 126 z.2) I x) := by
  refine am_Rt.J (k := ix_X12_cell) (M := mc_X12_cell) (nL := 4) (d := 2) (as := [.ref 85, .int a1, .int a2, .int a3]) (res := fun z => (some (.int z.1), hp (up A 126 z.2) I x)) rfl (Nat.le_of_ble_eq_true rfl) (fun r => ?_) hz
  unfold f_X12_cell
  refine am_J.go 2 rfl ?_
  refine am_J.callz (v := fun r1 => r1) (h' := fun r1 => hp A I x) rfl rfl rfl (fun r1 hw => (t_X12_isSheet A I x a1 hw)) (fun r1 hr1 => ?_)
  refine am_J.ne rfl ?_ ?_
  · refine am_J.go 1 rfl ?_
    exact am_J.ret rfl (fun k => k)
  · refine am_J.go 3 rfl ?_
    refine am_J.ial (xs := (A 124)) rfl (Nat.le_of_ble_eq_true rfl) rfl (fun v2 => ?_)
    refine am_J.ge rfl ?_ ?_
    · refine am_J.go 6 rfl ?_
      refine am_J.ial (xs := (A 125)) rfl (Nat.le_of_ble_eq_true rfl) rfl (fun v3 => ?_)
      refine am_J.go 2 rfl ?_
      refine am_J.callz (v := fun r4 => r4) (h' := fun r4 => hp A I x) rfl rfl rfl (fun r4 hw => (t_X12_in A I x a2 0 (v3 - 1) hw).mono (Nat.le_of_ble_eq_true rfl)) (fun r4 hr4 => ?_)
      refine am_J.ne rfl ?_ ?_
      · refine am_J.go 1 rfl ?_
        exact am_J.ret rfl (fun k => k)
      · refine am_J.go 10 rfl ?_
        refine am_J.ial (xs := (A 124)) rfl (Nat.le_of_ble_eq_true rfl) rfl (fun v5 => ?_)
        refine am_J.join (β := Int32) (cj := fun j7 => (83, [none, none, none, none], [.int j7, .int ((40 * a1) + a2), .ref 126], hp A I x)) ?_ ?_
        · refine am_J.ne rfl ?_ ?_
          · refine am_J.go (cf' := (83, [some (.ref 85), some (.int a1), some (.int a2), some (.int a3)], [.int (Int8.toInt32 (Int32.toInt8 a3)), .int ((40 * a1) + a2), .ref 126], hp A I x)) 3 rfl ?_
            exact am_J.leaf (fun k => am_Ev.weak (L' := [none, none, none, none]) (am_Lle.o (am_Lle.o (am_Lle.o (am_Lle.o am_Lle.nil)))) k)
          · refine am_J.go 3 rfl ?_
            refine am_J.ial (xs := (A 124)) rfl (Nat.le_of_ble_eq_true rfl) rfl (fun v6 => ?_)
            refine am_J.go 1 rfl ?_
            refine am_J.ne rfl ?_ ?_
            · refine am_J.go (cf' := (83, [some (.ref 85), some (.int a1), some (.int a2), some (.int a3)], [.int (Int16.toInt32 (Int32.toInt16 a3)), .int ((40 * a1) + a2), .ref 126], hp A I x)) 3 rfl ?_
              exact am_J.leaf (fun k => am_Ev.weak (L' := [none, none, none, none]) (am_Lle.o (am_Lle.o (am_Lle.o (am_Lle.o am_Lle.nil)))) k)
            · refine am_J.go (cf' := (83, [some (.ref 85), some (.int a1), some (.int a2), some (.int a3)], [.int a3, .int ((40 * a1) + a2), .ref 126], hp A I x)) 1 rfl ?_
              exact am_J.leaf (fun k => am_Ev.weak (L' := [none, none, none, none]) (am_Lle.o (am_Lle.o (am_Lle.o (am_Lle.o am_Lle.nil)))) k)
        · rintro j7
          refine am_J.ias (xs := (A 126)) (h' := fun y8 => hp (up A 126 y8) I x) rfl rfl (fun _ => rfl) (fun y8 => ?_)
          refine am_J.go 1 rfl ?_
          exact am_J.ret rfl (fun k => k)
    · refine am_J.go 1 rfl ?_
      exact am_J.ret rfl (fun k => k)

def f_X12_clash (A : Nat → List Int32) (I : Nat → Int32) (a1 : Int32) (a2 : Int32) : Option (Int32 × (List Int32)) :=
  ((f_X12_in A I a1 0 ((I 5481) - 1)).bind fun r1 =>
  (if r1 = 0 then
    some ((-2), (A 115))
  else
    ((f_X12_in A I a2 0 ((I 5481) - 1)).bind fun r2 =>
    (if r2 = 0 then
      some ((-2), (A 115))
    else
      (if a1 = a2 then
        some ((-2), (A 115))
      else
        ((am_at (A 115) a1).bind fun v3 =>
        (((if ((v3 >>> (a2 &&& 31)) &&& 1) = 1 then
            some 0
          else
            some 1) : Option (Int32)).bind (fun j4 =>
        ((am_at (A 115) a1).bind fun v5 =>
        ((am_up (A 115) a1 (v5 ||| (1 <<< (a2 &&& 31)))).bind fun y6 =>
        ((am_at y6 a2).bind fun v7 =>
        ((am_up y6 a2 (v7 ||| (1 <<< (a1 &&& 31)))).bind fun y8 =>
        some (j4, y8)))))))))))))
set_option maxRecDepth 100000 in
set_option maxHeartbeats 4000000 in
theorem t_X12_clash {xs : List Int32} (A : Nat → List Int32) (I : Nat → Int32) (x : am_X) (a1 : Int32) (a2 : Int32) {z : Int32 × (List Int32)} (hz : f_X12_clash A I a1 a2 = some z) : am_Rt (am_ro xs) 2 ix_X12_clash [.ref 85, .int a1, .int a2] (hp A I x) (some (.int z.1), hp (up A 115 z.2) I x) := by
  refine am_Rt.J (k := ix_X12_clash) (M := mc_X12_clash) (nL := 4) (d := 1) (as := [.ref 85, .int a1, .int a2]) (res := fun z => (some (.int z.1), hp (up A 115 z.2) I x)) rfl (Nat.le_of_ble_eq_true rfl) (fun r => ?_) hz
  unfold f_X12_clash
  refine am_J.go 7 rfl ?_
  refine am_J.callz (v := fun r1 => r1) (h' := fun r1 => hp A I x) rfl rfl rfl (fun r1 hw => (t_X12_in A I x a1 0 ((I 5481) - 1) hw)) (fun r1 hr1 => ?_)
  refine am_J.eq rfl ?_ ?_
  · refine am_J.go 1 rfl ?_
    exact am_J.ret rfl (fun k => k)
  · refine am_J.go 7 rfl ?_
    refine am_J.callz (v := fun r2 => r2) (h' := fun r2 => hp A I x) rfl rfl rfl (fun r2 hw => (t_X12_in A I x a2 0 ((I 5481) - 1) hw)) (fun r2 hr2 => ?_)
    refine am_J.eq rfl ?_ ?_
    · refine am_J.go 1 rfl ?_
      exact am_J.ret rfl (fun k => k)
    · refine am_J.go 2 rfl ?_
      refine am_J.ne rfl ?_ ?_
      · refine am_J.go 1 rfl ?_
        exact am_J.ret rfl (fun k => k)
      · refine am_J.go 3 rfl ?_
        refine am_J.ial (xs := (A 115)) rfl (Nat.le_of_ble_eq_true rfl) rfl (fun v3 => ?_)
        refine am_J.go 5 rfl ?_
        refine am_J.join (β := Int32) (cj := fun j4 => (57, [some (.ref 85), some (.int a1), some (.int a2), none], [.int j4], hp A I x)) ?_ ?_
        · refine am_J.ne rfl ?_ ?_
          · refine am_J.go (cf' := (57, [some (.ref 85), some (.int a1), some (.int a2), none], [.int 0], hp A I x)) 2 rfl ?_
            exact am_J.leaf (fun k => am_Ev.weak (L' := [some (.ref 85), some (.int a1), some (.int a2), none]) (am_Lle.k (am_Lle.k (am_Lle.k (am_Lle.o am_Lle.nil)))) k)
          · refine am_J.go (cf' := (57, [some (.ref 85), some (.int a1), some (.int a2), none], [.int 1], hp A I x)) 1 rfl ?_
            exact am_J.leaf (fun k => am_Ev.weak (L' := [some (.ref 85), some (.int a1), some (.int a2), none]) (am_Lle.k (am_Lle.k (am_Lle.k (am_Lle.o am_Lle.nil)))) k)
        · rintro j4
          refine am_J.go 5 rfl ?_
          refine am_J.ial (xs := (A 115)) rfl (Nat.le_of_ble_eq_true rfl) rfl (fun v5 => ?_)
          refine am_J.go 4 rfl ?_
          refine am_J.ias (xs := (A 115)) (h' := fun y6 => hp (up A 115 y6) I x) rfl rfl (fun _ => rfl) (fun y6 => ?_)
          refine am_J.go 4 rfl ?_
          refine am_J.ial (xs := y6) rfl (Nat.le_of_ble_eq_true rfl) rfl (fun v7 => ?_)
          refine am_J.go 4 rfl ?_
          refine am_J.ias (xs := y6) (h' := fun y8 => hp (up A 115 y8) I x) rfl rfl (fun _ => rfl) (fun y8 => ?_)
          refine am_J.go 1 rfl ?_
          exact am_J.ret rfl (fun k => k)

def f_X12_clause (A : Nat → List Int32) (I : Nat → Int32) (a1 : Int32) : Option (Int32 × (List Int32) × (List Int32) × Int32) :=
  ((f_X12_in A I a1 0 16777215).bind fun r1 =>
  (if r1 = 0 then
    some ((-2), (A 117), (A 119), (I 5486))
  else
    (if (I 5486) = 8 then
      some ((-4), (A 117), (A 119), (I 5486))
    else
      ((am_up (A 117) (I 5486) a1).bind fun y2 =>
      ((am_up (A 119) (I 5486) 0).bind fun y3 =>
      some ((((I 5486) + 1) - 1), y2, y3, ((I 5486) + 1)))))))
set_option maxRecDepth 100000 in
set_option maxHeartbeats 4000000 in
theorem t_X12_clause {xs : List Int32} (A : Nat → List Int32) (I : Nat → Int32) (x : am_X) (a1 : Int32) {z : Int32 × (List Int32) × (List Int32) × Int32} (hz : f_X12_clause A I a1 = some z) : am_Rt (am_ro xs) 2 ix_X12_clause [.ref 85, .int a1] (hp A I x) (some (.int z.1), hp (up (up A 117 z.2.1) 119 z.2.2.1) (up I 5486 z.2.2.2) x) := by
  refine am_Rt.J (k := ix_X12_clause) (M := mc_X12_clause) (nL := 2) (d := 1) (as := [.ref 85, .int a1]) (res := fun z => (some (.int z.1), hp (up (up A 117 z.2.1) 119 z.2.2.1) (up I 5486 z.2.2.2) x)) rfl (Nat.le_of_ble_eq_true rfl) (fun r => ?_) hz
  unfold f_X12_clause
  refine am_J.go 4 rfl ?_
  refine am_J.callz (v := fun r1 => r1) (h' := fun r1 => hp A I x) rfl rfl rfl (fun r1 hw => (t_X12_in A I x a1 0 16777215 hw)) (fun r1 hr1 => ?_)
  refine am_J.ne rfl ?_ ?_
  · refine am_J.go 1 rfl ?_
    exact am_J.ret rfl (fun k => k)
  · refine am_J.go 3 rfl ?_
    refine am_J.ne rfl ?_ ?_
    · refine am_J.go 1 rfl ?_
      exact am_J.ret rfl (fun k => k)
    · refine am_J.go 5 rfl ?_
      refine am_J.ias (xs := (A 117)) (h' := fun y2 => hp (up A 117 y2) I x) rfl rfl (fun _ => rfl) (fun y2 => ?_)
      refine am_J.go 5 rfl ?_
      refine am_J.ias (xs := (A 119)) (h' := fun y3 => hp (up (up A 117 y2) 119 y3) I x) rfl rfl (fun _ => rfl) (fun y3 => ?_)
      refine am_J.go 10 rfl ?_
      exact am_J.ret rfl (fun k => k)

def f_X12_copy_l1 (A : Nat → List Int32) (I : Nat → Int32) (a1 : Int32) (a2 : Int32) (a3 : Int32) (a4 : Int32) (a5 : Int32) : (Int32 × (List Int32)) → Option ((Int32 × (List Int32)) ⊕ ((List Int32))) := fun q => match q with
    | (s9, s10) =>
    (if a5 ≤ s9 then
      some (.inr s10)
    else
      ((am_at (A 126) (((40 * a1) + a2) + s9)).bind fun v11 =>
      ((am_up s10 s9 v11).bind fun y12 =>
      some (.inl ((s9 + 1), y12)))))
def f_X12_copy_l2 (A : Nat → List Int32) (I : Nat → Int32) (a3 : Int32) (a4 : Int32) (a5 : Int32) : (Int32 × (List Int32)) → Option ((Int32 × (List Int32)) ⊕ ((List Int32))) := fun q => match q with
    | (s14, s15) =>
    (if a5 ≤ s14 then
      some (.inr s15)
    else
      ((am_at (A 127) s14).bind fun v16 =>
      ((am_up s15 (((40 * a3) + a4) + s14) v16).bind fun y17 =>
      some (.inl ((s14 + 1), y17)))))
def f_X12_copy (A : Nat → List Int32) (I : Nat → Int32) (a1 : Int32) (a2 : Int32) (a3 : Int32) (a4 : Int32) (a5 : Int32) : Option (Int32 × (List Int32) × (List Int32)) :=
  ((f_X12_isSheet A I a1).bind fun r1 =>
  (if r1 = 0 then
    some ((-2), (A 126), (A 127))
  else
    ((f_X12_isSheet A I a3).bind fun r2 =>
    (if r2 = 0 then
      some ((-2), (A 126), (A 127))
    else
      ((am_at (A 124) a1).bind fun v3 =>
      (if v3 < 0 then
        some ((-11), (A 126), (A 127))
      else
        ((am_at (A 124) a3).bind fun v4 =>
        (if 0 ≤ v4 then
          ((am_at (A 124) a1).bind fun v5 =>
          ((am_at (A 124) a3).bind fun v6 =>
          (if v5 = v6 then
            (if a5 < 0 then
              some ((-12), (A 126), (A 127))
            else
              (if a2 < 0 then
                some ((-12), (A 126), (A 127))
              else
                (if a4 < 0 then
                  some ((-12), (A 126), (A 127))
                else
                  ((am_at (A 125) a1).bind fun v7 =>
                  (if (v7 - a5) < a2 then
                    some ((-12), (A 126), (A 127))
                  else
                    ((am_at (A 125) a3).bind fun v8 =>
                    (if a4 ≤ (v8 - a5) then
                      ((wl (f_X12_copy_l1 A I a1 a2 a3 a4 a5) 100000 (0, (A 127))).bind (fun e13 =>
                      ((wl (f_X12_copy_l2 (up A 127 e13) I a3 a4 a5) 100000 (0, (A 126))).bind (fun e18 =>
                      some (a5, e18, e13)))))
                    else
                      some ((-12), (A 126), (A 127)))))))))
          else
            some ((-13), (A 126), (A 127)))))
        else
          some ((-11), (A 126), (A 127))))))))))
set_option maxRecDepth 100000 in
set_option maxHeartbeats 4000000 in
theorem t_X12_copy {xs : List Int32} (A : Nat → List Int32) (I : Nat → Int32) (x : am_X) (a1 : Int32) (a2 : Int32) (a3 : Int32) (a4 : Int32) (a5 : Int32) {z : Int32 × (List Int32) × (List Int32)} (hz : f_X12_copy A I a1 a2 a3 a4 a5 = some z) : am_Rt (am_ro xs) 3 ix_X12_copy [.ref 85, .int a1, .int a2, .int a3, .int a4, .int a5] (hp A I x) (some (.int z.1), hp (up (up A 126 z.2.1) 127 z.2.2) I x) := by
  refine am_Rt.J (k := ix_X12_copy) (M := mc_X12_copy) (nL := 7) (d := 2) (as := [.ref 85, .int a1, .int a2, .int a3, .int a4, .int a5]) (res := fun z => (some (.int z.1), hp (up (up A 126 z.2.1) 127 z.2.2) I x)) rfl (Nat.le_of_ble_eq_true rfl) (fun r => ?_) hz
  unfold f_X12_copy
  refine am_J.go 2 rfl ?_
  refine am_J.callz (v := fun r1 => r1) (h' := fun r1 => hp A I x) rfl rfl rfl (fun r1 hw => (t_X12_isSheet A I x a1 hw)) (fun r1 hr1 => ?_)
  refine am_J.eq rfl ?_ ?_
  · refine am_J.go 1 rfl ?_
    exact am_J.ret rfl (fun k => k)
  · refine am_J.go 2 rfl ?_
    refine am_J.callz (v := fun r2 => r2) (h' := fun r2 => hp A I x) rfl rfl rfl (fun r2 hw => (t_X12_isSheet A I x a3 hw)) (fun r2 hr2 => ?_)
    refine am_J.ne rfl ?_ ?_
    · refine am_J.go 1 rfl ?_
      exact am_J.ret rfl (fun k => k)
    · refine am_J.go 3 rfl ?_
      refine am_J.ial (xs := (A 124)) rfl (Nat.le_of_ble_eq_true rfl) rfl (fun v3 => ?_)
      refine am_J.lt rfl ?_ ?_
      · refine am_J.go 1 rfl ?_
        exact am_J.ret rfl (fun k => k)
      · refine am_J.go 3 rfl ?_
        refine am_J.ial (xs := (A 124)) rfl (Nat.le_of_ble_eq_true rfl) rfl (fun v4 => ?_)
        refine am_J.ge rfl ?_ ?_
        · refine am_J.go 3 rfl ?_
          refine am_J.ial (xs := (A 124)) rfl (Nat.le_of_ble_eq_true rfl) rfl (fun v5 => ?_)
          refine am_J.go 3 rfl ?_
          refine am_J.ial (xs := (A 124)) rfl (Nat.le_of_ble_eq_true rfl) rfl (fun v6 => ?_)
          refine am_J.eq rfl ?_ ?_
          · refine am_J.go 1 rfl ?_
            refine am_J.lt rfl ?_ ?_
            · refine am_J.go 1 rfl ?_
              exact am_J.ret rfl (fun k => k)
            · refine am_J.go 1 rfl ?_
              refine am_J.lt rfl ?_ ?_
              · refine am_J.go 1 rfl ?_
                exact am_J.ret rfl (fun k => k)
              · refine am_J.go 1 rfl ?_
                refine am_J.lt rfl ?_ ?_
                · refine am_J.go 1 rfl ?_
                  exact am_J.ret rfl (fun k => k)
                · refine am_J.go 4 rfl ?_
                  refine am_J.ial (xs := (A 125)) rfl (Nat.le_of_ble_eq_true rfl) rfl (fun v7 => ?_)
                  refine am_J.go 2 rfl ?_
                  refine am_J.gt rfl ?_ ?_
                  · refine am_J.go 1 rfl ?_
                    exact am_J.ret rfl (fun k => k)
                  · refine am_J.go 4 rfl ?_
                    refine am_J.ial (xs := (A 125)) rfl (Nat.le_of_ble_eq_true rfl) rfl (fun v8 => ?_)
                    refine am_J.go 2 rfl ?_
                    refine am_J.le rfl ?_ ?_
                    · refine am_J.go (cf' := (105, [some (.ref 85), some (.int a1), some (.int a2), some (.int a3), some (.int a4), some (.int a5), some (.int 0)], [], hp A I x)) 2 rfl ?_
                      refine am_J.weak (L' := [some (.ref 85), some (.int a1), some (.int a2), some (.int a3), some (.int a4), some (.int a5), some (.int 0)]) (am_Lle.k (am_Lle.k (am_Lle.k (am_Lle.k (am_Lle.k (am_Lle.k (am_Lle.k am_Lle.nil))))))) ?_
                      refine am_J.loop (cl := fun q => match q with | (s9, s10) => (105, [some (.ref 85), some (.int a1), some (.int a2), some (.int a3), some (.int a4), some (.int a5), some (.int s9)], [], hp (up A 127 s10) I x)) (GX := fun e13 => am_Ev (am_ro xs) 2 mc_X12_copy (139, [some (.ref 85), none, none, some (.int a3), some (.int a4), some (.int a5), none], [], hp (up A 127 e13) I x) r) ?_ ?_
                      · rintro ⟨s9, s10⟩
                        unfold f_X12_copy_l1
                        refine am_J.go 2 rfl ?_
                        refine am_J.ge rfl ?_ ?_
                        · refine am_J.go (cf' := (139, [some (.ref 85), some (.int a1), some (.int a2), some (.int a3), some (.int a4), some (.int a5), some (.int s9)], [], hp (up A 127 s10) I x)) 0 rfl ?_
                          exact am_J.leaf (fun k => am_Ev.weak (L' := [some (.ref 85), none, none, some (.int a3), some (.int a4), some (.int a5), none]) (am_Lle.k (am_Lle.o (am_Lle.o (am_Lle.k (am_Lle.k (am_Lle.k (am_Lle.o am_Lle.nil))))))) k)
                        · refine am_J.go 12 rfl ?_
                          refine am_J.ial (xs := (A 126)) rfl (Nat.le_of_ble_eq_true rfl) rfl (fun v11 => ?_)
                          refine am_J.ias (xs := s10) (h' := fun y12 => hp (up A 127 y12) I x) rfl rfl (fun _ => rfl) (fun y12 => ?_)
                          refine am_J.go (cf' := (105, [some (.ref 85), some (.int a1), some (.int a2), some (.int a3), some (.int a4), some (.int a5), some (.int (s9 + 1))], [], hp (up A 127 y12) I x)) 2 rfl ?_
                          exact am_J.leaf (fun k => am_Ev.weak (L' := [some (.ref 85), some (.int a1), some (.int a2), some (.int a3), some (.int a4), some (.int a5), some (.int (s9 + 1))]) (am_Lle.k (am_Lle.k (am_Lle.k (am_Lle.k (am_Lle.k (am_Lle.k (am_Lle.k am_Lle.nil))))))) k)
                      · rintro e13
                        refine (?_ : am_J (am_ro xs) 2 mc_X12_copy r (139, [some (.ref 85), none, none, some (.int a3), some (.int a4), some (.int a5), none], [], hp (up A 127 e13) I x) _ _)
                        refine am_J.go (cf' := (142, [some (.ref 85), none, none, some (.int a3), some (.int a4), some (.int a5), some (.int 0)], [], hp (up A 127 e13) I x)) 2 rfl ?_
                        refine am_J.weak (L' := [some (.ref 85), none, none, some (.int a3), some (.int a4), some (.int a5), some (.int 0)]) (am_Lle.k (am_Lle.o (am_Lle.o (am_Lle.k (am_Lle.k (am_Lle.k (am_Lle.k am_Lle.nil))))))) ?_
                        refine am_J.loop (cl := fun q => match q with | (s14, s15) => (142, [some (.ref 85), none, none, some (.int a3), some (.int a4), some (.int a5), some (.int s14)], [], hp (up (up A 126 s15) 127 e13) I x)) (GX := fun e18 => am_Ev (am_ro xs) 2 mc_X12_copy (177, [none, none, none, none, none, some (.int a5), none], [], hp (up (up A 126 e18) 127 e13) I x) r) ?_ ?_
                        · rintro ⟨s14, s15⟩
                          unfold f_X12_copy_l2
                          refine am_J.go 2 rfl ?_
                          refine am_J.ge rfl ?_ ?_
                          · refine am_J.go (cf' := (177, [some (.ref 85), none, none, some (.int a3), some (.int a4), some (.int a5), some (.int s14)], [], hp (up (up A 127 e13) 126 s15) I x)) 0 rfl ?_
                            exact am_J.leaf (fun k => am_Ev.weak (L' := [none, none, none, none, none, some (.int a5), none]) (am_Lle.o (am_Lle.o (am_Lle.o (am_Lle.o (am_Lle.o (am_Lle.k (am_Lle.o am_Lle.nil))))))) k)
                          · refine am_J.go 12 rfl ?_
                            refine am_J.ial (xs := ((up A 127 e13) 127)) rfl (Nat.le_of_ble_eq_true rfl) rfl (fun v16 => ?_)
                            refine am_J.ias (xs := s15) (h' := fun y17 => hp (up (up A 127 e13) 126 y17) I x) rfl rfl (fun _ => rfl) (fun y17 => ?_)
                            refine am_J.go (cf' := (142, [some (.ref 85), none, none, some (.int a3), some (.int a4), some (.int a5), some (.int (s14 + 1))], [], hp (up (up A 127 e13) 126 y17) I x)) 2 rfl ?_
                            exact am_J.leaf (fun k => am_Ev.weak (L' := [some (.ref 85), none, none, some (.int a3), some (.int a4), some (.int a5), some (.int (s14 + 1))]) (am_Lle.k (am_Lle.o (am_Lle.o (am_Lle.k (am_Lle.k (am_Lle.k (am_Lle.k am_Lle.nil))))))) k)
                        · rintro e18
                          refine (?_ : am_J (am_ro xs) 2 mc_X12_copy r (177, [none, none, none, none, none, some (.int a5), none], [], hp (up (up A 126 e18) 127 e13) I x) _ _)
                          refine am_J.go 1 rfl ?_
                          exact am_J.ret rfl (fun k => k)
                    · refine am_J.go 1 rfl ?_
                      exact am_J.ret rfl (fun k => k)
          · refine am_J.go 1 rfl ?_
            exact am_J.ret rfl (fun k => k)
        · refine am_J.go 1 rfl ?_
          exact am_J.ret rfl (fun k => k)

def f_X12_elector (A : Nat → List Int32) (I : Nat → Int32) (a1 : Int32) (a2 : Int32) : Option (Int32 × (List Int32) × (List Int32) × (List Int32) × Int32) :=
  ((f_X12_in A I a1 0 999).bind fun r1 =>
  (if r1 = 0 then
    some ((-2), (A 113), (A 114), (A 115), (I 5481))
  else
    ((f_X12_in A I a2 0 1).bind fun r2 =>
    (if r2 = 0 then
      some ((-2), (A 113), (A 114), (A 115), (I 5481))
    else
      (if (I 5481) = 10 then
        some ((-4), (A 113), (A 114), (A 115), (I 5481))
      else
        ((am_up (A 113) (I 5481) a1).bind fun y3 =>
        ((am_up (A 114) (I 5481) a2).bind fun y4 =>
        ((am_up (A 115) (I 5481) 0).bind fun y5 =>
        some ((((I 5481) + 1) - 1), y3, y4, y5, ((I 5481) + 1))))))))))
set_option maxRecDepth 100000 in
set_option maxHeartbeats 4000000 in
theorem t_X12_elector {xs : List Int32} (A : Nat → List Int32) (I : Nat → Int32) (x : am_X) (a1 : Int32) (a2 : Int32) {z : Int32 × (List Int32) × (List Int32) × (List Int32) × Int32} (hz : f_X12_elector A I a1 a2 = some z) : am_Rt (am_ro xs) 2 ix_X12_elector [.ref 85, .int a1, .int a2] (hp A I x) (some (.int z.1), hp (up (up (up A 113 z.2.1) 114 z.2.2.1) 115 z.2.2.2.1) (up I 5481 z.2.2.2.2) x) := by
  refine am_Rt.J (k := ix_X12_elector) (M := mc_X12_elector) (nL := 3) (d := 1) (as := [.ref 85, .int a1, .int a2]) (res := fun z => (some (.int z.1), hp (up (up (up A 113 z.2.1) 114 z.2.2.1) 115 z.2.2.2.1) (up I 5481 z.2.2.2.2) x)) rfl (Nat.le_of_ble_eq_true rfl) (fun r => ?_) hz
  unfold f_X12_elector
  refine am_J.go 4 rfl ?_
  refine am_J.callz (v := fun r1 => r1) (h' := fun r1 => hp A I x) rfl rfl rfl (fun r1 hw => (t_X12_in A I x a1 0 999 hw)) (fun r1 hr1 => ?_)
  refine am_J.eq rfl ?_ ?_
  · refine am_J.go 1 rfl ?_
    exact am_J.ret rfl (fun k => k)
  · refine am_J.go 4 rfl ?_
    refine am_J.callz (v := fun r2 => r2) (h' := fun r2 => hp A I x) rfl rfl rfl (fun r2 hw => (t_X12_in A I x a2 0 1 hw)) (fun r2 hr2 => ?_)
    refine am_J.ne rfl ?_ ?_
    · refine am_J.go 1 rfl ?_
      exact am_J.ret rfl (fun k => k)
    · refine am_J.go 3 rfl ?_
      refine am_J.ne rfl ?_ ?_
      · refine am_J.go 1 rfl ?_
        exact am_J.ret rfl (fun k => k)
      · refine am_J.go 5 rfl ?_
        refine am_J.ias (xs := (A 113)) (h' := fun y3 => hp (up A 113 y3) I x) rfl rfl (fun _ => rfl) (fun y3 => ?_)
        refine am_J.go 5 rfl ?_
        refine am_J.ias (xs := (A 114)) (h' := fun y4 => hp (up (up A 113 y3) 114 y4) I x) rfl rfl (fun _ => rfl) (fun y4 => ?_)
        refine am_J.go 5 rfl ?_
        refine am_J.ias (xs := (A 115)) (h' := fun y5 => hp (up (up (up A 113 y3) 114 y4) 115 y5) I x) rfl rfl (fun _ => rfl) (fun y5 => ?_)
        refine am_J.go 10 rfl ?_
        exact am_J.ret rfl (fun k => k)

def f_X12_far (A : Nat → List Int32) (I : Nat → Int32) (a1 : Int32) (a2 : Int32) : Option (Int32 × (List Int32)) :=
  ((f_X12_isLand A I a1).bind fun r1 =>
  (if r1 = 0 then
    some ((-2), (A 87))
  else
    ((f_X12_isLand A I a2).bind fun r2 =>
    (if r2 = 0 then
      some ((-2), (A 87))
    else
      ((f_X12_findFar A I).bind fun r3 =>
      ((am_at r3 ((8 * a1) + a2)).bind fun v4 =>
      some (v4, r3)))))))
set_option maxRecDepth 100000 in
set_option maxHeartbeats 4000000 in
theorem t_X12_far {xs : List Int32} (A : Nat → List Int32) (I : Nat → Int32) (x : am_X) (a1 : Int32) (a2 : Int32) {z : Int32 × (List Int32)} (hz : f_X12_far A I a1 a2 = some z) : am_Rt (am_ro xs) 3 ix_X12_far [.ref 85, .int a1, .int a2] (hp A I x) (some (.int z.1), hp (up A 87 z.2) I x) := by
  refine am_Rt.J (k := ix_X12_far) (M := mc_X12_far) (nL := 3) (d := 2) (as := [.ref 85, .int a1, .int a2]) (res := fun z => (some (.int z.1), hp (up A 87 z.2) I x)) rfl (Nat.le_of_ble_eq_true rfl) (fun r => ?_) hz
  unfold f_X12_far
  refine am_J.go 2 rfl ?_
  refine am_J.callz (v := fun r1 => r1) (h' := fun r1 => hp A I x) rfl rfl rfl (fun r1 hw => (t_X12_isLand A I x a1 hw)) (fun r1 hr1 => ?_)
  refine am_J.eq rfl ?_ ?_
  · refine am_J.go 1 rfl ?_
    exact am_J.ret rfl (fun k => k)
  · refine am_J.go 2 rfl ?_
    refine am_J.callz (v := fun r2 => r2) (h' := fun r2 => hp A I x) rfl rfl rfl (fun r2 hw => (t_X12_isLand A I x a2 hw)) (fun r2 hr2 => ?_)
    refine am_J.ne rfl ?_ ?_
    · refine am_J.go 1 rfl ?_
      exact am_J.ret rfl (fun k => k)
    · refine am_J.go 1 rfl ?_
      refine am_J.calln (h' := fun r3 => hp (up A 87 r3) I x) rfl (fun r3 hw => (t_X12_findFar A I x hw).mono (Nat.le_of_ble_eq_true rfl)) (fun r3 => ?_)
      refine am_J.go 7 rfl ?_
      refine am_J.ial (xs := r3) rfl (Nat.le_of_ble_eq_true rfl) rfl (fun v4 => ?_)
      exact am_J.ret rfl (fun k => k)

def f_X12_feed_l1 (A : Nat → List Int32) (I : Nat → Int32) (a1 : Int32) (a2 : Int64) : (Int32 × (List Int32) × Int32) → Option ((Int32 × (List Int32) × Int32) ⊕ ((List Int32) × Int32)) := fun q => match q with
    | (s2, s3, s4) =>
    (if a1 ≤ s2 then
      some (.inr (s3, s4))
    else
      ((am_up s3 s4 (am_nar 1 (Int8.toInt32 (Int32.toInt8 (Int64.toInt32 (a2 >>> (Int32.toInt64 (8 * s2) &&& 63))))))).bind fun y5 =>
      some (.inl ((s2 + 1), y5, (s4 + 1)))))
def f_X12_feed (A : Nat → List Int32) (I : Nat → Int32) (a1 : Int32) (a2 : Int64) : Option (Int32 × (List Int32) × Int32) :=
  ((f_X12_in A I a1 1 8).bind fun r1 =>
  (if r1 = 0 then
    some ((-2), (A 101), (I 5459))
  else
    (if ((I 5459) + a1) ≤ 160 then
      ((wl (f_X12_feed_l1 A I a1 a2) 100000 (0, (A 101), (I 5459))).bind (fun q => match q with
      | (e6, e7) =>
      some (e7, e6, e7)))
    else
      some ((-4), (A 101), (I 5459)))))
set_option maxRecDepth 100000 in
set_option maxHeartbeats 4000000 in
theorem t_X12_feed {xs : List Int32} (A : Nat → List Int32) (I : Nat → Int32) (x : am_X) (a1 : Int32) (a2 : Int64) {z : Int32 × (List Int32) × Int32} (hz : f_X12_feed A I a1 a2 = some z) : am_Rt (am_ro xs) 2 ix_X12_feed [.ref 85, .int a1, .long a2] (hp A I x) (some (.int z.1), hp (up A 101 z.2.1) (up I 5459 z.2.2) x) := by
  refine am_Rt.J (k := ix_X12_feed) (M := mc_X12_feed) (nL := 5) (d := 1) (as := [.ref 85, .int a1, .long a2]) (res := fun z => (some (.int z.1), hp (up A 101 z.2.1) (up I 5459 z.2.2) x)) rfl (Nat.le_of_ble_eq_true rfl) (fun r => ?_) hz
  unfold f_X12_feed
  refine am_J.go 4 rfl ?_
  refine am_J.callz (v := fun r1 => r1) (h' := fun r1 => hp A I x) rfl rfl rfl (fun r1 hw => (t_X12_in A I x a1 1 8 hw)) (fun r1 hr1 => ?_)
  refine am_J.ne rfl ?_ ?_
  · refine am_J.go 1 rfl ?_
    exact am_J.ret rfl (fun k => k)
  · refine am_J.go 5 rfl ?_
    refine am_J.le rfl ?_ ?_
    · refine am_J.go (cf' := (32, [some (.ref 85), some (.int a1), some (.long a2), none, some (.int 0)], [], hp A I x)) 2 rfl ?_
      refine am_J.weak (L' := [some (.ref 85), some (.int a1), some (.long a2), none, some (.int 0)]) (am_Lle.k (am_Lle.k (am_Lle.k (am_Lle.o (am_Lle.k am_Lle.nil))))) ?_
      refine am_J.loop (cl := fun q => match q with | (s2, s3, s4) => (32, [some (.ref 85), some (.int a1), some (.long a2), none, some (.int s2)], [], hp (up A 101 s3) (up I 5459 s4) x)) (GX := fun q => match q with | (e6, e7) => am_Ev (am_ro xs) 1 mc_X12_feed (72, [some (.ref 85), none, none, none, none], [], hp (up A 101 e6) (up I 5459 e7) x) r) ?_ ?_
      · rintro ⟨s2, s3, s4⟩
        unfold f_X12_feed_l1
        refine am_J.go 2 rfl ?_
        refine am_J.ge rfl ?_ ?_
        · refine am_J.go (cf' := (72, [some (.ref 85), some (.int a1), some (.long a2), none, some (.int s2)], [], hp (up A 101 s3) (up I 5459 s4) x)) 0 rfl ?_
          exact am_J.leaf (fun k => am_Ev.weak (L' := [some (.ref 85), none, none, none, none]) (am_Lle.k (am_Lle.o (am_Lle.o (am_Lle.o (am_Lle.o am_Lle.nil))))) k)
        · refine am_J.go 11 rfl ?_
          refine am_J.bas (xs := s3) (t := 1) (h' := fun y5 => hp (up A 101 y5) (up I 5459 s4) x) rfl (by decide) rfl (fun _ => rfl) (fun y5 => ?_)
          refine am_J.go (cf' := (32, [some (.ref 85), some (.int a1), some (.long a2), none, some (.int (s2 + 1))], [], hp (up A 101 y5) (up I 5459 (s4 + 1)) x)) 8 rfl ?_
          exact am_J.leaf (fun k => am_Ev.weak (L' := [some (.ref 85), some (.int a1), some (.long a2), none, some (.int (s2 + 1))]) (am_Lle.k (am_Lle.k (am_Lle.k (am_Lle.o (am_Lle.k am_Lle.nil))))) k)
      · rintro ⟨e6, e7⟩
        refine (?_ : am_J (am_ro xs) 1 mc_X12_feed r (72, [some (.ref 85), none, none, none, none], [], hp (up A 101 e6) (up I 5459 e7) x) _ _)
        refine am_J.go 2 rfl ?_
        exact am_J.ret rfl (fun k => k)
    · refine am_J.go 1 rfl ?_
      exact am_J.ret rfl (fun k => k)

def f_X12_hang (A : Nat → List Int32) (I : Nat → Int32) (a1 : Int32) (a2 : Int32) : Option (Int32 × (List Int32)) :=
  ((f_X12_isAct A I a1).bind fun r1 =>
  (if r1 = 0 then
    some ((-2), (A 99))
  else
    ((f_X12_isAct A I a2).bind fun r2 =>
    (if r2 = 0 then
      some ((-2), (A 99))
    else
      (if a1 = a2 then
        some ((-2), (A 99))
      else
        ((am_at (A 99) a1).bind fun v3 =>
        (if ((v3 >>> (a2 &&& 31)) &&& 1) = 1 then
          some ((-3), (A 99))
        else
          ((am_at (A 99) a1).bind fun v4 =>
          ((am_up (A 99) a1 (v4 ||| (1 <<< (a2 &&& 31)))).bind fun y5 =>
          ((am_at y5 a1).bind fun v6 =>
          ((f_X12_ones (up A 99 y5) I v6).bind fun r7 =>
          some (r7, y5))))))))))))
set_option maxRecDepth 100000 in
set_option maxHeartbeats 4000000 in
theorem t_X12_hang {xs : List Int32} (A : Nat → List Int32) (I : Nat → Int32) (x : am_X) (a1 : Int32) (a2 : Int32) {z : Int32 × (List Int32)} (hz : f_X12_hang A I a1 a2 = some z) : am_Rt (am_ro xs) 3 ix_X12_hang [.ref 85, .int a1, .int a2] (hp A I x) (some (.int z.1), hp (up A 99 z.2) I x) := by
  refine am_Rt.J (k := ix_X12_hang) (M := mc_X12_hang) (nL := 3) (d := 2) (as := [.ref 85, .int a1, .int a2]) (res := fun z => (some (.int z.1), hp (up A 99 z.2) I x)) rfl (Nat.le_of_ble_eq_true rfl) (fun r => ?_) hz
  unfold f_X12_hang
  refine am_J.go 2 rfl ?_
  refine am_J.callz (v := fun r1 => r1) (h' := fun r1 => hp A I x) rfl rfl rfl (fun r1 hw => (t_X12_isAct A I x a1 hw)) (fun r1 hr1 => ?_)
  refine am_J.eq rfl ?_ ?_
  · refine am_J.go 1 rfl ?_
    exact am_J.ret rfl (fun k => k)
  · refine am_J.go 2 rfl ?_
    refine am_J.callz (v := fun r2 => r2) (h' := fun r2 => hp A I x) rfl rfl rfl (fun r2 hw => (t_X12_isAct A I x a2 hw)) (fun r2 hr2 => ?_)
    refine am_J.eq rfl ?_ ?_
    · refine am_J.go 1 rfl ?_
      exact am_J.ret rfl (fun k => k)
    · refine am_J.go 2 rfl ?_
      refine am_J.ne rfl ?_ ?_
      · refine am_J.go 1 rfl ?_
        exact am_J.ret rfl (fun k => k)
      · refine am_J.go 3 rfl ?_
        refine am_J.ial (xs := (A 99)) rfl (Nat.le_of_ble_eq_true rfl) rfl (fun v3 => ?_)
        refine am_J.go 5 rfl ?_
        refine am_J.ne rfl ?_ ?_
        · refine am_J.go 1 rfl ?_
          exact am_J.ret rfl (fun k => k)
        · refine am_J.go 4 rfl ?_
          refine am_J.ial (xs := (A 99)) rfl (Nat.le_of_ble_eq_true rfl) rfl (fun v4 => ?_)
          refine am_J.go 4 rfl ?_
          refine am_J.ias (xs := (A 99)) (h' := fun y5 => hp (up A 99 y5) I x) rfl rfl (fun _ => rfl) (fun y5 => ?_)
          refine am_J.go 4 rfl ?_
          refine am_J.ial (xs := y5) rfl (Nat.le_of_ble_eq_true rfl) rfl (fun v6 => ?_)
          refine am_J.call (v := fun r7 => .int r7) (h' := fun r7 => hp (up A 99 y5) I x) rfl (fun r7 hw => (t_X12_ones (up A 99 y5) I x v6 hw).mono (Nat.le_of_ble_eq_true rfl)) (fun r7 => ?_)
          exact am_J.ret rfl (fun k => k)

def f_X12_isBetter (A : Nat → List Int32) (I : Nat → Int32) (a1 : Int32) (a2 : Int32) (a3 : Int32) : Option (Int32) :=
  ((f_X12_ones A I a1).bind fun r1 =>
  ((f_X12_ones A I a2).bind fun r2 =>
  (if r1 = r2 then
    ((f_X12_undoneBy A I a1 a3).bind fun r3 =>
    ((f_X12_undoneBy A I a2 a3).bind fun r4 =>
    (if r3 = r4 then
      ((f_X12_takersOf A I a1).bind fun r5 =>
      ((f_X12_ones A I r5).bind fun r6 =>
      ((f_X12_takersOf A I a2).bind fun r7 =>
      ((f_X12_ones A I r7).bind fun r8 =>
      (if r6 ≤ r8 then
        some 0
      else
        some 1)))))
    else
      ((f_X12_undoneBy A I a1 a3).bind fun r9 =>
      ((f_X12_undoneBy A I a2 a3).bind fun r10 =>
      (if r10 ≤ r9 then
        some 0
      else
        some 1))))))
  else
    ((f_X12_ones A I a1).bind fun r11 =>
    ((f_X12_ones A I a2).bind fun r12 =>
    (if r11 ≤ r12 then
      some 0
    else
      some 1))))))
set_option maxRecDepth 100000 in
set_option maxHeartbeats 4000000 in
theorem t_X12_isBetter {xs : List Int32} (A : Nat → List Int32) (I : Nat → Int32) (x : am_X) (a1 : Int32) (a2 : Int32) (a3 : Int32) {z : Int32} (hz : f_X12_isBetter A I a1 a2 a3 = some z) : am_Rt (am_ro xs) 3 ix_X12_isBetter [.ref 85, .int a1, .int a2, .int a3] (hp A I x) (some (.int z), hp A I x) := by
  refine am_Rt.J (k := ix_X12_isBetter) (M := mc_X12_isBetter) (nL := 4) (d := 2) (as := [.ref 85, .int a1, .int a2, .int a3]) (res := fun z => (some (.int z), hp A I x)) rfl (Nat.le_of_ble_eq_true rfl) (fun r => ?_) hz
  unfold f_X12_isBetter
  refine am_J.go 2 rfl ?_
  refine am_J.call (v := fun r1 => .int r1) (h' := fun r1 => hp A I x) rfl (fun r1 hw => (t_X12_ones A I x a1 hw).mono (Nat.le_of_ble_eq_true rfl)) (fun r1 => ?_)
  refine am_J.go 2 rfl ?_
  refine am_J.call (v := fun r2 => .int r2) (h' := fun r2 => hp A I x) rfl (fun r2 hw => (t_X12_ones A I x a2 hw).mono (Nat.le_of_ble_eq_true rfl)) (fun r2 => ?_)
  refine am_J.eq rfl ?_ ?_
  · refine am_J.go 3 rfl ?_
    refine am_J.call (v := fun r3 => .int r3) (h' := fun r3 => hp A I x) rfl (fun r3 hw => (t_X12_undoneBy A I x a1 a3 hw)) (fun r3 => ?_)
    refine am_J.go 3 rfl ?_
    refine am_J.call (v := fun r4 => .int r4) (h' := fun r4 => hp A I x) rfl (fun r4 hw => (t_X12_undoneBy A I x a2 a3 hw)) (fun r4 => ?_)
    refine am_J.eq rfl ?_ ?_
    · refine am_J.go 3 rfl ?_
      refine am_J.call (v := fun r5 => .int r5) (h' := fun r5 => hp A I x) rfl (fun r5 hw => (t_X12_takersOf A I x a1 hw).mono (Nat.le_of_ble_eq_true rfl)) (fun r5 => ?_)
      refine am_J.call (v := fun r6 => .int r6) (h' := fun r6 => hp A I x) rfl (fun r6 hw => (t_X12_ones A I x r5 hw).mono (Nat.le_of_ble_eq_true rfl)) (fun r6 => ?_)
      refine am_J.go 3 rfl ?_
      refine am_J.call (v := fun r7 => .int r7) (h' := fun r7 => hp A I x) rfl (fun r7 hw => (t_X12_takersOf A I x a2 hw).mono (Nat.le_of_ble_eq_true rfl)) (fun r7 => ?_)
      refine am_J.call (v := fun r8 => .int r8) (h' := fun r8 => hp A I x) rfl (fun r8 hw => (t_X12_ones A I x r7 hw).mono (Nat.le_of_ble_eq_true rfl)) (fun r8 => ?_)
      refine am_J.le rfl ?_ ?_
      · refine am_J.go 1 rfl ?_
        exact am_J.retz rfl (Or.inl rfl) (fun k => k)
      · refine am_J.go 2 rfl ?_
        exact am_J.retz rfl (Or.inr rfl) (fun k => k)
    · refine am_J.go 3 rfl ?_
      refine am_J.call (v := fun r9 => .int r9) (h' := fun r9 => hp A I x) rfl (fun r9 hw => (t_X12_undoneBy A I x a1 a3 hw)) (fun r9 => ?_)
      refine am_J.go 3 rfl ?_
      refine am_J.call (v := fun r10 => .int r10) (h' := fun r10 => hp A I x) rfl (fun r10 hw => (t_X12_undoneBy A I x a2 a3 hw)) (fun r10 => ?_)
      refine am_J.ge rfl ?_ ?_
      · refine am_J.go 1 rfl ?_
        exact am_J.retz rfl (Or.inl rfl) (fun k => k)
      · refine am_J.go 2 rfl ?_
        exact am_J.retz rfl (Or.inr rfl) (fun k => k)
  · refine am_J.go 2 rfl ?_
    refine am_J.call (v := fun r11 => .int r11) (h' := fun r11 => hp A I x) rfl (fun r11 hw => (t_X12_ones A I x a1 hw).mono (Nat.le_of_ble_eq_true rfl)) (fun r11 => ?_)
    refine am_J.go 2 rfl ?_
    refine am_J.call (v := fun r12 => .int r12) (h' := fun r12 => hp A I x) rfl (fun r12 hw => (t_X12_ones A I x a2 hw).mono (Nat.le_of_ble_eq_true rfl)) (fun r12 => ?_)
    refine am_J.le rfl ?_ ?_
    · refine am_J.go 1 rfl ?_
      exact am_J.retz rfl (Or.inl rfl) (fun k => k)
    · refine am_J.go 2 rfl ?_
      exact am_J.retz rfl (Or.inr rfl) (fun k => k)

def f_X12_isOn (A : Nat → List Int32) (I : Nat → Int32) (a1 : Int32) (a2 : Int32) : Option (Int32) :=
  ((am_at (A 97) a1).bind fun v1 =>
  (if a2 < v1 then
    some 0
  else
    ((am_at (A 97) a1).bind fun v2 =>
    ((f_X12_lastsOf A I a1).bind fun r3 =>
    (if r3 ≤ (a2 - v2) then
      some 0
    else
      some 1)))))
set_option maxRecDepth 100000 in
set_option maxHeartbeats 4000000 in
theorem t_X12_isOn {xs : List Int32} (A : Nat → List Int32) (I : Nat → Int32) (x : am_X) (a1 : Int32) (a2 : Int32) {z : Int32} (hz : f_X12_isOn A I a1 a2 = some z) : am_Rt (am_ro xs) 2 ix_X12_isOn [.ref 85, .int a1, .int a2] (hp A I x) (some (.int z), hp A I x) := by
  refine am_Rt.J (k := ix_X12_isOn) (M := mc_X12_isOn) (nL := 3) (d := 1) (as := [.ref 85, .int a1, .int a2]) (res := fun z => (some (.int z), hp A I x)) rfl (Nat.le_of_ble_eq_true rfl) (fun r => ?_) hz
  unfold f_X12_isOn
  refine am_J.go 4 rfl ?_
  refine am_J.ial (xs := (A 97)) rfl (Nat.le_of_ble_eq_true rfl) rfl (fun v1 => ?_)
  refine am_J.lt rfl ?_ ?_
  · refine am_J.go 1 rfl ?_
    exact am_J.retz rfl (Or.inl rfl) (fun k => k)
  · refine am_J.go 4 rfl ?_
    refine am_J.ial (xs := (A 97)) rfl (Nat.le_of_ble_eq_true rfl) rfl (fun v2 => ?_)
    refine am_J.go 3 rfl ?_
    refine am_J.call (v := fun r3 => .int r3) (h' := fun r3 => hp A I x) rfl (fun r3 hw => (t_X12_lastsOf A I x a1 hw)) (fun r3 => ?_)
    refine am_J.ge rfl ?_ ?_
    · refine am_J.go 1 rfl ?_
      exact am_J.retz rfl (Or.inl rfl) (fun k => k)
    · refine am_J.go 2 rfl ?_
      exact am_J.retz rfl (Or.inr rfl) (fun k => k)

def f_X12_journey_l1 (A : Nat → List Int32) (I : Nat → Int32) (a1 : Int32) (a2 : Int32) (a3 : Int32) : (Int32 × (List Int32) × (List Int32) × Int32) → Option ((Int32 × (List Int32) × (List Int32) × Int32) ⊕ ((List Int32) × (List Int32) × Int32)) := fun q => match q with
    | (s4, s5, s6, s7) =>
    (if 8 ≤ s4 then
      some (.inr (s5, s6, s7))
    else
      (((if s4 = a1 then
          some (s5, s6, s7)
        else
          (if ((a2 >>> (s4 &&& 31)) &&& 1) = 0 then
            some (s5, s6, s7)
          else
            ((am_up s5 s7 s7).bind fun y8 =>
            ((am_up s6 s7 s4).bind fun y9 =>
            some (y8, y9, (s7 + 1)))))) : Option ((List Int32) × (List Int32) × Int32)).bind (fun q => match q with
      | (j10, j11, j12) =>
      some (.inl ((s4 + 1), j10, j11, j12)))))
def f_X12_journey_l3 (A : Nat → List Int32) (I : Nat → Int32) (a1 : Int32) (a3 : Int32) (r20 : Int32) : (Int32 × (List Int32)) → Option ((Int32 × (List Int32)) ⊕ ((List Int32))) := fun q => match q with
    | (s21, s22) =>
    (if (I 5494) ≤ s21 then
      some (.inr s22)
    else
      ((am_at (A 121) s21).bind fun v23 =>
      ((am_at (A 123) v23).bind fun v24 =>
      ((am_up s22 s21 v24).bind fun y25 =>
      some (.inl ((s21 + 1), y25))))))
def f_X12_journey_l2 (A : Nat → List Int32) (I : Nat → Int32) (a1 : Int32) (a3 : Int32) : (Int32 × Int32 × (List Int32) × (List Int32)) → Option ((Int32 × Int32 × (List Int32) × (List Int32)) ⊕ (Int32 × (List Int32) × (List Int32))) := fun q => match q with
    | (s16, s17, s18, s19) =>
    (if s17 = 0 then
      some (.inr (s16, s18, s19))
    else
      ((f_X12_wonBy (up (up A 121 s18) 122 s19) I a1).bind fun r20 =>
      (((if r20 ≤ s16 then
          some (s16, s19)
        else
          ((wl (f_X12_journey_l3 (up (up A 121 s18) 122 s19) I a1 a3 r20) 100000 (0, s19)).bind (fun e26 =>
          some (r20, e26)))) : Option (Int32 × (List Int32))).bind (fun q => match q with
      | (j27, j28) =>
      ((f_X12_nextOrder (up (up A 121 s18) 122 j28) I).bind fun r29 =>
      some (.inl (j27, r29.1, r29.2, j28)))))))
def f_X12_journey (A : Nat → List Int32) (I : Nat → Int32) (a1 : Int32) (a2 : Int32) (a3 : Int32) : Option (Int32 × (List Int32) × (List Int32) × (List Int32) × (List Int32) × Int32) :=
  ((f_X12_isLand A I a1).bind fun r1 =>
  (if r1 = 0 then
    some ((-2), (A 87), (A 121), (A 122), (A 123), (I 5494))
  else
    ((f_X12_in A I a2 0 255).bind fun r2 =>
    (if r2 = 0 then
      some ((-2), (A 87), (A 121), (A 122), (A 123), (I 5494))
    else
      ((f_X12_findFar A I).bind fun r3 =>
      ((wl (f_X12_journey_l1 (up A 87 r3) (up I 5494 0) a1 a2 a3) 100000 (0, (A 121), (A 123), 0)).bind (fun q => match q with
      | (e13, e14, e15) =>
      ((wl (f_X12_journey_l2 (up (up (up A 87 r3) 121 e13) 123 e14) (up I 5494 e15) a1 a3) 100000 ((-1), 1, e13, (A 122))).bind (fun q => match q with
      | (e30, e31, e32) =>
      (if a3 = (-1) then
        some (e30, r3, e31, e32, e14, e15)
      else
        ((f_X12_in (up (up (up (up A 87 r3) 121 e31) 122 e32) 123 e14) (up I 5494 e15) a3 0 (e15 - 1)).bind fun r33 =>
        (if r33 = 0 then
          some ((-1), r3, e31, e32, e14, e15)
        else
          ((am_at e32 a3).bind fun v34 =>
          some (v34, r3, e31, e32, e14, e15))))))))))))))
set_option maxRecDepth 100000 in
set_option maxHeartbeats 4000000 in
theorem t_X12_journey {xs : List Int32} (A : Nat → List Int32) (I : Nat → Int32) (x : am_X) (a1 : Int32) (a2 : Int32) (a3 : Int32) {z : Int32 × (List Int32) × (List Int32) × (List Int32) × (List Int32) × Int32} (hz : f_X12_journey A I a1 a2 a3 = some z) : am_Rt (am_ro xs) 3 ix_X12_journey [.ref 85, .int a1, .int a2, .int a3] (hp A I x) (some (.int z.1), hp (up (up (up (up A 87 z.2.1) 121 z.2.2.1) 122 z.2.2.2.1) 123 z.2.2.2.2.1) (up I 5494 z.2.2.2.2.2) x) := by
  refine am_Rt.J (k := ix_X12_journey) (M := mc_X12_journey) (nL := 8) (d := 2) (as := [.ref 85, .int a1, .int a2, .int a3]) (res := fun z => (some (.int z.1), hp (up (up (up (up A 87 z.2.1) 121 z.2.2.1) 122 z.2.2.2.1) 123 z.2.2.2.2.1) (up I 5494 z.2.2.2.2.2) x)) rfl (Nat.le_of_ble_eq_true rfl) (fun r => ?_) hz
  unfold f_X12_journey
  refine am_J.go 2 rfl ?_
  refine am_J.callz (v := fun r1 => r1) (h' := fun r1 => hp A I x) rfl rfl rfl (fun r1 hw => (t_X12_isLand A I x a1 hw)) (fun r1 hr1 => ?_)
  refine am_J.eq rfl ?_ ?_
  · refine am_J.go 1 rfl ?_
    exact am_J.ret rfl (fun k => k)
  · refine am_J.go 4 rfl ?_
    refine am_J.callz (v := fun r2 => r2) (h' := fun r2 => hp A I x) rfl rfl rfl (fun r2 hw => (t_X12_in A I x a2 0 255 hw).mono (Nat.le_of_ble_eq_true rfl)) (fun r2 hr2 => ?_)
    refine am_J.ne rfl ?_ ?_
    · refine am_J.go 1 rfl ?_
      exact am_J.ret rfl (fun k => k)
    · refine am_J.go 1 rfl ?_
      refine am_J.calln (h' := fun r3 => hp (up A 87 r3) I x) rfl (fun r3 hw => (t_X12_findFar A I x hw).mono (Nat.le_of_ble_eq_true rfl)) (fun r3 => ?_)
      refine am_J.go (cf' := (35, [some (.ref 85), some (.int a1), some (.int a2), some (.int a3), some (.int 0), none, none, none], [], hp (up A 87 r3) (up I 5494 0) x)) 5 rfl ?_
      refine am_J.weak (L' := [some (.ref 85), some (.int a1), some (.int a2), some (.int a3), some (.int 0), none, none, none]) (am_Lle.k (am_Lle.k (am_Lle.k (am_Lle.k (am_Lle.k (am_Lle.o (am_Lle.o (am_Lle.o am_Lle.nil)))))))) ?_
      refine am_J.loop (cl := fun q => match q with | (s4, s5, s6, s7) => (35, [some (.ref 85), some (.int a1), some (.int a2), some (.int a3), some (.int s4), none, none, none], [], hp (up (up (up A 87 r3) 121 s5) 123 s6) (up I 5494 s7) x)) (GX := fun q => match q with | (e13, e14, e15) => am_Ev (am_ro xs) 2 mc_X12_journey (100, [some (.ref 85), some (.int a1), none, some (.int a3), none, none, none, none], [], hp (up (up (up A 87 r3) 121 e13) 123 e14) (up I 5494 e15) x) r) ?_ ?_
      · rintro ⟨s4, s5, s6, s7⟩
        unfold f_X12_journey_l1
        refine am_J.go 2 rfl ?_
        refine am_J.ge rfl ?_ ?_
        · refine am_J.go (cf' := (100, [some (.ref 85), some (.int a1), some (.int a2), some (.int a3), some (.int s4), none, none, none], [], hp (up (up (up A 87 r3) 121 s5) 123 s6) (up (up I 5494 0) 5494 s7) x)) 0 rfl ?_
          exact am_J.leaf (fun k => am_Ev.weak (L' := [some (.ref 85), some (.int a1), none, some (.int a3), none, none, none, none]) (am_Lle.k (am_Lle.k (am_Lle.o (am_Lle.k (am_Lle.o (am_Lle.o (am_Lle.o (am_Lle.o am_Lle.nil)))))))) k)
        · refine am_J.go 2 rfl ?_
          refine am_J.join (β := (List Int32) × (List Int32) × Int32) (cj := fun q => match q with | (j10, j11, j12) => (94, [some (.ref 85), some (.int a1), some (.int a2), some (.int a3), some (.int s4), none, none, none], [], hp (up (up (up A 87 r3) 121 j10) 123 j11) (up (up I 5494 0) 5494 j12) x)) ?_ ?_
          · refine am_J.eq rfl ?_ ?_
            · refine am_J.go (cf' := (94, [some (.ref 85), some (.int a1), some (.int a2), some (.int a3), some (.int s4), none, none, none], [], hp (up (up (up A 87 r3) 121 s5) 123 s6) (up (up I 5494 0) 5494 s7) x)) 0 rfl ?_
              exact am_J.leaf (fun k => am_Ev.weak (L' := [some (.ref 85), some (.int a1), some (.int a2), some (.int a3), some (.int s4), none, none, none]) (am_Lle.k (am_Lle.k (am_Lle.k (am_Lle.k (am_Lle.k (am_Lle.o (am_Lle.o (am_Lle.o am_Lle.nil)))))))) k)
            · refine am_J.go 5 rfl ?_
              refine am_J.ne rfl ?_ ?_
              · refine am_J.go (cf' := (94, [some (.ref 85), some (.int a1), some (.int a2), some (.int a3), some (.int s4), none, none, none], [], hp (up (up (up A 87 r3) 121 s5) 123 s6) (up (up I 5494 0) 5494 s7) x)) 1 rfl ?_
                exact am_J.leaf (fun k => am_Ev.weak (L' := [some (.ref 85), some (.int a1), some (.int a2), some (.int a3), some (.int s4), none, none, none]) (am_Lle.k (am_Lle.k (am_Lle.k (am_Lle.k (am_Lle.k (am_Lle.o (am_Lle.o (am_Lle.o am_Lle.nil)))))))) k)
              · refine am_J.go 6 rfl ?_
                refine am_J.ias (xs := s5) (h' := fun y8 => hp (up (up (up A 87 r3) 121 y8) 123 s6) (up (up I 5494 0) 5494 s7) x) rfl rfl (fun _ => rfl) (fun y8 => ?_)
                refine am_J.go 5 rfl ?_
                refine am_J.ias (xs := s6) (h' := fun y9 => hp (up (up (up A 87 r3) 121 y8) 123 y9) (up (up I 5494 0) 5494 s7) x) rfl rfl (fun _ => rfl) (fun y9 => ?_)
                refine am_J.go (cf' := (94, [some (.ref 85), some (.int a1), some (.int a2), some (.int a3), some (.int s4), none, none, none], [], hp (up (up (up A 87 r3) 121 y8) 123 y9) (up (up I 5494 0) 5494 (s7 + 1)) x)) 6 rfl ?_
                exact am_J.leaf (fun k => am_Ev.weak (L' := [some (.ref 85), some (.int a1), some (.int a2), some (.int a3), some (.int s4), none, none, none]) (am_Lle.k (am_Lle.k (am_Lle.k (am_Lle.k (am_Lle.k (am_Lle.o (am_Lle.o (am_Lle.o am_Lle.nil)))))))) k)
          · rintro ⟨j10, j11, j12⟩
            refine am_J.go (cf' := (35, [some (.ref 85), some (.int a1), some (.int a2), some (.int a3), some (.int (s4 + 1)), none, none, none], [], hp (up (up (up A 87 r3) 121 j10) 123 j11) (up (up I 5494 0) 5494 j12) x)) 2 rfl ?_
            exact am_J.leaf (fun k => am_Ev.weak (L' := [some (.ref 85), some (.int a1), some (.int a2), some (.int a3), some (.int (s4 + 1)), none, none, none]) (am_Lle.k (am_Lle.k (am_Lle.k (am_Lle.k (am_Lle.k (am_Lle.o (am_Lle.o (am_Lle.o am_Lle.nil)))))))) k)
      · rintro ⟨e13, e14, e15⟩
        refine (?_ : am_J (am_ro xs) 2 mc_X12_journey r (100, [some (.ref 85), some (.int a1), none, some (.int a3), none, none, none, none], [], hp (up (up (up A 87 r3) 121 e13) 123 e14) (up I 5494 e15) x) _ _)
        refine am_J.go (cf' := (106, [some (.ref 85), some (.int a1), none, some (.int a3), some (.int (-1)), some (.int 1), none, none], [], hp (up (up (up A 87 r3) 121 e13) 123 e14) (up I 5494 e15) x)) 4 rfl ?_
        refine am_J.weak (L' := [some (.ref 85), some (.int a1), none, some (.int a3), some (.int (-1)), some (.int 1), none, none]) (am_Lle.k (am_Lle.k (am_Lle.o (am_Lle.k (am_Lle.k (am_Lle.k (am_Lle.o (am_Lle.o am_Lle.nil)))))))) ?_
        refine am_J.loop (cl := fun q => match q with | (s16, s17, s18, s19) => (106, [some (.ref 85), some (.int a1), none, some (.int a3), some (.int s16), some (.int s17), none, none], [], hp (up (up (up (up A 87 r3) 121 s18) 122 s19) 123 e14) (up I 5494 e15) x)) (GX := fun q => match q with | (e30, e31, e32) => am_Ev (am_ro xs) 2 mc_X12_journey (175, [some (.ref 85), none, none, some (.int a3), some (.int e30), none, none, none], [], hp (up (up (up (up A 87 r3) 121 e31) 122 e32) 123 e14) (up I 5494 e15) x) r) ?_ ?_
        · rintro ⟨s16, s17, s18, s19⟩
          unfold f_X12_journey_l2
          refine am_J.go 1 rfl ?_
          refine am_J.eq rfl ?_ ?_
          · refine am_J.go (cf' := (175, [some (.ref 85), some (.int a1), none, some (.int a3), some (.int s16), some (.int s17), none, none], [], hp (up (up (up (up (up A 87 r3) 121 e13) 123 e14) 121 s18) 122 s19) (up I 5494 e15) x)) 0 rfl ?_
            exact am_J.leaf (fun k => am_Ev.weak (L' := [some (.ref 85), none, none, some (.int a3), some (.int s16), none, none, none]) (am_Lle.k (am_Lle.o (am_Lle.o (am_Lle.k (am_Lle.k (am_Lle.o (am_Lle.o (am_Lle.o am_Lle.nil)))))))) k)
          · refine am_J.go 2 rfl ?_
            refine am_J.call (v := fun r20 => .int r20) (h' := fun r20 => hp (up (up (up (up (up A 87 r3) 121 e13) 123 e14) 121 s18) 122 s19) (up I 5494 e15) x) rfl (fun r20 hw => (t_X12_wonBy (up (up (up (up (up A 87 r3) 121 e13) 123 e14) 121 s18) 122 s19) (up I 5494 e15) x a1 hw).mono (Nat.le_of_ble_eq_true rfl)) (fun r20 => ?_)
            refine am_J.go 3 rfl ?_
            refine am_J.join (β := Int32 × (List Int32)) (cj := fun q => match q with | (j27, j28) => (166, [some (.ref 85), some (.int a1), none, some (.int a3), some (.int j27), none, none, none], [], hp (up (up (up (up (up A 87 r3) 121 e13) 123 e14) 121 s18) 122 j28) (up I 5494 e15) x)) ?_ ?_
            · refine am_J.le rfl ?_ ?_
              · refine am_J.go (cf' := (166, [some (.ref 85), some (.int a1), none, some (.int a3), some (.int s16), some (.int s17), some (.int r20), none], [], hp (up (up (up (up (up A 87 r3) 121 e13) 123 e14) 121 s18) 122 s19) (up I 5494 e15) x)) 0 rfl ?_
                exact am_J.leaf (fun k => am_Ev.weak (L' := [some (.ref 85), some (.int a1), none, some (.int a3), some (.int s16), none, none, none]) (am_Lle.k (am_Lle.k (am_Lle.o (am_Lle.k (am_Lle.k (am_Lle.o (am_Lle.o (am_Lle.o am_Lle.nil)))))))) k)
              · refine am_J.go (cf' := (132, [some (.ref 85), some (.int a1), none, some (.int a3), some (.int r20), some (.int s17), some (.int r20), some (.int 0)], [], hp (up (up (up (up (up A 87 r3) 121 e13) 123 e14) 121 s18) 122 s19) (up I 5494 e15) x)) 4 rfl ?_
                refine am_J.weak (L' := [some (.ref 85), some (.int a1), none, some (.int a3), some (.int r20), none, none, some (.int 0)]) (am_Lle.k (am_Lle.k (am_Lle.o (am_Lle.k (am_Lle.k (am_Lle.o (am_Lle.o (am_Lle.k am_Lle.nil)))))))) ?_
                refine am_J.loop (cl := fun q => match q with | (s21, s22) => (132, [some (.ref 85), some (.int a1), none, some (.int a3), some (.int r20), none, none, some (.int s21)], [], hp (up (up (up (up (up A 87 r3) 121 e13) 123 e14) 121 s18) 122 s22) (up I 5494 e15) x)) (GX := fun e26 => am_Ev (am_ro xs) 2 mc_X12_journey (166, [some (.ref 85), some (.int a1), none, some (.int a3), some (.int r20), none, none, none], [], hp (up (up (up (up (up A 87 r3) 121 e13) 123 e14) 121 s18) 122 e26) (up I 5494 e15) x) r) ?_ ?_
                · rintro ⟨s21, s22⟩
                  unfold f_X12_journey_l3
                  refine am_J.go 3 rfl ?_
                  refine am_J.ge rfl ?_ ?_
                  · refine am_J.go (cf' := (166, [some (.ref 85), some (.int a1), none, some (.int a3), some (.int r20), none, none, some (.int s21)], [], hp (up (up (up (up (up (up A 87 r3) 121 e13) 123 e14) 121 s18) 122 s19) 122 s22) (up I 5494 e15) x)) 0 rfl ?_
                    exact am_J.leaf (fun k => am_Ev.weak (L' := [some (.ref 85), some (.int a1), none, some (.int a3), some (.int r20), none, none, none]) (am_Lle.k (am_Lle.k (am_Lle.o (am_Lle.k (am_Lle.k (am_Lle.o (am_Lle.o (am_Lle.o am_Lle.nil)))))))) k)
                  · refine am_J.go 8 rfl ?_
                    refine am_J.ial (xs := ((up (up (up (up (up A 87 r3) 121 e13) 123 e14) 121 s18) 122 s19) 121)) rfl (Nat.le_of_ble_eq_true rfl) rfl (fun v23 => ?_)
                    refine am_J.ial (xs := ((up (up (up (up (up A 87 r3) 121 e13) 123 e14) 121 s18) 122 s19) 123)) rfl (Nat.le_of_ble_eq_true rfl) rfl (fun v24 => ?_)
                    refine am_J.ias (xs := s22) (h' := fun y25 => hp (up (up (up (up (up (up A 87 r3) 121 e13) 123 e14) 121 s18) 122 s19) 122 y25) (up I 5494 e15) x) rfl rfl (fun _ => rfl) (fun y25 => ?_)
                    refine am_J.go (cf' := (132, [some (.ref 85), some (.int a1), none, some (.int a3), some (.int r20), none, none, some (.int (s21 + 1))], [], hp (up (up (up (up (up (up A 87 r3) 121 e13) 123 e14) 121 s18) 122 s19) 122 y25) (up I 5494 e15) x)) 2 rfl ?_
                    exact am_J.leaf (fun k => am_Ev.weak (L' := [some (.ref 85), some (.int a1), none, some (.int a3), some (.int r20), none, none, some (.int (s21 + 1))]) (am_Lle.k (am_Lle.k (am_Lle.o (am_Lle.k (am_Lle.k (am_Lle.o (am_Lle.o (am_Lle.k am_Lle.nil)))))))) k)
                · rintro e26
                  refine (?_ : am_J (am_ro xs) 2 mc_X12_journey r (166, [some (.ref 85), some (.int a1), none, some (.int a3), some (.int r20), none, none, none], [], hp (up (up (up (up (up A 87 r3) 121 e13) 123 e14) 121 s18) 122 e26) (up I 5494 e15) x) _ _)
                  refine am_J.go (cf' := (166, [some (.ref 85), some (.int a1), none, some (.int a3), some (.int r20), none, none, none], [], hp (up (up (up (up (up A 87 r3) 121 e13) 123 e14) 121 s18) 122 e26) (up I 5494 e15) x)) 0 rfl ?_
                  exact am_J.leaf (fun k => am_Ev.weak (L' := [some (.ref 85), some (.int a1), none, some (.int a3), some (.int r20), none, none, none]) (am_Lle.k (am_Lle.k (am_Lle.o (am_Lle.k (am_Lle.k (am_Lle.o (am_Lle.o (am_Lle.o am_Lle.nil)))))))) k)
            · rintro ⟨j27, j28⟩
              refine am_J.go 1 rfl ?_
              refine am_J.callz (v := fun r29 => r29.1) (h' := fun r29 => hp (up (up (up (up (up A 87 r3) 121 e13) 123 e14) 121 r29.2) 122 j28) (up I 5494 e15) x) rfl rfl rfl (fun r29 hw => (t_X12_nextOrder (up (up (up (up (up A 87 r3) 121 e13) 123 e14) 121 s18) 122 j28) (up I 5494 e15) x hw).mono (Nat.le_of_ble_eq_true rfl)) (fun r29 hr29 => ?_)
              refine am_J.go (cf' := (106, [some (.ref 85), some (.int a1), none, some (.int a3), some (.int j27), some (.int r29.1), none, none], [], hp (up (up (up (up (up A 87 r3) 121 e13) 123 e14) 121 r29.2) 122 j28) (up I 5494 e15) x)) 2 rfl ?_
              exact am_J.leaf (fun k => am_Ev.weak (L' := [some (.ref 85), some (.int a1), none, some (.int a3), some (.int j27), some (.int r29.1), none, none]) (am_Lle.k (am_Lle.k (am_Lle.o (am_Lle.k (am_Lle.k (am_Lle.k (am_Lle.o (am_Lle.o am_Lle.nil)))))))) k)
        · rintro ⟨e30, e31, e32⟩
          refine (?_ : am_J (am_ro xs) 2 mc_X12_journey r (175, [some (.ref 85), none, none, some (.int a3), some (.int e30), none, none, none], [], hp (up (up (up (up A 87 r3) 121 e31) 122 e32) 123 e14) (up I 5494 e15) x) _ _)
          refine am_J.go 2 rfl ?_
          refine am_J.ne rfl ?_ ?_
          · refine am_J.go 2 rfl ?_
            exact am_J.ret rfl (fun k => k)
          · refine am_J.go 7 rfl ?_
            refine am_J.callz (v := fun r33 => r33) (h' := fun r33 => hp (up (up (up (up A 87 r3) 121 e31) 122 e32) 123 e14) (up I 5494 e15) x) rfl rfl rfl (fun r33 hw => (t_X12_in (up (up (up (up A 87 r3) 121 e31) 122 e32) 123 e14) (up I 5494 e15) x a3 0 (e15 - 1) hw).mono (Nat.le_of_ble_eq_true rfl)) (fun r33 hr33 => ?_)
            refine am_J.eq rfl ?_ ?_
            · refine am_J.go 1 rfl ?_
              exact am_J.ret rfl (fun k => k)
            · refine am_J.go 3 rfl ?_
              refine am_J.ial (xs := e32) rfl (Nat.le_of_ble_eq_true rfl) rfl (fun v34 => ?_)
              refine am_J.go 1 rfl ?_
              exact am_J.ret rfl (fun k => k)

def f_X12_knew (A : Nat → List Int32) (I : Nat → Int32) (a1 : Int32) (a2 : Int32) : Option (Int32) :=
  ((am_at (A 95) a2).bind fun v1 =>
  ((am_at (A 88) v1).bind fun v2 =>
  ((f_X12_knownIn A I a1 v2).bind fun r3 =>
  (if r3 < 0 then
    some 0
  else
    ((am_at (A 97) a2).bind fun v4 =>
    (if v4 < r3 then
      some 0
    else
      some 1))))))
set_option maxRecDepth 100000 in
set_option maxHeartbeats 4000000 in
theorem t_X12_knew {xs : List Int32} (A : Nat → List Int32) (I : Nat → Int32) (x : am_X) (a1 : Int32) (a2 : Int32) {z : Int32} (hz : f_X12_knew A I a1 a2 = some z) : am_Rt (am_ro xs) 2 ix_X12_knew [.ref 85, .int a1, .int a2] (hp A I x) (some (.int z), hp A I x) := by
  refine am_Rt.J (k := ix_X12_knew) (M := mc_X12_knew) (nL := 4) (d := 1) (as := [.ref 85, .int a1, .int a2]) (res := fun z => (some (.int z), hp A I x)) rfl (Nat.le_of_ble_eq_true rfl) (fun r => ?_) hz
  unfold f_X12_knew
  refine am_J.go 7 rfl ?_
  refine am_J.ial (xs := (A 95)) rfl (Nat.le_of_ble_eq_true rfl) rfl (fun v1 => ?_)
  refine am_J.ial (xs := (A 88)) rfl (Nat.le_of_ble_eq_true rfl) rfl (fun v2 => ?_)
  refine am_J.call (v := fun r3 => .int r3) (h' := fun r3 => hp A I x) rfl (fun r3 hw => (t_X12_knownIn A I x a1 v2 hw)) (fun r3 => ?_)
  refine am_J.go 2 rfl ?_
  refine am_J.lt rfl ?_ ?_
  · refine am_J.go 1 rfl ?_
    exact am_J.retz rfl (Or.inl rfl) (fun k => k)
  · refine am_J.go 4 rfl ?_
    refine am_J.ial (xs := (A 97)) rfl (Nat.le_of_ble_eq_true rfl) rfl (fun v4 => ?_)
    refine am_J.gt rfl ?_ ?_
    · refine am_J.go 1 rfl ?_
      exact am_J.retz rfl (Or.inl rfl) (fun k => k)
    · refine am_J.go 2 rfl ?_
      exact am_J.retz rfl (Or.inr rfl) (fun k => k)

def f_X12_known (A : Nat → List Int32) (I : Nat → Int32) (a1 : Int32) (a2 : Int32) : Option (Int32 × (List Int32)) :=
  ((f_X12_isAct A I a1).bind fun r1 =>
  (if r1 = 0 then
    some ((-2), (A 87))
  else
    ((f_X12_isLand A I a2).bind fun r2 =>
    (if r2 = 0 then
      some ((-2), (A 87))
    else
      ((f_X12_findFar A I).bind fun r3 =>
      ((f_X12_knownIn (up A 87 r3) I a1 a2).bind fun r4 =>
      some (r4, r3)))))))
set_option maxRecDepth 100000 in
set_option maxHeartbeats 4000000 in
theorem t_X12_known {xs : List Int32} (A : Nat → List Int32) (I : Nat → Int32) (x : am_X) (a1 : Int32) (a2 : Int32) {z : Int32 × (List Int32)} (hz : f_X12_known A I a1 a2 = some z) : am_Rt (am_ro xs) 3 ix_X12_known [.ref 85, .int a1, .int a2] (hp A I x) (some (.int z.1), hp (up A 87 z.2) I x) := by
  refine am_Rt.J (k := ix_X12_known) (M := mc_X12_known) (nL := 3) (d := 2) (as := [.ref 85, .int a1, .int a2]) (res := fun z => (some (.int z.1), hp (up A 87 z.2) I x)) rfl (Nat.le_of_ble_eq_true rfl) (fun r => ?_) hz
  unfold f_X12_known
  refine am_J.go 2 rfl ?_
  refine am_J.callz (v := fun r1 => r1) (h' := fun r1 => hp A I x) rfl rfl rfl (fun r1 hw => (t_X12_isAct A I x a1 hw)) (fun r1 hr1 => ?_)
  refine am_J.eq rfl ?_ ?_
  · refine am_J.go 1 rfl ?_
    exact am_J.ret rfl (fun k => k)
  · refine am_J.go 2 rfl ?_
    refine am_J.callz (v := fun r2 => r2) (h' := fun r2 => hp A I x) rfl rfl rfl (fun r2 hw => (t_X12_isLand A I x a2 hw)) (fun r2 hr2 => ?_)
    refine am_J.ne rfl ?_ ?_
    · refine am_J.go 1 rfl ?_
      exact am_J.ret rfl (fun k => k)
    · refine am_J.go 1 rfl ?_
      refine am_J.calln (h' := fun r3 => hp (up A 87 r3) I x) rfl (fun r3 hw => (t_X12_findFar A I x hw).mono (Nat.le_of_ble_eq_true rfl)) (fun r3 => ?_)
      refine am_J.go 3 rfl ?_
      refine am_J.call (v := fun r4 => .int r4) (h' := fun r4 => hp (up A 87 r3) I x) rfl (fun r4 hw => (t_X12_knownIn (up A 87 r3) I x a1 a2 hw).mono (Nat.le_of_ble_eq_true rfl)) (fun r4 => ?_)
      exact am_J.ret rfl (fun k => k)

def f_X12_next_l1 (A : Nat → List Int32) (I : Nat → Int32) : (Int32) → Option ((Int32) ⊕ (Int32)) := fun s1 =>
    (if (I 5459) ≤ s1 then
      some (.inr s1)
    else
      ((am_at (A 101) s1).bind fun v2 =>
      (if v2 = 32 then
        some (.inl (s1 + 1))
      else
        ((am_at (A 101) s1).bind fun v3 =>
        (if v3 = 10 then
          some (.inl (s1 + 1))
        else
          some (.inr s1))))))
def f_X12_next_l2 (A : Nat → List Int32) (I : Nat → Int32) : (Int32 × Int32) → Option ((Int32 × Int32) ⊕ (Int32 × Int32)) := fun q => match q with
    | (s9, s10) =>
    (if (I 5459) ≤ s9 then
      some (.inr (s9, s10))
    else
      ((am_at (A 101) s9).bind fun v11 =>
      ((f_X12_isDigit A (up (up I 5464 s9) 5466 s10) v11).bind fun r12 =>
      (if r12 = 0 then
        some (.inr (s9, s10))
      else
        (((if 4 ≤ (s9 - (I 5467)) then
            some s10
          else
            ((am_at (A 101) s9).bind fun v13 =>
            some (((10 * s10) + v13) - 48))) : Option (Int32)).bind (fun j14 =>
        some (.inl ((s9 + 1), j14))))))))
def f_X12_next (A : Nat → List Int32) (I : Nat → Int32) : Option (Int32 × Int32 × Int32 × Int32) :=
  ((wl (f_X12_next_l1 A I) 100000 (I 5464)).bind (fun e4 =>
  (if e4 = (I 5459) then
    some (e4, 0, (I 5466), e4)
  else
    ((am_at (A 101) e4).bind fun v5 =>
    ((f_X12_isLetter A (up (up (up I 5464 e4) 5465 0) 5467 e4) v5).bind fun r6 =>
    (if r6 = 0 then
      ((f_X12_isDigit A (up (up (up I 5464 e4) 5465 0) 5467 e4) v5).bind fun r7 =>
      (if r7 = 0 then
        (((if v5 = 40 then
            some 4
          else
            (if v5 = 41 then
              some 4
            else
              (if v5 = 59 then
                some 4
              else
                (if v5 = 43 then
                  some 4
                else
                  (if v5 = 45 then
                    some 4
                  else
                    (if v5 = 42 then
                      some 4
                    else
                      (if v5 = 60 then
                        some 4
                      else
                        (if v5 = 61 then
                          some 4
                        else
                          some 5)))))))) : Option (Int32)).bind (fun j8 =>
        some ((e4 + 1), j8, v5, e4)))
      else
        ((wl (f_X12_next_l2 A (up (up (up (up I 5464 e4) 5465 0) 5466 0) 5467 e4)) 100000 (e4, 0)).bind (fun q => match q with
        | (e15, e16) =>
        (((if (e15 - e4) ≤ 4 then
            some 1
          else
            some 5) : Option (Int32)).bind (fun j17 =>
        some (e15, j17, e16, e4)))))))
    else
      ((f_X12_wordToken A (up (up (up I 5464 e4) 5465 0) 5467 e4)).bind fun r18 =>
      some (r18.1, r18.2.1, r18.2.2, e4))))))))
set_option maxRecDepth 100000 in
set_option maxHeartbeats 4000000 in
theorem t_X12_next {xs : List Int32} (A : Nat → List Int32) (I : Nat → Int32) (x : am_X) {z : Int32 × Int32 × Int32 × Int32} (hz : f_X12_next A I = some z) : am_Rt (am_ro xs) 3 ix_X12_next [.ref 85] (hp A I x) (none, hp A (up (up (up (up I 5464 z.1) 5465 z.2.1) 5466 z.2.2.1) 5467 z.2.2.2) x) := by
  refine am_Rt.J (k := ix_X12_next) (M := mc_X12_next) (nL := 2) (d := 2) (as := [.ref 85]) (res := fun z => (none, hp A (up (up (up (up I 5464 z.1) 5465 z.2.1) 5466 z.2.2.1) 5467 z.2.2.2) x)) rfl (Nat.le_of_ble_eq_true rfl) (fun r => ?_) hz
  unfold f_X12_next
  refine am_J.go (cf' := (0, [some (.ref 85), none], [], hp A I x)) 0 rfl ?_
  refine am_J.weak (L' := [some (.ref 85), none]) (am_Lle.k (am_Lle.o am_Lle.nil)) ?_
  refine am_J.loop (cl := fun s1 => (0, [some (.ref 85), none], [], hp A (up I 5464 s1) x)) (GX := fun e4 => am_Ev (am_ro xs) 2 mc_X12_next (52, [some (.ref 85), none], [], hp A (up I 5464 e4) x) r) ?_ ?_
  · rintro s1
    unfold f_X12_next_l1
    refine am_J.go 4 rfl ?_
    refine am_J.ge rfl ?_ ?_
    · refine am_J.go (cf' := (52, [some (.ref 85), none], [], hp A (up I 5464 s1) x)) 0 rfl ?_
      exact am_J.leaf (fun k => am_Ev.weak (L' := [some (.ref 85), none]) (am_Lle.k (am_Lle.o am_Lle.nil)) k)
    · refine am_J.go 4 rfl ?_
      refine am_J.bal (xs := (A 101)) (t := 1) rfl (by decide) rfl (fun v2 => ?_)
      refine am_J.go 1 rfl ?_
      refine am_J.eq rfl ?_ ?_
      · refine am_J.go (cf' := (0, [some (.ref 85), none], [], hp A (up I 5464 (s1 + 1)) x)) 7 rfl ?_
        exact am_J.leaf (fun k => am_Ev.weak (L' := [some (.ref 85), none]) (am_Lle.k (am_Lle.o am_Lle.nil)) k)
      · refine am_J.go 4 rfl ?_
        refine am_J.bal (xs := (A 101)) (t := 1) rfl (by decide) rfl (fun v3 => ?_)
        refine am_J.go 1 rfl ?_
        refine am_J.ne rfl ?_ ?_
        · refine am_J.go (cf' := (0, [some (.ref 85), none], [], hp A (up I 5464 (s1 + 1)) x)) 7 rfl ?_
          exact am_J.leaf (fun k => am_Ev.weak (L' := [some (.ref 85), none]) (am_Lle.k (am_Lle.o am_Lle.nil)) k)
        · refine am_J.go (cf' := (52, [some (.ref 85), none], [], hp A (up I 5464 s1) x)) 0 rfl ?_
          exact am_J.leaf (fun k => am_Ev.weak (L' := [some (.ref 85), none]) (am_Lle.k (am_Lle.o am_Lle.nil)) k)
  · rintro e4
    refine (?_ : am_J (am_ro xs) 2 mc_X12_next r (52, [some (.ref 85), none], [], hp A (up I 5464 e4) x) _ _)
    refine am_J.go 11 rfl ?_
    refine am_J.ne rfl ?_ ?_
    · exact am_J.ret rfl (fun k => k)
    · refine am_J.go 4 rfl ?_
      refine am_J.bal (xs := (A 101)) (t := 1) rfl (by decide) rfl (fun v5 => ?_)
      refine am_J.go 3 rfl ?_
      refine am_J.callz (v := fun r6 => r6) (h' := fun r6 => hp A (up (up (up I 5464 e4) 5465 0) 5467 e4) x) rfl rfl rfl (fun r6 hw => (t_X12_isLetter A (up (up (up I 5464 e4) 5465 0) 5467 e4) x v5 hw).mono (Nat.le_of_ble_eq_true rfl)) (fun r6 hr6 => ?_)
      refine am_J.eq rfl ?_ ?_
      · refine am_J.go 2 rfl ?_
        refine am_J.callz (v := fun r7 => r7) (h' := fun r7 => hp A (up (up (up I 5464 e4) 5465 0) 5467 e4) x) rfl rfl rfl (fun r7 hw => (t_X12_isDigit A (up (up (up I 5464 e4) 5465 0) 5467 e4) x v5 hw).mono (Nat.le_of_ble_eq_true rfl)) (fun r7 hr7 => ?_)
        refine am_J.eq rfl ?_ ?_
        · refine am_J.go 12 rfl ?_
          refine am_J.join (β := Int32) (cj := fun j8 => (289, [none, none], [.int j8, .ref 85], hp A (up (up (up (up I 5464 (e4 + 1)) 5465 0) 5466 v5) 5467 e4) x)) ?_ ?_
          · refine am_J.eq rfl ?_ ?_
            · refine am_J.go (cf' := (289, [some (.ref 85), some (.int v5)], [.int 4, .ref 85], hp A (up (up (up (up I 5464 (e4 + 1)) 5465 0) 5466 v5) 5467 e4) x)) 2 rfl ?_
              exact am_J.leaf (fun k => am_Ev.weak (L' := [none, none]) (am_Lle.o (am_Lle.o am_Lle.nil)) k)
            · refine am_J.go 2 rfl ?_
              refine am_J.eq rfl ?_ ?_
              · refine am_J.go (cf' := (289, [some (.ref 85), some (.int v5)], [.int 4, .ref 85], hp A (up (up (up (up I 5464 (e4 + 1)) 5465 0) 5466 v5) 5467 e4) x)) 2 rfl ?_
                exact am_J.leaf (fun k => am_Ev.weak (L' := [none, none]) (am_Lle.o (am_Lle.o am_Lle.nil)) k)
              · refine am_J.go 2 rfl ?_
                refine am_J.eq rfl ?_ ?_
                · refine am_J.go (cf' := (289, [some (.ref 85), some (.int v5)], [.int 4, .ref 85], hp A (up (up (up (up I 5464 (e4 + 1)) 5465 0) 5466 v5) 5467 e4) x)) 2 rfl ?_
                  exact am_J.leaf (fun k => am_Ev.weak (L' := [none, none]) (am_Lle.o (am_Lle.o am_Lle.nil)) k)
                · refine am_J.go 2 rfl ?_
                  refine am_J.eq rfl ?_ ?_
                  · refine am_J.go (cf' := (289, [some (.ref 85), some (.int v5)], [.int 4, .ref 85], hp A (up (up (up (up I 5464 (e4 + 1)) 5465 0) 5466 v5) 5467 e4) x)) 2 rfl ?_
                    exact am_J.leaf (fun k => am_Ev.weak (L' := [none, none]) (am_Lle.o (am_Lle.o am_Lle.nil)) k)
                  · refine am_J.go 2 rfl ?_
                    refine am_J.eq rfl ?_ ?_
                    · refine am_J.go (cf' := (289, [some (.ref 85), some (.int v5)], [.int 4, .ref 85], hp A (up (up (up (up I 5464 (e4 + 1)) 5465 0) 5466 v5) 5467 e4) x)) 2 rfl ?_
                      exact am_J.leaf (fun k => am_Ev.weak (L' := [none, none]) (am_Lle.o (am_Lle.o am_Lle.nil)) k)
                    · refine am_J.go 2 rfl ?_
                      refine am_J.eq rfl ?_ ?_
                      · refine am_J.go (cf' := (289, [some (.ref 85), some (.int v5)], [.int 4, .ref 85], hp A (up (up (up (up I 5464 (e4 + 1)) 5465 0) 5466 v5) 5467 e4) x)) 2 rfl ?_
                        exact am_J.leaf (fun k => am_Ev.weak (L' := [none, none]) (am_Lle.o (am_Lle.o am_Lle.nil)) k)
                      · refine am_J.go 2 rfl ?_
                        refine am_J.eq rfl ?_ ?_
                        · refine am_J.go (cf' := (289, [some (.ref 85), some (.int v5)], [.int 4, .ref 85], hp A (up (up (up (up I 5464 (e4 + 1)) 5465 0) 5466 v5) 5467 e4) x)) 2 rfl ?_
                          exact am_J.leaf (fun k => am_Ev.weak (L' := [none, none]) (am_Lle.o (am_Lle.o am_Lle.nil)) k)
                        · refine am_J.go 2 rfl ?_
                          refine am_J.ne rfl ?_ ?_
                          · refine am_J.go (cf' := (289, [some (.ref 85), some (.int v5)], [.int 4, .ref 85], hp A (up (up (up (up I 5464 (e4 + 1)) 5465 0) 5466 v5) 5467 e4) x)) 2 rfl ?_
                            exact am_J.leaf (fun k => am_Ev.weak (L' := [none, none]) (am_Lle.o (am_Lle.o am_Lle.nil)) k)
                          · refine am_J.go (cf' := (289, [some (.ref 85), some (.int v5)], [.int 5, .ref 85], hp A (up (up (up (up I 5464 (e4 + 1)) 5465 0) 5466 v5) 5467 e4) x)) 1 rfl ?_
                            exact am_J.leaf (fun k => am_Ev.weak (L' := [none, none]) (am_Lle.o (am_Lle.o am_Lle.nil)) k)
          · rintro j8
            refine am_J.go 1 rfl ?_
            exact am_J.ret rfl (fun k => k)
        · refine am_J.go (cf' := (113, [some (.ref 85), some (.int v5)], [], hp A (up (up (up (up I 5464 e4) 5465 0) 5466 0) 5467 e4) x)) 3 rfl ?_
          refine am_J.weak (L' := [some (.ref 85), none]) (am_Lle.k (am_Lle.o am_Lle.nil)) ?_
          refine am_J.loop (cl := fun q => match q with | (s9, s10) => (113, [some (.ref 85), none], [], hp A (up (up (up (up I 5464 s9) 5465 0) 5466 s10) 5467 e4) x)) (GX := fun q => match q with | (e15, e16) => am_Ev (am_ro xs) 2 mc_X12_next (197, [some (.ref 85), none], [], hp A (up (up (up (up I 5464 e15) 5465 0) 5466 e16) 5467 e4) x) r) ?_ ?_
          · rintro ⟨s9, s10⟩
            unfold f_X12_next_l2
            refine am_J.go 4 rfl ?_
            refine am_J.ge rfl ?_ ?_
            · refine am_J.go (cf' := (197, [some (.ref 85), none], [], hp A (up (up (up (up (up (up I 5464 e4) 5465 0) 5466 0) 5467 e4) 5464 s9) 5466 s10) x)) 0 rfl ?_
              exact am_J.leaf (fun k => am_Ev.weak (L' := [some (.ref 85), none]) (am_Lle.k (am_Lle.o am_Lle.nil)) k)
            · refine am_J.go 5 rfl ?_
              refine am_J.bal (xs := (A 101)) (t := 1) rfl (by decide) rfl (fun v11 => ?_)
              refine am_J.callz (v := fun r12 => r12) (h' := fun r12 => hp A (up (up (up (up (up (up I 5464 e4) 5465 0) 5466 0) 5467 e4) 5464 s9) 5466 s10) x) rfl rfl rfl (fun r12 hw => (t_X12_isDigit A (up (up (up (up (up (up I 5464 e4) 5465 0) 5466 0) 5467 e4) 5464 s9) 5466 s10) x v11 hw).mono (Nat.le_of_ble_eq_true rfl)) (fun r12 hr12 => ?_)
              refine am_J.eq rfl ?_ ?_
              · refine am_J.go (cf' := (197, [some (.ref 85), none], [], hp A (up (up (up (up (up (up I 5464 e4) 5465 0) 5466 0) 5467 e4) 5464 s9) 5466 s10) x)) 0 rfl ?_
                exact am_J.leaf (fun k => am_Ev.weak (L' := [some (.ref 85), none]) (am_Lle.k (am_Lle.o am_Lle.nil)) k)
              · refine am_J.go 7 rfl ?_
                refine am_J.join (β := Int32) (cj := fun j14 => (181, [some (.ref 85), none], [.int j14, .ref 85], hp A (up (up (up (up (up (up I 5464 e4) 5465 0) 5466 0) 5467 e4) 5464 s9) 5466 s10) x)) ?_ ?_
                · refine am_J.ge rfl ?_ ?_
                  · refine am_J.go (cf' := (181, [some (.ref 85), none], [.int s10, .ref 85], hp A (up (up (up (up (up (up I 5464 e4) 5465 0) 5466 0) 5467 e4) 5464 s9) 5466 s10) x)) 2 rfl ?_
                    exact am_J.leaf (fun k => am_Ev.weak (L' := [some (.ref 85), none]) (am_Lle.k (am_Lle.o am_Lle.nil)) k)
                  · refine am_J.go 8 rfl ?_
                    refine am_J.bal (xs := (A 101)) (t := 1) rfl (by decide) rfl (fun v13 => ?_)
                    refine am_J.go (cf' := (181, [some (.ref 85), none], [.int (((10 * s10) + v13) - 48), .ref 85], hp A (up (up (up (up (up (up I 5464 e4) 5465 0) 5466 0) 5467 e4) 5464 s9) 5466 s10) x)) 4 rfl ?_
                    exact am_J.leaf (fun k => am_Ev.weak (L' := [some (.ref 85), none]) (am_Lle.k (am_Lle.o am_Lle.nil)) k)
                · rintro j14
                  refine am_J.go (cf' := (113, [some (.ref 85), none], [], hp A (up (up (up (up (up (up I 5464 e4) 5465 0) 5466 0) 5467 e4) 5464 (s9 + 1)) 5466 j14) x)) 8 rfl ?_
                  exact am_J.leaf (fun k => am_Ev.weak (L' := [some (.ref 85), none]) (am_Lle.k (am_Lle.o am_Lle.nil)) k)
          · rintro ⟨e15, e16⟩
            refine (?_ : am_J (am_ro xs) 2 mc_X12_next r (197, [some (.ref 85), none], [], hp A (up (up (up (up I 5464 e15) 5465 0) 5466 e16) 5467 e4) x) _ _)
            refine am_J.go 7 rfl ?_
            refine am_J.join (β := Int32) (cj := fun j17 => (216, [none, none], [.int j17, .ref 85], hp A (up (up (up (up I 5464 e15) 5465 0) 5466 e16) 5467 e4) x)) ?_ ?_
            · refine am_J.le rfl ?_ ?_
              · refine am_J.go (cf' := (216, [some (.ref 85), none], [.int 1, .ref 85], hp A (up (up (up (up I 5464 e15) 5465 0) 5466 e16) 5467 e4) x)) 1 rfl ?_
                exact am_J.leaf (fun k => am_Ev.weak (L' := [none, none]) (am_Lle.o (am_Lle.o am_Lle.nil)) k)
              · refine am_J.go (cf' := (216, [some (.ref 85), none], [.int 5, .ref 85], hp A (up (up (up (up I 5464 e15) 5465 0) 5466 e16) 5467 e4) x)) 2 rfl ?_
                exact am_J.leaf (fun k => am_Ev.weak (L' := [none, none]) (am_Lle.o (am_Lle.o am_Lle.nil)) k)
            · rintro j17
              refine am_J.go 1 rfl ?_
              exact am_J.ret rfl (fun k => k)
      · refine am_J.go 1 rfl ?_
        refine am_J.calln (h' := fun r18 => hp A (up (up (up (up I 5464 r18.1) 5465 r18.2.1) 5466 r18.2.2) 5467 e4) x) rfl (fun r18 hw => (t_X12_wordToken A (up (up (up I 5464 e4) 5465 0) 5467 e4) x hw)) (fun r18 => ?_)
        exact am_J.ret rfl (fun k => k)

def f_X12_part_l1 (A : Nat → List Int32) (I : Nat → Int32) : (Int32 × Int32 × (List Int32) × (List Int32) × (List Int32) × (List Int32) × Int32 × Int32 × Int32 × Int32 × Int32 × Int32 × Int32) → Option ((Int32 × Int32 × (List Int32) × (List Int32) × (List Int32) × (List Int32) × Int32 × Int32 × Int32 × Int32 × Int32 × Int32 × Int32) ⊕ (((List Int32) × (List Int32) × (List Int32) × (List Int32) × Int32 × Int32 × Int32 × Int32 × Int32 × Int32 × Int32) ⊕ (Int32 × (List Int32) × (List Int32) × (List Int32) × (List Int32) × Int32 × Int32 × Int32 × Int32 × Int32 × Int32 × Int32))) := fun q => match q with
    | (s3, s4, s5, s6, s7, s8, s9, s10, s11, s12, s13, s14, s15) =>
    (if s3 = 0 then
      ((f_X12_isSign (up (up (up (up A 103 s5) 104 s6) 105 s7) 106 s8) (up (up (up (up (up (up (up I 5464 s9) 5465 s10) 5466 s11) 5467 s12) 5470 s13) 5471 s14) 5472 s15) 59).bind fun r16 =>
      (if r16 = 0 then
        ((f_X12_isSign (up (up (up (up A 103 s5) 104 s6) 105 s7) 106 s8) (up (up (up (up (up (up (up I 5464 s9) 5465 s10) 5466 s11) 5467 s12) 5470 s13) 5471 s14) 5472 s15) 41).bind fun r17 =>
        (if r17 = 0 then
          ((f_X12_signOf (up (up (up (up A 103 s5) 104 s6) 105 s7) 106 s8) (up (up (up (up (up (up (up I 5464 s9) 5465 s10) 5466 s11) 5467 s12) 5470 s13) 5471 s14) 5472 s15)).bind fun r18 =>
          (if r18 = 0 then
            some (.inr (.inr (0, s5, s6, s7, s8, s9, s10, s11, s12, s13, s14, s15)))
          else
            ((f_X12_rank (up (up (up (up A 103 s5) 104 s6) 105 s7) 106 s8) (up (up (up (up (up (up (up I 5464 s9) 5465 s10) 5466 s11) 5467 s12) 5470 s13) 5471 s14) 5472 s15) r18).bind fun r19 =>
            (if r19 = 4 then
              ((am_at s8 s14).bind fun v31 =>
              (if v31 = 0 then
                ((f_X12_rank (up (up (up (up A 103 s5) 104 s6) 105 s7) 106 s8) (up (up (up (up (up (up (up I 5464 s9) 5465 s10) 5466 s11) 5467 s12) 5470 s13) 5471 s14) 5472 s15) r18).bind fun r32 =>
                (((if r32 = 4 then
                    some 1
                  else
                    ((f_X12_rank (up (up (up (up A 103 s5) 104 s6) 105 s7) 106 s8) (up (up (up (up (up (up (up I 5464 s9) 5465 s10) 5466 s11) 5467 s12) 5470 s13) 5471 s14) 5472 s15) r18).bind fun r33 =>
                    (if r33 ≤ 2 then
                      some 0
                    else
                      ((am_at s8 s14).bind fun v34 =>
                      (if v34 = 0 then
                        some 0
                      else
                        some 1))))) : Option (Int32)).bind (fun j35 =>
                ((am_up s8 s14 (am_nar 2 j35)).bind fun y36 =>
                ((f_X12_rank (up (up (up (up A 103 s5) 104 s6) 105 s7) 106 y36) (up (up (up (up (up (up (up I 5464 s9) 5465 s10) 5466 s11) 5467 s12) 5470 s13) 5471 s14) 5472 s15) r18).bind fun r37 =>
                ((f_X12_settle (up (up (up (up A 103 s5) 104 s6) 105 s7) 106 y36) (up (up (up (up (up (up (up I 5464 s9) 5465 s10) 5466 s11) 5467 s12) 5470 s13) 5471 s14) 5472 s15) r37).bind fun r38 =>
                ((f_X12_hold (up (up (up (up A 103 r38.1) 104 r38.2.1) 105 s7) 106 y36) (up (up (up (up (up (up (up I 5464 s9) 5465 s10) 5466 s11) 5467 s12) 5470 r38.2.2.1) 5471 s14) 5472 r38.2.2.2) r18).bind fun r39 =>
                ((f_X12_rank (up (up (up (up A 103 r38.1) 104 r38.2.1) 105 r39.1) 106 y36) (up (up (up (up (up (up (up I 5464 s9) 5465 s10) 5466 s11) 5467 s12) 5470 r39.2.1) 5471 s14) 5472 r39.2.2) r18).bind fun r40 =>
                (((if 3 ≤ r40 then
                    some 0
                  else
                    some 1) : Option (Int32)).bind (fun j41 =>
                ((f_X12_next (up (up (up (up A 103 r38.1) 104 r38.2.1) 105 r39.1) 106 y36) (up (up (up (up (up (up (up I 5464 s9) 5465 s10) 5466 s11) 5467 s12) 5470 r39.2.1) 5471 s14) 5472 r39.2.2)).bind fun r42 =>
                some (.inl (1, j41, r38.1, r38.2.1, r39.1, y36, r42.1, r42.2.1, r42.2.2.1, r42.2.2.2, r39.2.1, s14, r39.2.2)))))))))))))
              else
                some (.inr (.inr (0, s5, s6, s7, s8, s9, s10, s11, s12, s13, s14, s15)))))
            else
              ((f_X12_rank (up (up (up (up A 103 s5) 104 s6) 105 s7) 106 s8) (up (up (up (up (up (up (up I 5464 s9) 5465 s10) 5466 s11) 5467 s12) 5470 s13) 5471 s14) 5472 s15) r18).bind fun r20 =>
              (((if r20 = 4 then
                  some 1
                else
                  ((f_X12_rank (up (up (up (up A 103 s5) 104 s6) 105 s7) 106 s8) (up (up (up (up (up (up (up I 5464 s9) 5465 s10) 5466 s11) 5467 s12) 5470 s13) 5471 s14) 5472 s15) r18).bind fun r21 =>
                  (if r21 ≤ 2 then
                    some 0
                  else
                    ((am_at s8 s14).bind fun v22 =>
                    (if v22 = 0 then
                      some 0
                    else
                      some 1))))) : Option (Int32)).bind (fun j23 =>
              ((am_up s8 s14 (am_nar 2 j23)).bind fun y24 =>
              ((f_X12_rank (up (up (up (up A 103 s5) 104 s6) 105 s7) 106 y24) (up (up (up (up (up (up (up I 5464 s9) 5465 s10) 5466 s11) 5467 s12) 5470 s13) 5471 s14) 5472 s15) r18).bind fun r25 =>
              ((f_X12_settle (up (up (up (up A 103 s5) 104 s6) 105 s7) 106 y24) (up (up (up (up (up (up (up I 5464 s9) 5465 s10) 5466 s11) 5467 s12) 5470 s13) 5471 s14) 5472 s15) r25).bind fun r26 =>
              ((f_X12_hold (up (up (up (up A 103 r26.1) 104 r26.2.1) 105 s7) 106 y24) (up (up (up (up (up (up (up I 5464 s9) 5465 s10) 5466 s11) 5467 s12) 5470 r26.2.2.1) 5471 s14) 5472 r26.2.2.2) r18).bind fun r27 =>
              ((f_X12_rank (up (up (up (up A 103 r26.1) 104 r26.2.1) 105 r27.1) 106 y24) (up (up (up (up (up (up (up I 5464 s9) 5465 s10) 5466 s11) 5467 s12) 5470 r27.2.1) 5471 s14) 5472 r27.2.2) r18).bind fun r28 =>
              (((if 3 ≤ r28 then
                  some 0
                else
                  some 1) : Option (Int32)).bind (fun j29 =>
              ((f_X12_next (up (up (up (up A 103 r26.1) 104 r26.2.1) 105 r27.1) 106 y24) (up (up (up (up (up (up (up I 5464 s9) 5465 s10) 5466 s11) 5467 s12) 5470 r27.2.1) 5471 s14) 5472 r27.2.2)).bind fun r30 =>
              some (.inl (1, j29, r26.1, r26.2.1, r27.1, y24, r30.1, r30.2.1, r30.2.2.1, r30.2.2.2, r27.2.1, s14, r27.2.2)))))))))))))))))
        else
          (if s14 = 0 then
            some (.inr (.inr (0, s5, s6, s7, s8, s9, s10, s11, s12, s13, s14, s15)))
          else
            ((f_X12_settle (up (up (up (up A 103 s5) 104 s6) 105 s7) 106 s8) (up (up (up (up (up (up (up I 5464 s9) 5465 s10) 5466 s11) 5467 s12) 5470 s13) 5471 s14) 5472 s15) 1).bind fun r43 =>
            ((f_X12_settle (up (up (up (up A 103 r43.1) 104 r43.2.1) 105 s7) 106 s8) (up (up (up (up (up (up (up I 5464 s9) 5465 s10) 5466 s11) 5467 s12) 5470 (r43.2.2.1 - 1)) 5471 (s14 - 1)) 5472 (r43.2.2.2 - 1)) 7).bind fun r44 =>
            ((f_X12_next (up (up (up (up A 103 r44.1) 104 r44.2.1) 105 s7) 106 s8) (up (up (up (up (up (up (up I 5464 s9) 5465 s10) 5466 s11) 5467 s12) 5470 r44.2.2.1) 5471 (s14 - 1)) 5472 r44.2.2.2)).bind fun r45 =>
            some (.inl (s3, s4, r44.1, r44.2.1, s7, s8, r45.1, r45.2.1, r45.2.2.1, r45.2.2.2, r44.2.2.1, (s14 - 1), r44.2.2.2))))))))
      else
        some (.inr (.inl (s5, s6, s7, s8, s9, s10, s11, s12, s13, s14, s15)))))
    else
      ((f_X12_ahead (up (up (up (up A 103 s5) 104 s6) 105 s7) 106 s8) (up (up (up (up (up (up (up I 5464 s9) 5465 s10) 5466 s11) 5467 s12) 5470 s13) 5471 s14) 5472 s15) s4).bind fun r46 =>
      (if r46 = 0 then
        some (.inr (.inr (0, s5, s6, s7, s8, s9, s10, s11, s12, s13, s14, s15)))
      else
        ((f_X12_isKey (up (up (up (up A 103 s5) 104 s6) 105 s7) 106 s8) (up (up (up (up (up (up (up I 5464 s9) 5465 s10) 5466 s11) 5467 s12) 5470 s13) 5471 s14) 5472 s15) 4).bind fun r47 =>
        (((if r47 = 0 then
            ((f_X12_isSign (up (up (up (up A 103 s5) 104 s6) 105 s7) 106 s8) (up (up (up (up (up (up (up I 5464 s9) 5465 s10) 5466 s11) 5467 s12) 5470 s13) 5471 s14) 5472 s15) 45).bind fun r48 =>
            (if r48 = 0 then
              ((f_X12_isSign (up (up (up (up A 103 s5) 104 s6) 105 s7) 106 s8) (up (up (up (up (up (up (up I 5464 s9) 5465 s10) 5466 s11) 5467 s12) 5470 s13) 5471 s14) 5472 s15) 40).bind fun r49 =>
              (if r49 = 0 then
                (((if s10 = 1 then
                    some s11
                  else
                    some (10000 + s11)) : Option (Int32)).bind (fun j50 =>
                ((f_X12_put (up (up (up (up A 103 s5) 104 s6) 105 s7) 106 s8) (up (up (up (up (up (up (up I 5464 s9) 5465 s10) 5466 s11) 5467 s12) 5470 s13) 5471 s14) 5472 s15) j50).bind fun r51 =>
                ((f_X12_settle (up (up (up (up A 103 r51.1) 104 r51.2) 105 s7) 106 s8) (up (up (up (up (up (up (up I 5464 s9) 5465 s10) 5466 s11) 5467 s12) 5470 s13) 5471 s14) 5472 s15) 7).bind fun r52 =>
                some (0, s4, r52.1, r52.2.1, s7, s8, r52.2.2.1, s14, r52.2.2.2)))))
              else
                ((f_X12_hold (up (up (up (up A 103 s5) 104 s6) 105 s7) 106 s8) (up (up (up (up (up (up (up I 5464 s9) 5465 s10) 5466 s11) 5467 s12) 5470 s13) 5471 s14) 5472 s15) (-10)).bind fun r53 =>
                ((am_up s8 (s14 + 1) (am_nar 2 0)).bind fun y54 =>
                some (s3, 1, s5, s6, r53.1, y54, r53.2.1, (s14 + 1), r53.2.2)))))
            else
              ((f_X12_hold (up (up (up (up A 103 s5) 104 s6) 105 s7) 106 s8) (up (up (up (up (up (up (up I 5464 s9) 5465 s10) 5466 s11) 5467 s12) 5470 s13) 5471 s14) 5472 s15) (-9)).bind fun r55 =>
              some (s3, 0, s5, s6, r55.1, s8, r55.2.1, s14, r55.2.2))))
          else
            ((f_X12_hold (up (up (up (up A 103 s5) 104 s6) 105 s7) 106 s8) (up (up (up (up (up (up (up I 5464 s9) 5465 s10) 5466 s11) 5467 s12) 5470 s13) 5471 s14) 5472 s15) (-3)).bind fun r56 =>
            some (s3, s4, s5, s6, r56.1, s8, r56.2.1, s14, r56.2.2))) : Option (Int32 × Int32 × (List Int32) × (List Int32) × (List Int32) × (List Int32) × Int32 × Int32 × Int32)).bind (fun q => match q with
        | (j57, j58, j59, j60, j61, j62, j63, j64, j65) =>
        ((f_X12_next (up (up (up (up A 103 j59) 104 j60) 105 j61) 106 j62) (up (up (up (up (up (up (up I 5464 s9) 5465 s10) 5466 s11) 5467 s12) 5470 j63) 5471 j64) 5472 j65)).bind fun r66 =>
        some (.inl (j57, j58, j59, j60, j61, j62, r66.1, r66.2.1, r66.2.2.1, r66.2.2.2, j63, j64, j65)))))))))
def f_X12_part (A : Nat → List Int32) (I : Nat → Int32) : Option (Int32 × (List Int32) × (List Int32) × (List Int32) × (List Int32) × Int32 × Int32 × Int32 × Int32 × Int32 × Int32 × Int32) :=
  ((am_up (A 103) (I 5473) 0).bind fun y1 =>
  ((am_up (A 106) 0 (am_nar 2 0)).bind fun y2 =>
  ((wl (f_X12_part_l1 (up (up A 103 y1) 106 y2) (up (up (up I 5470 0) 5471 0) 5472 0)) 100000 (1, 1, y1, (A 104), (A 105), y2, (I 5464), (I 5465), (I 5466), (I 5467), 0, 0, 0)).bind (fun q => match q with
  | .inl (e67, e68, e69, e70, e71, e72, e73, e74, e75, e76, e77) =>
  ((f_X12_settle (up (up (up (up A 103 e67) 104 e68) 105 e69) 106 e70) (up (up (up (up (up (up (up I 5464 e71) 5465 e72) 5466 e73) 5467 e74) 5470 e75) 5471 e76) 5472 e77) 1).bind fun r78 =>
  (if e76 = 0 then
    some (1, r78.1, r78.2.1, e69, e70, e71, e72, e73, e74, r78.2.2.1, e76, r78.2.2.2)
  else
    some (0, r78.1, r78.2.1, e69, e70, e71, e72, e73, e74, r78.2.2.1, e76, r78.2.2.2)))
  | .inr v => some v))))
set_option maxRecDepth 100000 in
set_option maxHeartbeats 4000000 in
theorem t_X12_part {xs : List Int32} (A : Nat → List Int32) (I : Nat → Int32) (x : am_X) {z : Int32 × (List Int32) × (List Int32) × (List Int32) × (List Int32) × Int32 × Int32 × Int32 × Int32 × Int32 × Int32 × Int32} (hz : f_X12_part A I = some z) : am_Rt (am_ro xs) 4 ix_X12_part [.ref 85] (hp A I x) (some (.int z.1), hp (up (up (up (up A 103 z.2.1) 104 z.2.2.1) 105 z.2.2.2.1) 106 z.2.2.2.2.1) (up (up (up (up (up (up (up I 5464 z.2.2.2.2.2.1) 5465 z.2.2.2.2.2.2.1) 5466 z.2.2.2.2.2.2.2.1) 5467 z.2.2.2.2.2.2.2.2.1) 5470 z.2.2.2.2.2.2.2.2.2.1) 5471 z.2.2.2.2.2.2.2.2.2.2.1) 5472 z.2.2.2.2.2.2.2.2.2.2.2) x) := by
  refine am_Rt.J (k := ix_X12_part) (M := mc_X12_part) (nL := 4) (d := 3) (as := [.ref 85]) (res := fun z => (some (.int z.1), hp (up (up (up (up A 103 z.2.1) 104 z.2.2.1) 105 z.2.2.2.1) 106 z.2.2.2.2.1) (up (up (up (up (up (up (up I 5464 z.2.2.2.2.2.1) 5465 z.2.2.2.2.2.2.1) 5466 z.2.2.2.2.2.2.2.1) 5467 z.2.2.2.2.2.2.2.2.1) 5470 z.2.2.2.2.2.2.2.2.2.1) 5471 z.2.2.2.2.2.2.2.2.2.2.1) 5472 z.2.2.2.2.2.2.2.2.2.2.2) x)) rfl (Nat.le_of_ble_eq_true rfl) (fun r => ?_) hz
  unfold f_X12_part
  refine am_J.go 14 rfl ?_
  refine am_J.ias (xs := (A 103)) (h' := fun y1 => hp (up A 103 y1) (up (up (up I 5470 0) 5471 0) 5472 0) x) rfl rfl (fun _ => rfl) (fun y1 => ?_)
  refine am_J.go 4 rfl ?_
  refine am_J.bas (xs := (A 106)) (t := 2) (h' := fun y2 => hp (up (up A 103 y1) 106 y2) (up (up (up I 5470 0) 5471 0) 5472 0) x) rfl (by decide) rfl (fun _ => rfl) (fun y2 => ?_)
  refine am_J.go (cf' := (36, [some (.ref 85), some (.int 1), some (.int 1), none], [], hp (up (up A 103 y1) 106 y2) (up (up (up I 5470 0) 5471 0) 5472 0) x)) 4 rfl ?_
  refine am_J.weak (L' := [some (.ref 85), some (.int 1), some (.int 1), none]) (am_Lle.k (am_Lle.k (am_Lle.k (am_Lle.o am_Lle.nil)))) ?_
  refine am_J.loop (cl := fun q => match q with | (s3, s4, s5, s6, s7, s8, s9, s10, s11, s12, s13, s14, s15) => (36, [some (.ref 85), some (.int s3), some (.int s4), none], [], hp (up (up (up (up A 103 s5) 104 s6) 105 s7) 106 s8) (up (up (up (up (up (up (up I 5464 s9) 5465 s10) 5466 s11) 5467 s12) 5470 s13) 5471 s14) 5472 s15) x)) (GX := fun q => Sum.elim (fun q => match q with | (e67, e68, e69, e70, e71, e72, e73, e74, e75, e76, e77) => am_Ev (am_ro xs) 3 mc_X12_part (178, [some (.ref 85), none, none, none], [], hp (up (up (up (up A 103 e67) 104 e68) 105 e69) 106 e70) (up (up (up (up (up (up (up I 5464 e71) 5465 e72) 5466 e73) 5467 e74) 5470 e75) 5471 e76) 5472 e77) x) r) (fun (z : Int32 × (List Int32) × (List Int32) × (List Int32) × (List Int32) × Int32 × Int32 × Int32 × Int32 × Int32 × Int32 × Int32) => r = (some (.int z.1), hp (up (up (up (up A 103 z.2.1) 104 z.2.2.1) 105 z.2.2.2.1) 106 z.2.2.2.2.1) (up (up (up (up (up (up (up I 5464 z.2.2.2.2.2.1) 5465 z.2.2.2.2.2.2.1) 5466 z.2.2.2.2.2.2.2.1) 5467 z.2.2.2.2.2.2.2.2.1) 5470 z.2.2.2.2.2.2.2.2.2.1) 5471 z.2.2.2.2.2.2.2.2.2.2.1) 5472 z.2.2.2.2.2.2.2.2.2.2.2) x)) q) ?_ ?_
  · rintro ⟨s3, s4, s5, s6, s7, s8, s9, s10, s11, s12, s13, s14, s15⟩
    unfold f_X12_part_l1
    refine am_J.go 1 rfl ?_
    refine am_J.eq rfl ?_ ?_
    · refine am_J.go 2 rfl ?_
      refine am_J.callz (v := fun r16 => r16) (h' := fun r16 => hp (up (up (up (up (up (up A 103 y1) 106 y2) 103 s5) 104 s6) 105 s7) 106 s8) (up (up (up (up (up (up (up (up (up (up I 5470 0) 5471 0) 5472 0) 5464 s9) 5465 s10) 5466 s11) 5467 s12) 5470 s13) 5471 s14) 5472 s15) x) rfl rfl rfl (fun r16 hw => (t_X12_isSign (up (up (up (up (up (up A 103 y1) 106 y2) 103 s5) 104 s6) 105 s7) 106 s8) (up (up (up (up (up (up (up (up (up (up I 5470 0) 5471 0) 5472 0) 5464 s9) 5465 s10) 5466 s11) 5467 s12) 5470 s13) 5471 s14) 5472 s15) x 59 hw).mono (Nat.le_of_ble_eq_true rfl)) (fun r16 hr16 => ?_)
      refine am_J.eq rfl ?_ ?_
      · refine am_J.go 2 rfl ?_
        refine am_J.callz (v := fun r17 => r17) (h' := fun r17 => hp (up (up (up (up (up (up A 103 y1) 106 y2) 103 s5) 104 s6) 105 s7) 106 s8) (up (up (up (up (up (up (up (up (up (up I 5470 0) 5471 0) 5472 0) 5464 s9) 5465 s10) 5466 s11) 5467 s12) 5470 s13) 5471 s14) 5472 s15) x) rfl rfl rfl (fun r17 hw => (t_X12_isSign (up (up (up (up (up (up A 103 y1) 106 y2) 103 s5) 104 s6) 105 s7) 106 s8) (up (up (up (up (up (up (up (up (up (up I 5470 0) 5471 0) 5472 0) 5464 s9) 5465 s10) 5466 s11) 5467 s12) 5470 s13) 5471 s14) 5472 s15) x 41 hw).mono (Nat.le_of_ble_eq_true rfl)) (fun r17 hr17 => ?_)
        refine am_J.eq rfl ?_ ?_
        · refine am_J.go 1 rfl ?_
          refine am_J.call (v := fun r18 => .int r18) (h' := fun r18 => hp (up (up (up (up (up (up A 103 y1) 106 y2) 103 s5) 104 s6) 105 s7) 106 s8) (up (up (up (up (up (up (up (up (up (up I 5470 0) 5471 0) 5472 0) 5464 s9) 5465 s10) 5466 s11) 5467 s12) 5470 s13) 5471 s14) 5472 s15) x) rfl (fun r18 hw => (t_X12_signOf (up (up (up (up (up (up A 103 y1) 106 y2) 103 s5) 104 s6) 105 s7) 106 s8) (up (up (up (up (up (up (up (up (up (up I 5470 0) 5471 0) 5472 0) 5464 s9) 5465 s10) 5466 s11) 5467 s12) 5470 s13) 5471 s14) 5472 s15) x hw).mono (Nat.le_of_ble_eq_true rfl)) (fun r18 => ?_)
          refine am_J.go 2 rfl ?_
          refine am_J.eq rfl ?_ ?_
          · refine am_J.go 1 rfl ?_
            exact am_J.retz rfl (Or.inl rfl) (fun k => k)
          · refine am_J.go 2 rfl ?_
            refine am_J.call (v := fun r19 => .int r19) (h' := fun r19 => hp (up (up (up (up (up (up A 103 y1) 106 y2) 103 s5) 104 s6) 105 s7) 106 s8) (up (up (up (up (up (up (up (up (up (up I 5470 0) 5471 0) 5472 0) 5464 s9) 5465 s10) 5466 s11) 5467 s12) 5470 s13) 5471 s14) 5472 s15) x) rfl (fun r19 hw => (t_X12_rank (up (up (up (up (up (up A 103 y1) 106 y2) 103 s5) 104 s6) 105 s7) 106 s8) (up (up (up (up (up (up (up (up (up (up I 5470 0) 5471 0) 5472 0) 5464 s9) 5465 s10) 5466 s11) 5467 s12) 5470 s13) 5471 s14) 5472 s15) x r18 hw).mono (Nat.le_of_ble_eq_true rfl)) (fun r19 => ?_)
            refine am_J.go 1 rfl ?_
            refine am_J.ne rfl ?_ ?_
            · refine am_J.go 4 rfl ?_
              refine am_J.bal (xs := s8) (t := 2) rfl (by decide) rfl (fun v31 => ?_)
              refine am_J.eq rfl ?_ ?_
              · refine am_J.go 6 rfl ?_
                refine am_J.call (v := fun r32 => .int r32) (h' := fun r32 => hp (up (up (up (up (up (up A 103 y1) 106 y2) 103 s5) 104 s6) 105 s7) 106 s8) (up (up (up (up (up (up (up (up (up (up I 5470 0) 5471 0) 5472 0) 5464 s9) 5465 s10) 5466 s11) 5467 s12) 5470 s13) 5471 s14) 5472 s15) x) rfl (fun r32 hw => (t_X12_rank (up (up (up (up (up (up A 103 y1) 106 y2) 103 s5) 104 s6) 105 s7) 106 s8) (up (up (up (up (up (up (up (up (up (up I 5470 0) 5471 0) 5472 0) 5464 s9) 5465 s10) 5466 s11) 5467 s12) 5470 s13) 5471 s14) 5472 s15) x r18 hw).mono (Nat.le_of_ble_eq_true rfl)) (fun r32 => ?_)
                refine am_J.go 1 rfl ?_
                refine am_J.join (β := Int32) (cj := fun j35 => (337, [some (.ref 85), none, none, some (.int r18)], [.int j35, .int s14, .ref 106], hp (up (up (up (up (up (up A 103 y1) 106 y2) 103 s5) 104 s6) 105 s7) 106 s8) (up (up (up (up (up (up (up (up (up (up I 5470 0) 5471 0) 5472 0) 5464 s9) 5465 s10) 5466 s11) 5467 s12) 5470 s13) 5471 s14) 5472 s15) x)) ?_ ?_
                · refine am_J.eq rfl ?_ ?_
                  · refine am_J.go (cf' := (337, [some (.ref 85), some (.int s3), some (.int s4), some (.int r18)], [.int 1, .int s14, .ref 106], hp (up (up (up (up (up (up A 103 y1) 106 y2) 103 s5) 104 s6) 105 s7) 106 s8) (up (up (up (up (up (up (up (up (up (up I 5470 0) 5471 0) 5472 0) 5464 s9) 5465 s10) 5466 s11) 5467 s12) 5470 s13) 5471 s14) 5472 s15) x)) 2 rfl ?_
                    exact am_J.leaf (fun k => am_Ev.weak (L' := [some (.ref 85), none, none, some (.int r18)]) (am_Lle.k (am_Lle.o (am_Lle.o (am_Lle.k am_Lle.nil)))) k)
                  · refine am_J.go 2 rfl ?_
                    refine am_J.call (v := fun r33 => .int r33) (h' := fun r33 => hp (up (up (up (up (up (up A 103 y1) 106 y2) 103 s5) 104 s6) 105 s7) 106 s8) (up (up (up (up (up (up (up (up (up (up I 5470 0) 5471 0) 5472 0) 5464 s9) 5465 s10) 5466 s11) 5467 s12) 5470 s13) 5471 s14) 5472 s15) x) rfl (fun r33 hw => (t_X12_rank (up (up (up (up (up (up A 103 y1) 106 y2) 103 s5) 104 s6) 105 s7) 106 s8) (up (up (up (up (up (up (up (up (up (up I 5470 0) 5471 0) 5472 0) 5464 s9) 5465 s10) 5466 s11) 5467 s12) 5470 s13) 5471 s14) 5472 s15) x r18 hw).mono (Nat.le_of_ble_eq_true rfl)) (fun r33 => ?_)
                    refine am_J.go 1 rfl ?_
                    refine am_J.le rfl ?_ ?_
                    · refine am_J.go (cf' := (337, [some (.ref 85), some (.int s3), some (.int s4), some (.int r18)], [.int 0, .int s14, .ref 106], hp (up (up (up (up (up (up A 103 y1) 106 y2) 103 s5) 104 s6) 105 s7) 106 s8) (up (up (up (up (up (up (up (up (up (up I 5470 0) 5471 0) 5472 0) 5464 s9) 5465 s10) 5466 s11) 5467 s12) 5470 s13) 5471 s14) 5472 s15) x)) 1 rfl ?_
                      exact am_J.leaf (fun k => am_Ev.weak (L' := [some (.ref 85), none, none, some (.int r18)]) (am_Lle.k (am_Lle.o (am_Lle.o (am_Lle.k am_Lle.nil)))) k)
                    · refine am_J.go 4 rfl ?_
                      refine am_J.bal (xs := s8) (t := 2) rfl (by decide) rfl (fun v34 => ?_)
                      refine am_J.eq rfl ?_ ?_
                      · refine am_J.go (cf' := (337, [some (.ref 85), some (.int s3), some (.int s4), some (.int r18)], [.int 0, .int s14, .ref 106], hp (up (up (up (up (up (up A 103 y1) 106 y2) 103 s5) 104 s6) 105 s7) 106 s8) (up (up (up (up (up (up (up (up (up (up I 5470 0) 5471 0) 5472 0) 5464 s9) 5465 s10) 5466 s11) 5467 s12) 5470 s13) 5471 s14) 5472 s15) x)) 1 rfl ?_
                        exact am_J.leaf (fun k => am_Ev.weak (L' := [some (.ref 85), none, none, some (.int r18)]) (am_Lle.k (am_Lle.o (am_Lle.o (am_Lle.k am_Lle.nil)))) k)
                      · refine am_J.go (cf' := (337, [some (.ref 85), some (.int s3), some (.int s4), some (.int r18)], [.int 1, .int s14, .ref 106], hp (up (up (up (up (up (up A 103 y1) 106 y2) 103 s5) 104 s6) 105 s7) 106 s8) (up (up (up (up (up (up (up (up (up (up I 5470 0) 5471 0) 5472 0) 5464 s9) 5465 s10) 5466 s11) 5467 s12) 5470 s13) 5471 s14) 5472 s15) x)) 2 rfl ?_
                        exact am_J.leaf (fun k => am_Ev.weak (L' := [some (.ref 85), none, none, some (.int r18)]) (am_Lle.k (am_Lle.o (am_Lle.o (am_Lle.k am_Lle.nil)))) k)
                · rintro j35
                  refine am_J.bas (xs := s8) (t := 2) (h' := fun y36 => hp (up (up (up (up (up (up A 103 y1) 106 y2) 103 s5) 104 s6) 105 s7) 106 y36) (up (up (up (up (up (up (up (up (up (up I 5470 0) 5471 0) 5472 0) 5464 s9) 5465 s10) 5466 s11) 5467 s12) 5470 s13) 5471 s14) 5472 s15) x) rfl (by decide) rfl (fun _ => rfl) (fun y36 => ?_)
                  refine am_J.go 3 rfl ?_
                  refine am_J.call (v := fun r37 => .int r37) (h' := fun r37 => hp (up (up (up (up (up (up A 103 y1) 106 y2) 103 s5) 104 s6) 105 s7) 106 y36) (up (up (up (up (up (up (up (up (up (up I 5470 0) 5471 0) 5472 0) 5464 s9) 5465 s10) 5466 s11) 5467 s12) 5470 s13) 5471 s14) 5472 s15) x) rfl (fun r37 hw => (t_X12_rank (up (up (up (up (up (up A 103 y1) 106 y2) 103 s5) 104 s6) 105 s7) 106 y36) (up (up (up (up (up (up (up (up (up (up I 5470 0) 5471 0) 5472 0) 5464 s9) 5465 s10) 5466 s11) 5467 s12) 5470 s13) 5471 s14) 5472 s15) x r18 hw).mono (Nat.le_of_ble_eq_true rfl)) (fun r37 => ?_)
                  refine am_J.calln (h' := fun r38 => hp (up (up (up (up (up (up A 103 y1) 106 y2) 103 r38.1) 104 r38.2.1) 105 s7) 106 y36) (up (up (up (up (up (up (up (up (up (up I 5470 0) 5471 0) 5472 0) 5464 s9) 5465 s10) 5466 s11) 5467 s12) 5470 r38.2.2.1) 5471 s14) 5472 r38.2.2.2) x) rfl (fun r38 hw => (t_X12_settle (up (up (up (up (up (up A 103 y1) 106 y2) 103 s5) 104 s6) 105 s7) 106 y36) (up (up (up (up (up (up (up (up (up (up I 5470 0) 5471 0) 5472 0) 5464 s9) 5465 s10) 5466 s11) 5467 s12) 5470 s13) 5471 s14) 5472 s15) x r37 hw).mono (Nat.le_of_ble_eq_true rfl)) (fun r38 => ?_)
                  refine am_J.go 2 rfl ?_
                  refine am_J.calln (h' := fun r39 => hp (up (up (up (up (up (up A 103 y1) 106 y2) 103 r38.1) 104 r38.2.1) 105 r39.1) 106 y36) (up (up (up (up (up (up (up (up (up (up I 5470 0) 5471 0) 5472 0) 5464 s9) 5465 s10) 5466 s11) 5467 s12) 5470 r39.2.1) 5471 s14) 5472 r39.2.2) x) rfl (fun r39 hw => (t_X12_hold (up (up (up (up (up (up A 103 y1) 106 y2) 103 r38.1) 104 r38.2.1) 105 s7) 106 y36) (up (up (up (up (up (up (up (up (up (up I 5470 0) 5471 0) 5472 0) 5464 s9) 5465 s10) 5466 s11) 5467 s12) 5470 r38.2.2.1) 5471 s14) 5472 r38.2.2.2) x r18 hw).mono (Nat.le_of_ble_eq_true rfl)) (fun r39 => ?_)
                  refine am_J.go 4 rfl ?_
                  refine am_J.call (v := fun r40 => .int r40) (h' := fun r40 => hp (up (up (up (up (up (up A 103 y1) 106 y2) 103 r38.1) 104 r38.2.1) 105 r39.1) 106 y36) (up (up (up (up (up (up (up (up (up (up I 5470 0) 5471 0) 5472 0) 5464 s9) 5465 s10) 5466 s11) 5467 s12) 5470 r39.2.1) 5471 s14) 5472 r39.2.2) x) rfl (fun r40 hw => (t_X12_rank (up (up (up (up (up (up A 103 y1) 106 y2) 103 r38.1) 104 r38.2.1) 105 r39.1) 106 y36) (up (up (up (up (up (up (up (up (up (up I 5470 0) 5471 0) 5472 0) 5464 s9) 5465 s10) 5466 s11) 5467 s12) 5470 r39.2.1) 5471 s14) 5472 r39.2.2) x r18 hw).mono (Nat.le_of_ble_eq_true rfl)) (fun r40 => ?_)
                  refine am_J.go 1 rfl ?_
                  refine am_J.join (β := Int32) (cj := fun j41 => (368, [some (.ref 85), some (.int 1), none, none], [.int j41], hp (up (up (up (up (up (up A 103 y1) 106 y2) 103 r38.1) 104 r38.2.1) 105 r39.1) 106 y36) (up (up (up (up (up (up (up (up (up (up I 5470 0) 5471 0) 5472 0) 5464 s9) 5465 s10) 5466 s11) 5467 s12) 5470 r39.2.1) 5471 s14) 5472 r39.2.2) x)) ?_ ?_
                  · refine am_J.ge rfl ?_ ?_
                    · refine am_J.go (cf' := (368, [some (.ref 85), some (.int 1), none, some (.int r18)], [.int 0], hp (up (up (up (up (up (up A 103 y1) 106 y2) 103 r38.1) 104 r38.2.1) 105 r39.1) 106 y36) (up (up (up (up (up (up (up (up (up (up I 5470 0) 5471 0) 5472 0) 5464 s9) 5465 s10) 5466 s11) 5467 s12) 5470 r39.2.1) 5471 s14) 5472 r39.2.2) x)) 1 rfl ?_
                      exact am_J.leaf (fun k => am_Ev.weak (L' := [some (.ref 85), some (.int 1), none, none]) (am_Lle.k (am_Lle.k (am_Lle.o (am_Lle.o am_Lle.nil)))) k)
                    · refine am_J.go (cf' := (368, [some (.ref 85), some (.int 1), none, some (.int r18)], [.int 1], hp (up (up (up (up (up (up A 103 y1) 106 y2) 103 r38.1) 104 r38.2.1) 105 r39.1) 106 y36) (up (up (up (up (up (up (up (up (up (up I 5470 0) 5471 0) 5472 0) 5464 s9) 5465 s10) 5466 s11) 5467 s12) 5470 r39.2.1) 5471 s14) 5472 r39.2.2) x)) 2 rfl ?_
                      exact am_J.leaf (fun k => am_Ev.weak (L' := [some (.ref 85), some (.int 1), none, none]) (am_Lle.k (am_Lle.k (am_Lle.o (am_Lle.o am_Lle.nil)))) k)
                  · rintro j41
                    refine am_J.go 2 rfl ?_
                    refine am_J.calln (h' := fun r42 => hp (up (up (up (up (up (up A 103 y1) 106 y2) 103 r38.1) 104 r38.2.1) 105 r39.1) 106 y36) (up (up (up (up (up (up (up (up (up (up I 5470 0) 5471 0) 5472 0) 5464 r42.1) 5465 r42.2.1) 5466 r42.2.2.1) 5467 r42.2.2.2) 5470 r39.2.1) 5471 s14) 5472 r39.2.2) x) rfl (fun r42 hw => (t_X12_next (up (up (up (up (up (up A 103 y1) 106 y2) 103 r38.1) 104 r38.2.1) 105 r39.1) 106 y36) (up (up (up (up (up (up (up (up (up (up I 5470 0) 5471 0) 5472 0) 5464 s9) 5465 s10) 5466 s11) 5467 s12) 5470 r39.2.1) 5471 s14) 5472 r39.2.2) x hw)) (fun r42 => ?_)
                    refine am_J.go (cf' := (36, [some (.ref 85), some (.int 1), some (.int j41), none], [], hp (up (up (up (up (up (up A 103 y1) 106 y2) 103 r38.1) 104 r38.2.1) 105 r39.1) 106 y36) (up (up (up (up (up (up (up (up (up (up I 5470 0) 5471 0) 5472 0) 5464 r42.1) 5465 r42.2.1) 5466 r42.2.2.1) 5467 r42.2.2.2) 5470 r39.2.1) 5471 s14) 5472 r39.2.2) x)) 1 rfl ?_
                    exact am_J.leaf (fun k => am_Ev.weak (L' := [some (.ref 85), some (.int 1), some (.int j41), none]) (am_Lle.k (am_Lle.k (am_Lle.k (am_Lle.o am_Lle.nil)))) k)
              · refine am_J.go 1 rfl ?_
                exact am_J.retz rfl (Or.inl rfl) (fun k => k)
            · refine am_J.go 6 rfl ?_
              refine am_J.call (v := fun r20 => .int r20) (h' := fun r20 => hp (up (up (up (up (up (up A 103 y1) 106 y2) 103 s5) 104 s6) 105 s7) 106 s8) (up (up (up (up (up (up (up (up (up (up I 5470 0) 5471 0) 5472 0) 5464 s9) 5465 s10) 5466 s11) 5467 s12) 5470 s13) 5471 s14) 5472 s15) x) rfl (fun r20 hw => (t_X12_rank (up (up (up (up (up (up A 103 y1) 106 y2) 103 s5) 104 s6) 105 s7) 106 s8) (up (up (up (up (up (up (up (up (up (up I 5470 0) 5471 0) 5472 0) 5464 s9) 5465 s10) 5466 s11) 5467 s12) 5470 s13) 5471 s14) 5472 s15) x r18 hw).mono (Nat.le_of_ble_eq_true rfl)) (fun r20 => ?_)
              refine am_J.go 1 rfl ?_
              refine am_J.join (β := Int32) (cj := fun j23 => (337, [some (.ref 85), none, none, some (.int r18)], [.int j23, .int s14, .ref 106], hp (up (up (up (up (up (up A 103 y1) 106 y2) 103 s5) 104 s6) 105 s7) 106 s8) (up (up (up (up (up (up (up (up (up (up I 5470 0) 5471 0) 5472 0) 5464 s9) 5465 s10) 5466 s11) 5467 s12) 5470 s13) 5471 s14) 5472 s15) x)) ?_ ?_
              · refine am_J.eq rfl ?_ ?_
                · refine am_J.go (cf' := (337, [some (.ref 85), some (.int s3), some (.int s4), some (.int r18)], [.int 1, .int s14, .ref 106], hp (up (up (up (up (up (up A 103 y1) 106 y2) 103 s5) 104 s6) 105 s7) 106 s8) (up (up (up (up (up (up (up (up (up (up I 5470 0) 5471 0) 5472 0) 5464 s9) 5465 s10) 5466 s11) 5467 s12) 5470 s13) 5471 s14) 5472 s15) x)) 2 rfl ?_
                  exact am_J.leaf (fun k => am_Ev.weak (L' := [some (.ref 85), none, none, some (.int r18)]) (am_Lle.k (am_Lle.o (am_Lle.o (am_Lle.k am_Lle.nil)))) k)
                · refine am_J.go 2 rfl ?_
                  refine am_J.call (v := fun r21 => .int r21) (h' := fun r21 => hp (up (up (up (up (up (up A 103 y1) 106 y2) 103 s5) 104 s6) 105 s7) 106 s8) (up (up (up (up (up (up (up (up (up (up I 5470 0) 5471 0) 5472 0) 5464 s9) 5465 s10) 5466 s11) 5467 s12) 5470 s13) 5471 s14) 5472 s15) x) rfl (fun r21 hw => (t_X12_rank (up (up (up (up (up (up A 103 y1) 106 y2) 103 s5) 104 s6) 105 s7) 106 s8) (up (up (up (up (up (up (up (up (up (up I 5470 0) 5471 0) 5472 0) 5464 s9) 5465 s10) 5466 s11) 5467 s12) 5470 s13) 5471 s14) 5472 s15) x r18 hw).mono (Nat.le_of_ble_eq_true rfl)) (fun r21 => ?_)
                  refine am_J.go 1 rfl ?_
                  refine am_J.le rfl ?_ ?_
                  · refine am_J.go (cf' := (337, [some (.ref 85), some (.int s3), some (.int s4), some (.int r18)], [.int 0, .int s14, .ref 106], hp (up (up (up (up (up (up A 103 y1) 106 y2) 103 s5) 104 s6) 105 s7) 106 s8) (up (up (up (up (up (up (up (up (up (up I 5470 0) 5471 0) 5472 0) 5464 s9) 5465 s10) 5466 s11) 5467 s12) 5470 s13) 5471 s14) 5472 s15) x)) 1 rfl ?_
                    exact am_J.leaf (fun k => am_Ev.weak (L' := [some (.ref 85), none, none, some (.int r18)]) (am_Lle.k (am_Lle.o (am_Lle.o (am_Lle.k am_Lle.nil)))) k)
                  · refine am_J.go 4 rfl ?_
                    refine am_J.bal (xs := s8) (t := 2) rfl (by decide) rfl (fun v22 => ?_)
                    refine am_J.eq rfl ?_ ?_
                    · refine am_J.go (cf' := (337, [some (.ref 85), some (.int s3), some (.int s4), some (.int r18)], [.int 0, .int s14, .ref 106], hp (up (up (up (up (up (up A 103 y1) 106 y2) 103 s5) 104 s6) 105 s7) 106 s8) (up (up (up (up (up (up (up (up (up (up I 5470 0) 5471 0) 5472 0) 5464 s9) 5465 s10) 5466 s11) 5467 s12) 5470 s13) 5471 s14) 5472 s15) x)) 1 rfl ?_
                      exact am_J.leaf (fun k => am_Ev.weak (L' := [some (.ref 85), none, none, some (.int r18)]) (am_Lle.k (am_Lle.o (am_Lle.o (am_Lle.k am_Lle.nil)))) k)
                    · refine am_J.go (cf' := (337, [some (.ref 85), some (.int s3), some (.int s4), some (.int r18)], [.int 1, .int s14, .ref 106], hp (up (up (up (up (up (up A 103 y1) 106 y2) 103 s5) 104 s6) 105 s7) 106 s8) (up (up (up (up (up (up (up (up (up (up I 5470 0) 5471 0) 5472 0) 5464 s9) 5465 s10) 5466 s11) 5467 s12) 5470 s13) 5471 s14) 5472 s15) x)) 2 rfl ?_
                      exact am_J.leaf (fun k => am_Ev.weak (L' := [some (.ref 85), none, none, some (.int r18)]) (am_Lle.k (am_Lle.o (am_Lle.o (am_Lle.k am_Lle.nil)))) k)
              · rintro j23
                refine am_J.bas (xs := s8) (t := 2) (h' := fun y24 => hp (up (up (up (up (up (up A 103 y1) 106 y2) 103 s5) 104 s6) 105 s7) 106 y24) (up (up (up (up (up (up (up (up (up (up I 5470 0) 5471 0) 5472 0) 5464 s9) 5465 s10) 5466 s11) 5467 s12) 5470 s13) 5471 s14) 5472 s15) x) rfl (by decide) rfl (fun _ => rfl) (fun y24 => ?_)
                refine am_J.go 3 rfl ?_
                refine am_J.call (v := fun r25 => .int r25) (h' := fun r25 => hp (up (up (up (up (up (up A 103 y1) 106 y2) 103 s5) 104 s6) 105 s7) 106 y24) (up (up (up (up (up (up (up (up (up (up I 5470 0) 5471 0) 5472 0) 5464 s9) 5465 s10) 5466 s11) 5467 s12) 5470 s13) 5471 s14) 5472 s15) x) rfl (fun r25 hw => (t_X12_rank (up (up (up (up (up (up A 103 y1) 106 y2) 103 s5) 104 s6) 105 s7) 106 y24) (up (up (up (up (up (up (up (up (up (up I 5470 0) 5471 0) 5472 0) 5464 s9) 5465 s10) 5466 s11) 5467 s12) 5470 s13) 5471 s14) 5472 s15) x r18 hw).mono (Nat.le_of_ble_eq_true rfl)) (fun r25 => ?_)
                refine am_J.calln (h' := fun r26 => hp (up (up (up (up (up (up A 103 y1) 106 y2) 103 r26.1) 104 r26.2.1) 105 s7) 106 y24) (up (up (up (up (up (up (up (up (up (up I 5470 0) 5471 0) 5472 0) 5464 s9) 5465 s10) 5466 s11) 5467 s12) 5470 r26.2.2.1) 5471 s14) 5472 r26.2.2.2) x) rfl (fun r26 hw => (t_X12_settle (up (up (up (up (up (up A 103 y1) 106 y2) 103 s5) 104 s6) 105 s7) 106 y24) (up (up (up (up (up (up (up (up (up (up I 5470 0) 5471 0) 5472 0) 5464 s9) 5465 s10) 5466 s11) 5467 s12) 5470 s13) 5471 s14) 5472 s15) x r25 hw).mono (Nat.le_of_ble_eq_true rfl)) (fun r26 => ?_)
                refine am_J.go 2 rfl ?_
                refine am_J.calln (h' := fun r27 => hp (up (up (up (up (up (up A 103 y1) 106 y2) 103 r26.1) 104 r26.2.1) 105 r27.1) 106 y24) (up (up (up (up (up (up (up (up (up (up I 5470 0) 5471 0) 5472 0) 5464 s9) 5465 s10) 5466 s11) 5467 s12) 5470 r27.2.1) 5471 s14) 5472 r27.2.2) x) rfl (fun r27 hw => (t_X12_hold (up (up (up (up (up (up A 103 y1) 106 y2) 103 r26.1) 104 r26.2.1) 105 s7) 106 y24) (up (up (up (up (up (up (up (up (up (up I 5470 0) 5471 0) 5472 0) 5464 s9) 5465 s10) 5466 s11) 5467 s12) 5470 r26.2.2.1) 5471 s14) 5472 r26.2.2.2) x r18 hw).mono (Nat.le_of_ble_eq_true rfl)) (fun r27 => ?_)
                refine am_J.go 4 rfl ?_
                refine am_J.call (v := fun r28 => .int r28) (h' := fun r28 => hp (up (up (up (up (up (up A 103 y1) 106 y2) 103 r26.1) 104 r26.2.1) 105 r27.1) 106 y24) (up (up (up (up (up (up (up (up (up (up I 5470 0) 5471 0) 5472 0) 5464 s9) 5465 s10) 5466 s11) 5467 s12) 5470 r27.2.1) 5471 s14) 5472 r27.2.2) x) rfl (fun r28 hw => (t_X12_rank (up (up (up (up (up (up A 103 y1) 106 y2) 103 r26.1) 104 r26.2.1) 105 r27.1) 106 y24) (up (up (up (up (up (up (up (up (up (up I 5470 0) 5471 0) 5472 0) 5464 s9) 5465 s10) 5466 s11) 5467 s12) 5470 r27.2.1) 5471 s14) 5472 r27.2.2) x r18 hw).mono (Nat.le_of_ble_eq_true rfl)) (fun r28 => ?_)
                refine am_J.go 1 rfl ?_
                refine am_J.join (β := Int32) (cj := fun j29 => (368, [some (.ref 85), some (.int 1), none, none], [.int j29], hp (up (up (up (up (up (up A 103 y1) 106 y2) 103 r26.1) 104 r26.2.1) 105 r27.1) 106 y24) (up (up (up (up (up (up (up (up (up (up I 5470 0) 5471 0) 5472 0) 5464 s9) 5465 s10) 5466 s11) 5467 s12) 5470 r27.2.1) 5471 s14) 5472 r27.2.2) x)) ?_ ?_
                · refine am_J.ge rfl ?_ ?_
                  · refine am_J.go (cf' := (368, [some (.ref 85), some (.int 1), none, some (.int r18)], [.int 0], hp (up (up (up (up (up (up A 103 y1) 106 y2) 103 r26.1) 104 r26.2.1) 105 r27.1) 106 y24) (up (up (up (up (up (up (up (up (up (up I 5470 0) 5471 0) 5472 0) 5464 s9) 5465 s10) 5466 s11) 5467 s12) 5470 r27.2.1) 5471 s14) 5472 r27.2.2) x)) 1 rfl ?_
                    exact am_J.leaf (fun k => am_Ev.weak (L' := [some (.ref 85), some (.int 1), none, none]) (am_Lle.k (am_Lle.k (am_Lle.o (am_Lle.o am_Lle.nil)))) k)
                  · refine am_J.go (cf' := (368, [some (.ref 85), some (.int 1), none, some (.int r18)], [.int 1], hp (up (up (up (up (up (up A 103 y1) 106 y2) 103 r26.1) 104 r26.2.1) 105 r27.1) 106 y24) (up (up (up (up (up (up (up (up (up (up I 5470 0) 5471 0) 5472 0) 5464 s9) 5465 s10) 5466 s11) 5467 s12) 5470 r27.2.1) 5471 s14) 5472 r27.2.2) x)) 2 rfl ?_
                    exact am_J.leaf (fun k => am_Ev.weak (L' := [some (.ref 85), some (.int 1), none, none]) (am_Lle.k (am_Lle.k (am_Lle.o (am_Lle.o am_Lle.nil)))) k)
                · rintro j29
                  refine am_J.go 2 rfl ?_
                  refine am_J.calln (h' := fun r30 => hp (up (up (up (up (up (up A 103 y1) 106 y2) 103 r26.1) 104 r26.2.1) 105 r27.1) 106 y24) (up (up (up (up (up (up (up (up (up (up I 5470 0) 5471 0) 5472 0) 5464 r30.1) 5465 r30.2.1) 5466 r30.2.2.1) 5467 r30.2.2.2) 5470 r27.2.1) 5471 s14) 5472 r27.2.2) x) rfl (fun r30 hw => (t_X12_next (up (up (up (up (up (up A 103 y1) 106 y2) 103 r26.1) 104 r26.2.1) 105 r27.1) 106 y24) (up (up (up (up (up (up (up (up (up (up I 5470 0) 5471 0) 5472 0) 5464 s9) 5465 s10) 5466 s11) 5467 s12) 5470 r27.2.1) 5471 s14) 5472 r27.2.2) x hw)) (fun r30 => ?_)
                  refine am_J.go (cf' := (36, [some (.ref 85), some (.int 1), some (.int j29), none], [], hp (up (up (up (up (up (up A 103 y1) 106 y2) 103 r26.1) 104 r26.2.1) 105 r27.1) 106 y24) (up (up (up (up (up (up (up (up (up (up I 5470 0) 5471 0) 5472 0) 5464 r30.1) 5465 r30.2.1) 5466 r30.2.2.1) 5467 r30.2.2.2) 5470 r27.2.1) 5471 s14) 5472 r27.2.2) x)) 1 rfl ?_
                  exact am_J.leaf (fun k => am_Ev.weak (L' := [some (.ref 85), some (.int 1), some (.int j29), none]) (am_Lle.k (am_Lle.k (am_Lle.k (am_Lle.o am_Lle.nil)))) k)
        · refine am_J.go 2 rfl ?_
          refine am_J.ne rfl ?_ ?_
          · refine am_J.go 1 rfl ?_
            exact am_J.retz rfl (Or.inl rfl) (fun k => k)
          · refine am_J.go 2 rfl ?_
            refine am_J.calln (h' := fun r43 => hp (up (up (up (up (up (up A 103 y1) 106 y2) 103 r43.1) 104 r43.2.1) 105 s7) 106 s8) (up (up (up (up (up (up (up (up (up (up I 5470 0) 5471 0) 5472 0) 5464 s9) 5465 s10) 5466 s11) 5467 s12) 5470 r43.2.2.1) 5471 s14) 5472 r43.2.2.2) x) rfl (fun r43 hw => (t_X12_settle (up (up (up (up (up (up A 103 y1) 106 y2) 103 s5) 104 s6) 105 s7) 106 s8) (up (up (up (up (up (up (up (up (up (up I 5470 0) 5471 0) 5472 0) 5464 s9) 5465 s10) 5466 s11) 5467 s12) 5470 s13) 5471 s14) 5472 s15) x 1 hw).mono (Nat.le_of_ble_eq_true rfl)) (fun r43 => ?_)
            refine am_J.go 20 rfl ?_
            refine am_J.calln (h' := fun r44 => hp (up (up (up (up (up (up A 103 y1) 106 y2) 103 r44.1) 104 r44.2.1) 105 s7) 106 s8) (up (up (up (up (up (up (up (up (up (up I 5470 0) 5471 0) 5472 0) 5464 s9) 5465 s10) 5466 s11) 5467 s12) 5470 r44.2.2.1) 5471 (s14 - 1)) 5472 r44.2.2.2) x) rfl (fun r44 hw => (t_X12_settle (up (up (up (up (up (up A 103 y1) 106 y2) 103 r43.1) 104 r43.2.1) 105 s7) 106 s8) (up (up (up (up (up (up (up (up (up (up I 5470 0) 5471 0) 5472 0) 5464 s9) 5465 s10) 5466 s11) 5467 s12) 5470 (r43.2.2.1 - 1)) 5471 (s14 - 1)) 5472 (r43.2.2.2 - 1)) x 7 hw).mono (Nat.le_of_ble_eq_true rfl)) (fun r44 => ?_)
            refine am_J.go 1 rfl ?_
            refine am_J.calln (h' := fun r45 => hp (up (up (up (up (up (up A 103 y1) 106 y2) 103 r44.1) 104 r44.2.1) 105 s7) 106 s8) (up (up (up (up (up (up (up (up (up (up I 5470 0) 5471 0) 5472 0) 5464 r45.1) 5465 r45.2.1) 5466 r45.2.2.1) 5467 r45.2.2.2) 5470 r44.2.2.1) 5471 (s14 - 1)) 5472 r44.2.2.2) x) rfl (fun r45 hw => (t_X12_next (up (up (up (up (up (up A 103 y1) 106 y2) 103 r44.1) 104 r44.2.1) 105 s7) 106 s8) (up (up (up (up (up (up (up (up (up (up I 5470 0) 5471 0) 5472 0) 5464 s9) 5465 s10) 5466 s11) 5467 s12) 5470 r44.2.2.1) 5471 (s14 - 1)) 5472 r44.2.2.2) x hw)) (fun r45 => ?_)
            refine am_J.go (cf' := (36, [some (.ref 85), some (.int s3), some (.int s4), none], [], hp (up (up (up (up (up (up A 103 y1) 106 y2) 103 r44.1) 104 r44.2.1) 105 s7) 106 s8) (up (up (up (up (up (up (up (up (up (up I 5470 0) 5471 0) 5472 0) 5464 r45.1) 5465 r45.2.1) 5466 r45.2.2.1) 5467 r45.2.2.2) 5470 r44.2.2.1) 5471 (s14 - 1)) 5472 r44.2.2.2) x)) 1 rfl ?_
            exact am_J.leaf (fun k => am_Ev.weak (L' := [some (.ref 85), some (.int s3), some (.int s4), none]) (am_Lle.k (am_Lle.k (am_Lle.k (am_Lle.o am_Lle.nil)))) k)
      · refine am_J.go (cf' := (178, [some (.ref 85), some (.int s3), some (.int s4), none], [], hp (up (up (up (up (up (up A 103 y1) 106 y2) 103 s5) 104 s6) 105 s7) 106 s8) (up (up (up (up (up (up (up (up (up (up I 5470 0) 5471 0) 5472 0) 5464 s9) 5465 s10) 5466 s11) 5467 s12) 5470 s13) 5471 s14) 5472 s15) x)) 0 rfl ?_
        exact am_J.leaf (fun k => am_Ev.weak (L' := [some (.ref 85), none, none, none]) (am_Lle.k (am_Lle.o (am_Lle.o (am_Lle.o am_Lle.nil)))) k)
    · refine am_J.go 2 rfl ?_
      refine am_J.callz (v := fun r46 => r46) (h' := fun r46 => hp (up (up (up (up (up (up A 103 y1) 106 y2) 103 s5) 104 s6) 105 s7) 106 s8) (up (up (up (up (up (up (up (up (up (up I 5470 0) 5471 0) 5472 0) 5464 s9) 5465 s10) 5466 s11) 5467 s12) 5470 s13) 5471 s14) 5472 s15) x) rfl rfl rfl (fun r46 hw => (t_X12_ahead (up (up (up (up (up (up A 103 y1) 106 y2) 103 s5) 104 s6) 105 s7) 106 s8) (up (up (up (up (up (up (up (up (up (up I 5470 0) 5471 0) 5472 0) 5464 s9) 5465 s10) 5466 s11) 5467 s12) 5470 s13) 5471 s14) 5472 s15) x s4 hw).mono (Nat.le_of_ble_eq_true rfl)) (fun r46 hr46 => ?_)
      refine am_J.ne rfl ?_ ?_
      · refine am_J.go 1 rfl ?_
        exact am_J.retz rfl (Or.inl rfl) (fun k => k)
      · refine am_J.go 2 rfl ?_
        refine am_J.callz (v := fun r47 => r47) (h' := fun r47 => hp (up (up (up (up (up (up A 103 y1) 106 y2) 103 s5) 104 s6) 105 s7) 106 s8) (up (up (up (up (up (up (up (up (up (up I 5470 0) 5471 0) 5472 0) 5464 s9) 5465 s10) 5466 s11) 5467 s12) 5470 s13) 5471 s14) 5472 s15) x) rfl rfl rfl (fun r47 hw => (t_X12_isKey (up (up (up (up (up (up A 103 y1) 106 y2) 103 s5) 104 s6) 105 s7) 106 s8) (up (up (up (up (up (up (up (up (up (up I 5470 0) 5471 0) 5472 0) 5464 s9) 5465 s10) 5466 s11) 5467 s12) 5470 s13) 5471 s14) 5472 s15) x 4 hw).mono (Nat.le_of_ble_eq_true rfl)) (fun r47 hr47 => ?_)
        refine am_J.join (β := Int32 × Int32 × (List Int32) × (List Int32) × (List Int32) × (List Int32) × Int32 × Int32 × Int32) (cj := fun q => match q with | (j57, j58, j59, j60, j61, j62, j63, j64, j65) => (162, [some (.ref 85), some (.int j57), some (.int j58), none], [], hp (up (up (up (up (up (up A 103 y1) 106 y2) 103 j59) 104 j60) 105 j61) 106 j62) (up (up (up (up (up (up (up (up (up (up I 5470 0) 5471 0) 5472 0) 5464 s9) 5465 s10) 5466 s11) 5467 s12) 5470 j63) 5471 j64) 5472 j65) x)) ?_ ?_
        · refine am_J.eq rfl ?_ ?_
          · refine am_J.go 2 rfl ?_
            refine am_J.callz (v := fun r48 => r48) (h' := fun r48 => hp (up (up (up (up (up (up A 103 y1) 106 y2) 103 s5) 104 s6) 105 s7) 106 s8) (up (up (up (up (up (up (up (up (up (up I 5470 0) 5471 0) 5472 0) 5464 s9) 5465 s10) 5466 s11) 5467 s12) 5470 s13) 5471 s14) 5472 s15) x) rfl rfl rfl (fun r48 hw => (t_X12_isSign (up (up (up (up (up (up A 103 y1) 106 y2) 103 s5) 104 s6) 105 s7) 106 s8) (up (up (up (up (up (up (up (up (up (up I 5470 0) 5471 0) 5472 0) 5464 s9) 5465 s10) 5466 s11) 5467 s12) 5470 s13) 5471 s14) 5472 s15) x 45 hw).mono (Nat.le_of_ble_eq_true rfl)) (fun r48 hr48 => ?_)
            refine am_J.eq rfl ?_ ?_
            · refine am_J.go 2 rfl ?_
              refine am_J.callz (v := fun r49 => r49) (h' := fun r49 => hp (up (up (up (up (up (up A 103 y1) 106 y2) 103 s5) 104 s6) 105 s7) 106 s8) (up (up (up (up (up (up (up (up (up (up I 5470 0) 5471 0) 5472 0) 5464 s9) 5465 s10) 5466 s11) 5467 s12) 5470 s13) 5471 s14) 5472 s15) x) rfl rfl rfl (fun r49 hw => (t_X12_isSign (up (up (up (up (up (up A 103 y1) 106 y2) 103 s5) 104 s6) 105 s7) 106 s8) (up (up (up (up (up (up (up (up (up (up I 5470 0) 5471 0) 5472 0) 5464 s9) 5465 s10) 5466 s11) 5467 s12) 5470 s13) 5471 s14) 5472 s15) x 40 hw).mono (Nat.le_of_ble_eq_true rfl)) (fun r49 hr49 => ?_)
              refine am_J.eq rfl ?_ ?_
              · refine am_J.go 4 rfl ?_
                refine am_J.join (β := Int32) (cj := fun j50 => (151, [some (.ref 85), none, some (.int s4), none], [.int j50, .ref 85], hp (up (up (up (up (up (up A 103 y1) 106 y2) 103 s5) 104 s6) 105 s7) 106 s8) (up (up (up (up (up (up (up (up (up (up I 5470 0) 5471 0) 5472 0) 5464 s9) 5465 s10) 5466 s11) 5467 s12) 5470 s13) 5471 s14) 5472 s15) x)) ?_ ?_
                · refine am_J.ne rfl ?_ ?_
                  · refine am_J.go (cf' := (151, [some (.ref 85), some (.int s3), some (.int s4), none], [.int s11, .ref 85], hp (up (up (up (up (up (up A 103 y1) 106 y2) 103 s5) 104 s6) 105 s7) 106 s8) (up (up (up (up (up (up (up (up (up (up I 5470 0) 5471 0) 5472 0) 5464 s9) 5465 s10) 5466 s11) 5467 s12) 5470 s13) 5471 s14) 5472 s15) x)) 3 rfl ?_
                    exact am_J.leaf (fun k => am_Ev.weak (L' := [some (.ref 85), none, some (.int s4), none]) (am_Lle.k (am_Lle.o (am_Lle.k (am_Lle.o am_Lle.nil)))) k)
                  · refine am_J.go (cf' := (151, [some (.ref 85), some (.int s3), some (.int s4), none], [.int (10000 + s11), .ref 85], hp (up (up (up (up (up (up A 103 y1) 106 y2) 103 s5) 104 s6) 105 s7) 106 s8) (up (up (up (up (up (up (up (up (up (up I 5470 0) 5471 0) 5472 0) 5464 s9) 5465 s10) 5466 s11) 5467 s12) 5470 s13) 5471 s14) 5472 s15) x)) 4 rfl ?_
                    exact am_J.leaf (fun k => am_Ev.weak (L' := [some (.ref 85), none, some (.int s4), none]) (am_Lle.k (am_Lle.o (am_Lle.k (am_Lle.o am_Lle.nil)))) k)
                · rintro j50
                  refine am_J.calln (h' := fun r51 => hp (up (up (up (up (up (up A 103 y1) 106 y2) 103 r51.1) 104 r51.2) 105 s7) 106 s8) (up (up (up (up (up (up (up (up (up (up I 5470 0) 5471 0) 5472 0) 5464 s9) 5465 s10) 5466 s11) 5467 s12) 5470 s13) 5471 s14) 5472 s15) x) rfl (fun r51 hw => (t_X12_put (up (up (up (up (up (up A 103 y1) 106 y2) 103 s5) 104 s6) 105 s7) 106 s8) (up (up (up (up (up (up (up (up (up (up I 5470 0) 5471 0) 5472 0) 5464 s9) 5465 s10) 5466 s11) 5467 s12) 5470 s13) 5471 s14) 5472 s15) x j50 hw).mono (Nat.le_of_ble_eq_true rfl)) (fun r51 => ?_)
                  refine am_J.go 2 rfl ?_
                  refine am_J.calln (h' := fun r52 => hp (up (up (up (up (up (up A 103 y1) 106 y2) 103 r52.1) 104 r52.2.1) 105 s7) 106 s8) (up (up (up (up (up (up (up (up (up (up I 5470 0) 5471 0) 5472 0) 5464 s9) 5465 s10) 5466 s11) 5467 s12) 5470 r52.2.2.1) 5471 s14) 5472 r52.2.2.2) x) rfl (fun r52 hw => (t_X12_settle (up (up (up (up (up (up A 103 y1) 106 y2) 103 r51.1) 104 r51.2) 105 s7) 106 s8) (up (up (up (up (up (up (up (up (up (up I 5470 0) 5471 0) 5472 0) 5464 s9) 5465 s10) 5466 s11) 5467 s12) 5470 s13) 5471 s14) 5472 s15) x 7 hw).mono (Nat.le_of_ble_eq_true rfl)) (fun r52 => ?_)
                  refine am_J.go (cf' := (162, [some (.ref 85), some (.int 0), some (.int s4), none], [], hp (up (up (up (up (up (up A 103 y1) 106 y2) 103 r52.1) 104 r52.2.1) 105 s7) 106 s8) (up (up (up (up (up (up (up (up (up (up I 5470 0) 5471 0) 5472 0) 5464 s9) 5465 s10) 5466 s11) 5467 s12) 5470 r52.2.2.1) 5471 s14) 5472 r52.2.2.2) x)) 2 rfl ?_
                  exact am_J.leaf (fun k => am_Ev.weak (L' := [some (.ref 85), some (.int 0), some (.int s4), none]) (am_Lle.k (am_Lle.k (am_Lle.k (am_Lle.o am_Lle.nil)))) k)
              · refine am_J.go 2 rfl ?_
                refine am_J.calln (h' := fun r53 => hp (up (up (up (up (up (up A 103 y1) 106 y2) 103 s5) 104 s6) 105 r53.1) 106 s8) (up (up (up (up (up (up (up (up (up (up I 5470 0) 5471 0) 5472 0) 5464 s9) 5465 s10) 5466 s11) 5467 s12) 5470 r53.2.1) 5471 s14) 5472 r53.2.2) x) rfl (fun r53 hw => (t_X12_hold (up (up (up (up (up (up A 103 y1) 106 y2) 103 s5) 104 s6) 105 s7) 106 s8) (up (up (up (up (up (up (up (up (up (up I 5470 0) 5471 0) 5472 0) 5464 s9) 5465 s10) 5466 s11) 5467 s12) 5470 s13) 5471 s14) 5472 s15) x (-10) hw).mono (Nat.le_of_ble_eq_true rfl)) (fun r53 => ?_)
                refine am_J.go 11 rfl ?_
                refine am_J.bas (xs := s8) (t := 2) (h' := fun y54 => hp (up (up (up (up (up (up A 103 y1) 106 y2) 103 s5) 104 s6) 105 r53.1) 106 y54) (up (up (up (up (up (up (up (up (up (up I 5470 0) 5471 0) 5472 0) 5464 s9) 5465 s10) 5466 s11) 5467 s12) 5470 r53.2.1) 5471 (s14 + 1)) 5472 r53.2.2) x) rfl (by decide) rfl (fun _ => rfl) (fun y54 => ?_)
                refine am_J.go (cf' := (162, [some (.ref 85), some (.int s3), some (.int 1), none], [], hp (up (up (up (up (up (up A 103 y1) 106 y2) 103 s5) 104 s6) 105 r53.1) 106 y54) (up (up (up (up (up (up (up (up (up (up I 5470 0) 5471 0) 5472 0) 5464 s9) 5465 s10) 5466 s11) 5467 s12) 5470 r53.2.1) 5471 (s14 + 1)) 5472 r53.2.2) x)) 3 rfl ?_
                exact am_J.leaf (fun k => am_Ev.weak (L' := [some (.ref 85), some (.int s3), some (.int 1), none]) (am_Lle.k (am_Lle.k (am_Lle.k (am_Lle.o am_Lle.nil)))) k)
            · refine am_J.go 2 rfl ?_
              refine am_J.calln (h' := fun r55 => hp (up (up (up (up (up (up A 103 y1) 106 y2) 103 s5) 104 s6) 105 r55.1) 106 s8) (up (up (up (up (up (up (up (up (up (up I 5470 0) 5471 0) 5472 0) 5464 s9) 5465 s10) 5466 s11) 5467 s12) 5470 r55.2.1) 5471 s14) 5472 r55.2.2) x) rfl (fun r55 hw => (t_X12_hold (up (up (up (up (up (up A 103 y1) 106 y2) 103 s5) 104 s6) 105 s7) 106 s8) (up (up (up (up (up (up (up (up (up (up I 5470 0) 5471 0) 5472 0) 5464 s9) 5465 s10) 5466 s11) 5467 s12) 5470 s13) 5471 s14) 5472 s15) x (-9) hw).mono (Nat.le_of_ble_eq_true rfl)) (fun r55 => ?_)
              refine am_J.go (cf' := (162, [some (.ref 85), some (.int s3), some (.int 0), none], [], hp (up (up (up (up (up (up A 103 y1) 106 y2) 103 s5) 104 s6) 105 r55.1) 106 s8) (up (up (up (up (up (up (up (up (up (up I 5470 0) 5471 0) 5472 0) 5464 s9) 5465 s10) 5466 s11) 5467 s12) 5470 r55.2.1) 5471 s14) 5472 r55.2.2) x)) 3 rfl ?_
              exact am_J.leaf (fun k => am_Ev.weak (L' := [some (.ref 85), some (.int s3), some (.int 0), none]) (am_Lle.k (am_Lle.k (am_Lle.k (am_Lle.o am_Lle.nil)))) k)
          · refine am_J.go 2 rfl ?_
            refine am_J.calln (h' := fun r56 => hp (up (up (up (up (up (up A 103 y1) 106 y2) 103 s5) 104 s6) 105 r56.1) 106 s8) (up (up (up (up (up (up (up (up (up (up I 5470 0) 5471 0) 5472 0) 5464 s9) 5465 s10) 5466 s11) 5467 s12) 5470 r56.2.1) 5471 s14) 5472 r56.2.2) x) rfl (fun r56 hw => (t_X12_hold (up (up (up (up (up (up A 103 y1) 106 y2) 103 s5) 104 s6) 105 s7) 106 s8) (up (up (up (up (up (up (up (up (up (up I 5470 0) 5471 0) 5472 0) 5464 s9) 5465 s10) 5466 s11) 5467 s12) 5470 s13) 5471 s14) 5472 s15) x (-3) hw).mono (Nat.le_of_ble_eq_true rfl)) (fun r56 => ?_)
            refine am_J.go (cf' := (162, [some (.ref 85), some (.int s3), some (.int s4), none], [], hp (up (up (up (up (up (up A 103 y1) 106 y2) 103 s5) 104 s6) 105 r56.1) 106 s8) (up (up (up (up (up (up (up (up (up (up I 5470 0) 5471 0) 5472 0) 5464 s9) 5465 s10) 5466 s11) 5467 s12) 5470 r56.2.1) 5471 s14) 5472 r56.2.2) x)) 1 rfl ?_
            exact am_J.leaf (fun k => am_Ev.weak (L' := [some (.ref 85), some (.int s3), some (.int s4), none]) (am_Lle.k (am_Lle.k (am_Lle.k (am_Lle.o am_Lle.nil)))) k)
        · rintro ⟨j57, j58, j59, j60, j61, j62, j63, j64, j65⟩
          refine am_J.go 1 rfl ?_
          refine am_J.calln (h' := fun r66 => hp (up (up (up (up (up (up A 103 y1) 106 y2) 103 j59) 104 j60) 105 j61) 106 j62) (up (up (up (up (up (up (up (up (up (up I 5470 0) 5471 0) 5472 0) 5464 r66.1) 5465 r66.2.1) 5466 r66.2.2.1) 5467 r66.2.2.2) 5470 j63) 5471 j64) 5472 j65) x) rfl (fun r66 hw => (t_X12_next (up (up (up (up (up (up A 103 y1) 106 y2) 103 j59) 104 j60) 105 j61) 106 j62) (up (up (up (up (up (up (up (up (up (up I 5470 0) 5471 0) 5472 0) 5464 s9) 5465 s10) 5466 s11) 5467 s12) 5470 j63) 5471 j64) 5472 j65) x hw)) (fun r66 => ?_)
          refine am_J.go (cf' := (36, [some (.ref 85), some (.int j57), some (.int j58), none], [], hp (up (up (up (up (up (up A 103 y1) 106 y2) 103 j59) 104 j60) 105 j61) 106 j62) (up (up (up (up (up (up (up (up (up (up I 5470 0) 5471 0) 5472 0) 5464 r66.1) 5465 r66.2.1) 5466 r66.2.2.1) 5467 r66.2.2.2) 5470 j63) 5471 j64) 5472 j65) x)) 1 rfl ?_
          exact am_J.leaf (fun k => am_Ev.weak (L' := [some (.ref 85), some (.int j57), some (.int j58), none]) (am_Lle.k (am_Lle.k (am_Lle.k (am_Lle.o am_Lle.nil)))) k)
  · intro q
    rcases q with ⟨e67, e68, e69, e70, e71, e72, e73, e74, e75, e76, e77⟩ | v
    · refine (?_ : am_J (am_ro xs) 3 mc_X12_part r (178, [some (.ref 85), none, none, none], [], hp (up (up (up (up A 103 e67) 104 e68) 105 e69) 106 e70) (up (up (up (up (up (up (up I 5464 e71) 5465 e72) 5466 e73) 5467 e74) 5470 e75) 5471 e76) 5472 e77) x) _ _)
      refine am_J.go 2 rfl ?_
      refine am_J.calln (h' := fun r78 => hp (up (up (up (up A 103 r78.1) 104 r78.2.1) 105 e69) 106 e70) (up (up (up (up (up (up (up I 5464 e71) 5465 e72) 5466 e73) 5467 e74) 5470 r78.2.2.1) 5471 e76) 5472 r78.2.2.2) x) rfl (fun r78 hw => (t_X12_settle (up (up (up (up A 103 e67) 104 e68) 105 e69) 106 e70) (up (up (up (up (up (up (up I 5464 e71) 5465 e72) 5466 e73) 5467 e74) 5470 e75) 5471 e76) 5472 e77) x 1 hw).mono (Nat.le_of_ble_eq_true rfl)) (fun r78 => ?_)
      refine am_J.go 2 rfl ?_
      refine am_J.ne rfl ?_ ?_
      · refine am_J.go 2 rfl ?_
        exact am_J.retz rfl (Or.inr rfl) (fun k => k)
      · refine am_J.go 1 rfl ?_
        exact am_J.retz rfl (Or.inl rfl) (fun k => k)
    · intro z hz hk
      cases hz
      exact hk
