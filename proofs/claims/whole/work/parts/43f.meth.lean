/-! ===== methods as functions (by wip/whole/dec.py) ===== -/
def f_X12_council_l1 (A : Nat → List Int32) (I : Nat → Int32) (a1 : Int32) (a2 : Int32) (a3 : Int32) (a4 : Int32) : (Int32 × Int32) → Option ((Int32 × Int32) ⊕ (Int32)) := fun q => match q with
    | (s6, s7) =>
    (if 8 ≤ s7 then
      some (.inr s6)
    else
      ((am_at (A 87) ((8 * s7) + a1)).bind fun v8 =>
      (((if 999 ≤ v8 then
          some 0
        else
          ((am_at (A 87) ((8 * s7) + a1)).bind fun v9 =>
          (if a2 < v9 then
            some 0
          else
            some (1 <<< (s7 &&& 31))))) : Option (Int32)).bind (fun j10 =>
      some (.inl ((s6 ||| j10), (s7 + 1)))))))
def f_X12_council_l2 (A : Nat → List Int32) (I : Nat → Int32) (a3 : Int32) (a4 : Int32) (e11 : Int32) : (Int32 × Int32) → Option ((Int32 × Int32) ⊕ (Int32)) := fun q => match q with
    | (s12, s13) =>
    (if 256 ≤ s13 then
      some (.inr s12)
    else
      (((if (s13 &&& (e11 ^^^ (-1))) = 0 then
          ((f_X12_seatsOf A I s13 (-1) a4).bind fun r14 =>
          (if r14 < a3 then
            some s12
          else
            ((f_X12_seatsOf A I s13 0 a4).bind fun r15 =>
            (if r15 < (a3 / 3) then
              some s12
            else
              ((f_X12_seatsOf A I s13 1 a4).bind fun r16 =>
              (if (a3 / 3) ≤ r16 then
                (if s12 < 0 then
                  some s13
                else
                  ((f_X12_ones A I s13).bind fun r17 =>
                  ((f_X12_ones A I s12).bind fun r18 =>
                  (if r17 < r18 then
                    some s13
                  else
                    ((f_X12_ones A I s13).bind fun r19 =>
                    ((f_X12_ones A I s12).bind fun r20 =>
                    (if r19 = r20 then
                      ((f_X12_seatsOf A I s13 (-1) a4).bind fun r21 =>
                      ((f_X12_seatsOf A I s12 (-1) a4).bind fun r22 =>
                      (if r21 ≤ r22 then
                        some s12
                      else
                        some s13)))
                    else
                      some s12)))))))
              else
                some s12))))))
        else
          some s12) : Option (Int32)).bind (fun j23 =>
      some (.inl (j23, (s13 + 1))))))
def f_X12_council (A : Nat → List Int32) (I : Nat → Int32) (a1 : Int32) (a2 : Int32) (a3 : Int32) (a4 : Int32) : Option (Int32 × (List Int32)) :=
  ((f_X12_isLand A I a1).bind fun r1 =>
  (if r1 = 0 then
    some ((-2), (A 87))
  else
    ((f_X12_in A I a2 0 999).bind fun r2 =>
    (if r2 = 0 then
      some ((-2), (A 87))
    else
      ((f_X12_in A I a3 1 999).bind fun r3 =>
      (if r3 = 0 then
        some ((-2), (A 87))
      else
        ((f_X12_isDay A I a4).bind fun r4 =>
        (if r4 = 0 then
          some ((-2), (A 87))
        else
          ((f_X12_findFar A I).bind fun r5 =>
          ((wl (f_X12_council_l1 (up A 87 r5) I a1 a2 a3 a4) 100000 (0, 0)).bind (fun e11 =>
          ((wl (f_X12_council_l2 (up A 87 r5) I a3 a4 e11) 100000 ((-1), 1)).bind (fun e24 =>
          some (e24, r5))))))))))))))
set_option maxRecDepth 100000 in
set_option maxHeartbeats 4000000 in
theorem t_X12_council {xs : List Int32} (A : Nat → List Int32) (I : Nat → Int32) (x : am_X) (a1 : Int32) (a2 : Int32) (a3 : Int32) (a4 : Int32) {z : Int32 × (List Int32)} (hz : f_X12_council A I a1 a2 a3 a4 = some z) : am_Rt (am_ro xs) 3 ix_X12_council [.ref 85, .int a1, .int a2, .int a3, .int a4] (hp A I x) (some (.int z.1), hp (up A 87 z.2) I x) := by
  refine am_Rt.J (k := ix_X12_council) (M := mc_X12_council) (nL := 8) (d := 2) (as := [.ref 85, .int a1, .int a2, .int a3, .int a4]) (res := fun z => (some (.int z.1), hp (up A 87 z.2) I x)) rfl (Nat.le_of_ble_eq_true rfl) (fun r => ?_) hz
  unfold f_X12_council
  refine am_J.go 2 rfl ?_
  refine am_J.callz (v := fun r1 => r1) (h' := fun r1 => hp A I x) rfl rfl rfl (fun r1 hw => (t_X12_isLand A I x a1 hw)) (fun r1 hr1 => ?_)
  refine am_J.eq rfl ?_ ?_
  · refine am_J.go 1 rfl ?_
    exact am_J.ret rfl (fun k => k)
  · refine am_J.go 4 rfl ?_
    refine am_J.callz (v := fun r2 => r2) (h' := fun r2 => hp A I x) rfl rfl rfl (fun r2 hw => (t_X12_in A I x a2 0 999 hw).mono (Nat.le_of_ble_eq_true rfl)) (fun r2 hr2 => ?_)
    refine am_J.eq rfl ?_ ?_
    · refine am_J.go 1 rfl ?_
      exact am_J.ret rfl (fun k => k)
    · refine am_J.go 4 rfl ?_
      refine am_J.callz (v := fun r3 => r3) (h' := fun r3 => hp A I x) rfl rfl rfl (fun r3 hw => (t_X12_in A I x a3 1 999 hw).mono (Nat.le_of_ble_eq_true rfl)) (fun r3 hr3 => ?_)
      refine am_J.eq rfl ?_ ?_
      · refine am_J.go 1 rfl ?_
        exact am_J.ret rfl (fun k => k)
      · refine am_J.go 2 rfl ?_
        refine am_J.callz (v := fun r4 => r4) (h' := fun r4 => hp A I x) rfl rfl rfl (fun r4 hw => (t_X12_isDay A I x a4 hw)) (fun r4 hr4 => ?_)
        refine am_J.ne rfl ?_ ?_
        · refine am_J.go 1 rfl ?_
          exact am_J.ret rfl (fun k => k)
        · refine am_J.go 1 rfl ?_
          refine am_J.calln (h' := fun r5 => hp (up A 87 r5) I x) rfl (fun r5 hw => (t_X12_findFar A I x hw).mono (Nat.le_of_ble_eq_true rfl)) (fun r5 => ?_)
          refine am_J.go (cf' := (54, [some (.ref 85), some (.int a1), some (.int a2), some (.int a3), some (.int a4), some (.int 0), some (.int 0), none], [], hp (up A 87 r5) I x)) 4 rfl ?_
          refine am_J.weak (L' := [some (.ref 85), some (.int a1), some (.int a2), some (.int a3), some (.int a4), some (.int 0), some (.int 0), none]) (am_Lle.k (am_Lle.k (am_Lle.k (am_Lle.k (am_Lle.k (am_Lle.k (am_Lle.k (am_Lle.o am_Lle.nil)))))))) ?_
          refine am_J.loop (cl := fun q => match q with | (s6, s7) => (54, [some (.ref 85), some (.int a1), some (.int a2), some (.int a3), some (.int a4), some (.int s6), some (.int s7), none], [], hp (up A 87 r5) I x)) (GX := fun e11 => am_Ev (am_ro xs) 2 mc_X12_council (114, [some (.ref 85), none, none, some (.int a3), some (.int a4), some (.int e11), none, none], [], hp (up A 87 r5) I x) r) ?_ ?_
          · rintro ⟨s6, s7⟩
            unfold f_X12_council_l1
            refine am_J.go 2 rfl ?_
            refine am_J.ge rfl ?_ ?_
            · refine am_J.go (cf' := (114, [some (.ref 85), some (.int a1), some (.int a2), some (.int a3), some (.int a4), some (.int s6), some (.int s7), none], [], hp (up A 87 r5) I x)) 0 rfl ?_
              exact am_J.leaf (fun k => am_Ev.weak (L' := [some (.ref 85), none, none, some (.int a3), some (.int a4), some (.int s6), none, none]) (am_Lle.k (am_Lle.o (am_Lle.o (am_Lle.k (am_Lle.k (am_Lle.k (am_Lle.o (am_Lle.o am_Lle.nil)))))))) k)
            · refine am_J.go 8 rfl ?_
              refine am_J.ial (xs := ((up A 87 r5) 87)) rfl (Nat.le_of_ble_eq_true rfl) rfl (fun v8 => ?_)
              refine am_J.go 1 rfl ?_
              refine am_J.join (β := Int32) (cj := fun j10 => (105, [some (.ref 85), some (.int a1), some (.int a2), some (.int a3), some (.int a4), none, some (.int s7), none], [.int j10, .int s6], hp (up A 87 r5) I x)) ?_ ?_
              · refine am_J.ge rfl ?_ ?_
                · refine am_J.go (cf' := (105, [some (.ref 85), some (.int a1), some (.int a2), some (.int a3), some (.int a4), some (.int s6), some (.int s7), none], [.int 0, .int s6], hp (up A 87 r5) I x)) 1 rfl ?_
                  exact am_J.leaf (fun k => am_Ev.weak (L' := [some (.ref 85), some (.int a1), some (.int a2), some (.int a3), some (.int a4), none, some (.int s7), none]) (am_Lle.k (am_Lle.k (am_Lle.k (am_Lle.k (am_Lle.k (am_Lle.o (am_Lle.k (am_Lle.o am_Lle.nil)))))))) k)
                · refine am_J.go 7 rfl ?_
                  refine am_J.ial (xs := ((up A 87 r5) 87)) rfl (Nat.le_of_ble_eq_true rfl) rfl (fun v9 => ?_)
                  refine am_J.go 1 rfl ?_
                  refine am_J.gt rfl ?_ ?_
                  · refine am_J.go (cf' := (105, [some (.ref 85), some (.int a1), some (.int a2), some (.int a3), some (.int a4), some (.int s6), some (.int s7), none], [.int 0, .int s6], hp (up A 87 r5) I x)) 1 rfl ?_
                    exact am_J.leaf (fun k => am_Ev.weak (L' := [some (.ref 85), some (.int a1), some (.int a2), some (.int a3), some (.int a4), none, some (.int s7), none]) (am_Lle.k (am_Lle.k (am_Lle.k (am_Lle.k (am_Lle.k (am_Lle.o (am_Lle.k (am_Lle.o am_Lle.nil)))))))) k)
                  · refine am_J.go (cf' := (105, [some (.ref 85), some (.int a1), some (.int a2), some (.int a3), some (.int a4), some (.int s6), some (.int s7), none], [.int (1 <<< (s7 &&& 31)), .int s6], hp (up A 87 r5) I x)) 4 rfl ?_
                    exact am_J.leaf (fun k => am_Ev.weak (L' := [some (.ref 85), some (.int a1), some (.int a2), some (.int a3), some (.int a4), none, some (.int s7), none]) (am_Lle.k (am_Lle.k (am_Lle.k (am_Lle.k (am_Lle.k (am_Lle.o (am_Lle.k (am_Lle.o am_Lle.nil)))))))) k)
              · rintro j10
                refine am_J.go (cf' := (54, [some (.ref 85), some (.int a1), some (.int a2), some (.int a3), some (.int a4), some (.int (s6 ||| j10)), some (.int (s7 + 1)), none], [], hp (up A 87 r5) I x)) 4 rfl ?_
                exact am_J.leaf (fun k => am_Ev.weak (L' := [some (.ref 85), some (.int a1), some (.int a2), some (.int a3), some (.int a4), some (.int (s6 ||| j10)), some (.int (s7 + 1)), none]) (am_Lle.k (am_Lle.k (am_Lle.k (am_Lle.k (am_Lle.k (am_Lle.k (am_Lle.k (am_Lle.o am_Lle.nil)))))))) k)
          · rintro e11
            refine (?_ : am_J (am_ro xs) 2 mc_X12_council r (114, [some (.ref 85), none, none, some (.int a3), some (.int a4), some (.int e11), none, none], [], hp (up A 87 r5) I x) _ _)
            refine am_J.go (cf' := (120, [some (.ref 85), none, none, some (.int a3), some (.int a4), some (.int e11), some (.int (-1)), some (.int 1)], [], hp (up A 87 r5) I x)) 4 rfl ?_
            refine am_J.weak (L' := [some (.ref 85), none, none, some (.int a3), some (.int a4), some (.int e11), some (.int (-1)), some (.int 1)]) (am_Lle.k (am_Lle.o (am_Lle.o (am_Lle.k (am_Lle.k (am_Lle.k (am_Lle.k (am_Lle.k am_Lle.nil)))))))) ?_
            refine am_J.loop (cl := fun q => match q with | (s12, s13) => (120, [some (.ref 85), none, none, some (.int a3), some (.int a4), some (.int e11), some (.int s12), some (.int s13)], [], hp (up A 87 r5) I x)) (GX := fun e24 => am_Ev (am_ro xs) 2 mc_X12_council (250, [none, none, none, none, none, none, some (.int e24), none], [], hp (up A 87 r5) I x) r) ?_ ?_
            · rintro ⟨s12, s13⟩
              unfold f_X12_council_l2
              refine am_J.go 2 rfl ?_
              refine am_J.ge rfl ?_ ?_
              · refine am_J.go (cf' := (250, [some (.ref 85), none, none, some (.int a3), some (.int a4), some (.int e11), some (.int s12), some (.int s13)], [], hp (up A 87 r5) I x)) 0 rfl ?_
                exact am_J.leaf (fun k => am_Ev.weak (L' := [none, none, none, none, none, none, some (.int s12), none]) (am_Lle.o (am_Lle.o (am_Lle.o (am_Lle.o (am_Lle.o (am_Lle.o (am_Lle.k (am_Lle.o am_Lle.nil)))))))) k)
              · refine am_J.go 5 rfl ?_
                refine am_J.join (β := Int32) (cj := fun j23 => (244, [some (.ref 85), none, none, some (.int a3), some (.int a4), some (.int e11), some (.int j23), some (.int s13)], [], hp (up A 87 r5) I x)) ?_ ?_
                · refine am_J.ne rfl ?_ ?_
                  · refine am_J.go 4 rfl ?_
                    refine am_J.call (v := fun r14 => .int r14) (h' := fun r14 => hp (up A 87 r5) I x) rfl (fun r14 hw => (t_X12_seatsOf (up A 87 r5) I x s13 (-1) a4 hw)) (fun r14 => ?_)
                    refine am_J.go 1 rfl ?_
                    refine am_J.lt rfl ?_ ?_
                    · refine am_J.go (cf' := (244, [some (.ref 85), none, none, some (.int a3), some (.int a4), some (.int e11), some (.int s12), some (.int s13)], [], hp (up A 87 r5) I x)) 0 rfl ?_
                      exact am_J.leaf (fun k => am_Ev.weak (L' := [some (.ref 85), none, none, some (.int a3), some (.int a4), some (.int e11), some (.int s12), some (.int s13)]) (am_Lle.k (am_Lle.o (am_Lle.o (am_Lle.k (am_Lle.k (am_Lle.k (am_Lle.k (am_Lle.k am_Lle.nil)))))))) k)
                    · refine am_J.go 4 rfl ?_
                      refine am_J.call (v := fun r15 => .int r15) (h' := fun r15 => hp (up A 87 r5) I x) rfl (fun r15 hw => (t_X12_seatsOf (up A 87 r5) I x s13 0 a4 hw)) (fun r15 => ?_)
                      refine am_J.go 3 rfl ?_
                      refine am_J.lt rfl ?_ ?_
                      · refine am_J.go (cf' := (244, [some (.ref 85), none, none, some (.int a3), some (.int a4), some (.int e11), some (.int s12), some (.int s13)], [], hp (up A 87 r5) I x)) 0 rfl ?_
                        exact am_J.leaf (fun k => am_Ev.weak (L' := [some (.ref 85), none, none, some (.int a3), some (.int a4), some (.int e11), some (.int s12), some (.int s13)]) (am_Lle.k (am_Lle.o (am_Lle.o (am_Lle.k (am_Lle.k (am_Lle.k (am_Lle.k (am_Lle.k am_Lle.nil)))))))) k)
                      · refine am_J.go 4 rfl ?_
                        refine am_J.call (v := fun r16 => .int r16) (h' := fun r16 => hp (up A 87 r5) I x) rfl (fun r16 hw => (t_X12_seatsOf (up A 87 r5) I x s13 1 a4 hw)) (fun r16 => ?_)
                        refine am_J.go 3 rfl ?_
                        refine am_J.ge rfl ?_ ?_
                        · refine am_J.go 1 rfl ?_
                          refine am_J.lt rfl ?_ ?_
                          · refine am_J.go (cf' := (244, [some (.ref 85), none, none, some (.int a3), some (.int a4), some (.int e11), some (.int s13), some (.int s13)], [], hp (up A 87 r5) I x)) 2 rfl ?_
                            exact am_J.leaf (fun k => am_Ev.weak (L' := [some (.ref 85), none, none, some (.int a3), some (.int a4), some (.int e11), some (.int s13), some (.int s13)]) (am_Lle.k (am_Lle.o (am_Lle.o (am_Lle.k (am_Lle.k (am_Lle.k (am_Lle.k (am_Lle.k am_Lle.nil)))))))) k)
                          · refine am_J.go 2 rfl ?_
                            refine am_J.call (v := fun r17 => .int r17) (h' := fun r17 => hp (up A 87 r5) I x) rfl (fun r17 hw => (t_X12_ones (up A 87 r5) I x s13 hw).mono (Nat.le_of_ble_eq_true rfl)) (fun r17 => ?_)
                            refine am_J.go 2 rfl ?_
                            refine am_J.call (v := fun r18 => .int r18) (h' := fun r18 => hp (up A 87 r5) I x) rfl (fun r18 hw => (t_X12_ones (up A 87 r5) I x s12 hw).mono (Nat.le_of_ble_eq_true rfl)) (fun r18 => ?_)
                            refine am_J.lt rfl ?_ ?_
                            · refine am_J.go (cf' := (244, [some (.ref 85), none, none, some (.int a3), some (.int a4), some (.int e11), some (.int s13), some (.int s13)], [], hp (up A 87 r5) I x)) 2 rfl ?_
                              exact am_J.leaf (fun k => am_Ev.weak (L' := [some (.ref 85), none, none, some (.int a3), some (.int a4), some (.int e11), some (.int s13), some (.int s13)]) (am_Lle.k (am_Lle.o (am_Lle.o (am_Lle.k (am_Lle.k (am_Lle.k (am_Lle.k (am_Lle.k am_Lle.nil)))))))) k)
                            · refine am_J.go 2 rfl ?_
                              refine am_J.call (v := fun r19 => .int r19) (h' := fun r19 => hp (up A 87 r5) I x) rfl (fun r19 hw => (t_X12_ones (up A 87 r5) I x s13 hw).mono (Nat.le_of_ble_eq_true rfl)) (fun r19 => ?_)
                              refine am_J.go 2 rfl ?_
                              refine am_J.call (v := fun r20 => .int r20) (h' := fun r20 => hp (up A 87 r5) I x) rfl (fun r20 hw => (t_X12_ones (up A 87 r5) I x s12 hw).mono (Nat.le_of_ble_eq_true rfl)) (fun r20 => ?_)
                              refine am_J.ne rfl ?_ ?_
                              · refine am_J.go 4 rfl ?_
                                refine am_J.call (v := fun r21 => .int r21) (h' := fun r21 => hp (up A 87 r5) I x) rfl (fun r21 hw => (t_X12_seatsOf (up A 87 r5) I x s13 (-1) a4 hw)) (fun r21 => ?_)
                                refine am_J.go 4 rfl ?_
                                refine am_J.call (v := fun r22 => .int r22) (h' := fun r22 => hp (up A 87 r5) I x) rfl (fun r22 hw => (t_X12_seatsOf (up A 87 r5) I x s12 (-1) a4 hw)) (fun r22 => ?_)
                                refine am_J.le rfl ?_ ?_
                                · refine am_J.go (cf' := (244, [some (.ref 85), none, none, some (.int a3), some (.int a4), some (.int e11), some (.int s12), some (.int s13)], [], hp (up A 87 r5) I x)) 0 rfl ?_
                                  exact am_J.leaf (fun k => am_Ev.weak (L' := [some (.ref 85), none, none, some (.int a3), some (.int a4), some (.int e11), some (.int s12), some (.int s13)]) (am_Lle.k (am_Lle.o (am_Lle.o (am_Lle.k (am_Lle.k (am_Lle.k (am_Lle.k (am_Lle.k am_Lle.nil)))))))) k)
                                · refine am_J.go (cf' := (244, [some (.ref 85), none, none, some (.int a3), some (.int a4), some (.int e11), some (.int s13), some (.int s13)], [], hp (up A 87 r5) I x)) 2 rfl ?_
                                  exact am_J.leaf (fun k => am_Ev.weak (L' := [some (.ref 85), none, none, some (.int a3), some (.int a4), some (.int e11), some (.int s13), some (.int s13)]) (am_Lle.k (am_Lle.o (am_Lle.o (am_Lle.k (am_Lle.k (am_Lle.k (am_Lle.k (am_Lle.k am_Lle.nil)))))))) k)
                              · refine am_J.go (cf' := (244, [some (.ref 85), none, none, some (.int a3), some (.int a4), some (.int e11), some (.int s12), some (.int s13)], [], hp (up A 87 r5) I x)) 0 rfl ?_
                                exact am_J.leaf (fun k => am_Ev.weak (L' := [some (.ref 85), none, none, some (.int a3), some (.int a4), some (.int e11), some (.int s12), some (.int s13)]) (am_Lle.k (am_Lle.o (am_Lle.o (am_Lle.k (am_Lle.k (am_Lle.k (am_Lle.k (am_Lle.k am_Lle.nil)))))))) k)
                        · refine am_J.go (cf' := (244, [some (.ref 85), none, none, some (.int a3), some (.int a4), some (.int e11), some (.int s12), some (.int s13)], [], hp (up A 87 r5) I x)) 1 rfl ?_
                          exact am_J.leaf (fun k => am_Ev.weak (L' := [some (.ref 85), none, none, some (.int a3), some (.int a4), some (.int e11), some (.int s12), some (.int s13)]) (am_Lle.k (am_Lle.o (am_Lle.o (am_Lle.k (am_Lle.k (am_Lle.k (am_Lle.k (am_Lle.k am_Lle.nil)))))))) k)
                  · refine am_J.go (cf' := (244, [some (.ref 85), none, none, some (.int a3), some (.int a4), some (.int e11), some (.int s12), some (.int s13)], [], hp (up A 87 r5) I x)) 0 rfl ?_
                    exact am_J.leaf (fun k => am_Ev.weak (L' := [some (.ref 85), none, none, some (.int a3), some (.int a4), some (.int e11), some (.int s12), some (.int s13)]) (am_Lle.k (am_Lle.o (am_Lle.o (am_Lle.k (am_Lle.k (am_Lle.k (am_Lle.k (am_Lle.k am_Lle.nil)))))))) k)
                · rintro j23
                  refine am_J.go (cf' := (120, [some (.ref 85), none, none, some (.int a3), some (.int a4), some (.int e11), some (.int j23), some (.int (s13 + 1))], [], hp (up A 87 r5) I x)) 2 rfl ?_
                  exact am_J.leaf (fun k => am_Ev.weak (L' := [some (.ref 85), none, none, some (.int a3), some (.int a4), some (.int e11), some (.int j23), some (.int (s13 + 1))]) (am_Lle.k (am_Lle.o (am_Lle.o (am_Lle.k (am_Lle.k (am_Lle.k (am_Lle.k (am_Lle.k am_Lle.nil)))))))) k)
            · rintro e24
              refine (?_ : am_J (am_ro xs) 2 mc_X12_council r (250, [none, none, none, none, none, none, some (.int e24), none], [], hp (up A 87 r5) I x) _ _)
              refine am_J.go 1 rfl ?_
              exact am_J.ret rfl (fun k => k)

def f_X12_crossed (A : Nat → List Int32) (I : Nat → Int32) (a1 : Int32) (a2 : Int32) : Option (Int32 × (List Int32)) :=
  ((f_X12_isAct A I a1).bind fun r1 =>
  (if r1 = 0 then
    some ((-2), (A 87))
  else
    ((f_X12_isAct A I a2).bind fun r2 =>
    (if r2 = 0 then
      some ((-2), (A 87))
    else
      (if a1 = a2 then
        some ((-2), (A 87))
      else
        ((f_X12_findFar A I).bind fun r3 =>
        ((f_X12_knew (up A 87 r3) I a1 a2).bind fun r4 =>
        (if r4 = 0 then
          ((f_X12_knew (up A 87 r3) I a2 a1).bind fun r5 =>
          (if r5 = 0 then
            some (1, r3)
          else
            some (0, r3)))
        else
          some (0, r3)))))))))
set_option maxRecDepth 100000 in
set_option maxHeartbeats 4000000 in
theorem t_X12_crossed {xs : List Int32} (A : Nat → List Int32) (I : Nat → Int32) (x : am_X) (a1 : Int32) (a2 : Int32) {z : Int32 × (List Int32)} (hz : f_X12_crossed A I a1 a2 = some z) : am_Rt (am_ro xs) 3 ix_X12_crossed [.ref 85, .int a1, .int a2] (hp A I x) (some (.int z.1), hp (up A 87 z.2) I x) := by
  refine am_Rt.J (k := ix_X12_crossed) (M := mc_X12_crossed) (nL := 3) (d := 2) (as := [.ref 85, .int a1, .int a2]) (res := fun z => (some (.int z.1), hp (up A 87 z.2) I x)) rfl (Nat.le_of_ble_eq_true rfl) (fun r => ?_) hz
  unfold f_X12_crossed
  refine am_J.go 2 rfl ?_
  refine am_J.callz (v := fun r1 => r1) (h' := fun r1 => hp A I x) rfl rfl rfl (fun r1 hw => (t_X12_isAct A I x a1 hw)) (fun r1 hr1 => ?_)
  refine am_J.eq rfl ?_ ?_
  · refine am_J.go 1 rfl ?_
    exact am_J.ret rfl (fun k => k)
  · refine am_J.go 2 rfl ?_
    refine am_J.callz (v := fun r2 => r2) (h' := fun r2 => hp A I x) rfl rfl rfl (fun r2 hw => (t_X12_isAct A I x a2 hw)) (fun r2 hr2 => ?_)
    refine am_J.eq rfl ?_ ?_
    · refine am_J.go 1 rfl ?_
      exact am_J.ret rfl (fun k => k)
    · refine am_J.go 2 rfl ?_
      refine am_J.ne rfl ?_ ?_
      · refine am_J.go 1 rfl ?_
        exact am_J.ret rfl (fun k => k)
      · refine am_J.go 1 rfl ?_
        refine am_J.calln (h' := fun r3 => hp (up A 87 r3) I x) rfl (fun r3 hw => (t_X12_findFar A I x hw).mono (Nat.le_of_ble_eq_true rfl)) (fun r3 => ?_)
        refine am_J.go 3 rfl ?_
        refine am_J.callz (v := fun r4 => r4) (h' := fun r4 => hp (up A 87 r3) I x) rfl rfl rfl (fun r4 hw => (t_X12_knew (up A 87 r3) I x a1 a2 hw)) (fun r4 hr4 => ?_)
        refine am_J.ne rfl ?_ ?_
        · refine am_J.go 3 rfl ?_
          refine am_J.callz (v := fun r5 => r5) (h' := fun r5 => hp (up A 87 r3) I x) rfl rfl rfl (fun r5 hw => (t_X12_knew (up A 87 r3) I x a2 a1 hw)) (fun r5 hr5 => ?_)
          refine am_J.eq rfl ?_ ?_
          · refine am_J.go 1 rfl ?_
            exact am_J.ret rfl (fun k => k)
          · refine am_J.go 2 rfl ?_
            exact am_J.ret rfl (fun k => k)
        · refine am_J.go 2 rfl ?_
          exact am_J.ret rfl (fun k => k)

def f_X12_felled (A : Nat → List Int32) (I : Nat → Int32) (a1 : Int32) (a2 : Int32) : Option (Int32 × (List Int32) × (List Int32)) :=
  ((f_X12_isSide A I a1).bind fun r1 =>
  (if r1 = 0 then
    some ((-2), (A 107), (A 108))
  else
    ((f_X12_isAct A I a2).bind fun r2 =>
    (if r2 = 0 then
      some ((-2), (A 107), (A 108))
    else
      ((f_X12_soundBy A I a1).bind fun r3 =>
      ((f_X12_savedBy (up (up A 107 r3.2.1) 108 r3.2.2) I a1).bind fun r4 =>
      ((f_X12_goodOf (up (up A 107 r4.2.1) 108 r4.2.2) I r3.1 r4.1).bind fun r5 =>
      ((f_X12_goodOf (up (up A 107 r4.2.1) 108 r4.2.2) I (r3.1 &&& ((1 <<< (a2 &&& 31)) ^^^ (-1))) r4.1).bind fun r6 =>
      some ((r5 &&& (r6 ^^^ (-1))), r4.2.1, r4.2.2)))))))))
set_option maxRecDepth 100000 in
set_option maxHeartbeats 4000000 in
theorem t_X12_felled {xs : List Int32} (A : Nat → List Int32) (I : Nat → Int32) (x : am_X) (a1 : Int32) (a2 : Int32) {z : Int32 × (List Int32) × (List Int32)} (hz : f_X12_felled A I a1 a2 = some z) : am_Rt (am_ro xs) 5 ix_X12_felled [.ref 85, .int a1, .int a2] (hp A I x) (some (.int z.1), hp (up (up A 107 z.2.1) 108 z.2.2) I x) := by
  refine am_Rt.J (k := ix_X12_felled) (M := mc_X12_felled) (nL := 5) (d := 4) (as := [.ref 85, .int a1, .int a2]) (res := fun z => (some (.int z.1), hp (up (up A 107 z.2.1) 108 z.2.2) I x)) rfl (Nat.le_of_ble_eq_true rfl) (fun r => ?_) hz
  unfold f_X12_felled
  refine am_J.go 2 rfl ?_
  refine am_J.callz (v := fun r1 => r1) (h' := fun r1 => hp A I x) rfl rfl rfl (fun r1 hw => (t_X12_isSide A I x a1 hw).mono (Nat.le_of_ble_eq_true rfl)) (fun r1 hr1 => ?_)
  refine am_J.eq rfl ?_ ?_
  · refine am_J.go 1 rfl ?_
    exact am_J.ret rfl (fun k => k)
  · refine am_J.go 2 rfl ?_
    refine am_J.callz (v := fun r2 => r2) (h' := fun r2 => hp A I x) rfl rfl rfl (fun r2 hw => (t_X12_isAct A I x a2 hw).mono (Nat.le_of_ble_eq_true rfl)) (fun r2 hr2 => ?_)
    refine am_J.ne rfl ?_ ?_
    · refine am_J.go 1 rfl ?_
      exact am_J.ret rfl (fun k => k)
    · refine am_J.go 2 rfl ?_
      refine am_J.call (v := fun r3 => .int r3.1) (h' := fun r3 => hp (up (up A 107 r3.2.1) 108 r3.2.2) I x) rfl (fun r3 hw => (t_X12_soundBy A I x a1 hw)) (fun r3 => ?_)
      refine am_J.go 3 rfl ?_
      refine am_J.call (v := fun r4 => .int r4.1) (h' := fun r4 => hp (up (up A 107 r4.2.1) 108 r4.2.2) I x) rfl (fun r4 hw => (t_X12_savedBy (up (up A 107 r3.2.1) 108 r3.2.2) I x a1 hw)) (fun r4 => ?_)
      refine am_J.go 4 rfl ?_
      refine am_J.call (v := fun r5 => .int r5) (h' := fun r5 => hp (up (up A 107 r4.2.1) 108 r4.2.2) I x) rfl (fun r5 hw => (t_X12_goodOf (up (up A 107 r4.2.1) 108 r4.2.2) I x r3.1 r4.1 hw).mono (Nat.le_of_ble_eq_true rfl)) (fun r5 => ?_)
      refine am_J.go 9 rfl ?_
      refine am_J.call (v := fun r6 => .int r6) (h' := fun r6 => hp (up (up A 107 r4.2.1) 108 r4.2.2) I x) rfl (fun r6 hw => (t_X12_goodOf (up (up A 107 r4.2.1) 108 r4.2.2) I x (r3.1 &&& ((1 <<< (a2 &&& 31)) ^^^ (-1))) r4.1 hw).mono (Nat.le_of_ble_eq_true rfl)) (fun r6 => ?_)
      refine am_J.go 3 rfl ?_
      exact am_J.ret rfl (fun k => k)

def f_X12_goodBy (A : Nat → List Int32) (I : Nat → Int32) (a1 : Int32) : Option (Int32 × (List Int32) × (List Int32)) :=
  ((f_X12_soundBy A I a1).bind fun r1 =>
  ((f_X12_savedBy (up (up A 107 r1.2.1) 108 r1.2.2) I a1).bind fun r2 =>
  ((f_X12_goodOf (up (up A 107 r2.2.1) 108 r2.2.2) I r1.1 r2.1).bind fun r3 =>
  some (r3, r2.2.1, r2.2.2))))
set_option maxRecDepth 100000 in
set_option maxHeartbeats 4000000 in
theorem t_X12_goodBy {xs : List Int32} (A : Nat → List Int32) (I : Nat → Int32) (x : am_X) (a1 : Int32) {z : Int32 × (List Int32) × (List Int32)} (hz : f_X12_goodBy A I a1 = some z) : am_Rt (am_ro xs) 5 ix_X12_goodBy [.ref 85, .int a1] (hp A I x) (some (.int z.1), hp (up (up A 107 z.2.1) 108 z.2.2) I x) := by
  refine am_Rt.J (k := ix_X12_goodBy) (M := mc_X12_goodBy) (nL := 2) (d := 4) (as := [.ref 85, .int a1]) (res := fun z => (some (.int z.1), hp (up (up A 107 z.2.1) 108 z.2.2) I x)) rfl (Nat.le_of_ble_eq_true rfl) (fun r => ?_) hz
  unfold f_X12_goodBy
  refine am_J.go 3 rfl ?_
  refine am_J.call (v := fun r1 => .int r1.1) (h' := fun r1 => hp (up (up A 107 r1.2.1) 108 r1.2.2) I x) rfl (fun r1 hw => (t_X12_soundBy A I x a1 hw)) (fun r1 => ?_)
  refine am_J.go 2 rfl ?_
  refine am_J.call (v := fun r2 => .int r2.1) (h' := fun r2 => hp (up (up A 107 r2.2.1) 108 r2.2.2) I x) rfl (fun r2 hw => (t_X12_savedBy (up (up A 107 r1.2.1) 108 r1.2.2) I x a1 hw)) (fun r2 => ?_)
  refine am_J.call (v := fun r3 => .int r3) (h' := fun r3 => hp (up (up A 107 r2.2.1) 108 r2.2.2) I x) rfl (fun r3 hw => (t_X12_goodOf (up (up A 107 r2.2.1) 108 r2.2.2) I x r1.1 r2.1 hw).mono (Nat.le_of_ble_eq_true rfl)) (fun r3 => ?_)
  exact am_J.ret rfl (fun k => k)

def f_X12_inForce_l1 (A : Nat → List Int32) (I : Nat → Int32) (a2 : Int32) (p6 : Int32) : (Int32 × Int32) → Option ((Int32 × Int32) ⊕ (Int32)) := fun q => match q with
    | (s4, s5) =>
    (if (I 5450) ≤ s5 then
      some (.inr s4)
    else
      (((if ((p6 >>> (s5 &&& 31)) &&& 1) = 1 then
          ((f_X12_isOn A I s5 a2).bind fun r7 =>
          (if r7 = 0 then
            some s4
          else
            ((am_at (A 94) s5).bind fun v8 =>
            (if v8 = 1 then
              ((am_at (A 96) s5).bind fun v9 =>
              ((f_X12_namingOf A I (v9 / 12) a2 p6).bind fun r10 =>
              (if r10 = s5 then
                some (s4 ||| (1 <<< (s5 &&& 31)))
              else
                some s4)))
            else
              some (s4 ||| (1 <<< (s5 &&& 31)))))))
        else
          some s4) : Option (Int32)).bind (fun j11 =>
      some (.inl (j11, (s5 + 1))))))
def f_X12_inForce (A : Nat → List Int32) (I : Nat → Int32) (a1 : Int32) (a2 : Int32) : Option (Int32 × (List Int32) × (List Int32)) :=
  ((f_X12_isSide A I a1).bind fun r1 =>
  (if r1 = 0 then
    some ((-2), (A 107), (A 108))
  else
    ((f_X12_isDay A I a2).bind fun r2 =>
    (if r2 = 0 then
      some ((-2), (A 107), (A 108))
    else
      ((f_X12_goodBy A I a1).bind fun r3 =>
      ((wl (f_X12_inForce_l1 (up (up A 107 r3.2.1) 108 r3.2.2) I a2 r3.1) 100000 (0, 0)).bind (fun e12 =>
      some (e12, r3.2.1, r3.2.2))))))))
set_option maxRecDepth 100000 in
set_option maxHeartbeats 4000000 in
theorem t_X12_inForce {xs : List Int32} (A : Nat → List Int32) (I : Nat → Int32) (x : am_X) (a1 : Int32) (a2 : Int32) {z : Int32 × (List Int32) × (List Int32)} (hz : f_X12_inForce A I a1 a2 = some z) : am_Rt (am_ro xs) 6 ix_X12_inForce [.ref 85, .int a1, .int a2] (hp A I x) (some (.int z.1), hp (up (up A 107 z.2.1) 108 z.2.2) I x) := by
  refine am_Rt.J (k := ix_X12_inForce) (M := mc_X12_inForce) (nL := 6) (d := 5) (as := [.ref 85, .int a1, .int a2]) (res := fun z => (some (.int z.1), hp (up (up A 107 z.2.1) 108 z.2.2) I x)) rfl (Nat.le_of_ble_eq_true rfl) (fun r => ?_) hz
  unfold f_X12_inForce
  refine am_J.go 2 rfl ?_
  refine am_J.callz (v := fun r1 => r1) (h' := fun r1 => hp A I x) rfl rfl rfl (fun r1 hw => (t_X12_isSide A I x a1 hw).mono (Nat.le_of_ble_eq_true rfl)) (fun r1 hr1 => ?_)
  refine am_J.eq rfl ?_ ?_
  · refine am_J.go 1 rfl ?_
    exact am_J.ret rfl (fun k => k)
  · refine am_J.go 2 rfl ?_
    refine am_J.callz (v := fun r2 => r2) (h' := fun r2 => hp A I x) rfl rfl rfl (fun r2 hw => (t_X12_isDay A I x a2 hw).mono (Nat.le_of_ble_eq_true rfl)) (fun r2 hr2 => ?_)
    refine am_J.ne rfl ?_ ?_
    · refine am_J.go 1 rfl ?_
      exact am_J.ret rfl (fun k => k)
    · refine am_J.go 2 rfl ?_
      refine am_J.call (v := fun r3 => .int r3.1) (h' := fun r3 => hp (up (up A 107 r3.2.1) 108 r3.2.2) I x) rfl (fun r3 hw => (t_X12_goodBy A I x a1 hw)) (fun r3 => ?_)
      refine am_J.go (cf' := (31, [some (.ref 85), some (.int a1), some (.int a2), some (.int r3.1), some (.int 0), some (.int 0)], [], hp (up (up A 107 r3.2.1) 108 r3.2.2) I x)) 5 rfl ?_
      refine am_J.weak (L' := [some (.ref 85), none, some (.int a2), some (.int r3.1), some (.int 0), some (.int 0)]) (am_Lle.k (am_Lle.o (am_Lle.k (am_Lle.k (am_Lle.k (am_Lle.k am_Lle.nil)))))) ?_
      refine am_J.loop (cl := fun q => match q with | (s4, s5) => (31, [some (.ref 85), none, some (.int a2), some (.int r3.1), some (.int s4), some (.int s5)], [], hp (up (up A 107 r3.2.1) 108 r3.2.2) I x)) (GX := fun e12 => am_Ev (am_ro xs) 5 mc_X12_inForce (107, [none, none, none, none, some (.int e12), none], [], hp (up (up A 107 r3.2.1) 108 r3.2.2) I x) r) ?_ ?_
      · rintro ⟨s4, s5⟩
        unfold f_X12_inForce_l1
        refine am_J.go 3 rfl ?_
        refine am_J.ge rfl ?_ ?_
        · refine am_J.go (cf' := (107, [some (.ref 85), none, some (.int a2), some (.int r3.1), some (.int s4), some (.int s5)], [], hp (up (up A 107 r3.2.1) 108 r3.2.2) I x)) 0 rfl ?_
          exact am_J.leaf (fun k => am_Ev.weak (L' := [none, none, none, none, some (.int s4), none]) (am_Lle.o (am_Lle.o (am_Lle.o (am_Lle.o (am_Lle.k (am_Lle.o am_Lle.nil)))))) k)
        · refine am_J.go 6 rfl ?_
          refine am_J.join (β := Int32) (cj := fun j11 => (101, [some (.ref 85), none, some (.int a2), some (.int r3.1), some (.int j11), some (.int s5)], [], hp (up (up A 107 r3.2.1) 108 r3.2.2) I x)) ?_ ?_
          · refine am_J.ne rfl ?_ ?_
            · refine am_J.go 3 rfl ?_
              refine am_J.callz (v := fun r7 => r7) (h' := fun r7 => hp (up (up A 107 r3.2.1) 108 r3.2.2) I x) rfl rfl rfl (fun r7 hw => (t_X12_isOn (up (up A 107 r3.2.1) 108 r3.2.2) I x s5 a2 hw).mono (Nat.le_of_ble_eq_true rfl)) (fun r7 hr7 => ?_)
              refine am_J.eq rfl ?_ ?_
              · refine am_J.go (cf' := (101, [some (.ref 85), none, some (.int a2), some (.int r3.1), some (.int s4), some (.int s5)], [], hp (up (up A 107 r3.2.1) 108 r3.2.2) I x)) 0 rfl ?_
                exact am_J.leaf (fun k => am_Ev.weak (L' := [some (.ref 85), none, some (.int a2), some (.int r3.1), some (.int s4), some (.int s5)]) (am_Lle.k (am_Lle.o (am_Lle.k (am_Lle.k (am_Lle.k (am_Lle.k am_Lle.nil)))))) k)
              · refine am_J.go 3 rfl ?_
                refine am_J.ial (xs := ((up (up A 107 r3.2.1) 108 r3.2.2) 94)) rfl (Nat.le_of_ble_eq_true rfl) rfl (fun v8 => ?_)
                refine am_J.go 1 rfl ?_
                refine am_J.ne rfl ?_ ?_
                · refine am_J.go 4 rfl ?_
                  refine am_J.ial (xs := ((up (up A 107 r3.2.1) 108 r3.2.2) 96)) rfl (Nat.le_of_ble_eq_true rfl) rfl (fun v9 => ?_)
                  refine am_J.go 4 rfl ?_
                  refine am_J.call (v := fun r10 => .int r10) (h' := fun r10 => hp (up (up A 107 r3.2.1) 108 r3.2.2) I x) rfl (fun r10 hw => (t_X12_namingOf (up (up A 107 r3.2.1) 108 r3.2.2) I x (v9 / 12) a2 r3.1 hw).mono (Nat.le_of_ble_eq_true rfl)) (fun r10 => ?_)
                  refine am_J.go 1 rfl ?_
                  refine am_J.ne rfl ?_ ?_
                  · refine am_J.go (cf' := (101, [some (.ref 85), none, some (.int a2), some (.int r3.1), some (.int (s4 ||| (1 <<< (s5 &&& 31)))), some (.int s5)], [], hp (up (up A 107 r3.2.1) 108 r3.2.2) I x)) 6 rfl ?_
                    exact am_J.leaf (fun k => am_Ev.weak (L' := [some (.ref 85), none, some (.int a2), some (.int r3.1), some (.int (s4 ||| (1 <<< (s5 &&& 31)))), some (.int s5)]) (am_Lle.k (am_Lle.o (am_Lle.k (am_Lle.k (am_Lle.k (am_Lle.k am_Lle.nil)))))) k)
                  · refine am_J.go (cf' := (101, [some (.ref 85), none, some (.int a2), some (.int r3.1), some (.int s4), some (.int s5)], [], hp (up (up A 107 r3.2.1) 108 r3.2.2) I x)) 0 rfl ?_
                    exact am_J.leaf (fun k => am_Ev.weak (L' := [some (.ref 85), none, some (.int a2), some (.int r3.1), some (.int s4), some (.int s5)]) (am_Lle.k (am_Lle.o (am_Lle.k (am_Lle.k (am_Lle.k (am_Lle.k am_Lle.nil)))))) k)
                · refine am_J.go (cf' := (101, [some (.ref 85), none, some (.int a2), some (.int r3.1), some (.int (s4 ||| (1 <<< (s5 &&& 31)))), some (.int s5)], [], hp (up (up A 107 r3.2.1) 108 r3.2.2) I x)) 6 rfl ?_
                  exact am_J.leaf (fun k => am_Ev.weak (L' := [some (.ref 85), none, some (.int a2), some (.int r3.1), some (.int (s4 ||| (1 <<< (s5 &&& 31)))), some (.int s5)]) (am_Lle.k (am_Lle.o (am_Lle.k (am_Lle.k (am_Lle.k (am_Lle.k am_Lle.nil)))))) k)
            · refine am_J.go (cf' := (101, [some (.ref 85), none, some (.int a2), some (.int r3.1), some (.int s4), some (.int s5)], [], hp (up (up A 107 r3.2.1) 108 r3.2.2) I x)) 0 rfl ?_
              exact am_J.leaf (fun k => am_Ev.weak (L' := [some (.ref 85), none, some (.int a2), some (.int r3.1), some (.int s4), some (.int s5)]) (am_Lle.k (am_Lle.o (am_Lle.k (am_Lle.k (am_Lle.k (am_Lle.k am_Lle.nil)))))) k)
          · rintro j11
            refine am_J.go (cf' := (31, [some (.ref 85), none, some (.int a2), some (.int r3.1), some (.int j11), some (.int (s5 + 1))], [], hp (up (up A 107 r3.2.1) 108 r3.2.2) I x)) 2 rfl ?_
            exact am_J.leaf (fun k => am_Ev.weak (L' := [some (.ref 85), none, some (.int a2), some (.int r3.1), some (.int j11), some (.int (s5 + 1))]) (am_Lle.k (am_Lle.o (am_Lle.k (am_Lle.k (am_Lle.k (am_Lle.k am_Lle.nil)))))) k)
      · rintro e12
        refine (?_ : am_J (am_ro xs) 5 mc_X12_inForce r (107, [none, none, none, none, some (.int e12), none], [], hp (up (up A 107 r3.2.1) 108 r3.2.2) I x) _ _)
        refine am_J.go 1 rfl ?_
        exact am_J.ret rfl (fun k => k)

def f_X12_isText_l1 (A : Nat → List Int32) (I : Nat → Int32) : (Int32 × (List Int32) × (List Int32) × (List Int32) × (List Int32) × Int32 × Int32 × Int32 × Int32 × Int32 × Int32 × Int32 × Int32) → Option ((Int32 × (List Int32) × (List Int32) × (List Int32) × (List Int32) × Int32 × Int32 × Int32 × Int32 × Int32 × Int32 × Int32 × Int32) ⊕ (((List Int32) × (List Int32) × (List Int32) × (List Int32) × Int32 × Int32 × Int32 × Int32 × Int32 × Int32 × Int32 × Int32) ⊕ (Int32 × (List Int32) × (List Int32) × (List Int32) × (List Int32) × Int32 × Int32 × Int32 × Int32 × Int32 × Int32 × Int32 × Int32))) := fun q => match q with
    | (s2, s3, s4, s5, s6, s7, s8, s9, s10, s11, s12, s13, s14) =>
    (if 2 ≤ s2 then
      some (.inr (.inl (s3, s4, s5, s6, s7, s8, s9, s10, s11, s12, s13, s14)))
    else
      ((f_X12_isKey (up (up (up (up A 103 s3) 104 s4) 105 s5) 106 s6) (up (up (up (up (up (up (up (up I 5464 s7) 5465 s8) 5466 s9) 5467 s10) 5470 s11) 5471 s12) 5472 s13) 5473 s14) s2).bind fun r15 =>
      (if r15 = 0 then
        some (.inr (.inr (0, s3, s4, s5, s6, s7, s8, s9, s10, s11, s12, s13, s14)))
      else
        ((f_X12_next (up (up (up (up A 103 s3) 104 s4) 105 s5) 106 s6) (up (up (up (up (up (up (up (up I 5464 s7) 5465 s8) 5466 s9) 5467 s10) 5470 s11) 5471 s12) 5472 s13) 5473 s14)).bind fun r16 =>
        ((f_X12_part (up (up (up (up A 103 s3) 104 s4) 105 s5) 106 s6) (up (up (up (up (up (up (up (up I 5464 r16.1) 5465 r16.2.1) 5466 r16.2.2.1) 5467 r16.2.2.2) 5470 s11) 5471 s12) 5472 s13) 5473 ((2 * (I 5460)) + s2))).bind fun r17 =>
        (if r17.1 = 0 then
          some (.inr (.inr (0, r17.2.1, r17.2.2.1, r17.2.2.2.1, r17.2.2.2.2.1, r17.2.2.2.2.2.1, r17.2.2.2.2.2.2.1, r17.2.2.2.2.2.2.2.1, r17.2.2.2.2.2.2.2.2.1, r17.2.2.2.2.2.2.2.2.2.1, r17.2.2.2.2.2.2.2.2.2.2.1, r17.2.2.2.2.2.2.2.2.2.2.2, ((2 * (I 5460)) + s2))))
        else
          ((f_X12_next (up (up (up (up A 103 r17.2.1) 104 r17.2.2.1) 105 r17.2.2.2.1) 106 r17.2.2.2.2.1) (up (up (up (up (up (up (up (up I 5464 r17.2.2.2.2.2.1) 5465 r17.2.2.2.2.2.2.1) 5466 r17.2.2.2.2.2.2.2.1) 5467 r17.2.2.2.2.2.2.2.2.1) 5470 r17.2.2.2.2.2.2.2.2.2.1) 5471 r17.2.2.2.2.2.2.2.2.2.2.1) 5472 r17.2.2.2.2.2.2.2.2.2.2.2) 5473 ((2 * (I 5460)) + s2))).bind fun r18 =>
          some (.inl ((s2 + 1), r17.2.1, r17.2.2.1, r17.2.2.2.1, r17.2.2.2.2.1, r18.1, r18.2.1, r18.2.2.1, r18.2.2.2, r17.2.2.2.2.2.2.2.2.2.1, r17.2.2.2.2.2.2.2.2.2.2.1, r17.2.2.2.2.2.2.2.2.2.2.2, ((2 * (I 5460)) + s2))))))))))
def f_X12_isText (A : Nat → List Int32) (I : Nat → Int32) : Option (Int32 × (List Int32) × (List Int32) × (List Int32) × (List Int32) × Int32 × Int32 × Int32 × Int32 × Int32 × Int32 × Int32 × Int32) :=
  ((f_X12_next A (up I 5464 0)).bind fun r1 =>
  ((wl (f_X12_isText_l1 A (up (up (up (up I 5464 r1.1) 5465 r1.2.1) 5466 r1.2.2.1) 5467 r1.2.2.2)) 100000 (0, (A 103), (A 104), (A 105), (A 106), r1.1, r1.2.1, r1.2.2.1, r1.2.2.2, (I 5470), (I 5471), (I 5472), (I 5473))).bind (fun q => match q with
  | .inl (e19, e20, e21, e22, e23, e24, e25, e26, e27, e28, e29, e30) =>
  (if e24 = 0 then
    some (1, e19, e20, e21, e22, e23, e24, e25, e26, e27, e28, e29, e30)
  else
    some (0, e19, e20, e21, e22, e23, e24, e25, e26, e27, e28, e29, e30))
  | .inr v => some v)))
set_option maxRecDepth 100000 in
set_option maxHeartbeats 4000000 in
theorem t_X12_isText {xs : List Int32} (A : Nat → List Int32) (I : Nat → Int32) (x : am_X) {z : Int32 × (List Int32) × (List Int32) × (List Int32) × (List Int32) × Int32 × Int32 × Int32 × Int32 × Int32 × Int32 × Int32 × Int32} (hz : f_X12_isText A I = some z) : am_Rt (am_ro xs) 5 ix_X12_isText [.ref 85] (hp A I x) (some (.int z.1), hp (up (up (up (up A 103 z.2.1) 104 z.2.2.1) 105 z.2.2.2.1) 106 z.2.2.2.2.1) (up (up (up (up (up (up (up (up I 5464 z.2.2.2.2.2.1) 5465 z.2.2.2.2.2.2.1) 5466 z.2.2.2.2.2.2.2.1) 5467 z.2.2.2.2.2.2.2.2.1) 5470 z.2.2.2.2.2.2.2.2.2.1) 5471 z.2.2.2.2.2.2.2.2.2.2.1) 5472 z.2.2.2.2.2.2.2.2.2.2.2.1) 5473 z.2.2.2.2.2.2.2.2.2.2.2.2) x) := by
  refine am_Rt.J (k := ix_X12_isText) (M := mc_X12_isText) (nL := 2) (d := 4) (as := [.ref 85]) (res := fun z => (some (.int z.1), hp (up (up (up (up A 103 z.2.1) 104 z.2.2.1) 105 z.2.2.2.1) 106 z.2.2.2.2.1) (up (up (up (up (up (up (up (up I 5464 z.2.2.2.2.2.1) 5465 z.2.2.2.2.2.2.1) 5466 z.2.2.2.2.2.2.2.1) 5467 z.2.2.2.2.2.2.2.2.1) 5470 z.2.2.2.2.2.2.2.2.2.1) 5471 z.2.2.2.2.2.2.2.2.2.2.1) 5472 z.2.2.2.2.2.2.2.2.2.2.2.1) 5473 z.2.2.2.2.2.2.2.2.2.2.2.2) x)) rfl (Nat.le_of_ble_eq_true rfl) (fun r => ?_) hz
  unfold f_X12_isText
  refine am_J.go 4 rfl ?_
  refine am_J.calln (h' := fun r1 => hp A (up (up (up (up I 5464 r1.1) 5465 r1.2.1) 5466 r1.2.2.1) 5467 r1.2.2.2) x) rfl (fun r1 hw => (t_X12_next A (up I 5464 0) x hw).mono (Nat.le_of_ble_eq_true rfl)) (fun r1 => ?_)
  refine am_J.go (cf' := (11, [some (.ref 85), some (.int 0)], [], hp A (up (up (up (up I 5464 r1.1) 5465 r1.2.1) 5466 r1.2.2.1) 5467 r1.2.2.2) x)) 2 rfl ?_
  refine am_J.weak (L' := [some (.ref 85), some (.int 0)]) (am_Lle.k (am_Lle.k am_Lle.nil)) ?_
  refine am_J.loop (cl := fun q => match q with | (s2, s3, s4, s5, s6, s7, s8, s9, s10, s11, s12, s13, s14) => (11, [some (.ref 85), some (.int s2)], [], hp (up (up (up (up A 103 s3) 104 s4) 105 s5) 106 s6) (up (up (up (up (up (up (up (up I 5464 s7) 5465 s8) 5466 s9) 5467 s10) 5470 s11) 5471 s12) 5472 s13) 5473 s14) x)) (GX := fun q => Sum.elim (fun q => match q with | (e19, e20, e21, e22, e23, e24, e25, e26, e27, e28, e29, e30) => am_Ev (am_ro xs) 4 mc_X12_isText (61, [some (.ref 85), none], [], hp (up (up (up (up A 103 e19) 104 e20) 105 e21) 106 e22) (up (up (up (up (up (up (up (up I 5464 e23) 5465 e24) 5466 e25) 5467 e26) 5470 e27) 5471 e28) 5472 e29) 5473 e30) x) r) (fun (z : Int32 × (List Int32) × (List Int32) × (List Int32) × (List Int32) × Int32 × Int32 × Int32 × Int32 × Int32 × Int32 × Int32 × Int32) => r = (some (.int z.1), hp (up (up (up (up A 103 z.2.1) 104 z.2.2.1) 105 z.2.2.2.1) 106 z.2.2.2.2.1) (up (up (up (up (up (up (up (up I 5464 z.2.2.2.2.2.1) 5465 z.2.2.2.2.2.2.1) 5466 z.2.2.2.2.2.2.2.1) 5467 z.2.2.2.2.2.2.2.2.1) 5470 z.2.2.2.2.2.2.2.2.2.1) 5471 z.2.2.2.2.2.2.2.2.2.2.1) 5472 z.2.2.2.2.2.2.2.2.2.2.2.1) 5473 z.2.2.2.2.2.2.2.2.2.2.2.2) x)) q) ?_ ?_
  · rintro ⟨s2, s3, s4, s5, s6, s7, s8, s9, s10, s11, s12, s13, s14⟩
    unfold f_X12_isText_l1
    refine am_J.go 2 rfl ?_
    refine am_J.ge rfl ?_ ?_
    · refine am_J.go (cf' := (61, [some (.ref 85), some (.int s2)], [], hp (up (up (up (up A 103 s3) 104 s4) 105 s5) 106 s6) (up (up (up (up (up (up (up (up (up (up (up (up I 5464 r1.1) 5465 r1.2.1) 5466 r1.2.2.1) 5467 r1.2.2.2) 5464 s7) 5465 s8) 5466 s9) 5467 s10) 5470 s11) 5471 s12) 5472 s13) 5473 s14) x)) 0 rfl ?_
      exact am_J.leaf (fun k => am_Ev.weak (L' := [some (.ref 85), none]) (am_Lle.k (am_Lle.o am_Lle.nil)) k)
    · refine am_J.go 2 rfl ?_
      refine am_J.callz (v := fun r15 => r15) (h' := fun r15 => hp (up (up (up (up A 103 s3) 104 s4) 105 s5) 106 s6) (up (up (up (up (up (up (up (up (up (up (up (up I 5464 r1.1) 5465 r1.2.1) 5466 r1.2.2.1) 5467 r1.2.2.2) 5464 s7) 5465 s8) 5466 s9) 5467 s10) 5470 s11) 5471 s12) 5472 s13) 5473 s14) x) rfl rfl rfl (fun r15 hw => (t_X12_isKey (up (up (up (up A 103 s3) 104 s4) 105 s5) 106 s6) (up (up (up (up (up (up (up (up (up (up (up (up I 5464 r1.1) 5465 r1.2.1) 5466 r1.2.2.1) 5467 r1.2.2.2) 5464 s7) 5465 s8) 5466 s9) 5467 s10) 5470 s11) 5471 s12) 5472 s13) 5473 s14) x s2 hw).mono (Nat.le_of_ble_eq_true rfl)) (fun r15 hr15 => ?_)
      refine am_J.ne rfl ?_ ?_
      · refine am_J.go 1 rfl ?_
        exact am_J.retz rfl (Or.inl rfl) (fun k => k)
      · refine am_J.go 1 rfl ?_
        refine am_J.calln (h' := fun r16 => hp (up (up (up (up A 103 s3) 104 s4) 105 s5) 106 s6) (up (up (up (up (up (up (up (up (up (up (up (up I 5464 r1.1) 5465 r1.2.1) 5466 r1.2.2.1) 5467 r1.2.2.2) 5464 r16.1) 5465 r16.2.1) 5466 r16.2.2.1) 5467 r16.2.2.2) 5470 s11) 5471 s12) 5472 s13) 5473 s14) x) rfl (fun r16 hw => (t_X12_next (up (up (up (up A 103 s3) 104 s4) 105 s5) 106 s6) (up (up (up (up (up (up (up (up (up (up (up (up I 5464 r1.1) 5465 r1.2.1) 5466 r1.2.2.1) 5467 r1.2.2.2) 5464 s7) 5465 s8) 5466 s9) 5467 s10) 5470 s11) 5471 s12) 5472 s13) 5473 s14) x hw).mono (Nat.le_of_ble_eq_true rfl)) (fun r16 => ?_)
        refine am_J.go 9 rfl ?_
        refine am_J.callz (v := fun r17 => r17.1) (h' := fun r17 => hp (up (up (up (up A 103 r17.2.1) 104 r17.2.2.1) 105 r17.2.2.2.1) 106 r17.2.2.2.2.1) (up (up (up (up (up (up (up (up (up (up (up (up I 5464 r1.1) 5465 r1.2.1) 5466 r1.2.2.1) 5467 r1.2.2.2) 5464 r17.2.2.2.2.2.1) 5465 r17.2.2.2.2.2.2.1) 5466 r17.2.2.2.2.2.2.2.1) 5467 r17.2.2.2.2.2.2.2.2.1) 5470 r17.2.2.2.2.2.2.2.2.2.1) 5471 r17.2.2.2.2.2.2.2.2.2.2.1) 5472 r17.2.2.2.2.2.2.2.2.2.2.2) 5473 ((2 * ((up (up (up (up I 5464 r1.1) 5465 r1.2.1) 5466 r1.2.2.1) 5467 r1.2.2.2) 5460)) + s2)) x) rfl rfl rfl (fun r17 hw => (t_X12_part (up (up (up (up A 103 s3) 104 s4) 105 s5) 106 s6) (up (up (up (up (up (up (up (up (up (up (up (up I 5464 r1.1) 5465 r1.2.1) 5466 r1.2.2.1) 5467 r1.2.2.2) 5464 r16.1) 5465 r16.2.1) 5466 r16.2.2.1) 5467 r16.2.2.2) 5470 s11) 5471 s12) 5472 s13) 5473 ((2 * ((up (up (up (up I 5464 r1.1) 5465 r1.2.1) 5466 r1.2.2.1) 5467 r1.2.2.2) 5460)) + s2)) x hw)) (fun r17 hr17 => ?_)
        refine am_J.ne rfl ?_ ?_
        · refine am_J.go 1 rfl ?_
          exact am_J.retz rfl (Or.inl rfl) (fun k => k)
        · refine am_J.go 1 rfl ?_
          refine am_J.calln (h' := fun r18 => hp (up (up (up (up A 103 r17.2.1) 104 r17.2.2.1) 105 r17.2.2.2.1) 106 r17.2.2.2.2.1) (up (up (up (up (up (up (up (up (up (up (up (up I 5464 r1.1) 5465 r1.2.1) 5466 r1.2.2.1) 5467 r1.2.2.2) 5464 r18.1) 5465 r18.2.1) 5466 r18.2.2.1) 5467 r18.2.2.2) 5470 r17.2.2.2.2.2.2.2.2.2.1) 5471 r17.2.2.2.2.2.2.2.2.2.2.1) 5472 r17.2.2.2.2.2.2.2.2.2.2.2) 5473 ((2 * ((up (up (up (up I 5464 r1.1) 5465 r1.2.1) 5466 r1.2.2.1) 5467 r1.2.2.2) 5460)) + s2)) x) rfl (fun r18 hw => (t_X12_next (up (up (up (up A 103 r17.2.1) 104 r17.2.2.1) 105 r17.2.2.2.1) 106 r17.2.2.2.2.1) (up (up (up (up (up (up (up (up (up (up (up (up I 5464 r1.1) 5465 r1.2.1) 5466 r1.2.2.1) 5467 r1.2.2.2) 5464 r17.2.2.2.2.2.1) 5465 r17.2.2.2.2.2.2.1) 5466 r17.2.2.2.2.2.2.2.1) 5467 r17.2.2.2.2.2.2.2.2.1) 5470 r17.2.2.2.2.2.2.2.2.2.1) 5471 r17.2.2.2.2.2.2.2.2.2.2.1) 5472 r17.2.2.2.2.2.2.2.2.2.2.2) 5473 ((2 * ((up (up (up (up I 5464 r1.1) 5465 r1.2.1) 5466 r1.2.2.1) 5467 r1.2.2.2) 5460)) + s2)) x hw).mono (Nat.le_of_ble_eq_true rfl)) (fun r18 => ?_)
          refine am_J.go (cf' := (11, [some (.ref 85), some (.int (s2 + 1))], [], hp (up (up (up (up A 103 r17.2.1) 104 r17.2.2.1) 105 r17.2.2.2.1) 106 r17.2.2.2.2.1) (up (up (up (up (up (up (up (up (up (up (up (up I 5464 r1.1) 5465 r1.2.1) 5466 r1.2.2.1) 5467 r1.2.2.2) 5464 r18.1) 5465 r18.2.1) 5466 r18.2.2.1) 5467 r18.2.2.2) 5470 r17.2.2.2.2.2.2.2.2.2.1) 5471 r17.2.2.2.2.2.2.2.2.2.2.1) 5472 r17.2.2.2.2.2.2.2.2.2.2.2) 5473 ((2 * ((up (up (up (up I 5464 r1.1) 5465 r1.2.1) 5466 r1.2.2.1) 5467 r1.2.2.2) 5460)) + s2)) x)) 2 rfl ?_
          exact am_J.leaf (fun k => am_Ev.weak (L' := [some (.ref 85), some (.int (s2 + 1))]) (am_Lle.k (am_Lle.k am_Lle.nil)) k)
  · intro q
    rcases q with ⟨e19, e20, e21, e22, e23, e24, e25, e26, e27, e28, e29, e30⟩ | v
    · refine (?_ : am_J (am_ro xs) 4 mc_X12_isText r (61, [some (.ref 85), none], [], hp (up (up (up (up A 103 e19) 104 e20) 105 e21) 106 e22) (up (up (up (up (up (up (up (up I 5464 e23) 5465 e24) 5466 e25) 5467 e26) 5470 e27) 5471 e28) 5472 e29) 5473 e30) x) _ _)
      refine am_J.go 2 rfl ?_
      refine am_J.ne rfl ?_ ?_
      · refine am_J.go 2 rfl ?_
        exact am_J.retz rfl (Or.inr rfl) (fun k => k)
      · refine am_J.go 1 rfl ?_
        exact am_J.retz rfl (Or.inl rfl) (fun k => k)
    · intro z hz hk
      cases hz
      exact hk

def f_X12_owed_l1 (A : Nat → List Int32) (I : Nat → Int32) (a2 : Int32) (p5 : Int32) : (Int64 × Int32) → Option ((Int64 × Int32) ⊕ (Int64)) := fun q => match q with
    | (s3, s4) =>
    (if (I 5476) ≤ s4 then
      some (.inr s3)
    else
      ((am_at (A 109) s4).bind fun v6 =>
      ((am_at (A 112) s4).bind fun v7 =>
      ((f_X12_rightOf A I v6 v7 p5).bind fun r8 =>
      (((if r8 < 0 then
          some s3
        else
          ((am_at (A 110) s4).bind fun v9 =>
          (if r8 = v9 then
            some s3
          else
            (if a2 = (-1) then
              ((am_at (A 111) s4).bind fun v10 =>
              some (s3 + (Int32.toInt64 v10)))
            else
              (if a2 = r8 then
                ((am_at (A 111) s4).bind fun v11 =>
                some (s3 + (Int32.toInt64 v11)))
              else
                some s3))))) : Option (Int64)).bind (fun j12 =>
      some (.inl (j12, (s4 + 1)))))))))
def f_X12_owed_l2 (A : Nat → List Int32) (I : Nat → Int32) (a2 : Int32) (p18 : Int32) : (Int64 × Int32) → Option ((Int64 × Int32) ⊕ (Int64)) := fun q => match q with
    | (s16, s17) =>
    (if (I 5476) ≤ s17 then
      some (.inr s16)
    else
      ((am_at (A 109) s17).bind fun v19 =>
      ((am_at (A 112) s17).bind fun v20 =>
      ((f_X12_rightOf A I v19 v20 p18).bind fun r21 =>
      (((if r21 < 0 then
          some s16
        else
          ((am_at (A 110) s17).bind fun v22 =>
          (if r21 = v22 then
            some s16
          else
            (if a2 = (-1) then
              ((am_at (A 111) s17).bind fun v23 =>
              some (s16 + (Int32.toInt64 v23)))
            else
              (if a2 = r21 then
                ((am_at (A 111) s17).bind fun v24 =>
                some (s16 + (Int32.toInt64 v24)))
              else
                some s16))))) : Option (Int64)).bind (fun j25 =>
      some (.inl (j25, (s17 + 1)))))))))
def f_X12_owed (A : Nat → List Int32) (I : Nat → Int32) (a1 : Int32) (a2 : Int32) : Option (Int64 × (List Int32) × (List Int32)) :=
  ((f_X12_isSide A I a1).bind fun r1 =>
  (if r1 = 0 then
    some ((-4611686018427387904), (A 107), (A 108))
  else
    (if a2 = (-1) then
      ((f_X12_goodBy A I a1).bind fun r2 =>
      ((wl (f_X12_owed_l1 (up (up A 107 r2.2.1) 108 r2.2.2) I a2 r2.1) 100000 (0, 0)).bind (fun e13 =>
      some (e13, r2.2.1, r2.2.2))))
    else
      ((f_X12_isPerson A I a2).bind fun r14 =>
      (if r14 = 0 then
        some ((-4611686018427387904), (A 107), (A 108))
      else
        ((f_X12_goodBy A I a1).bind fun r15 =>
        ((wl (f_X12_owed_l2 (up (up A 107 r15.2.1) 108 r15.2.2) I a2 r15.1) 100000 (0, 0)).bind (fun e26 =>
        some (e26, r15.2.1, r15.2.2)))))))))
set_option maxRecDepth 100000 in
set_option maxHeartbeats 4000000 in
theorem t_X12_owed {xs : List Int32} (A : Nat → List Int32) (I : Nat → Int32) (x : am_X) (a1 : Int32) (a2 : Int32) {z : Int64 × (List Int32) × (List Int32)} (hz : f_X12_owed A I a1 a2 = some z) : am_Rt (am_ro xs) 6 ix_X12_owed [.ref 85, .int a1, .int a2] (hp A I x) (some (.long z.1), hp (up (up A 107 z.2.1) 108 z.2.2) I x) := by
  refine am_Rt.J (k := ix_X12_owed) (M := mc_X12_owed) (nL := 8) (d := 5) (as := [.ref 85, .int a1, .int a2]) (res := fun z => (some (.long z.1), hp (up (up A 107 z.2.1) 108 z.2.2) I x)) rfl (Nat.le_of_ble_eq_true rfl) (fun r => ?_) hz
  unfold f_X12_owed
  refine am_J.go 2 rfl ?_
  refine am_J.callz (v := fun r1 => r1) (h' := fun r1 => hp A I x) rfl rfl rfl (fun r1 hw => (t_X12_isSide A I x a1 hw).mono (Nat.le_of_ble_eq_true rfl)) (fun r1 hr1 => ?_)
  refine am_J.eq rfl ?_ ?_
  · refine am_J.go 1 rfl ?_
    exact am_J.ret rfl (fun k => k)
  · refine am_J.go 2 rfl ?_
    refine am_J.eq rfl ?_ ?_
    · refine am_J.go 2 rfl ?_
      refine am_J.call (v := fun r2 => .int r2.1) (h' := fun r2 => hp (up (up A 107 r2.2.1) 108 r2.2.2) I x) rfl (fun r2 hw => (t_X12_goodBy A I x a1 hw)) (fun r2 => ?_)
      refine am_J.go (cf' := (37, [some (.ref 85), some (.int a1), some (.int a2), some (.int r2.1), some (.long 0), none, some (.int 0), none], [], hp (up (up A 107 r2.2.1) 108 r2.2.2) I x)) 5 rfl ?_
      refine am_J.weak (L' := [some (.ref 85), none, some (.int a2), some (.int r2.1), some (.long 0), none, some (.int 0), none]) (am_Lle.k (am_Lle.o (am_Lle.k (am_Lle.k (am_Lle.k (am_Lle.o (am_Lle.k (am_Lle.o am_Lle.nil)))))))) ?_
      refine am_J.loop (cl := fun q => match q with | (s3, s4) => (37, [some (.ref 85), none, some (.int a2), some (.int r2.1), some (.long s3), none, some (.int s4), none], [], hp (up (up A 107 r2.2.1) 108 r2.2.2) I x)) (GX := fun e13 => am_Ev (am_ro xs) 5 mc_X12_owed (114, [none, none, none, none, some (.long e13), none, none, none], [], hp (up (up A 107 r2.2.1) 108 r2.2.2) I x) r) ?_ ?_
      · rintro ⟨s3, s4⟩
        unfold f_X12_owed_l1
        refine am_J.go 3 rfl ?_
        refine am_J.ge rfl ?_ ?_
        · refine am_J.go (cf' := (114, [some (.ref 85), none, some (.int a2), some (.int r2.1), some (.long s3), none, some (.int s4), none], [], hp (up (up A 107 r2.2.1) 108 r2.2.2) I x)) 0 rfl ?_
          exact am_J.leaf (fun k => am_Ev.weak (L' := [none, none, none, none, some (.long s3), none, none, none]) (am_Lle.o (am_Lle.o (am_Lle.o (am_Lle.o (am_Lle.k (am_Lle.o (am_Lle.o (am_Lle.o am_Lle.nil)))))))) k)
        · refine am_J.go 4 rfl ?_
          refine am_J.ial (xs := ((up (up A 107 r2.2.1) 108 r2.2.2) 109)) rfl (Nat.le_of_ble_eq_true rfl) rfl (fun v6 => ?_)
          refine am_J.go 3 rfl ?_
          refine am_J.ial (xs := ((up (up A 107 r2.2.1) 108 r2.2.2) 112)) rfl (Nat.le_of_ble_eq_true rfl) rfl (fun v7 => ?_)
          refine am_J.go 1 rfl ?_
          refine am_J.call (v := fun r8 => .int r8) (h' := fun r8 => hp (up (up A 107 r2.2.1) 108 r2.2.2) I x) rfl (fun r8 hw => (t_X12_rightOf (up (up A 107 r2.2.1) 108 r2.2.2) I x v6 v7 r2.1 hw).mono (Nat.le_of_ble_eq_true rfl)) (fun r8 => ?_)
          refine am_J.go 2 rfl ?_
          refine am_J.join (β := Int64) (cj := fun j12 => (108, [some (.ref 85), none, some (.int a2), some (.int r2.1), some (.long j12), none, some (.int s4), none], [], hp (up (up A 107 r2.2.1) 108 r2.2.2) I x)) ?_ ?_
          · refine am_J.lt rfl ?_ ?_
            · refine am_J.go (cf' := (108, [some (.ref 85), none, some (.int a2), some (.int r2.1), some (.long s3), none, some (.int s4), some (.int r8)], [], hp (up (up A 107 r2.2.1) 108 r2.2.2) I x)) 0 rfl ?_
              exact am_J.leaf (fun k => am_Ev.weak (L' := [some (.ref 85), none, some (.int a2), some (.int r2.1), some (.long s3), none, some (.int s4), none]) (am_Lle.k (am_Lle.o (am_Lle.k (am_Lle.k (am_Lle.k (am_Lle.o (am_Lle.k (am_Lle.o am_Lle.nil)))))))) k)
            · refine am_J.go 4 rfl ?_
              refine am_J.ial (xs := ((up (up A 107 r2.2.1) 108 r2.2.2) 110)) rfl (Nat.le_of_ble_eq_true rfl) rfl (fun v9 => ?_)
              refine am_J.eq rfl ?_ ?_
              · refine am_J.go (cf' := (108, [some (.ref 85), none, some (.int a2), some (.int r2.1), some (.long s3), none, some (.int s4), some (.int r8)], [], hp (up (up A 107 r2.2.1) 108 r2.2.2) I x)) 0 rfl ?_
                exact am_J.leaf (fun k => am_Ev.weak (L' := [some (.ref 85), none, some (.int a2), some (.int r2.1), some (.long s3), none, some (.int s4), none]) (am_Lle.k (am_Lle.o (am_Lle.k (am_Lle.k (am_Lle.k (am_Lle.o (am_Lle.k (am_Lle.o am_Lle.nil)))))))) k)
              · refine am_J.go 2 rfl ?_
                refine am_J.eq rfl ?_ ?_
                · refine am_J.go 4 rfl ?_
                  refine am_J.ial (xs := ((up (up A 107 r2.2.1) 108 r2.2.2) 111)) rfl (Nat.le_of_ble_eq_true rfl) rfl (fun v10 => ?_)
                  refine am_J.go (cf' := (108, [some (.ref 85), none, some (.int a2), some (.int r2.1), some (.long (s3 + (Int32.toInt64 v10))), none, some (.int s4), some (.int r8)], [], hp (up (up A 107 r2.2.1) 108 r2.2.2) I x)) 3 rfl ?_
                  exact am_J.leaf (fun k => am_Ev.weak (L' := [some (.ref 85), none, some (.int a2), some (.int r2.1), some (.long (s3 + (Int32.toInt64 v10))), none, some (.int s4), none]) (am_Lle.k (am_Lle.o (am_Lle.k (am_Lle.k (am_Lle.k (am_Lle.o (am_Lle.k (am_Lle.o am_Lle.nil)))))))) k)
                · refine am_J.go 2 rfl ?_
                  refine am_J.ne rfl ?_ ?_
                  · refine am_J.go 4 rfl ?_
                    refine am_J.ial (xs := ((up (up A 107 r2.2.1) 108 r2.2.2) 111)) rfl (Nat.le_of_ble_eq_true rfl) rfl (fun v11 => ?_)
                    refine am_J.go (cf' := (108, [some (.ref 85), none, some (.int a2), some (.int r2.1), some (.long (s3 + (Int32.toInt64 v11))), none, some (.int s4), some (.int r8)], [], hp (up (up A 107 r2.2.1) 108 r2.2.2) I x)) 3 rfl ?_
                    exact am_J.leaf (fun k => am_Ev.weak (L' := [some (.ref 85), none, some (.int a2), some (.int r2.1), some (.long (s3 + (Int32.toInt64 v11))), none, some (.int s4), none]) (am_Lle.k (am_Lle.o (am_Lle.k (am_Lle.k (am_Lle.k (am_Lle.o (am_Lle.k (am_Lle.o am_Lle.nil)))))))) k)
                  · refine am_J.go (cf' := (108, [some (.ref 85), none, some (.int a2), some (.int r2.1), some (.long s3), none, some (.int s4), some (.int r8)], [], hp (up (up A 107 r2.2.1) 108 r2.2.2) I x)) 0 rfl ?_
                    exact am_J.leaf (fun k => am_Ev.weak (L' := [some (.ref 85), none, some (.int a2), some (.int r2.1), some (.long s3), none, some (.int s4), none]) (am_Lle.k (am_Lle.o (am_Lle.k (am_Lle.k (am_Lle.k (am_Lle.o (am_Lle.k (am_Lle.o am_Lle.nil)))))))) k)
          · rintro j12
            refine am_J.go (cf' := (37, [some (.ref 85), none, some (.int a2), some (.int r2.1), some (.long j12), none, some (.int (s4 + 1)), none], [], hp (up (up A 107 r2.2.1) 108 r2.2.2) I x)) 2 rfl ?_
            exact am_J.leaf (fun k => am_Ev.weak (L' := [some (.ref 85), none, some (.int a2), some (.int r2.1), some (.long j12), none, some (.int (s4 + 1)), none]) (am_Lle.k (am_Lle.o (am_Lle.k (am_Lle.k (am_Lle.k (am_Lle.o (am_Lle.k (am_Lle.o am_Lle.nil)))))))) k)
      · rintro e13
        refine (?_ : am_J (am_ro xs) 5 mc_X12_owed r (114, [none, none, none, none, some (.long e13), none, none, none], [], hp (up (up A 107 r2.2.1) 108 r2.2.2) I x) _ _)
        refine am_J.go 1 rfl ?_
        exact am_J.ret rfl (fun k => k)
    · refine am_J.go 2 rfl ?_
      refine am_J.callz (v := fun r14 => r14) (h' := fun r14 => hp A I x) rfl rfl rfl (fun r14 hw => (t_X12_isPerson A I x a2 hw).mono (Nat.le_of_ble_eq_true rfl)) (fun r14 hr14 => ?_)
      refine am_J.ne rfl ?_ ?_
      · refine am_J.go 1 rfl ?_
        exact am_J.ret rfl (fun k => k)
      · refine am_J.go 2 rfl ?_
        refine am_J.call (v := fun r15 => .int r15.1) (h' := fun r15 => hp (up (up A 107 r15.2.1) 108 r15.2.2) I x) rfl (fun r15 hw => (t_X12_goodBy A I x a1 hw)) (fun r15 => ?_)
        refine am_J.go (cf' := (37, [some (.ref 85), some (.int a1), some (.int a2), some (.int r15.1), some (.long 0), none, some (.int 0), none], [], hp (up (up A 107 r15.2.1) 108 r15.2.2) I x)) 5 rfl ?_
        refine am_J.weak (L' := [some (.ref 85), none, some (.int a2), some (.int r15.1), some (.long 0), none, some (.int 0), none]) (am_Lle.k (am_Lle.o (am_Lle.k (am_Lle.k (am_Lle.k (am_Lle.o (am_Lle.k (am_Lle.o am_Lle.nil)))))))) ?_
        refine am_J.loop (cl := fun q => match q with | (s16, s17) => (37, [some (.ref 85), none, some (.int a2), some (.int r15.1), some (.long s16), none, some (.int s17), none], [], hp (up (up A 107 r15.2.1) 108 r15.2.2) I x)) (GX := fun e26 => am_Ev (am_ro xs) 5 mc_X12_owed (114, [none, none, none, none, some (.long e26), none, none, none], [], hp (up (up A 107 r15.2.1) 108 r15.2.2) I x) r) ?_ ?_
        · rintro ⟨s16, s17⟩
          unfold f_X12_owed_l2
          refine am_J.go 3 rfl ?_
          refine am_J.ge rfl ?_ ?_
          · refine am_J.go (cf' := (114, [some (.ref 85), none, some (.int a2), some (.int r15.1), some (.long s16), none, some (.int s17), none], [], hp (up (up A 107 r15.2.1) 108 r15.2.2) I x)) 0 rfl ?_
            exact am_J.leaf (fun k => am_Ev.weak (L' := [none, none, none, none, some (.long s16), none, none, none]) (am_Lle.o (am_Lle.o (am_Lle.o (am_Lle.o (am_Lle.k (am_Lle.o (am_Lle.o (am_Lle.o am_Lle.nil)))))))) k)
          · refine am_J.go 4 rfl ?_
            refine am_J.ial (xs := ((up (up A 107 r15.2.1) 108 r15.2.2) 109)) rfl (Nat.le_of_ble_eq_true rfl) rfl (fun v19 => ?_)
            refine am_J.go 3 rfl ?_
            refine am_J.ial (xs := ((up (up A 107 r15.2.1) 108 r15.2.2) 112)) rfl (Nat.le_of_ble_eq_true rfl) rfl (fun v20 => ?_)
            refine am_J.go 1 rfl ?_
            refine am_J.call (v := fun r21 => .int r21) (h' := fun r21 => hp (up (up A 107 r15.2.1) 108 r15.2.2) I x) rfl (fun r21 hw => (t_X12_rightOf (up (up A 107 r15.2.1) 108 r15.2.2) I x v19 v20 r15.1 hw).mono (Nat.le_of_ble_eq_true rfl)) (fun r21 => ?_)
            refine am_J.go 2 rfl ?_
            refine am_J.join (β := Int64) (cj := fun j25 => (108, [some (.ref 85), none, some (.int a2), some (.int r15.1), some (.long j25), none, some (.int s17), none], [], hp (up (up A 107 r15.2.1) 108 r15.2.2) I x)) ?_ ?_
            · refine am_J.lt rfl ?_ ?_
              · refine am_J.go (cf' := (108, [some (.ref 85), none, some (.int a2), some (.int r15.1), some (.long s16), none, some (.int s17), some (.int r21)], [], hp (up (up A 107 r15.2.1) 108 r15.2.2) I x)) 0 rfl ?_
                exact am_J.leaf (fun k => am_Ev.weak (L' := [some (.ref 85), none, some (.int a2), some (.int r15.1), some (.long s16), none, some (.int s17), none]) (am_Lle.k (am_Lle.o (am_Lle.k (am_Lle.k (am_Lle.k (am_Lle.o (am_Lle.k (am_Lle.o am_Lle.nil)))))))) k)
              · refine am_J.go 4 rfl ?_
                refine am_J.ial (xs := ((up (up A 107 r15.2.1) 108 r15.2.2) 110)) rfl (Nat.le_of_ble_eq_true rfl) rfl (fun v22 => ?_)
                refine am_J.eq rfl ?_ ?_
                · refine am_J.go (cf' := (108, [some (.ref 85), none, some (.int a2), some (.int r15.1), some (.long s16), none, some (.int s17), some (.int r21)], [], hp (up (up A 107 r15.2.1) 108 r15.2.2) I x)) 0 rfl ?_
                  exact am_J.leaf (fun k => am_Ev.weak (L' := [some (.ref 85), none, some (.int a2), some (.int r15.1), some (.long s16), none, some (.int s17), none]) (am_Lle.k (am_Lle.o (am_Lle.k (am_Lle.k (am_Lle.k (am_Lle.o (am_Lle.k (am_Lle.o am_Lle.nil)))))))) k)
                · refine am_J.go 2 rfl ?_
                  refine am_J.eq rfl ?_ ?_
                  · refine am_J.go 4 rfl ?_
                    refine am_J.ial (xs := ((up (up A 107 r15.2.1) 108 r15.2.2) 111)) rfl (Nat.le_of_ble_eq_true rfl) rfl (fun v23 => ?_)
                    refine am_J.go (cf' := (108, [some (.ref 85), none, some (.int a2), some (.int r15.1), some (.long (s16 + (Int32.toInt64 v23))), none, some (.int s17), some (.int r21)], [], hp (up (up A 107 r15.2.1) 108 r15.2.2) I x)) 3 rfl ?_
                    exact am_J.leaf (fun k => am_Ev.weak (L' := [some (.ref 85), none, some (.int a2), some (.int r15.1), some (.long (s16 + (Int32.toInt64 v23))), none, some (.int s17), none]) (am_Lle.k (am_Lle.o (am_Lle.k (am_Lle.k (am_Lle.k (am_Lle.o (am_Lle.k (am_Lle.o am_Lle.nil)))))))) k)
                  · refine am_J.go 2 rfl ?_
                    refine am_J.ne rfl ?_ ?_
                    · refine am_J.go 4 rfl ?_
                      refine am_J.ial (xs := ((up (up A 107 r15.2.1) 108 r15.2.2) 111)) rfl (Nat.le_of_ble_eq_true rfl) rfl (fun v24 => ?_)
                      refine am_J.go (cf' := (108, [some (.ref 85), none, some (.int a2), some (.int r15.1), some (.long (s16 + (Int32.toInt64 v24))), none, some (.int s17), some (.int r21)], [], hp (up (up A 107 r15.2.1) 108 r15.2.2) I x)) 3 rfl ?_
                      exact am_J.leaf (fun k => am_Ev.weak (L' := [some (.ref 85), none, some (.int a2), some (.int r15.1), some (.long (s16 + (Int32.toInt64 v24))), none, some (.int s17), none]) (am_Lle.k (am_Lle.o (am_Lle.k (am_Lle.k (am_Lle.k (am_Lle.o (am_Lle.k (am_Lle.o am_Lle.nil)))))))) k)
                    · refine am_J.go (cf' := (108, [some (.ref 85), none, some (.int a2), some (.int r15.1), some (.long s16), none, some (.int s17), some (.int r21)], [], hp (up (up A 107 r15.2.1) 108 r15.2.2) I x)) 0 rfl ?_
                      exact am_J.leaf (fun k => am_Ev.weak (L' := [some (.ref 85), none, some (.int a2), some (.int r15.1), some (.long s16), none, some (.int s17), none]) (am_Lle.k (am_Lle.o (am_Lle.k (am_Lle.k (am_Lle.k (am_Lle.o (am_Lle.k (am_Lle.o am_Lle.nil)))))))) k)
            · rintro j25
              refine am_J.go (cf' := (37, [some (.ref 85), none, some (.int a2), some (.int r15.1), some (.long j25), none, some (.int (s17 + 1)), none], [], hp (up (up A 107 r15.2.1) 108 r15.2.2) I x)) 2 rfl ?_
              exact am_J.leaf (fun k => am_Ev.weak (L' := [some (.ref 85), none, some (.int a2), some (.int r15.1), some (.long j25), none, some (.int (s17 + 1)), none]) (am_Lle.k (am_Lle.o (am_Lle.k (am_Lle.k (am_Lle.k (am_Lle.o (am_Lle.k (am_Lle.o am_Lle.nil)))))))) k)
        · rintro e26
          refine (?_ : am_J (am_ro xs) 5 mc_X12_owed r (114, [none, none, none, none, some (.long e26), none, none, none], [], hp (up (up A 107 r15.2.1) 108 r15.2.2) I x) _ _)
          refine am_J.go 1 rfl ?_
          exact am_J.ret rfl (fun k => k)

def f_X12_quarrels_l1 (A : Nat → List Int32) (I : Nat → Int32) (a1 : Int32) (p6 : Int32) (p7 : Int32) : (Int32 × Int32) → Option ((Int32 × Int32) ⊕ (Int32)) := fun q => match q with
    | (s4, s5) =>
    (if 6 ≤ s5 then
      some (.inr s4)
    else
      ((f_X12_rightOf A I s5 a1 p6).bind fun r8 =>
      ((f_X12_rightOf A I s5 a1 p7).bind fun r9 =>
      (((if r8 = r9 then
          some 0
        else
          some (1 <<< (s5 &&& 31))) : Option (Int32)).bind (fun j10 =>
      some (.inl ((s4 ||| j10), (s5 + 1))))))))
def f_X12_quarrels (A : Nat → List Int32) (I : Nat → Int32) (a1 : Int32) : Option (Int32 × (List Int32) × (List Int32)) :=
  ((f_X12_isDay A I a1).bind fun r1 =>
  (if r1 = 0 then
    some ((-2), (A 107), (A 108))
  else
    ((f_X12_goodBy A I 0).bind fun r2 =>
    ((f_X12_goodBy (up (up A 107 r2.2.1) 108 r2.2.2) I 1).bind fun r3 =>
    ((wl (f_X12_quarrels_l1 (up (up A 107 r3.2.1) 108 r3.2.2) I a1 r2.1 r3.1) 100000 (0, 0)).bind (fun e11 =>
    some (e11, r3.2.1, r3.2.2)))))))
set_option maxRecDepth 100000 in
set_option maxHeartbeats 4000000 in
theorem t_X12_quarrels {xs : List Int32} (A : Nat → List Int32) (I : Nat → Int32) (x : am_X) (a1 : Int32) {z : Int32 × (List Int32) × (List Int32)} (hz : f_X12_quarrels A I a1 = some z) : am_Rt (am_ro xs) 6 ix_X12_quarrels [.ref 85, .int a1] (hp A I x) (some (.int z.1), hp (up (up A 107 z.2.1) 108 z.2.2) I x) := by
  refine am_Rt.J (k := ix_X12_quarrels) (M := mc_X12_quarrels) (nL := 6) (d := 5) (as := [.ref 85, .int a1]) (res := fun z => (some (.int z.1), hp (up (up A 107 z.2.1) 108 z.2.2) I x)) rfl (Nat.le_of_ble_eq_true rfl) (fun r => ?_) hz
  unfold f_X12_quarrels
  refine am_J.go 2 rfl ?_
  refine am_J.callz (v := fun r1 => r1) (h' := fun r1 => hp A I x) rfl rfl rfl (fun r1 hw => (t_X12_isDay A I x a1 hw).mono (Nat.le_of_ble_eq_true rfl)) (fun r1 hr1 => ?_)
  refine am_J.ne rfl ?_ ?_
  · refine am_J.go 1 rfl ?_
    exact am_J.ret rfl (fun k => k)
  · refine am_J.go 2 rfl ?_
    refine am_J.call (v := fun r2 => .int r2.1) (h' := fun r2 => hp (up (up A 107 r2.2.1) 108 r2.2.2) I x) rfl (fun r2 hw => (t_X12_goodBy A I x 0 hw)) (fun r2 => ?_)
    refine am_J.go 3 rfl ?_
    refine am_J.call (v := fun r3 => .int r3.1) (h' := fun r3 => hp (up (up A 107 r3.2.1) 108 r3.2.2) I x) rfl (fun r3 hw => (t_X12_goodBy (up (up A 107 r2.2.1) 108 r2.2.2) I x 1 hw)) (fun r3 => ?_)
    refine am_J.go (cf' := (29, [some (.ref 85), some (.int a1), some (.int r2.1), some (.int r3.1), some (.int 0), some (.int 0)], [], hp (up (up A 107 r3.2.1) 108 r3.2.2) I x)) 5 rfl ?_
    refine am_J.weak (L' := [some (.ref 85), some (.int a1), some (.int r2.1), some (.int r3.1), some (.int 0), some (.int 0)]) (am_Lle.k (am_Lle.k (am_Lle.k (am_Lle.k (am_Lle.k (am_Lle.k am_Lle.nil)))))) ?_
    refine am_J.loop (cl := fun q => match q with | (s4, s5) => (29, [some (.ref 85), some (.int a1), some (.int r2.1), some (.int r3.1), some (.int s4), some (.int s5)], [], hp (up (up A 107 r3.2.1) 108 r3.2.2) I x)) (GX := fun e11 => am_Ev (am_ro xs) 5 mc_X12_quarrels (74, [none, none, none, none, some (.int e11), none], [], hp (up (up A 107 r3.2.1) 108 r3.2.2) I x) r) ?_ ?_
    · rintro ⟨s4, s5⟩
      unfold f_X12_quarrels_l1
      refine am_J.go 2 rfl ?_
      refine am_J.ge rfl ?_ ?_
      · refine am_J.go (cf' := (74, [some (.ref 85), some (.int a1), some (.int r2.1), some (.int r3.1), some (.int s4), some (.int s5)], [], hp (up (up A 107 r3.2.1) 108 r3.2.2) I x)) 0 rfl ?_
        exact am_J.leaf (fun k => am_Ev.weak (L' := [none, none, none, none, some (.int s4), none]) (am_Lle.o (am_Lle.o (am_Lle.o (am_Lle.o (am_Lle.k (am_Lle.o am_Lle.nil)))))) k)
      · refine am_J.go 5 rfl ?_
        refine am_J.call (v := fun r8 => .int r8) (h' := fun r8 => hp (up (up A 107 r3.2.1) 108 r3.2.2) I x) rfl (fun r8 hw => (t_X12_rightOf (up (up A 107 r3.2.1) 108 r3.2.2) I x s5 a1 r2.1 hw).mono (Nat.le_of_ble_eq_true rfl)) (fun r8 => ?_)
        refine am_J.go 4 rfl ?_
        refine am_J.call (v := fun r9 => .int r9) (h' := fun r9 => hp (up (up A 107 r3.2.1) 108 r3.2.2) I x) rfl (fun r9 hw => (t_X12_rightOf (up (up A 107 r3.2.1) 108 r3.2.2) I x s5 a1 r3.1 hw).mono (Nat.le_of_ble_eq_true rfl)) (fun r9 => ?_)
        refine am_J.join (β := Int32) (cj := fun j10 => (65, [some (.ref 85), some (.int a1), some (.int r2.1), some (.int r3.1), none, some (.int s5)], [.int j10, .int s4], hp (up (up A 107 r3.2.1) 108 r3.2.2) I x)) ?_ ?_
        · refine am_J.ne rfl ?_ ?_
          · refine am_J.go (cf' := (65, [some (.ref 85), some (.int a1), some (.int r2.1), some (.int r3.1), some (.int s4), some (.int s5)], [.int 0, .int s4], hp (up (up A 107 r3.2.1) 108 r3.2.2) I x)) 2 rfl ?_
            exact am_J.leaf (fun k => am_Ev.weak (L' := [some (.ref 85), some (.int a1), some (.int r2.1), some (.int r3.1), none, some (.int s5)]) (am_Lle.k (am_Lle.k (am_Lle.k (am_Lle.k (am_Lle.o (am_Lle.k am_Lle.nil)))))) k)
          · refine am_J.go (cf' := (65, [some (.ref 85), some (.int a1), some (.int r2.1), some (.int r3.1), some (.int s4), some (.int s5)], [.int (1 <<< (s5 &&& 31)), .int s4], hp (up (up A 107 r3.2.1) 108 r3.2.2) I x)) 3 rfl ?_
            exact am_J.leaf (fun k => am_Ev.weak (L' := [some (.ref 85), some (.int a1), some (.int r2.1), some (.int r3.1), none, some (.int s5)]) (am_Lle.k (am_Lle.k (am_Lle.k (am_Lle.k (am_Lle.o (am_Lle.k am_Lle.nil)))))) k)
        · rintro j10
          refine am_J.go (cf' := (29, [some (.ref 85), some (.int a1), some (.int r2.1), some (.int r3.1), some (.int (s4 ||| j10)), some (.int (s5 + 1))], [], hp (up (up A 107 r3.2.1) 108 r3.2.2) I x)) 4 rfl ?_
          exact am_J.leaf (fun k => am_Ev.weak (L' := [some (.ref 85), some (.int a1), some (.int r2.1), some (.int r3.1), some (.int (s4 ||| j10)), some (.int (s5 + 1))]) (am_Lle.k (am_Lle.k (am_Lle.k (am_Lle.k (am_Lle.k (am_Lle.k am_Lle.nil)))))) k)
    · rintro e11
      refine (?_ : am_J (am_ro xs) 5 mc_X12_quarrels r (74, [none, none, none, none, some (.int e11), none], [], hp (up (up A 107 r3.2.1) 108 r3.2.2) I x) _ _)
      refine am_J.go 1 rfl ?_
      exact am_J.ret rfl (fun k => k)

def f_X12_settling_l1 (A : Nat → List Int32) (I : Nat → Int32) (a1 : Int32) (a2 : Int32) (p6 : Int32) : (Int32 × Int32) → Option ((Int32 × Int32) ⊕ (Int32)) := fun q => match q with
    | (s4, s5) =>
    (if (1 <<< ((I 5486) &&& 31)) ≤ s5 then
      some (.inr s4)
    else
      ((f_X12_goTogether A I s5).bind fun r7 =>
      (((if r7 = 0 then
          some s4
        else
          ((f_X12_takersOf A I s5).bind fun r8 =>
          ((f_X12_ones A I r8).bind fun r9 =>
          (if r9 < a1 then
            some s4
          else
            ((f_X12_isBetter A I s5 s4 p6).bind fun r10 =>
            (if r10 = 0 then
              some s4
            else
              some s5)))))) : Option (Int32)).bind (fun j11 =>
      some (.inl (j11, (s5 + 1)))))))
def f_X12_settling (A : Nat → List Int32) (I : Nat → Int32) (a1 : Int32) (a2 : Int32) : Option (Int32 × (List Int32) × (List Int32)) :=
  ((f_X12_in A I a1 0 8).bind fun r1 =>
  (if r1 = 0 then
    some ((-2), (A 107), (A 108))
  else
    ((f_X12_in A I a2 0 2).bind fun r2 =>
    (if r2 = 0 then
      some ((-2), (A 107), (A 108))
    else
      ((f_X12_goodBy A I 2).bind fun r3 =>
      ((wl (f_X12_settling_l1 (up (up A 107 r3.2.1) 108 r3.2.2) I a1 a2 r3.1) 100000 (0, 1)).bind (fun e12 =>
      (if a2 = 0 then
        some (e12, r3.2.1, r3.2.2)
      else
        (if a2 = 1 then
          ((f_X12_undoneBy (up (up A 107 r3.2.1) 108 r3.2.2) I e12 r3.1).bind fun r14 =>
          some (r14, r3.2.1, r3.2.2))
        else
          ((f_X12_takersOf (up (up A 107 r3.2.1) 108 r3.2.2) I e12).bind fun r13 =>
          some (r13, r3.2.1, r3.2.2)))))))))))
set_option maxRecDepth 100000 in
set_option maxHeartbeats 4000000 in
theorem t_X12_settling {xs : List Int32} (A : Nat → List Int32) (I : Nat → Int32) (x : am_X) (a1 : Int32) (a2 : Int32) {z : Int32 × (List Int32) × (List Int32)} (hz : f_X12_settling A I a1 a2 = some z) : am_Rt (am_ro xs) 6 ix_X12_settling [.ref 85, .int a1, .int a2] (hp A I x) (some (.int z.1), hp (up (up A 107 z.2.1) 108 z.2.2) I x) := by
  refine am_Rt.J (k := ix_X12_settling) (M := mc_X12_settling) (nL := 6) (d := 5) (as := [.ref 85, .int a1, .int a2]) (res := fun z => (some (.int z.1), hp (up (up A 107 z.2.1) 108 z.2.2) I x)) rfl (Nat.le_of_ble_eq_true rfl) (fun r => ?_) hz
  unfold f_X12_settling
  refine am_J.go 4 rfl ?_
  refine am_J.callz (v := fun r1 => r1) (h' := fun r1 => hp A I x) rfl rfl rfl (fun r1 hw => (t_X12_in A I x a1 0 8 hw).mono (Nat.le_of_ble_eq_true rfl)) (fun r1 hr1 => ?_)
  refine am_J.eq rfl ?_ ?_
  · refine am_J.go 1 rfl ?_
    exact am_J.ret rfl (fun k => k)
  · refine am_J.go 4 rfl ?_
    refine am_J.callz (v := fun r2 => r2) (h' := fun r2 => hp A I x) rfl rfl rfl (fun r2 hw => (t_X12_in A I x a2 0 2 hw).mono (Nat.le_of_ble_eq_true rfl)) (fun r2 hr2 => ?_)
    refine am_J.ne rfl ?_ ?_
    · refine am_J.go 1 rfl ?_
      exact am_J.ret rfl (fun k => k)
    · refine am_J.go 2 rfl ?_
      refine am_J.call (v := fun r3 => .int r3.1) (h' := fun r3 => hp (up (up A 107 r3.2.1) 108 r3.2.2) I x) rfl (fun r3 hw => (t_X12_goodBy A I x 2 hw)) (fun r3 => ?_)
      refine am_J.go (cf' := (36, [some (.ref 85), some (.int a1), some (.int a2), some (.int r3.1), some (.int 0), some (.int 1)], [], hp (up (up A 107 r3.2.1) 108 r3.2.2) I x)) 5 rfl ?_
      refine am_J.weak (L' := [some (.ref 85), some (.int a1), some (.int a2), some (.int r3.1), some (.int 0), some (.int 1)]) (am_Lle.k (am_Lle.k (am_Lle.k (am_Lle.k (am_Lle.k (am_Lle.k am_Lle.nil)))))) ?_
      refine am_J.loop (cl := fun q => match q with | (s4, s5) => (36, [some (.ref 85), some (.int a1), some (.int a2), some (.int r3.1), some (.int s4), some (.int s5)], [], hp (up (up A 107 r3.2.1) 108 r3.2.2) I x)) (GX := fun e12 => am_Ev (am_ro xs) 5 mc_X12_settling (92, [some (.ref 85), none, some (.int a2), some (.int r3.1), some (.int e12), none], [], hp (up (up A 107 r3.2.1) 108 r3.2.2) I x) r) ?_ ?_
      · rintro ⟨s4, s5⟩
        unfold f_X12_settling_l1
        refine am_J.go 5 rfl ?_
        refine am_J.ge rfl ?_ ?_
        · refine am_J.go (cf' := (92, [some (.ref 85), some (.int a1), some (.int a2), some (.int r3.1), some (.int s4), some (.int s5)], [], hp (up (up A 107 r3.2.1) 108 r3.2.2) I x)) 0 rfl ?_
          exact am_J.leaf (fun k => am_Ev.weak (L' := [some (.ref 85), none, some (.int a2), some (.int r3.1), some (.int s4), none]) (am_Lle.k (am_Lle.o (am_Lle.k (am_Lle.k (am_Lle.k (am_Lle.o am_Lle.nil)))))) k)
        · refine am_J.go 2 rfl ?_
          refine am_J.callz (v := fun r7 => r7) (h' := fun r7 => hp (up (up A 107 r3.2.1) 108 r3.2.2) I x) rfl rfl rfl (fun r7 hw => (t_X12_goTogether (up (up A 107 r3.2.1) 108 r3.2.2) I x s5 hw).mono (Nat.le_of_ble_eq_true rfl)) (fun r7 hr7 => ?_)
          refine am_J.join (β := Int32) (cj := fun j11 => (86, [some (.ref 85), some (.int a1), some (.int a2), some (.int r3.1), some (.int j11), some (.int s5)], [], hp (up (up A 107 r3.2.1) 108 r3.2.2) I x)) ?_ ?_
          · refine am_J.eq rfl ?_ ?_
            · refine am_J.go (cf' := (86, [some (.ref 85), some (.int a1), some (.int a2), some (.int r3.1), some (.int s4), some (.int s5)], [], hp (up (up A 107 r3.2.1) 108 r3.2.2) I x)) 0 rfl ?_
              exact am_J.leaf (fun k => am_Ev.weak (L' := [some (.ref 85), some (.int a1), some (.int a2), some (.int r3.1), some (.int s4), some (.int s5)]) (am_Lle.k (am_Lle.k (am_Lle.k (am_Lle.k (am_Lle.k (am_Lle.k am_Lle.nil)))))) k)
            · refine am_J.go 3 rfl ?_
              refine am_J.call (v := fun r8 => .int r8) (h' := fun r8 => hp (up (up A 107 r3.2.1) 108 r3.2.2) I x) rfl (fun r8 hw => (t_X12_takersOf (up (up A 107 r3.2.1) 108 r3.2.2) I x s5 hw).mono (Nat.le_of_ble_eq_true rfl)) (fun r8 => ?_)
              refine am_J.call (v := fun r9 => .int r9) (h' := fun r9 => hp (up (up A 107 r3.2.1) 108 r3.2.2) I x) rfl (fun r9 hw => (t_X12_ones (up (up A 107 r3.2.1) 108 r3.2.2) I x r8 hw).mono (Nat.le_of_ble_eq_true rfl)) (fun r9 => ?_)
              refine am_J.go 1 rfl ?_
              refine am_J.lt rfl ?_ ?_
              · refine am_J.go (cf' := (86, [some (.ref 85), some (.int a1), some (.int a2), some (.int r3.1), some (.int s4), some (.int s5)], [], hp (up (up A 107 r3.2.1) 108 r3.2.2) I x)) 0 rfl ?_
                exact am_J.leaf (fun k => am_Ev.weak (L' := [some (.ref 85), some (.int a1), some (.int a2), some (.int r3.1), some (.int s4), some (.int s5)]) (am_Lle.k (am_Lle.k (am_Lle.k (am_Lle.k (am_Lle.k (am_Lle.k am_Lle.nil)))))) k)
              · refine am_J.go 4 rfl ?_
                refine am_J.callz (v := fun r10 => r10) (h' := fun r10 => hp (up (up A 107 r3.2.1) 108 r3.2.2) I x) rfl rfl rfl (fun r10 hw => (t_X12_isBetter (up (up A 107 r3.2.1) 108 r3.2.2) I x s5 s4 r3.1 hw).mono (Nat.le_of_ble_eq_true rfl)) (fun r10 hr10 => ?_)
                refine am_J.eq rfl ?_ ?_
                · refine am_J.go (cf' := (86, [some (.ref 85), some (.int a1), some (.int a2), some (.int r3.1), some (.int s4), some (.int s5)], [], hp (up (up A 107 r3.2.1) 108 r3.2.2) I x)) 0 rfl ?_
                  exact am_J.leaf (fun k => am_Ev.weak (L' := [some (.ref 85), some (.int a1), some (.int a2), some (.int r3.1), some (.int s4), some (.int s5)]) (am_Lle.k (am_Lle.k (am_Lle.k (am_Lle.k (am_Lle.k (am_Lle.k am_Lle.nil)))))) k)
                · refine am_J.go (cf' := (86, [some (.ref 85), some (.int a1), some (.int a2), some (.int r3.1), some (.int s5), some (.int s5)], [], hp (up (up A 107 r3.2.1) 108 r3.2.2) I x)) 2 rfl ?_
                  exact am_J.leaf (fun k => am_Ev.weak (L' := [some (.ref 85), some (.int a1), some (.int a2), some (.int r3.1), some (.int s5), some (.int s5)]) (am_Lle.k (am_Lle.k (am_Lle.k (am_Lle.k (am_Lle.k (am_Lle.k am_Lle.nil)))))) k)
          · rintro j11
            refine am_J.go (cf' := (36, [some (.ref 85), some (.int a1), some (.int a2), some (.int r3.1), some (.int j11), some (.int (s5 + 1))], [], hp (up (up A 107 r3.2.1) 108 r3.2.2) I x)) 2 rfl ?_
            exact am_J.leaf (fun k => am_Ev.weak (L' := [some (.ref 85), some (.int a1), some (.int a2), some (.int r3.1), some (.int j11), some (.int (s5 + 1))]) (am_Lle.k (am_Lle.k (am_Lle.k (am_Lle.k (am_Lle.k (am_Lle.k am_Lle.nil)))))) k)
      · rintro e12
        refine (?_ : am_J (am_ro xs) 5 mc_X12_settling r (92, [some (.ref 85), none, some (.int a2), some (.int r3.1), some (.int e12), none], [], hp (up (up A 107 r3.2.1) 108 r3.2.2) I x) _ _)
        refine am_J.go 1 rfl ?_
        refine am_J.ne rfl ?_ ?_
        · refine am_J.go 2 rfl ?_
          exact am_J.ret rfl (fun k => k)
        · refine am_J.go 2 rfl ?_
          refine am_J.ne rfl ?_ ?_
          · refine am_J.go 3 rfl ?_
            refine am_J.call (v := fun r14 => .int r14) (h' := fun r14 => hp (up (up A 107 r3.2.1) 108 r3.2.2) I x) rfl (fun r14 hw => (t_X12_undoneBy (up (up A 107 r3.2.1) 108 r3.2.2) I x e12 r3.1 hw).mono (Nat.le_of_ble_eq_true rfl)) (fun r14 => ?_)
            refine am_J.go 1 rfl ?_
            exact am_J.ret rfl (fun k => k)
          · refine am_J.go 2 rfl ?_
            refine am_J.call (v := fun r13 => .int r13) (h' := fun r13 => hp (up (up A 107 r3.2.1) 108 r3.2.2) I x) rfl (fun r13 hw => (t_X12_takersOf (up (up A 107 r3.2.1) 108 r3.2.2) I x e12 hw).mono (Nat.le_of_ble_eq_true rfl)) (fun r13 => ?_)
            exact am_J.ret rfl (fun k => k)

def f_X12_text (A : Nat → List Int32) (I : Nat → Int32) : Option (Int32 × (List Int32) × (List Int32) × (List Int32) × (List Int32) × Int32 × Int32 × Int32 × Int32 × Int32 × Int32 × Int32 × Int32 × Int32 × Int32) :=
  (if (I 5460) = 6 then
    some ((-4), (A 103), (A 104), (A 105), (A 106), (I 5459), (I 5460), (I 5464), (I 5465), (I 5466), (I 5467), (I 5470), (I 5471), (I 5472), (I 5473))
  else
    ((f_X12_isText A I).bind fun r1 =>
    (if r1.1 = 0 then
      some (((-100) - r1.2.2.2.2.2.2.2.2.1), r1.2.1, r1.2.2.1, r1.2.2.2.1, r1.2.2.2.2.1, 0, (I 5460), r1.2.2.2.2.2.1, r1.2.2.2.2.2.2.1, r1.2.2.2.2.2.2.2.1, r1.2.2.2.2.2.2.2.2.1, r1.2.2.2.2.2.2.2.2.2.1, r1.2.2.2.2.2.2.2.2.2.2.1, r1.2.2.2.2.2.2.2.2.2.2.2.1, r1.2.2.2.2.2.2.2.2.2.2.2.2)
    else
      some ((((I 5460) + 1) - 1), r1.2.1, r1.2.2.1, r1.2.2.2.1, r1.2.2.2.2.1, 0, ((I 5460) + 1), r1.2.2.2.2.2.1, r1.2.2.2.2.2.2.1, r1.2.2.2.2.2.2.2.1, r1.2.2.2.2.2.2.2.2.1, r1.2.2.2.2.2.2.2.2.2.1, r1.2.2.2.2.2.2.2.2.2.2.1, r1.2.2.2.2.2.2.2.2.2.2.2.1, r1.2.2.2.2.2.2.2.2.2.2.2.2))))
set_option maxRecDepth 100000 in
set_option maxHeartbeats 4000000 in
theorem t_X12_text {xs : List Int32} (A : Nat → List Int32) (I : Nat → Int32) (x : am_X) {z : Int32 × (List Int32) × (List Int32) × (List Int32) × (List Int32) × Int32 × Int32 × Int32 × Int32 × Int32 × Int32 × Int32 × Int32 × Int32 × Int32} (hz : f_X12_text A I = some z) : am_Rt (am_ro xs) 6 ix_X12_text [.ref 85] (hp A I x) (some (.int z.1), hp (up (up (up (up A 103 z.2.1) 104 z.2.2.1) 105 z.2.2.2.1) 106 z.2.2.2.2.1) (up (up (up (up (up (up (up (up (up (up I 5459 z.2.2.2.2.2.1) 5460 z.2.2.2.2.2.2.1) 5464 z.2.2.2.2.2.2.2.1) 5465 z.2.2.2.2.2.2.2.2.1) 5466 z.2.2.2.2.2.2.2.2.2.1) 5467 z.2.2.2.2.2.2.2.2.2.2.1) 5470 z.2.2.2.2.2.2.2.2.2.2.2.1) 5471 z.2.2.2.2.2.2.2.2.2.2.2.2.1) 5472 z.2.2.2.2.2.2.2.2.2.2.2.2.2.1) 5473 z.2.2.2.2.2.2.2.2.2.2.2.2.2.2) x) := by
  refine am_Rt.J (k := ix_X12_text) (M := mc_X12_text) (nL := 3) (d := 5) (as := [.ref 85]) (res := fun z => (some (.int z.1), hp (up (up (up (up A 103 z.2.1) 104 z.2.2.1) 105 z.2.2.2.1) 106 z.2.2.2.2.1) (up (up (up (up (up (up (up (up (up (up I 5459 z.2.2.2.2.2.1) 5460 z.2.2.2.2.2.2.1) 5464 z.2.2.2.2.2.2.2.1) 5465 z.2.2.2.2.2.2.2.2.1) 5466 z.2.2.2.2.2.2.2.2.2.1) 5467 z.2.2.2.2.2.2.2.2.2.2.1) 5470 z.2.2.2.2.2.2.2.2.2.2.2.1) 5471 z.2.2.2.2.2.2.2.2.2.2.2.2.1) 5472 z.2.2.2.2.2.2.2.2.2.2.2.2.2.1) 5473 z.2.2.2.2.2.2.2.2.2.2.2.2.2.2) x)) rfl (Nat.le_of_ble_eq_true rfl) (fun r => ?_) hz
  unfold f_X12_text
  refine am_J.go 3 rfl ?_
  refine am_J.ne rfl ?_ ?_
  · refine am_J.go 1 rfl ?_
    exact am_J.ret rfl (fun k => k)
  · refine am_J.go 1 rfl ?_
    refine am_J.callz (v := fun r1 => r1.1) (h' := fun r1 => hp (up (up (up (up A 103 r1.2.1) 104 r1.2.2.1) 105 r1.2.2.2.1) 106 r1.2.2.2.2.1) (up (up (up (up (up (up (up (up I 5464 r1.2.2.2.2.2.1) 5465 r1.2.2.2.2.2.2.1) 5466 r1.2.2.2.2.2.2.2.1) 5467 r1.2.2.2.2.2.2.2.2.1) 5470 r1.2.2.2.2.2.2.2.2.2.1) 5471 r1.2.2.2.2.2.2.2.2.2.2.1) 5472 r1.2.2.2.2.2.2.2.2.2.2.2.1) 5473 r1.2.2.2.2.2.2.2.2.2.2.2.2) x) rfl rfl rfl (fun r1 hw => (t_X12_isText A I x hw)) (fun r1 hr1 => ?_)
    refine am_J.go 8 rfl ?_
    refine am_J.ne rfl ?_ ?_
    · refine am_J.go 3 rfl ?_
      exact am_J.ret rfl (fun k => k)
    · refine am_J.go 10 rfl ?_
      exact am_J.ret rfl (fun k => k)

def f_X1_forceOn_l1 (A : Nat → List Int32) (I : Nat → Int32) (a1 : Int32) (a2 : Int32) : (Int32 × Int32) → Option ((Int32 × Int32) ⊕ (Int32)) := fun q => match q with
    | (s1, s2) =>
    (if (I 1863) ≤ s2 then
      some (.inr s1)
    else
      ((f_X11_has a1 s2).bind fun r3 =>
      (((if r3 = 0 then
          some 0
        else
          ((am_at (A 30) s2).bind fun v4 =>
          (if v4 = 1 then
            some 0
          else
            some 1))) : Option (Int32)).bind (fun j5 =>
      (((if j5 = 0 then
          some 0
        else
          ((f_X2_runsOn A I s2 a2).bind fun r6 =>
          (if r6 = 0 then
            some 0
          else
            some (1 <<< (s2 &&& 31))))) : Option (Int32)).bind (fun j7 =>
      some (.inl ((s1 ||| j7), (s2 + 1)))))))))
def f_X1_forceOn_l2 (A : Nat → List Int32) (I : Nat → Int32) (a1 : Int32) (a2 : Int32) : (Int32 × Int32) → Option ((Int32 × Int32) ⊕ (Int32)) := fun q => match q with
    | (s9, s10) =>
    (if 6 ≤ s10 then
      some (.inr s9)
    else
      ((f_X1_namingOn A I a1 s10 a2).bind fun r11 =>
      (((if r11 = (-1) then
          some 0
        else
          some (1 <<< (r11 &&& 31))) : Option (Int32)).bind (fun j12 =>
      some (.inl ((s9 ||| j12), (s10 + 1)))))))
def f_X1_forceOn (A : Nat → List Int32) (I : Nat → Int32) (a1 : Int32) (a2 : Int32) : Option (Int32) :=
  ((wl (f_X1_forceOn_l1 A I a1 a2) 100000 (0, 0)).bind (fun e8 =>
  ((wl (f_X1_forceOn_l2 A I a1 a2) 100000 (e8, 0)).bind (fun e13 =>
  some e13))))
set_option maxRecDepth 100000 in
set_option maxHeartbeats 4000000 in
theorem t_X1_forceOn {xs : List Int32} (A : Nat → List Int32) (I : Nat → Int32) (x : am_X) (a1 : Int32) (a2 : Int32) {z : Int32} (hz : f_X1_forceOn A I a1 a2 = some z) : am_Rt (am_ro xs) 4 ix_X1_forceOn [.ref 37, .int a1, .int a2] (hp A I x) (some (.int z), hp A I x) := by
  refine am_Rt.J (k := ix_X1_forceOn) (M := mc_X1_forceOn) (nL := 6) (d := 3) (as := [.ref 37, .int a1, .int a2]) (res := fun z => (some (.int z), hp A I x)) rfl (Nat.le_of_ble_eq_true rfl) (fun r => ?_) hz
  unfold f_X1_forceOn
  refine am_J.go (cf' := (5, [some (.ref 37), some (.int a1), some (.int a2), some (.int 0), some (.int 0), none], [], hp A I x)) 4 rfl ?_
  refine am_J.weak (L' := [some (.ref 37), some (.int a1), some (.int a2), some (.int 0), some (.int 0), none]) (am_Lle.k (am_Lle.k (am_Lle.k (am_Lle.k (am_Lle.k (am_Lle.o am_Lle.nil)))))) ?_
  refine am_J.loop (cl := fun q => match q with | (s1, s2) => (5, [some (.ref 37), some (.int a1), some (.int a2), some (.int s1), some (.int s2), none], [], hp A I x)) (GX := fun e8 => am_Ev (am_ro xs) 3 mc_X1_forceOn (82, [some (.ref 37), some (.int a1), some (.int a2), some (.int e8), none, none], [], hp A I x) r) ?_ ?_
  · rintro ⟨s1, s2⟩
    unfold f_X1_forceOn_l1
    refine am_J.go 4 rfl ?_
    refine am_J.ge rfl ?_ ?_
    · refine am_J.go (cf' := (82, [some (.ref 37), some (.int a1), some (.int a2), some (.int s1), some (.int s2), none], [], hp A I x)) 0 rfl ?_
      exact am_J.leaf (fun k => am_Ev.weak (L' := [some (.ref 37), some (.int a1), some (.int a2), some (.int s1), none, none]) (am_Lle.k (am_Lle.k (am_Lle.k (am_Lle.k (am_Lle.o (am_Lle.o am_Lle.nil)))))) k)
    · refine am_J.go 2 rfl ?_
      refine am_J.callz (v := fun r3 => r3) (h' := fun r3 => hp A I x) rfl rfl rfl (fun r3 hw => (t_X11_has (h := hp A I x) a1 s2 hw).mono (Nat.le_of_ble_eq_true rfl)) (fun r3 hr3 => ?_)
      refine am_J.join (β := Int32) (cj := fun j5 => (45, [some (.ref 37), some (.int a1), some (.int a2), some (.int s1), some (.int s2), none], [.int j5], hp A I x)) ?_ ?_
      · refine am_J.eq rfl ?_ ?_
        · refine am_J.go (cf' := (45, [some (.ref 37), some (.int a1), some (.int a2), some (.int s1), some (.int s2), none], [.int 0], hp A I x)) 1 rfl ?_
          exact am_J.leaf (fun k => am_Ev.weak (L' := [some (.ref 37), some (.int a1), some (.int a2), some (.int s1), some (.int s2), none]) (am_Lle.k (am_Lle.k (am_Lle.k (am_Lle.k (am_Lle.k (am_Lle.o am_Lle.nil)))))) k)
        · refine am_J.go 4 rfl ?_
          refine am_J.ial (xs := (A 30)) rfl (Nat.le_of_ble_eq_true rfl) rfl (fun v4 => ?_)
          refine am_J.go 1 rfl ?_
          refine am_J.eq rfl ?_ ?_
          · refine am_J.go (cf' := (45, [some (.ref 37), some (.int a1), some (.int a2), some (.int s1), some (.int s2), none], [.int 0], hp A I x)) 1 rfl ?_
            exact am_J.leaf (fun k => am_Ev.weak (L' := [some (.ref 37), some (.int a1), some (.int a2), some (.int s1), some (.int s2), none]) (am_Lle.k (am_Lle.k (am_Lle.k (am_Lle.k (am_Lle.k (am_Lle.o am_Lle.nil)))))) k)
          · refine am_J.go (cf' := (45, [some (.ref 37), some (.int a1), some (.int a2), some (.int s1), some (.int s2), none], [.int 1], hp A I x)) 2 rfl ?_
            exact am_J.leaf (fun k => am_Ev.weak (L' := [some (.ref 37), some (.int a1), some (.int a2), some (.int s1), some (.int s2), none]) (am_Lle.k (am_Lle.k (am_Lle.k (am_Lle.k (am_Lle.k (am_Lle.o am_Lle.nil)))))) k)
      · rintro j5
        refine am_J.go 3 rfl ?_
        refine am_J.join (β := Int32) (cj := fun j7 => (74, [some (.ref 37), some (.int a1), some (.int a2), none, some (.int s2), none], [.int j7, .int s1], hp A I x)) ?_ ?_
        · refine am_J.eq rfl ?_ ?_
          · refine am_J.go (cf' := (74, [some (.ref 37), some (.int a1), some (.int a2), some (.int s1), some (.int s2), some (.int j5)], [.int 0, .int s1], hp A I x)) 1 rfl ?_
            exact am_J.leaf (fun k => am_Ev.weak (L' := [some (.ref 37), some (.int a1), some (.int a2), none, some (.int s2), none]) (am_Lle.k (am_Lle.k (am_Lle.k (am_Lle.o (am_Lle.k (am_Lle.o am_Lle.nil)))))) k)
          · refine am_J.go 4 rfl ?_
            refine am_J.callz (v := fun r6 => r6) (h' := fun r6 => hp A I x) rfl rfl rfl (fun r6 hw => (t_X2_runsOn A I x s2 a2 hw).mono (Nat.le_of_ble_eq_true rfl)) (fun r6 hr6 => ?_)
            refine am_J.eq rfl ?_ ?_
            · refine am_J.go (cf' := (74, [some (.ref 37), some (.int a1), some (.int a2), some (.int s1), some (.int s2), some (.int j5)], [.int 0, .int s1], hp A I x)) 1 rfl ?_
              exact am_J.leaf (fun k => am_Ev.weak (L' := [some (.ref 37), some (.int a1), some (.int a2), none, some (.int s2), none]) (am_Lle.k (am_Lle.k (am_Lle.k (am_Lle.o (am_Lle.k (am_Lle.o am_Lle.nil)))))) k)
            · refine am_J.go (cf' := (74, [some (.ref 37), some (.int a1), some (.int a2), some (.int s1), some (.int s2), some (.int j5)], [.int (1 <<< (s2 &&& 31)), .int s1], hp A I x)) 4 rfl ?_
              exact am_J.leaf (fun k => am_Ev.weak (L' := [some (.ref 37), some (.int a1), some (.int a2), none, some (.int s2), none]) (am_Lle.k (am_Lle.k (am_Lle.k (am_Lle.o (am_Lle.k (am_Lle.o am_Lle.nil)))))) k)
        · rintro j7
          refine am_J.go (cf' := (5, [some (.ref 37), some (.int a1), some (.int a2), some (.int (s1 ||| j7)), some (.int (s2 + 1)), none], [], hp A I x)) 4 rfl ?_
          exact am_J.leaf (fun k => am_Ev.weak (L' := [some (.ref 37), some (.int a1), some (.int a2), some (.int (s1 ||| j7)), some (.int (s2 + 1)), none]) (am_Lle.k (am_Lle.k (am_Lle.k (am_Lle.k (am_Lle.k (am_Lle.o am_Lle.nil)))))) k)
  · rintro e8
    refine (?_ : am_J (am_ro xs) 3 mc_X1_forceOn r (82, [some (.ref 37), some (.int a1), some (.int a2), some (.int e8), none, none], [], hp A I x) _ _)
    refine am_J.go (cf' := (85, [some (.ref 37), some (.int a1), some (.int a2), some (.int e8), some (.int 0), none], [], hp A I x)) 2 rfl ?_
    refine am_J.weak (L' := [some (.ref 37), some (.int a1), some (.int a2), some (.int e8), some (.int 0), none]) (am_Lle.k (am_Lle.k (am_Lle.k (am_Lle.k (am_Lle.k (am_Lle.o am_Lle.nil)))))) ?_
    refine am_J.loop (cl := fun q => match q with | (s9, s10) => (85, [some (.ref 37), some (.int a1), some (.int a2), some (.int s9), some (.int s10), none], [], hp A I x)) (GX := fun e13 => am_Ev (am_ro xs) 3 mc_X1_forceOn (125, [none, none, none, some (.int e13), none, none], [], hp A I x) r) ?_ ?_
    · rintro ⟨s9, s10⟩
      unfold f_X1_forceOn_l2
      refine am_J.go 2 rfl ?_
      refine am_J.ge rfl ?_ ?_
      · refine am_J.go (cf' := (125, [some (.ref 37), some (.int a1), some (.int a2), some (.int s9), some (.int s10), none], [], hp A I x)) 0 rfl ?_
        exact am_J.leaf (fun k => am_Ev.weak (L' := [none, none, none, some (.int s9), none, none]) (am_Lle.o (am_Lle.o (am_Lle.o (am_Lle.k (am_Lle.o (am_Lle.o am_Lle.nil)))))) k)
      · refine am_J.go 4 rfl ?_
        refine am_J.call (v := fun r11 => .int r11) (h' := fun r11 => hp A I x) rfl (fun r11 hw => (t_X1_namingOn A I x a1 s10 a2 hw)) (fun r11 => ?_)
        refine am_J.go 4 rfl ?_
        refine am_J.join (β := Int32) (cj := fun j12 => (117, [some (.ref 37), some (.int a1), some (.int a2), none, some (.int s10), none], [.int j12, .int s9], hp A I x)) ?_ ?_
        · refine am_J.eq rfl ?_ ?_
          · refine am_J.go (cf' := (117, [some (.ref 37), some (.int a1), some (.int a2), some (.int s9), some (.int s10), some (.int r11)], [.int 0, .int s9], hp A I x)) 1 rfl ?_
            exact am_J.leaf (fun k => am_Ev.weak (L' := [some (.ref 37), some (.int a1), some (.int a2), none, some (.int s10), none]) (am_Lle.k (am_Lle.k (am_Lle.k (am_Lle.o (am_Lle.k (am_Lle.o am_Lle.nil)))))) k)
          · refine am_J.go (cf' := (117, [some (.ref 37), some (.int a1), some (.int a2), some (.int s9), some (.int s10), some (.int r11)], [.int (1 <<< (r11 &&& 31)), .int s9], hp A I x)) 4 rfl ?_
            exact am_J.leaf (fun k => am_Ev.weak (L' := [some (.ref 37), some (.int a1), some (.int a2), none, some (.int s10), none]) (am_Lle.k (am_Lle.k (am_Lle.k (am_Lle.o (am_Lle.k (am_Lle.o am_Lle.nil)))))) k)
        · rintro j12
          refine am_J.go (cf' := (85, [some (.ref 37), some (.int a1), some (.int a2), some (.int (s9 ||| j12)), some (.int (s10 + 1)), none], [], hp A I x)) 4 rfl ?_
          exact am_J.leaf (fun k => am_Ev.weak (L' := [some (.ref 37), some (.int a1), some (.int a2), some (.int (s9 ||| j12)), some (.int (s10 + 1)), none]) (am_Lle.k (am_Lle.k (am_Lle.k (am_Lle.k (am_Lle.k (am_Lle.o am_Lle.nil)))))) k)
    · rintro e13
      refine (?_ : am_J (am_ro xs) 3 mc_X1_forceOn r (125, [none, none, none, some (.int e13), none, none], [], hp A I x) _ _)
      refine am_J.go 1 rfl ?_
      exact am_J.ret rfl (fun k => k)

def f_X1_knewOf (A : Nat → List Int32) (I : Nat → Int32) (a1 : Int32) (a2 : Int32) : Option (Int32) :=
  ((f_X1_landOf A I a1).bind fun r1 =>
  ((f_X1_knownFrom A I a2 r1).bind fun r2 =>
  (if r2 = (-1) then
    some 0
  else
    ((am_at (A 33) a1).bind fun v3 =>
    (if v3 < r2 then
      some 0
    else
      some 1)))))
set_option maxRecDepth 100000 in
set_option maxHeartbeats 4000000 in
theorem t_X1_knewOf {xs : List Int32} (A : Nat → List Int32) (I : Nat → Int32) (x : am_X) (a1 : Int32) (a2 : Int32) {z : Int32} (hz : f_X1_knewOf A I a1 a2 = some z) : am_Rt (am_ro xs) 3 ix_X1_knewOf [.ref 37, .int a1, .int a2] (hp A I x) (some (.int z), hp A I x) := by
  refine am_Rt.J (k := ix_X1_knewOf) (M := mc_X1_knewOf) (nL := 4) (d := 2) (as := [.ref 37, .int a1, .int a2]) (res := fun z => (some (.int z), hp A I x)) rfl (Nat.le_of_ble_eq_true rfl) (fun r => ?_) hz
  unfold f_X1_knewOf
  refine am_J.go 4 rfl ?_
  refine am_J.call (v := fun r1 => .int r1) (h' := fun r1 => hp A I x) rfl (fun r1 hw => (t_X1_landOf A I x a1 hw).mono (Nat.le_of_ble_eq_true rfl)) (fun r1 => ?_)
  refine am_J.call (v := fun r2 => .int r2) (h' := fun r2 => hp A I x) rfl (fun r2 hw => (t_X1_knownFrom A I x a2 r1 hw)) (fun r2 => ?_)
  refine am_J.go 3 rfl ?_
  refine am_J.eq rfl ?_ ?_
  · refine am_J.go 1 rfl ?_
    exact am_J.retz rfl (Or.inl rfl) (fun k => k)
  · refine am_J.go 5 rfl ?_
    refine am_J.ial (xs := (A 33)) rfl (Nat.le_of_ble_eq_true rfl) rfl (fun v3 => ?_)
    refine am_J.gt rfl ?_ ?_
    · refine am_J.go 1 rfl ?_
      exact am_J.retz rfl (Or.inl rfl) (fun k => k)
    · refine am_J.go 2 rfl ?_
      exact am_J.retz rfl (Or.inr rfl) (fun k => k)

def f_X6_holdingToOne_l1 (A : Nat → List Int32) (I : Nat → Int32) (a1 : Int32) : (Int32 × Int32) → Option ((Int32 × Int32) ⊕ (Int32)) := fun q => match q with
    | (s1, s2) =>
    (if 8 ≤ s2 then
      some (.inr s1)
    else
      ((f_X6_sideOn A I s2 a1).bind fun r3 =>
      some (.inl ((s1 ||| (r3 <<< (s2 &&& 31))), (s2 + 1)))))
def f_X6_holdingToOne (A : Nat → List Int32) (I : Nat → Int32) (a1 : Int32) : Option (Int32) :=
  ((wl (f_X6_holdingToOne_l1 A I a1) 100000 (0, 0)).bind (fun e4 =>
  some e4))
set_option maxRecDepth 100000 in
set_option maxHeartbeats 4000000 in
theorem t_X6_holdingToOne {xs : List Int32} (A : Nat → List Int32) (I : Nat → Int32) (x : am_X) (a1 : Int32) {z : Int32} (hz : f_X6_holdingToOne A I a1 = some z) : am_Rt (am_ro xs) 3 ix_X6_holdingToOne [.ref 1, .int a1] (hp A I x) (some (.int z), hp A I x) := by
  refine am_Rt.J (k := ix_X6_holdingToOne) (M := mc_X6_holdingToOne) (nL := 4) (d := 2) (as := [.ref 1, .int a1]) (res := fun z => (some (.int z), hp A I x)) rfl (Nat.le_of_ble_eq_true rfl) (fun r => ?_) hz
  unfold f_X6_holdingToOne
  refine am_J.go (cf' := (4, [some (.ref 1), some (.int a1), some (.int 0), some (.int 0)], [], hp A I x)) 4 rfl ?_
  refine am_J.weak (L' := [some (.ref 1), some (.int a1), some (.int 0), some (.int 0)]) (am_Lle.k (am_Lle.k (am_Lle.k (am_Lle.k am_Lle.nil)))) ?_
  refine am_J.loop (cl := fun q => match q with | (s1, s2) => (4, [some (.ref 1), some (.int a1), some (.int s1), some (.int s2)], [], hp A I x)) (GX := fun e4 => am_Ev (am_ro xs) 2 mc_X6_holdingToOne (27, [none, none, some (.int e4), none], [], hp A I x) r) ?_ ?_
  · rintro ⟨s1, s2⟩
    unfold f_X6_holdingToOne_l1
    refine am_J.go 2 rfl ?_
    refine am_J.ge rfl ?_ ?_
    · refine am_J.go (cf' := (27, [some (.ref 1), some (.int a1), some (.int s1), some (.int s2)], [], hp A I x)) 0 rfl ?_
      exact am_J.leaf (fun k => am_Ev.weak (L' := [none, none, some (.int s1), none]) (am_Lle.o (am_Lle.o (am_Lle.k (am_Lle.o am_Lle.nil)))) k)
    · refine am_J.go 4 rfl ?_
      refine am_J.call (v := fun r3 => .int r3) (h' := fun r3 => hp A I x) rfl (fun r3 hw => (t_X6_sideOn A I x s2 a1 hw)) (fun r3 => ?_)
      refine am_J.go (cf' := (4, [some (.ref 1), some (.int a1), some (.int (s1 ||| (r3 <<< (s2 &&& 31)))), some (.int (s2 + 1))], [], hp A I x)) 6 rfl ?_
      exact am_J.leaf (fun k => am_Ev.weak (L' := [some (.ref 1), some (.int a1), some (.int (s1 ||| (r3 <<< (s2 &&& 31)))), some (.int (s2 + 1))]) (am_Lle.k (am_Lle.k (am_Lle.k (am_Lle.k am_Lle.nil)))) k)
  · rintro e4
    refine (?_ : am_J (am_ro xs) 2 mc_X6_holdingToOne r (27, [none, none, some (.int e4), none], [], hp A I x) _ _)
    refine am_J.go 1 rfl ?_
    exact am_J.ret rfl (fun k => k)

def f_X11_setApart_60 (A : Nat → List Int32) (I : Nat → Int32) (a2 : Int32) (a3 : Int32) : Option (Int32 × (List Int32)) :=
  ((am_at (A 60) a2).bind fun v1 =>
  ((f_X11_has v1 a3).bind fun r2 =>
  (if r2 = 0 then
    ((am_at (A 60) a2).bind fun v3 =>
    ((am_up (A 60) a2 (v3 ||| (1 <<< (a3 &&& 31)))).bind fun y4 =>
    ((am_at y4 a3).bind fun v5 =>
    ((am_up y4 a3 (v5 ||| (1 <<< (a2 &&& 31)))).bind fun y6 =>
    some (1, y6)))))
  else
    some (0, (A 60)))))
set_option maxRecDepth 100000 in
set_option maxHeartbeats 4000000 in
theorem t_X11_setApart_60 {xs : List Int32} (A : Nat → List Int32) (I : Nat → Int32) (x : am_X) (a2 : Int32) (a3 : Int32) {z : Int32 × (List Int32)} (hz : f_X11_setApart_60 A I a2 a3 = some z) : am_Rt (am_ro xs) 2 ix_X11_setApart [.ref 60, .int a2, .int a3] (hp A I x) (some (.int z.1), hp (up A 60 z.2) I x) := by
  refine am_Rt.J (k := ix_X11_setApart) (M := mc_X11_setApart) (nL := 3) (d := 1) (as := [.ref 60, .int a2, .int a3]) (res := fun z => (some (.int z.1), hp (up A 60 z.2) I x)) rfl (Nat.le_of_ble_eq_true rfl) (fun r => ?_) hz
  unfold f_X11_setApart_60
  refine am_J.go 2 rfl ?_
  refine am_J.ial (xs := (A 60)) rfl (Nat.le_of_ble_eq_true rfl) rfl (fun v1 => ?_)
  refine am_J.go 1 rfl ?_
  refine am_J.callz (v := fun r2 => r2) (h' := fun r2 => hp A I x) rfl rfl rfl (fun r2 hw => (t_X11_has (h := hp A I x) v1 a3 hw)) (fun r2 hr2 => ?_)
  refine am_J.eq rfl ?_ ?_
  · refine am_J.go 3 rfl ?_
    refine am_J.ial (xs := (A 60)) rfl (Nat.le_of_ble_eq_true rfl) rfl (fun v3 => ?_)
    refine am_J.go 4 rfl ?_
    refine am_J.ias (xs := (A 60)) (h' := fun y4 => hp (up A 60 y4) I x) rfl rfl (fun _ => rfl) (fun y4 => ?_)
    refine am_J.go 3 rfl ?_
    refine am_J.ial (xs := y4) rfl (Nat.le_of_ble_eq_true rfl) rfl (fun v5 => ?_)
    refine am_J.go 4 rfl ?_
    refine am_J.ias (xs := y4) (h' := fun y6 => hp (up A 60 y6) I x) rfl rfl (fun _ => rfl) (fun y6 => ?_)
    refine am_J.go 1 rfl ?_
    exact am_J.ret rfl (fun k => k)
  · refine am_J.go 1 rfl ?_
    exact am_J.ret rfl (fun k => k)

def f_X11_clash (A : Nat → List Int32) (I : Nat → Int32) (a1 : Int32) (a2 : Int32) : Option (Int32 × (List Int32)) :=
  ((f_X11_isWithin a1 0 ((I 3715) - 1)).bind fun r1 =>
  (if r1 = 0 then
    some ((-2), (A 60))
  else
    ((f_X11_isWithin a2 0 ((I 3715) - 1)).bind fun r2 =>
    (if r2 = 0 then
      some ((-2), (A 60))
    else
      (if a1 = a2 then
        some ((-2), (A 60))
      else
        ((f_X11_setApart_60 A I a1 a2).bind fun r3 =>
        some (r3.1, r3.2)))))))
set_option maxRecDepth 100000 in
set_option maxHeartbeats 4000000 in
theorem t_X11_clash {xs : List Int32} (A : Nat → List Int32) (I : Nat → Int32) (x : am_X) (a1 : Int32) (a2 : Int32) {z : Int32 × (List Int32)} (hz : f_X11_clash A I a1 a2 = some z) : am_Rt (am_ro xs) 3 ix_X11_clash [.ref 0, .int a1, .int a2] (hp A I x) (some (.int z.1), hp (up A 60 z.2) I x) := by
  refine am_Rt.J (k := ix_X11_clash) (M := mc_X11_clash) (nL := 3) (d := 2) (as := [.ref 0, .int a1, .int a2]) (res := fun z => (some (.int z.1), hp (up A 60 z.2) I x)) rfl (Nat.le_of_ble_eq_true rfl) (fun r => ?_) hz
  unfold f_X11_clash
  refine am_J.go 7 rfl ?_
  refine am_J.callz (v := fun r1 => r1) (h' := fun r1 => hp A I x) rfl rfl rfl (fun r1 hw => (t_X11_isWithin (h := hp A I x) a1 0 ((I 3715) - 1) hw).mono (Nat.le_of_ble_eq_true rfl)) (fun r1 hr1 => ?_)
  refine am_J.eq rfl ?_ ?_
  · refine am_J.go 1 rfl ?_
    exact am_J.ret rfl (fun k => k)
  · refine am_J.go 7 rfl ?_
    refine am_J.callz (v := fun r2 => r2) (h' := fun r2 => hp A I x) rfl rfl rfl (fun r2 hw => (t_X11_isWithin (h := hp A I x) a2 0 ((I 3715) - 1) hw).mono (Nat.le_of_ble_eq_true rfl)) (fun r2 hr2 => ?_)
    refine am_J.ne rfl ?_ ?_
    · refine am_J.go 1 rfl ?_
      exact am_J.ret rfl (fun k => k)
    · refine am_J.go 2 rfl ?_
      refine am_J.ne rfl ?_ ?_
      · refine am_J.go 2 rfl ?_
        exact am_J.ret rfl (fun k => k)
      · refine am_J.go 5 rfl ?_
        refine am_J.call (v := fun r3 => .int r3.1) (h' := fun r3 => hp (up A 60 r3.2) I x) rfl (fun r3 hw => (t_X11_setApart_60 A I x a1 a2 hw)) (fun r3 => ?_)
        exact am_J.ret rfl (fun k => k)

def f_X11_council (A : Nat → List Int32) (I : Nat → Int32) (a1 : Int32) (a2 : Int32) (a3 : Int32) (a4 : Int32) : Option (Int32) :=
  ((f_X11_isLand a1).bind fun r1 =>
  (if r1 = 0 then
    some (-2)
  else
    ((f_X11_isWithin a2 0 999).bind fun r2 =>
    (if r2 = 0 then
      some (-2)
    else
      ((f_X11_isWithin a3 1 999).bind fun r3 =>
      (if r3 = 0 then
        some (-2)
      else
        ((f_X11_isDay a4).bind fun r4 =>
        (if r4 = 0 then
          some (-2)
        else
          ((f_X6_within A I a1 a2).bind fun r5 =>
          ((f_X6_holdingToOne A I a4).bind fun r6 =>
          ((f_X6_call A I r5 r6 a3).bind fun r7 =>
          some r7)))))))))))
set_option maxRecDepth 100000 in
set_option maxHeartbeats 4000000 in
theorem t_X11_council {xs : List Int32} (A : Nat → List Int32) (I : Nat → Int32) (x : am_X) (a1 : Int32) (a2 : Int32) (a3 : Int32) (a4 : Int32) {z : Int32} (hz : f_X11_council A I a1 a2 a3 a4 = some z) : am_Rt (am_ro xs) 4 ix_X11_council [.ref 0, .int a1, .int a2, .int a3, .int a4] (hp A I x) (some (.int z), hp A I x) := by
  refine am_Rt.J (k := ix_X11_council) (M := mc_X11_council) (nL := 5) (d := 3) (as := [.ref 0, .int a1, .int a2, .int a3, .int a4]) (res := fun z => (some (.int z), hp A I x)) rfl (Nat.le_of_ble_eq_true rfl) (fun r => ?_) hz
  unfold f_X11_council
  refine am_J.go 1 rfl ?_
  refine am_J.callz (v := fun r1 => r1) (h' := fun r1 => hp A I x) rfl rfl rfl (fun r1 hw => (t_X11_isLand (h := hp A I x) a1 hw).mono (Nat.le_of_ble_eq_true rfl)) (fun r1 hr1 => ?_)
  refine am_J.eq rfl ?_ ?_
  · refine am_J.go 1 rfl ?_
    exact am_J.ret rfl (fun k => k)
  · refine am_J.go 3 rfl ?_
    refine am_J.callz (v := fun r2 => r2) (h' := fun r2 => hp A I x) rfl rfl rfl (fun r2 hw => (t_X11_isWithin (h := hp A I x) a2 0 999 hw).mono (Nat.le_of_ble_eq_true rfl)) (fun r2 hr2 => ?_)
    refine am_J.ne rfl ?_ ?_
    · refine am_J.go 1 rfl ?_
      exact am_J.ret rfl (fun k => k)
    · refine am_J.go 3 rfl ?_
      refine am_J.callz (v := fun r3 => r3) (h' := fun r3 => hp A I x) rfl rfl rfl (fun r3 hw => (t_X11_isWithin (h := hp A I x) a3 1 999 hw).mono (Nat.le_of_ble_eq_true rfl)) (fun r3 hr3 => ?_)
      refine am_J.eq rfl ?_ ?_
      · refine am_J.go 1 rfl ?_
        exact am_J.ret rfl (fun k => k)
      · refine am_J.go 1 rfl ?_
        refine am_J.callz (v := fun r4 => r4) (h' := fun r4 => hp A I x) rfl rfl rfl (fun r4 hw => (t_X11_isDay (h := hp A I x) a4 hw).mono (Nat.le_of_ble_eq_true rfl)) (fun r4 hr4 => ?_)
        refine am_J.ne rfl ?_ ?_
        · refine am_J.go 1 rfl ?_
          exact am_J.ret rfl (fun k => k)
        · refine am_J.go 6 rfl ?_
          refine am_J.call (v := fun r5 => .int r5) (h' := fun r5 => hp A I x) rfl (fun r5 hw => (t_X6_within A I x a1 a2 hw).mono (Nat.le_of_ble_eq_true rfl)) (fun r5 => ?_)
          refine am_J.go 3 rfl ?_
          refine am_J.call (v := fun r6 => .int r6) (h' := fun r6 => hp A I x) rfl (fun r6 hw => (t_X6_holdingToOne A I x a4 hw)) (fun r6 => ?_)
          refine am_J.go 1 rfl ?_
          refine am_J.call (v := fun r7 => .int r7) (h' := fun r7 => hp A I x) rfl (fun r7 hw => (t_X6_call A I x r5 r6 a3 hw)) (fun r7 => ?_)
          exact am_J.ret rfl (fun k => k)

def f_X11_crossed (A : Nat → List Int32) (I : Nat → Int32) (a1 : Int32) (a2 : Int32) : Option (Int32) :=
  ((f_X11_isAct A I a1).bind fun r1 =>
  (if r1 = 0 then
    some (-2)
  else
    ((f_X11_isAct A I a2).bind fun r2 =>
    (if r2 = 0 then
      some (-2)
    else
      (if a1 = a2 then
        some (-2)
      else
        ((f_X1_knewOf A I a1 a2).bind fun r3 =>
        (if r3 = 0 then
          ((f_X1_knewOf A I a2 a1).bind fun r4 =>
          (if r4 = 0 then
            some 1
          else
            some 0))
        else
          some 0)))))))
set_option maxRecDepth 100000 in
set_option maxHeartbeats 4000000 in
theorem t_X11_crossed {xs : List Int32} (A : Nat → List Int32) (I : Nat → Int32) (x : am_X) (a1 : Int32) (a2 : Int32) {z : Int32} (hz : f_X11_crossed A I a1 a2 = some z) : am_Rt (am_ro xs) 4 ix_X11_crossed [.ref 0, .int a1, .int a2] (hp A I x) (some (.int z), hp A I x) := by
  refine am_Rt.J (k := ix_X11_crossed) (M := mc_X11_crossed) (nL := 3) (d := 3) (as := [.ref 0, .int a1, .int a2]) (res := fun z => (some (.int z), hp A I x)) rfl (Nat.le_of_ble_eq_true rfl) (fun r => ?_) hz
  unfold f_X11_crossed
  refine am_J.go 2 rfl ?_
  refine am_J.callz (v := fun r1 => r1) (h' := fun r1 => hp A I x) rfl rfl rfl (fun r1 hw => (t_X11_isAct A I x a1 hw).mono (Nat.le_of_ble_eq_true rfl)) (fun r1 hr1 => ?_)
  refine am_J.eq rfl ?_ ?_
  · refine am_J.go 1 rfl ?_
    exact am_J.ret rfl (fun k => k)
  · refine am_J.go 2 rfl ?_
    refine am_J.callz (v := fun r2 => r2) (h' := fun r2 => hp A I x) rfl rfl rfl (fun r2 hw => (t_X11_isAct A I x a2 hw).mono (Nat.le_of_ble_eq_true rfl)) (fun r2 hr2 => ?_)
    refine am_J.eq rfl ?_ ?_
    · refine am_J.go 1 rfl ?_
      exact am_J.ret rfl (fun k => k)
    · refine am_J.go 2 rfl ?_
      refine am_J.ne rfl ?_ ?_
      · refine am_J.go 1 rfl ?_
        exact am_J.ret rfl (fun k => k)
      · refine am_J.go 4 rfl ?_
        refine am_J.callz (v := fun r3 => r3) (h' := fun r3 => hp A I x) rfl rfl rfl (fun r3 hw => (t_X1_knewOf A I x a1 a2 hw)) (fun r3 hr3 => ?_)
        refine am_J.ne rfl ?_ ?_
        · refine am_J.go 4 rfl ?_
          refine am_J.callz (v := fun r4 => r4) (h' := fun r4 => hp A I x) rfl rfl rfl (fun r4 hw => (t_X1_knewOf A I x a2 a1 hw)) (fun r4 hr4 => ?_)
          refine am_J.eq rfl ?_ ?_
          · refine am_J.go 1 rfl ?_
            exact am_J.ret rfl (fun k => k)
          · refine am_J.go 2 rfl ?_
            exact am_J.ret rfl (fun k => k)
        · refine am_J.go 2 rfl ?_
          exact am_J.ret rfl (fun k => k)

def f_X12_byRight (A : Nat → List Int32) (I : Nat → Int32) (a1 : Int32) (a2 : Int32) (a3 : Int32) : Option (Int32 × (List Int32) × (List Int32)) :=
  ((f_X12_isSide A I a1).bind fun r1 =>
  (if r1 = 0 then
    some ((-2), (A 107), (A 108))
  else
    ((f_X12_isOffice A I a2).bind fun r2 =>
    (if r2 = 0 then
      some ((-2), (A 107), (A 108))
    else
      ((f_X12_isDay A I a3).bind fun r3 =>
      (if r3 = 0 then
        some ((-2), (A 107), (A 108))
      else
        ((f_X12_goodBy A I a1).bind fun r4 =>
        ((f_X12_rightOf (up (up A 107 r4.2.1) 108 r4.2.2) I a2 a3 r4.1).bind fun r5 =>
        some (r5, r4.2.1, r4.2.2)))))))))
set_option maxRecDepth 100000 in
set_option maxHeartbeats 4000000 in
theorem t_X12_byRight {xs : List Int32} (A : Nat → List Int32) (I : Nat → Int32) (x : am_X) (a1 : Int32) (a2 : Int32) (a3 : Int32) {z : Int32 × (List Int32) × (List Int32)} (hz : f_X12_byRight A I a1 a2 a3 = some z) : am_Rt (am_ro xs) 6 ix_X12_byRight [.ref 85, .int a1, .int a2, .int a3] (hp A I x) (some (.int z.1), hp (up (up A 107 z.2.1) 108 z.2.2) I x) := by
  refine am_Rt.J (k := ix_X12_byRight) (M := mc_X12_byRight) (nL := 4) (d := 5) (as := [.ref 85, .int a1, .int a2, .int a3]) (res := fun z => (some (.int z.1), hp (up (up A 107 z.2.1) 108 z.2.2) I x)) rfl (Nat.le_of_ble_eq_true rfl) (fun r => ?_) hz
  unfold f_X12_byRight
  refine am_J.go 2 rfl ?_
  refine am_J.callz (v := fun r1 => r1) (h' := fun r1 => hp A I x) rfl rfl rfl (fun r1 hw => (t_X12_isSide A I x a1 hw).mono (Nat.le_of_ble_eq_true rfl)) (fun r1 hr1 => ?_)
  refine am_J.eq rfl ?_ ?_
  · refine am_J.go 1 rfl ?_
    exact am_J.ret rfl (fun k => k)
  · refine am_J.go 2 rfl ?_
    refine am_J.callz (v := fun r2 => r2) (h' := fun r2 => hp A I x) rfl rfl rfl (fun r2 hw => (t_X12_isOffice A I x a2 hw).mono (Nat.le_of_ble_eq_true rfl)) (fun r2 hr2 => ?_)
    refine am_J.eq rfl ?_ ?_
    · refine am_J.go 1 rfl ?_
      exact am_J.ret rfl (fun k => k)
    · refine am_J.go 2 rfl ?_
      refine am_J.callz (v := fun r3 => r3) (h' := fun r3 => hp A I x) rfl rfl rfl (fun r3 hw => (t_X12_isDay A I x a3 hw).mono (Nat.le_of_ble_eq_true rfl)) (fun r3 hr3 => ?_)
      refine am_J.ne rfl ?_ ?_
      · refine am_J.go 1 rfl ?_
        exact am_J.ret rfl (fun k => k)
      · refine am_J.go 5 rfl ?_
        refine am_J.call (v := fun r4 => .int r4.1) (h' := fun r4 => hp (up (up A 107 r4.2.1) 108 r4.2.2) I x) rfl (fun r4 hw => (t_X12_goodBy A I x a1 hw)) (fun r4 => ?_)
        refine am_J.call (v := fun r5 => .int r5) (h' := fun r5 => hp (up (up A 107 r4.2.1) 108 r4.2.2) I x) rfl (fun r5 hw => (t_X12_rightOf (up (up A 107 r4.2.1) 108 r4.2.2) I x a2 a3 r4.1 hw).mono (Nat.le_of_ble_eq_true rfl)) (fun r5 => ?_)
        exact am_J.ret rfl (fun k => k)

def f_X11_setApart_63 (A : Nat → List Int32) (I : Nat → Int32) (a2 : Int32) (a3 : Int32) : Option (Int32 × (List Int32)) :=
  ((am_at (A 63) a2).bind fun v1 =>
  ((f_X11_has v1 a3).bind fun r2 =>
  (if r2 = 0 then
    ((am_at (A 63) a2).bind fun v3 =>
    ((am_up (A 63) a2 (v3 ||| (1 <<< (a3 &&& 31)))).bind fun y4 =>
    ((am_at y4 a3).bind fun v5 =>
    ((am_up y4 a3 (v5 ||| (1 <<< (a2 &&& 31)))).bind fun y6 =>
    some (1, y6)))))
  else
    some (0, (A 63)))))
set_option maxRecDepth 100000 in
set_option maxHeartbeats 4000000 in
theorem t_X11_setApart_63 {xs : List Int32} (A : Nat → List Int32) (I : Nat → Int32) (x : am_X) (a2 : Int32) (a3 : Int32) {z : Int32 × (List Int32)} (hz : f_X11_setApart_63 A I a2 a3 = some z) : am_Rt (am_ro xs) 2 ix_X11_setApart [.ref 63, .int a2, .int a3] (hp A I x) (some (.int z.1), hp (up A 63 z.2) I x) := by
  refine am_Rt.J (k := ix_X11_setApart) (M := mc_X11_setApart) (nL := 3) (d := 1) (as := [.ref 63, .int a2, .int a3]) (res := fun z => (some (.int z.1), hp (up A 63 z.2) I x)) rfl (Nat.le_of_ble_eq_true rfl) (fun r => ?_) hz
  unfold f_X11_setApart_63
  refine am_J.go 2 rfl ?_
  refine am_J.ial (xs := (A 63)) rfl (Nat.le_of_ble_eq_true rfl) rfl (fun v1 => ?_)
  refine am_J.go 1 rfl ?_
  refine am_J.callz (v := fun r2 => r2) (h' := fun r2 => hp A I x) rfl rfl rfl (fun r2 hw => (t_X11_has (h := hp A I x) v1 a3 hw)) (fun r2 hr2 => ?_)
  refine am_J.eq rfl ?_ ?_
  · refine am_J.go 3 rfl ?_
    refine am_J.ial (xs := (A 63)) rfl (Nat.le_of_ble_eq_true rfl) rfl (fun v3 => ?_)
    refine am_J.go 4 rfl ?_
    refine am_J.ias (xs := (A 63)) (h' := fun y4 => hp (up A 63 y4) I x) rfl rfl (fun _ => rfl) (fun y4 => ?_)
    refine am_J.go 3 rfl ?_
    refine am_J.ial (xs := y4) rfl (Nat.le_of_ble_eq_true rfl) rfl (fun v5 => ?_)
    refine am_J.go 4 rfl ?_
    refine am_J.ias (xs := y4) (h' := fun y6 => hp (up A 63 y6) I x) rfl rfl (fun _ => rfl) (fun y6 => ?_)
    refine am_J.go 1 rfl ?_
    exact am_J.ret rfl (fun k => k)
  · refine am_J.go 1 rfl ?_
    exact am_J.ret rfl (fun k => k)

def f_X11_against (A : Nat → List Int32) (I : Nat → Int32) (a1 : Int32) (a2 : Int32) : Option (Int32 × (List Int32)) :=
  ((f_X11_isClause A I a1).bind fun r1 =>
  (if r1 = 0 then
    some ((-2), (A 63))
  else
    ((f_X11_isClause A I a2).bind fun r2 =>
    (if r2 = 0 then
      some ((-2), (A 63))
    else
      (if a1 = a2 then
        some ((-2), (A 63))
      else
        ((f_X11_setApart_63 A I a1 a2).bind fun r3 =>
        some (r3.1, r3.2)))))))
set_option maxRecDepth 100000 in
set_option maxHeartbeats 4000000 in
theorem t_X11_against {xs : List Int32} (A : Nat → List Int32) (I : Nat → Int32) (x : am_X) (a1 : Int32) (a2 : Int32) {z : Int32 × (List Int32)} (hz : f_X11_against A I a1 a2 = some z) : am_Rt (am_ro xs) 3 ix_X11_against [.ref 0, .int a1, .int a2] (hp A I x) (some (.int z.1), hp (up A 63 z.2) I x) := by
  refine am_Rt.J (k := ix_X11_against) (M := mc_X11_against) (nL := 3) (d := 2) (as := [.ref 0, .int a1, .int a2]) (res := fun z => (some (.int z.1), hp (up A 63 z.2) I x)) rfl (Nat.le_of_ble_eq_true rfl) (fun r => ?_) hz
  unfold f_X11_against
  refine am_J.go 2 rfl ?_
  refine am_J.callz (v := fun r1 => r1) (h' := fun r1 => hp A I x) rfl rfl rfl (fun r1 hw => (t_X11_isClause A I x a1 hw)) (fun r1 hr1 => ?_)
  refine am_J.eq rfl ?_ ?_
  · refine am_J.go 1 rfl ?_
    exact am_J.ret rfl (fun k => k)
  · refine am_J.go 2 rfl ?_
    refine am_J.callz (v := fun r2 => r2) (h' := fun r2 => hp A I x) rfl rfl rfl (fun r2 hw => (t_X11_isClause A I x a2 hw)) (fun r2 hr2 => ?_)
    refine am_J.eq rfl ?_ ?_
    · refine am_J.go 1 rfl ?_
      exact am_J.ret rfl (fun k => k)
    · refine am_J.go 2 rfl ?_
      refine am_J.ne rfl ?_ ?_
      · refine am_J.go 1 rfl ?_
        exact am_J.ret rfl (fun k => k)
      · refine am_J.go 5 rfl ?_
        refine am_J.call (v := fun r3 => .int r3.1) (h' := fun r3 => hp (up A 63 r3.2) I x) rfl (fun r3 hw => (t_X11_setApart_63 A I x a1 a2 hw)) (fun r3 => ?_)
        exact am_J.ret rfl (fun k => k)
