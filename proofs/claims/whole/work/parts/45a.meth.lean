/-! ===== methods as functions (by wip/whole/dec2.py) ===== -/
def f_X4_goOn_l1 (gG : am_OrG) (A : Nat → List Int32) (I : Nat → Int32) (a1 : Int32) (a2 : Int32) (a3 : Int32) (a4 : Int32) (a5 : Int32) : (Int32 × (List Int32) × (List Int32) × Int32) → Option ((Int32 × (List Int32) × (List Int32) × Int32) ⊕ ((List Int32) × (List Int32) × Int32)) := fun q => match q with
    | (s3, s4, s5, s6) =>
    (if 8 ≤ s3 then
      some (.inr (s4, s5, s6))
    else
      ((f_X11_has a3 s3).bind fun r7 =>
      (((if r7 = 0 then
          some (s4, s5, s6)
        else
          ((am_up s4 a1 s3).bind fun y8 =>
          ((am_row 12 a2).bind fun w9 =>
          ((am_at ((up (up A 74 y8) 75 s5) w9) s3).bind fun v10 =>
          ((am_row 12 a2).bind fun w11 =>
          ((am_at ((up (up A 74 y8) 75 s5) w11) s3).bind fun v12 =>
          (if v12 = 999 then
            ((f_X4_giveUp (up (up A 74 y8) 75 s5) (up I 4676 s6) (a1 + 1) (a3 &&& ((1 <<< (s3 &&& 31)) ^^^ (-1))) a5).bind fun r16 =>
            some (r16.1, r16.2.1, r16.2.2))
          else
            ((am_at (A 24) s3).bind fun v13 =>
            (((if v13 < (a4 + v10) then
                some a5
              else
                some (a5 + 1)) : Option (Int32)).bind (fun j14 =>
            ((gG (up (up A 74 y8) 75 s5) (up I 4676 s6) (a1 + 1) s3 (a3 &&& ((1 <<< (s3 &&& 31)) ^^^ (-1))) ((a4 + v10) + 3) j14).bind fun r15 =>
            some (r15.1, r15.2.1, r15.2.2)))))))))))) : Option ((List Int32) × (List Int32) × Int32)).bind (fun q => match q with
      | (j17, j18, j19) =>
      some (.inl ((s3 + 1), j17, j18, j19))))))
def f_X4_goOn (gG : am_OrG) (A : Nat → List Int32) (I : Nat → Int32) (a1 : Int32) (a2 : Int32) (a3 : Int32) (a4 : Int32) (a5 : Int32) : Option ((List Int32) × (List Int32) × Int32) :=
  ((f_X4_mayBeWon A I a2 a3 a4).bind fun r1 =>
  (if (I 4676) < (a5 + r1) then
    (if (I 4675) ≤ a1 then
      ((f_X4_keep A I a5).bind fun r2 =>
      some ((A 74), r2.1, r2.2))
    else
      (if a1 < 7 then
        ((wl (f_X4_goOn_l1 gG A I a1 a2 a3 a4 a5) 100000 (0, (A 74), (A 75), (I 4676))).bind (fun q => match q with
        | (e20, e21, e22) =>
        some (e20, e21, e22)))
      else
        ((f_X4_keep A I a5).bind fun r23 =>
        some ((A 74), r23.1, r23.2))))
  else
    some ((A 74), (A 75), (I 4676))))
set_option maxRecDepth 100000 in
set_option maxHeartbeats 4000000 in
theorem t_X4_goOn {xs : List Int32} {d : Nat} {gG : am_OrG} (hG : am_OrGh xs d ix_X4_goOn gG) (A : Nat → List Int32) (I : Nat → Int32) (x : am_X) (a1 : Int32) (a2 : Int32) (a3 : Int32) (a4 : Int32) (a5 : Int32) {z : (List Int32) × (List Int32) × Int32} (hz : f_X4_goOn gG A I a1 a2 a3 a4 a5 = some z) : am_Rt (am_ro xs) (d + 3) ix_X4_goOn [.ref 73, .int a1, .int a2, .int a3, .int a4, .int a5] (hp A I x) (none, hp (up (up A 74 z.1) 75 z.2.1) (up I 4676 z.2.2) x) := by
  refine am_Rt.J (k := ix_X4_goOn) (M := mc_X4_goOn) (nL := 9) (d := (d + 2)) (as := [.ref 73, .int a1, .int a2, .int a3, .int a4, .int a5]) (res := fun z => (none, hp (up (up A 74 z.1) 75 z.2.1) (up I 4676 z.2.2) x)) rfl (Nat.le_of_ble_eq_true rfl) (fun r => ?_) hz
  unfold f_X4_goOn
  refine am_J.go 5 rfl ?_
  refine am_J.call (v := fun r1 => .int r1) (h' := fun r1 => hp A I x) rfl (fun r1 hw => (t_X4_mayBeWon A I x a2 a3 a4 hw).mono (by omega)) (fun r1 => ?_)
  refine am_J.go 3 rfl ?_
  refine am_J.gt rfl ?_ ?_
  · refine am_J.go 3 rfl ?_
    refine am_J.ge rfl ?_ ?_
    · refine am_J.go 2 rfl ?_
      refine am_J.calln (h' := fun r2 => hp (up A 75 r2.1) (up I 4676 r2.2) x) rfl (fun r2 hw => (t_X4_keep A I x a5 hw).mono (by omega)) (fun r2 => ?_)
      exact am_J.ret rfl (fun k => k)
    · refine am_J.go 2 rfl ?_
      refine am_J.lt rfl ?_ ?_
      · refine am_J.go (cf' := (43, [some (.ref 73), some (.int a1), some (.int a2), some (.int a3), some (.int a4), some (.int a5), some (.int 0), none, none], [], hp A I x)) 2 rfl ?_
        refine am_J.weak (L' := [some (.ref 73), some (.int a1), some (.int a2), some (.int a3), some (.int a4), some (.int a5), some (.int 0), none, none]) (am_Lle.k (am_Lle.k (am_Lle.k (am_Lle.k (am_Lle.k (am_Lle.k (am_Lle.k (am_Lle.o (am_Lle.o am_Lle.nil))))))))) ?_
        refine am_J.loop (cl := fun q => match q with | (s3, s4, s5, s6) => (43, [some (.ref 73), some (.int a1), some (.int a2), some (.int a3), some (.int a4), some (.int a5), some (.int s3), none, none], [], hp (up (up A 74 s4) 75 s5) (up I 4676 s6) x)) (GX := fun q => match q with | (e20, e21, e22) => am_Ev (am_ro xs) (d + 2) mc_X4_goOn (174, [none, none, none, none, none, none, none, none, none], [], hp (up (up A 74 e20) 75 e21) (up I 4676 e22) x) r) ?_ ?_
        · rintro ⟨s3, s4, s5, s6⟩
          unfold f_X4_goOn_l1
          refine am_J.go 2 rfl ?_
          refine am_J.ge rfl ?_ ?_
          · refine am_J.go (cf' := (174, [some (.ref 73), some (.int a1), some (.int a2), some (.int a3), some (.int a4), some (.int a5), some (.int s3), none, none], [], hp (up (up A 74 s4) 75 s5) (up I 4676 s6) x)) 0 rfl ?_
            exact am_J.leaf (fun k => am_Ev.weak (L' := [none, none, none, none, none, none, none, none, none]) (am_Lle.o (am_Lle.o (am_Lle.o (am_Lle.o (am_Lle.o (am_Lle.o (am_Lle.o (am_Lle.o (am_Lle.o am_Lle.nil))))))))) k)
          · refine am_J.go 2 rfl ?_
            refine am_J.callz (v := fun r7 => r7) (h' := fun r7 => hp (up (up A 74 s4) 75 s5) (up I 4676 s6) x) rfl rfl rfl (fun r7 hw => (t_X11_has (h := hp (up (up A 74 s4) 75 s5) (up I 4676 s6) x) a3 s3 hw).mono (by omega)) (fun r7 hr7 => ?_)
            refine am_J.join (β := (List Int32) × (List Int32) × Int32) (cj := fun q => match q with | (j17, j18, j19) => (168, [some (.ref 73), some (.int a1), some (.int a2), some (.int a3), some (.int a4), some (.int a5), some (.int s3), none, none], [], hp (up (up A 74 j17) 75 j18) (up I 4676 j19) x)) ?_ ?_
            · refine am_J.ne rfl ?_ ?_
              · refine am_J.go (cf' := (168, [some (.ref 73), some (.int a1), some (.int a2), some (.int a3), some (.int a4), some (.int a5), some (.int s3), none, none], [], hp (up (up A 74 s4) 75 s5) (up I 4676 s6) x)) 1 rfl ?_
                exact am_J.leaf (fun k => am_Ev.weak (L' := [some (.ref 73), some (.int a1), some (.int a2), some (.int a3), some (.int a4), some (.int a5), some (.int s3), none, none]) (am_Lle.k (am_Lle.k (am_Lle.k (am_Lle.k (am_Lle.k (am_Lle.k (am_Lle.k (am_Lle.o (am_Lle.o am_Lle.nil))))))))) k)
              · refine am_J.go 4 rfl ?_
                refine am_J.ias (xs := s4) (h' := fun y8 => hp (up (up A 74 y8) 75 s5) (up I 4676 s6) x) rfl rfl (fun _ => rfl) (fun y8 => ?_)
                refine am_J.go 13 rfl ?_
                refine am_J.row (base := 12) rfl rfl (by decide) (fun w9 hw9 => ?_)
                refine am_J.go 1 rfl ?_
                refine am_J.ial (xs := ((up (up A 74 y8) 75 s5) w9)) rfl (am_rlt hw9) (hp_row hw9) (fun v10 => ?_)
                refine am_J.go 6 rfl ?_
                refine am_J.row (base := 12) rfl rfl (by decide) (fun w11 hw11 => ?_)
                refine am_J.go 1 rfl ?_
                refine am_J.ial (xs := ((up (up A 74 y8) 75 s5) w11)) rfl (am_rlt hw11) (hp_row hw11) (fun v12 => ?_)
                refine am_J.go 1 rfl ?_
                refine am_J.ne rfl ?_ ?_
                · refine am_J.go 6 rfl ?_
                  refine am_J.calln (h' := fun r16 => hp (up (up A 74 r16.1) 75 r16.2.1) (up I 4676 r16.2.2) x) rfl (fun r16 hw => (t_X4_giveUp (up (up A 74 y8) 75 s5) (up I 4676 s6) x (a1 + 1) (a3 &&& ((1 <<< (s3 &&& 31)) ^^^ (-1))) a5 hw).mono (by omega)) (fun r16 => ?_)
                  refine am_J.go (cf' := (168, [some (.ref 73), some (.int a1), some (.int a2), some (.int a3), some (.int a4), some (.int a5), some (.int s3), some (.int (a3 &&& ((1 <<< (s3 &&& 31)) ^^^ (-1)))), some (.int (a4 + v10))], [], hp (up (up A 74 r16.1) 75 r16.2.1) (up I 4676 r16.2.2) x)) 1 rfl ?_
                  exact am_J.leaf (fun k => am_Ev.weak (L' := [some (.ref 73), some (.int a1), some (.int a2), some (.int a3), some (.int a4), some (.int a5), some (.int s3), none, none]) (am_Lle.k (am_Lle.k (am_Lle.k (am_Lle.k (am_Lle.k (am_Lle.k (am_Lle.k (am_Lle.o (am_Lle.o am_Lle.nil))))))))) k)
                · refine am_J.go 14 rfl ?_
                  refine am_J.ial (xs := (A 24)) rfl (Nat.le_of_ble_eq_true rfl) rfl (fun v13 => ?_)
                  refine am_J.join (β := Int32) (cj := fun j14 => (165, [some (.ref 73), some (.int a1), some (.int a2), some (.int a3), some (.int a4), some (.int a5), some (.int s3), none, none], [.int j14, .int ((a4 + v10) + 3), .int (a3 &&& ((1 <<< (s3 &&& 31)) ^^^ (-1))), .int s3, .int (a1 + 1), .ref 73], hp (up (up A 74 y8) 75 s5) (up I 4676 s6) x)) ?_ ?_
                  · refine am_J.gt rfl ?_ ?_
                    · refine am_J.go (cf' := (165, [some (.ref 73), some (.int a1), some (.int a2), some (.int a3), some (.int a4), some (.int a5), some (.int s3), some (.int (a3 &&& ((1 <<< (s3 &&& 31)) ^^^ (-1)))), some (.int (a4 + v10))], [.int a5, .int ((a4 + v10) + 3), .int (a3 &&& ((1 <<< (s3 &&& 31)) ^^^ (-1))), .int s3, .int (a1 + 1), .ref 73], hp (up (up A 74 y8) 75 s5) (up I 4676 s6) x)) 1 rfl ?_
                      exact am_J.leaf (fun k => am_Ev.weak (L' := [some (.ref 73), some (.int a1), some (.int a2), some (.int a3), some (.int a4), some (.int a5), some (.int s3), none, none]) (am_Lle.k (am_Lle.k (am_Lle.k (am_Lle.k (am_Lle.k (am_Lle.k (am_Lle.k (am_Lle.o (am_Lle.o am_Lle.nil))))))))) k)
                    · refine am_J.go (cf' := (165, [some (.ref 73), some (.int a1), some (.int a2), some (.int a3), some (.int a4), some (.int a5), some (.int s3), some (.int (a3 &&& ((1 <<< (s3 &&& 31)) ^^^ (-1)))), some (.int (a4 + v10))], [.int (a5 + 1), .int ((a4 + v10) + 3), .int (a3 &&& ((1 <<< (s3 &&& 31)) ^^^ (-1))), .int s3, .int (a1 + 1), .ref 73], hp (up (up A 74 y8) 75 s5) (up I 4676 s6) x)) 4 rfl ?_
                      exact am_J.leaf (fun k => am_Ev.weak (L' := [some (.ref 73), some (.int a1), some (.int a2), some (.int a3), some (.int a4), some (.int a5), some (.int s3), none, none]) (am_Lle.k (am_Lle.k (am_Lle.k (am_Lle.k (am_Lle.k (am_Lle.k (am_Lle.k (am_Lle.o (am_Lle.o am_Lle.nil))))))))) k)
                  · rintro j14
                    refine am_J.calln (h' := fun r15 => hp (up (up A 74 r15.1) 75 r15.2.1) (up I 4676 r15.2.2) x) rfl (fun r15 hw => (hG (up (up A 74 y8) 75 s5) (up I 4676 s6) x (a1 + 1) s3 (a3 &&& ((1 <<< (s3 &&& 31)) ^^^ (-1))) ((a4 + v10) + 3) j14 hw).mono (by omega)) (fun r15 => ?_)
                    refine am_J.go (cf' := (168, [some (.ref 73), some (.int a1), some (.int a2), some (.int a3), some (.int a4), some (.int a5), some (.int s3), none, none], [], hp (up (up A 74 r15.1) 75 r15.2.1) (up I 4676 r15.2.2) x)) 0 rfl ?_
                    exact am_J.leaf (fun k => am_Ev.weak (L' := [some (.ref 73), some (.int a1), some (.int a2), some (.int a3), some (.int a4), some (.int a5), some (.int s3), none, none]) (am_Lle.k (am_Lle.k (am_Lle.k (am_Lle.k (am_Lle.k (am_Lle.k (am_Lle.k (am_Lle.o (am_Lle.o am_Lle.nil))))))))) k)
            · rintro ⟨j17, j18, j19⟩
              refine am_J.go (cf' := (43, [some (.ref 73), some (.int a1), some (.int a2), some (.int a3), some (.int a4), some (.int a5), some (.int (s3 + 1)), none, none], [], hp (up (up A 74 j17) 75 j18) (up I 4676 j19) x)) 2 rfl ?_
              exact am_J.leaf (fun k => am_Ev.weak (L' := [some (.ref 73), some (.int a1), some (.int a2), some (.int a3), some (.int a4), some (.int a5), some (.int (s3 + 1)), none, none]) (am_Lle.k (am_Lle.k (am_Lle.k (am_Lle.k (am_Lle.k (am_Lle.k (am_Lle.k (am_Lle.o (am_Lle.o am_Lle.nil))))))))) k)
        · rintro ⟨e20, e21, e22⟩
          refine (?_ : am_J (am_ro xs) (d + 2) mc_X4_goOn r (174, [none, none, none, none, none, none, none, none, none], [], hp (up (up A 74 e20) 75 e21) (up I 4676 e22) x) _ _)
          exact am_J.ret rfl (fun k => k)
      · refine am_J.go 2 rfl ?_
        refine am_J.calln (h' := fun r23 => hp (up A 75 r23.1) (up I 4676 r23.2) x) rfl (fun r23 hw => (t_X4_keep A I x a5 hw).mono (by omega)) (fun r23 => ?_)
        exact am_J.ret rfl (fun k => k)
  · exact am_J.ret rfl (fun k => k)
def f_X4_goOnL : Nat → am_OrG
  | 0 => fun _ _ _ _ _ _ _ => none
  | n + 1 => f_X4_goOn (f_X4_goOnL n)
theorem t_X4_goOnLh (xs : List Int32) : ∀ n : Nat, am_OrGh xs (3 * n) ix_X4_goOn (f_X4_goOnL n)
  | 0 => fun A I x a1 a2 a3 a4 a5 z hz => by cases hz
  | n + 1 => fun A I x a1 a2 a3 a4 a5 z hz => t_X4_goOn (t_X4_goOnLh xs n) A I x a1 a2 a3 a4 a5 hz
theorem t_X4_goOnL (n : Nat) {xs : List Int32} (A : Nat → List Int32) (I : Nat → Int32) (x : am_X) (a1 : Int32) (a2 : Int32) (a3 : Int32) (a4 : Int32) (a5 : Int32) {z : (List Int32) × (List Int32) × Int32} (hz : f_X4_goOnL n A I a1 a2 a3 a4 a5 = some z) : am_Rt (am_ro xs) (3 * n) ix_X4_goOn [.ref 73, .int a1, .int a2, .int a3, .int a4, .int a5] (hp A I x) (none, hp (up (up A 74 z.1) 75 z.2.1) (up I 4676 z.2.2) x) := t_X4_goOnLh xs n A I x a1 a2 a3 a4 a5 hz

def f_X4_plan (A : Nat → List Int32) (I : Nat → Int32) (a1 : Int32) (a2 : Int32) : Option ((List Int32) × (List Int32) × Int32 × Int32) :=
  ((f_J6_bitCount_0f7a4 a2).bind fun r1 =>
  ((f_X4_goOnL 9 A (up (up I 4675 r1) 4676 (-1)) 0 a1 a2 0 0).bind fun r2 =>
  some (r2.1, r2.2.1, r1, r2.2.2)))
set_option maxRecDepth 100000 in
set_option maxHeartbeats 4000000 in
theorem t_X4_plan {xs : List Int32} (A : Nat → List Int32) (I : Nat → Int32) (x : am_X) (a1 : Int32) (a2 : Int32) {z : (List Int32) × (List Int32) × Int32 × Int32} (hz : f_X4_plan A I a1 a2 = some z) : am_Rt (am_ro xs) 28 ix_X4_plan [.ref 73, .int a1, .int a2] (hp A I x) (none, hp (up (up A 74 z.1) 75 z.2.1) (up (up I 4675 z.2.2.1) 4676 z.2.2.2) x) := by
  refine am_Rt.J (k := ix_X4_plan) (M := mc_X4_plan) (nL := 3) (d := 27) (as := [.ref 73, .int a1, .int a2]) (res := fun z => (none, hp (up (up A 74 z.1) 75 z.2.1) (up (up I 4675 z.2.2.1) 4676 z.2.2.2) x)) rfl (Nat.le_of_ble_eq_true rfl) (fun r => ?_) hz
  unfold f_X4_plan
  refine am_J.go 2 rfl ?_
  refine am_J.call (v := fun r1 => .int r1) (h' := fun r1 => hp A I x) rfl (fun r1 hw => (t_J6_bitCount_0f7a4 (h := hp A I x) a2 hw).mono (Nat.le_of_ble_eq_true rfl)) (fun r1 => ?_)
  refine am_J.go 10 rfl ?_
  refine am_J.calln (h' := fun r2 => hp (up (up A 74 r2.1) 75 r2.2.1) (up (up I 4675 r1) 4676 r2.2.2) x) rfl (fun r2 hw => (t_X4_goOnL 9 A (up (up I 4675 r1) 4676 (-1)) x 0 a1 a2 0 0 hw)) (fun r2 => ?_)
  exact am_J.ret rfl (fun k => k)

def f_X8_readOne (gN gO gE : am_OrX) (A : Nat → List Int32) (I : Nat → Int32) (a1 : Int32) : Option ((List Int32) × Int32 × Int32 × Int32 × Int32) :=
  (if (I 3337) = 2 then
    ((am_at (A 56) (I 3336)).bind fun v1 =>
    ((f_X8_write A I v1).bind fun r2 =>
    ((f_X8_advance (up A 57 r2.1) (up I 3340 r2.2)).bind fun r3 =>
    some (r2.1, r3.1, r3.2, (I 3338), r2.2))))
  else
    (if (I 3337) = 3 then
      ((am_at (A 56) (I 3336)).bind fun v11 =>
      ((f_X8_write A I v11).bind fun r12 =>
      ((f_X8_advance (up A 57 r12.1) (up I 3340 r12.2)).bind fun r13 =>
      some (r12.1, r13.1, r13.2, (I 3338), r12.2))))
    else
      (if (I 3337) = 45 then
        ((f_X8_mayOpen A I a1).bind fun r8 =>
        (if r8.1 = 0 then
          some ((A 57), r8.2.1, r8.2.2.1, r8.2.2.2, (I 3340))
        else
          ((gO A (up (up (up I 3336 r8.2.1) 3337 r8.2.2.1) 3338 r8.2.2.2) (a1 + 1)).bind fun r9 =>
          ((f_X8_write (up A 57 r9.1) (up (up (up (up I 3336 r9.2.1) 3337 r9.2.2.1) 3338 r9.2.2.2.1) 3340 r9.2.2.2.2) (-8)).bind fun r10 =>
          some (r10.1, r9.2.1, r9.2.2.1, r9.2.2.2.1, r10.2)))))
      else
        (if (I 3337) = 40 then
          ((f_X8_mayOpen A I a1).bind fun r5 =>
          (if r5.1 = 0 then
            some ((A 57), r5.2.1, r5.2.2.1, r5.2.2.2, (I 3340))
          else
            ((gE A (up (up (up I 3336 r5.2.1) 3337 r5.2.2.1) 3338 r5.2.2.2) (a1 + 1)).bind fun r6 =>
            ((f_X8_expect (up A 57 r6.1) (up (up (up (up I 3336 r6.2.1) 3337 r6.2.2.1) 3338 r6.2.2.2.1) 3340 r6.2.2.2.2) 41).bind fun r7 =>
            some (r6.1, r7.1, r7.2.1, r7.2.2, r6.2.2.2.2)))))
        else
          ((f_X8_fail A I).bind fun r4 =>
          some ((A 57), (I 3336), r4.1, r4.2, (I 3340)))))))
set_option maxRecDepth 100000 in
set_option maxHeartbeats 4000000 in
theorem t_X8_readOne {xs : List Int32} {d : Nat} {gN gO gE : am_OrX} (hN : am_OrXh xs d ix_X8_readNot gN) (hO : am_OrXh xs d ix_X8_readOne gO) (hE : am_OrXh xs d ix_X8_readEither gE) (A : Nat → List Int32) (I : Nat → Int32) (x : am_X) (a1 : Int32) {z : (List Int32) × Int32 × Int32 × Int32 × Int32} (hz : f_X8_readOne gN gO gE A I a1 = some z) : am_Rt (am_ro xs) (d + 3) ix_X8_readOne [.ref 52, .int a1] (hp A I x) (none, hp (up A 57 z.1) (up (up (up (up I 3336 z.2.1) 3337 z.2.2.1) 3338 z.2.2.2.1) 3340 z.2.2.2.2) x) := by
  refine am_Rt.J (k := ix_X8_readOne) (M := mc_X8_readOne) (nL := 2) (d := (d + 2)) (as := [.ref 52, .int a1]) (res := fun z => (none, hp (up A 57 z.1) (up (up (up (up I 3336 z.2.1) 3337 z.2.2.1) 3338 z.2.2.2.1) 3340 z.2.2.2.2) x)) rfl (Nat.le_of_ble_eq_true rfl) (fun r => ?_) hz
  unfold f_X8_readOne
  refine am_J.go 3 rfl ?_
  refine am_J.eq rfl ?_ ?_
  · refine am_J.go 5 rfl ?_
    refine am_J.ial (xs := (A 56)) rfl (Nat.le_of_ble_eq_true rfl) rfl (fun v1 => ?_)
    refine am_J.calln (h' := fun r2 => hp (up A 57 r2.1) (up I 3340 r2.2) x) rfl (fun r2 hw => (t_X8_write A I x v1 hw).mono (by omega)) (fun r2 => ?_)
    refine am_J.go 1 rfl ?_
    refine am_J.calln (h' := fun r3 => hp (up A 57 r2.1) (up (up (up I 3336 r3.1) 3337 r3.2) 3340 r2.2) x) rfl (fun r3 hw => (t_X8_advance (up A 57 r2.1) (up I 3340 r2.2) x hw).mono (by omega)) (fun r3 => ?_)
    refine am_J.go 1 rfl ?_
    exact am_J.ret rfl (fun k => k)
  · refine am_J.go 3 rfl ?_
    refine am_J.ne rfl ?_ ?_
    · refine am_J.go 5 rfl ?_
      refine am_J.ial (xs := (A 56)) rfl (Nat.le_of_ble_eq_true rfl) rfl (fun v11 => ?_)
      refine am_J.calln (h' := fun r12 => hp (up A 57 r12.1) (up I 3340 r12.2) x) rfl (fun r12 hw => (t_X8_write A I x v11 hw).mono (by omega)) (fun r12 => ?_)
      refine am_J.go 1 rfl ?_
      refine am_J.calln (h' := fun r13 => hp (up A 57 r12.1) (up (up (up I 3336 r13.1) 3337 r13.2) 3340 r12.2) x) rfl (fun r13 hw => (t_X8_advance (up A 57 r12.1) (up I 3340 r12.2) x hw).mono (by omega)) (fun r13 => ?_)
      refine am_J.go 1 rfl ?_
      exact am_J.ret rfl (fun k => k)
    · refine am_J.go 3 rfl ?_
      refine am_J.ne rfl ?_ ?_
      · refine am_J.go 2 rfl ?_
        refine am_J.callz (v := fun r8 => r8.1) (h' := fun r8 => hp A (up (up (up I 3336 r8.2.1) 3337 r8.2.2.1) 3338 r8.2.2.2) x) rfl rfl rfl (fun r8 hw => (t_X8_mayOpen A I x a1 hw).mono (by omega)) (fun r8 hr8 => ?_)
        refine am_J.eq rfl ?_ ?_
        · exact am_J.ret rfl (fun k => k)
        · refine am_J.go 4 rfl ?_
          refine am_J.calln (h' := fun r9 => hp (up A 57 r9.1) (up (up (up (up I 3336 r9.2.1) 3337 r9.2.2.1) 3338 r9.2.2.2.1) 3340 r9.2.2.2.2) x) rfl (fun r9 hw => (hO A (up (up (up I 3336 r8.2.1) 3337 r8.2.2.1) 3338 r8.2.2.2) x (a1 + 1) hw).mono (by omega)) (fun r9 => ?_)
          refine am_J.go 2 rfl ?_
          refine am_J.calln (h' := fun r10 => hp (up A 57 r10.1) (up (up (up (up I 3336 r9.2.1) 3337 r9.2.2.1) 3338 r9.2.2.2.1) 3340 r10.2) x) rfl (fun r10 hw => (t_X8_write (up A 57 r9.1) (up (up (up (up I 3336 r9.2.1) 3337 r9.2.2.1) 3338 r9.2.2.2.1) 3340 r9.2.2.2.2) x (-8) hw).mono (by omega)) (fun r10 => ?_)
          refine am_J.go 1 rfl ?_
          exact am_J.ret rfl (fun k => k)
      · refine am_J.go 3 rfl ?_
        refine am_J.ne rfl ?_ ?_
        · refine am_J.go 2 rfl ?_
          refine am_J.callz (v := fun r5 => r5.1) (h' := fun r5 => hp A (up (up (up I 3336 r5.2.1) 3337 r5.2.2.1) 3338 r5.2.2.2) x) rfl rfl rfl (fun r5 hw => (t_X8_mayOpen A I x a1 hw).mono (by omega)) (fun r5 hr5 => ?_)
          refine am_J.eq rfl ?_ ?_
          · exact am_J.ret rfl (fun k => k)
          · refine am_J.go 4 rfl ?_
            refine am_J.calln (h' := fun r6 => hp (up A 57 r6.1) (up (up (up (up I 3336 r6.2.1) 3337 r6.2.2.1) 3338 r6.2.2.2.1) 3340 r6.2.2.2.2) x) rfl (fun r6 hw => (hE A (up (up (up I 3336 r5.2.1) 3337 r5.2.2.1) 3338 r5.2.2.2) x (a1 + 1) hw).mono (by omega)) (fun r6 => ?_)
            refine am_J.go 2 rfl ?_
            refine am_J.calln (h' := fun r7 => hp (up A 57 r6.1) (up (up (up (up I 3336 r7.1) 3337 r7.2.1) 3338 r7.2.2) 3340 r6.2.2.2.2) x) rfl (fun r7 hw => (t_X8_expect (up A 57 r6.1) (up (up (up (up I 3336 r6.2.1) 3337 r6.2.2.1) 3338 r6.2.2.2.1) 3340 r6.2.2.2.2) x 41 hw).mono (by omega)) (fun r7 => ?_)
            refine am_J.go 1 rfl ?_
            exact am_J.ret rfl (fun k => k)
        · refine am_J.go 1 rfl ?_
          refine am_J.calln (h' := fun r4 => hp A (up (up I 3337 r4.1) 3338 r4.2) x) rfl (fun r4 hw => (t_X8_fail A I x hw).mono (by omega)) (fun r4 => ?_)
          exact am_J.ret rfl (fun k => k)

def f_X8_readTerm_l1 (gN gO gE : am_OrX) (A : Nat → List Int32) (I : Nat → Int32) (a1 : Int32) : (Int32 × (List Int32) × Int32 × Int32 × Int32 × Int32) → Option ((Int32 × (List Int32) × Int32 × Int32 × Int32 × Int32) ⊕ ((List Int32) × Int32 × Int32 × Int32 × Int32)) := fun q => match q with
    | (s2, s3, s4, s5, s6, s7) =>
    (if 160 ≤ s2 then
      some (.inr (s3, s4, s5, s6, s7))
    else
      (if s5 = 42 then
        ((f_X8_advance (up A 57 s3) (up (up (up (up I 3336 s4) 3337 s5) 3338 s6) 3340 s7)).bind fun r8 =>
        ((f_X8_readOne gN gO gE (up A 57 s3) (up (up (up (up I 3336 r8.1) 3337 r8.2) 3338 s6) 3340 s7) a1).bind fun r9 =>
        ((f_X8_write (up A 57 r9.1) (up (up (up (up I 3336 r9.2.1) 3337 r9.2.2.1) 3338 r9.2.2.2.1) 3340 r9.2.2.2.2) (-15)).bind fun r10 =>
        some (.inl ((s2 + 1), r10.1, r9.2.1, r9.2.2.1, r9.2.2.2.1, r10.2)))))
      else
        some (.inr (s3, s4, s5, s6, s7))))
def f_X8_readTerm (gN gO gE : am_OrX) (A : Nat → List Int32) (I : Nat → Int32) (a1 : Int32) : Option ((List Int32) × Int32 × Int32 × Int32 × Int32) :=
  ((f_X8_readOne gN gO gE A I a1).bind fun r1 =>
  ((wl (f_X8_readTerm_l1 gN gO gE (up A 57 r1.1) (up (up (up (up I 3336 r1.2.1) 3337 r1.2.2.1) 3338 r1.2.2.2.1) 3340 r1.2.2.2.2) a1) 100000 (0, r1.1, r1.2.1, r1.2.2.1, r1.2.2.2.1, r1.2.2.2.2)).bind (fun q => match q with
  | (e11, e12, e13, e14, e15) =>
  some (e11, e12, e13, e14, e15))))
set_option maxRecDepth 100000 in
set_option maxHeartbeats 4000000 in
theorem t_X8_readTerm {xs : List Int32} {d : Nat} {gN gO gE : am_OrX} (hN : am_OrXh xs d ix_X8_readNot gN) (hO : am_OrXh xs d ix_X8_readOne gO) (hE : am_OrXh xs d ix_X8_readEither gE) (A : Nat → List Int32) (I : Nat → Int32) (x : am_X) (a1 : Int32) {z : (List Int32) × Int32 × Int32 × Int32 × Int32} (hz : f_X8_readTerm gN gO gE A I a1 = some z) : am_Rt (am_ro xs) (d + 4) ix_X8_readTerm [.ref 52, .int a1] (hp A I x) (none, hp (up A 57 z.1) (up (up (up (up I 3336 z.2.1) 3337 z.2.2.1) 3338 z.2.2.2.1) 3340 z.2.2.2.2) x) := by
  refine am_Rt.J (k := ix_X8_readTerm) (M := mc_X8_readTerm) (nL := 3) (d := (d + 3)) (as := [.ref 52, .int a1]) (res := fun z => (none, hp (up A 57 z.1) (up (up (up (up I 3336 z.2.1) 3337 z.2.2.1) 3338 z.2.2.2.1) 3340 z.2.2.2.2) x)) rfl (Nat.le_of_ble_eq_true rfl) (fun r => ?_) hz
  unfold f_X8_readTerm
  refine am_J.go 2 rfl ?_
  refine am_J.calln (h' := fun r1 => hp (up A 57 r1.1) (up (up (up (up I 3336 r1.2.1) 3337 r1.2.2.1) 3338 r1.2.2.2.1) 3340 r1.2.2.2.2) x) rfl (fun r1 hw => (t_X8_readOne hN hO hE A I x a1 hw).mono (by omega)) (fun r1 => ?_)
  refine am_J.go (cf' := (7, [some (.ref 52), some (.int a1), some (.int 0)], [], hp (up A 57 r1.1) (up (up (up (up I 3336 r1.2.1) 3337 r1.2.2.1) 3338 r1.2.2.2.1) 3340 r1.2.2.2.2) x)) 2 rfl ?_
  refine am_J.weak (L' := [some (.ref 52), some (.int a1), some (.int 0)]) (am_Lle.k (am_Lle.k (am_Lle.k am_Lle.nil))) ?_
  refine am_J.loop (cl := fun q => match q with | (s2, s3, s4, s5, s6, s7) => (7, [some (.ref 52), some (.int a1), some (.int s2)], [], hp (up A 57 s3) (up (up (up (up I 3336 s4) 3337 s5) 3338 s6) 3340 s7) x)) (GX := fun q => match q with | (e11, e12, e13, e14, e15) => am_Ev (am_ro xs) (d + 3) mc_X8_readTerm (44, [none, none, none], [], hp (up A 57 e11) (up (up (up (up I 3336 e12) 3337 e13) 3338 e14) 3340 e15) x) r) ?_ ?_
  · rintro ⟨s2, s3, s4, s5, s6, s7⟩
    unfold f_X8_readTerm_l1
    refine am_J.go 2 rfl ?_
    refine am_J.ge rfl ?_ ?_
    · refine am_J.go (cf' := (44, [some (.ref 52), some (.int a1), some (.int s2)], [], hp (up (up A 57 r1.1) 57 s3) (up (up (up (up (up (up (up (up I 3336 r1.2.1) 3337 r1.2.2.1) 3338 r1.2.2.2.1) 3340 r1.2.2.2.2) 3336 s4) 3337 s5) 3338 s6) 3340 s7) x)) 0 rfl ?_
      exact am_J.leaf (fun k => am_Ev.weak (L' := [none, none, none]) (am_Lle.o (am_Lle.o (am_Lle.o am_Lle.nil))) k)
    · refine am_J.go 3 rfl ?_
      refine am_J.ne rfl ?_ ?_
      · refine am_J.go 1 rfl ?_
        refine am_J.calln (h' := fun r8 => hp (up (up A 57 r1.1) 57 s3) (up (up (up (up (up (up (up (up I 3336 r1.2.1) 3337 r1.2.2.1) 3338 r1.2.2.2.1) 3340 r1.2.2.2.2) 3336 r8.1) 3337 r8.2) 3338 s6) 3340 s7) x) rfl (fun r8 hw => (t_X8_advance (up (up A 57 r1.1) 57 s3) (up (up (up (up (up (up (up (up I 3336 r1.2.1) 3337 r1.2.2.1) 3338 r1.2.2.2.1) 3340 r1.2.2.2.2) 3336 s4) 3337 s5) 3338 s6) 3340 s7) x hw).mono (by omega)) (fun r8 => ?_)
        refine am_J.go 2 rfl ?_
        refine am_J.calln (h' := fun r9 => hp (up (up A 57 r1.1) 57 r9.1) (up (up (up (up (up (up (up (up I 3336 r1.2.1) 3337 r1.2.2.1) 3338 r1.2.2.2.1) 3340 r1.2.2.2.2) 3336 r9.2.1) 3337 r9.2.2.1) 3338 r9.2.2.2.1) 3340 r9.2.2.2.2) x) rfl (fun r9 hw => (t_X8_readOne hN hO hE (up (up A 57 r1.1) 57 s3) (up (up (up (up (up (up (up (up I 3336 r1.2.1) 3337 r1.2.2.1) 3338 r1.2.2.2.1) 3340 r1.2.2.2.2) 3336 r8.1) 3337 r8.2) 3338 s6) 3340 s7) x a1 hw).mono (by omega)) (fun r9 => ?_)
        refine am_J.go 2 rfl ?_
        refine am_J.calln (h' := fun r10 => hp (up (up A 57 r1.1) 57 r10.1) (up (up (up (up (up (up (up (up I 3336 r1.2.1) 3337 r1.2.2.1) 3338 r1.2.2.2.1) 3340 r1.2.2.2.2) 3336 r9.2.1) 3337 r9.2.2.1) 3338 r9.2.2.2.1) 3340 r10.2) x) rfl (fun r10 hw => (t_X8_write (up (up A 57 r1.1) 57 r9.1) (up (up (up (up (up (up (up (up I 3336 r1.2.1) 3337 r1.2.2.1) 3338 r1.2.2.2.1) 3340 r1.2.2.2.2) 3336 r9.2.1) 3337 r9.2.2.1) 3338 r9.2.2.2.1) 3340 r9.2.2.2.2) x (-15) hw).mono (by omega)) (fun r10 => ?_)
        refine am_J.go (cf' := (7, [some (.ref 52), some (.int a1), some (.int (s2 + 1))], [], hp (up (up A 57 r1.1) 57 r10.1) (up (up (up (up (up (up (up (up I 3336 r1.2.1) 3337 r1.2.2.1) 3338 r1.2.2.2.1) 3340 r1.2.2.2.2) 3336 r9.2.1) 3337 r9.2.2.1) 3338 r9.2.2.2.1) 3340 r10.2) x)) 2 rfl ?_
        exact am_J.leaf (fun k => am_Ev.weak (L' := [some (.ref 52), some (.int a1), some (.int (s2 + 1))]) (am_Lle.k (am_Lle.k (am_Lle.k am_Lle.nil))) k)
      · refine am_J.go (cf' := (44, [some (.ref 52), some (.int a1), some (.int s2)], [], hp (up (up A 57 r1.1) 57 s3) (up (up (up (up (up (up (up (up I 3336 r1.2.1) 3337 r1.2.2.1) 3338 r1.2.2.2.1) 3340 r1.2.2.2.2) 3336 s4) 3337 s5) 3338 s6) 3340 s7) x)) 0 rfl ?_
        exact am_J.leaf (fun k => am_Ev.weak (L' := [none, none, none]) (am_Lle.o (am_Lle.o (am_Lle.o am_Lle.nil))) k)
  · rintro ⟨e11, e12, e13, e14, e15⟩
    refine (?_ : am_J (am_ro xs) (d + 3) mc_X8_readTerm r (44, [none, none, none], [], hp (up A 57 e11) (up (up (up (up I 3336 e12) 3337 e13) 3338 e14) 3340 e15) x) _ _)
    exact am_J.ret rfl (fun k => k)

def f_X8_spells_s0_l1 (A : Nat → List Int32) (I : Nat → Int32) (a1 : Int32) : (Int32) → Option ((Int32) ⊕ ((Unit) ⊕ (Int32))) := fun s1 =>
    (if 4 ≤ s1 then
      some (.inr (.inl ()))
    else
      ((am_at (A 53) (a1 + s1)).bind fun v2 =>
      ((am_at (am_str 0) s1).bind fun v3 =>
      (if v2 = v3 then
        some (.inl (s1 + 1))
      else
        some (.inr (.inr 0))))))
def f_X8_spells_s0 (A : Nat → List Int32) (I : Nat → Int32) (a1 : Int32) : Option (Int32) :=
  (if ((I 3332) - a1) = 4 then
    ((wl (f_X8_spells_s0_l1 A I a1) 100000 0).bind (fun q => match q with
    | .inl _ =>
    some 1
    | .inr v => some v))
  else
    some 0)
set_option maxRecDepth 100000 in
set_option maxHeartbeats 4000000 in
theorem t_X8_spells_s0 {xs : List Int32} (A : Nat → List Int32) (I : Nat → Int32) (x : am_X) (a1 : Int32) {z : Int32} (hz : f_X8_spells_s0 A I a1 = some z) : am_Rt (am_ro xs) 1 ix_X8_spells [.ref 52, .int a1, .ref (am_RO + 16 + 0)] (hp A I x) (some (.int z), hp A I x) := by
  refine am_Rt.J (k := ix_X8_spells) (M := mc_X8_spells) (nL := 4) (d := 0) (as := [.ref 52, .int a1, .ref (am_RO + 16 + 0)]) (res := fun z => (some (.int z), hp A I x)) rfl (Nat.le_of_ble_eq_true rfl) (fun r => ?_) hz
  unfold f_X8_spells_s0
  refine am_J.go 6 rfl ?_
  refine am_J.eq rfl ?_ ?_
  · refine am_J.go (cf' := (17, [some (.ref 52), some (.int a1), some (.ref (am_RO + 16 + 0)), some (.int 0)], [], hp A I x)) 2 rfl ?_
    refine am_J.weak (L' := [some (.ref 52), some (.int a1), some (.ref (am_RO + 16 + 0)), some (.int 0)]) (am_Lle.k (am_Lle.k (am_Lle.k (am_Lle.k am_Lle.nil)))) ?_
    refine am_J.loop (cl := fun s1 => (17, [some (.ref 52), some (.int a1), some (.ref (am_RO + 16 + 0)), some (.int s1)], [], hp A I x)) (GX := fun q => Sum.elim (fun _ => am_Ev (am_ro xs) 0 mc_X8_spells (49, [none, none, none, none], [], hp A I x) r) (fun (z : Int32) => r = (some (.int z), hp A I x)) q) ?_ ?_
    · rintro s1
      unfold f_X8_spells_s0_l1
      refine am_J.go 3 rfl ?_
      refine am_J.ge rfl ?_ ?_
      · refine am_J.go (cf' := (49, [some (.ref 52), some (.int a1), some (.ref (am_RO + 16 + 0)), some (.int s1)], [], hp A I x)) 0 rfl ?_
        exact am_J.leaf (fun k => am_Ev.weak (L' := [none, none, none, none]) (am_Lle.o (am_Lle.o (am_Lle.o (am_Lle.o am_Lle.nil)))) k)
      · refine am_J.go 5 rfl ?_
        refine am_J.bal (xs := (A 53)) (t := 1) rfl (by decide) rfl (fun v2 => ?_)
        refine am_J.go 2 rfl ?_
        refine am_J.sat (j := 0) rfl (Nat.le_of_ble_eq_true rfl) (by decide) (fun v3 => ?_)
        refine am_J.eq rfl ?_ ?_
        · refine am_J.go (cf' := (17, [some (.ref 52), some (.int a1), some (.ref (am_RO + 16 + 0)), some (.int (s1 + 1))], [], hp A I x)) 2 rfl ?_
          exact am_J.leaf (fun k => am_Ev.weak (L' := [some (.ref 52), some (.int a1), some (.ref (am_RO + 16 + 0)), some (.int (s1 + 1))]) (am_Lle.k (am_Lle.k (am_Lle.k (am_Lle.k am_Lle.nil)))) k)
        · refine am_J.go 1 rfl ?_
          exact am_J.retz rfl (Or.inl rfl) (fun k => k)
    · intro q
      rcases q with ⟨⟩ | v
      · refine (?_ : am_J (am_ro xs) 0 mc_X8_spells r (49, [none, none, none, none], [], hp A I x) _ _)
        refine am_J.go 1 rfl ?_
        exact am_J.retz rfl (Or.inr rfl) (fun k => k)
      · intro z hz hk
        cases hz
        exact hk
  · refine am_J.go 1 rfl ?_
    exact am_J.retz rfl (Or.inl rfl) (fun k => k)

def f_X8_spells_s6_l1 (A : Nat → List Int32) (I : Nat → Int32) (a1 : Int32) : (Int32) → Option ((Int32) ⊕ ((Unit) ⊕ (Int32))) := fun s1 =>
    (if 5 ≤ s1 then
      some (.inr (.inl ()))
    else
      ((am_at (A 53) (a1 + s1)).bind fun v2 =>
      ((am_at (am_str 6) s1).bind fun v3 =>
      (if v2 = v3 then
        some (.inl (s1 + 1))
      else
        some (.inr (.inr 0))))))
def f_X8_spells_s6 (A : Nat → List Int32) (I : Nat → Int32) (a1 : Int32) : Option (Int32) :=
  (if ((I 3332) - a1) = 5 then
    ((wl (f_X8_spells_s6_l1 A I a1) 100000 0).bind (fun q => match q with
    | .inl _ =>
    some 1
    | .inr v => some v))
  else
    some 0)
set_option maxRecDepth 100000 in
set_option maxHeartbeats 4000000 in
theorem t_X8_spells_s6 {xs : List Int32} (A : Nat → List Int32) (I : Nat → Int32) (x : am_X) (a1 : Int32) {z : Int32} (hz : f_X8_spells_s6 A I a1 = some z) : am_Rt (am_ro xs) 1 ix_X8_spells [.ref 52, .int a1, .ref (am_RO + 16 + 6)] (hp A I x) (some (.int z), hp A I x) := by
  refine am_Rt.J (k := ix_X8_spells) (M := mc_X8_spells) (nL := 4) (d := 0) (as := [.ref 52, .int a1, .ref (am_RO + 16 + 6)]) (res := fun z => (some (.int z), hp A I x)) rfl (Nat.le_of_ble_eq_true rfl) (fun r => ?_) hz
  unfold f_X8_spells_s6
  refine am_J.go 6 rfl ?_
  refine am_J.eq rfl ?_ ?_
  · refine am_J.go (cf' := (17, [some (.ref 52), some (.int a1), some (.ref (am_RO + 16 + 6)), some (.int 0)], [], hp A I x)) 2 rfl ?_
    refine am_J.weak (L' := [some (.ref 52), some (.int a1), some (.ref (am_RO + 16 + 6)), some (.int 0)]) (am_Lle.k (am_Lle.k (am_Lle.k (am_Lle.k am_Lle.nil)))) ?_
    refine am_J.loop (cl := fun s1 => (17, [some (.ref 52), some (.int a1), some (.ref (am_RO + 16 + 6)), some (.int s1)], [], hp A I x)) (GX := fun q => Sum.elim (fun _ => am_Ev (am_ro xs) 0 mc_X8_spells (49, [none, none, none, none], [], hp A I x) r) (fun (z : Int32) => r = (some (.int z), hp A I x)) q) ?_ ?_
    · rintro s1
      unfold f_X8_spells_s6_l1
      refine am_J.go 3 rfl ?_
      refine am_J.ge rfl ?_ ?_
      · refine am_J.go (cf' := (49, [some (.ref 52), some (.int a1), some (.ref (am_RO + 16 + 6)), some (.int s1)], [], hp A I x)) 0 rfl ?_
        exact am_J.leaf (fun k => am_Ev.weak (L' := [none, none, none, none]) (am_Lle.o (am_Lle.o (am_Lle.o (am_Lle.o am_Lle.nil)))) k)
      · refine am_J.go 5 rfl ?_
        refine am_J.bal (xs := (A 53)) (t := 1) rfl (by decide) rfl (fun v2 => ?_)
        refine am_J.go 2 rfl ?_
        refine am_J.sat (j := 6) rfl (Nat.le_of_ble_eq_true rfl) (by decide) (fun v3 => ?_)
        refine am_J.eq rfl ?_ ?_
        · refine am_J.go (cf' := (17, [some (.ref 52), some (.int a1), some (.ref (am_RO + 16 + 6)), some (.int (s1 + 1))], [], hp A I x)) 2 rfl ?_
          exact am_J.leaf (fun k => am_Ev.weak (L' := [some (.ref 52), some (.int a1), some (.ref (am_RO + 16 + 6)), some (.int (s1 + 1))]) (am_Lle.k (am_Lle.k (am_Lle.k (am_Lle.k am_Lle.nil)))) k)
        · refine am_J.go 1 rfl ?_
          exact am_J.retz rfl (Or.inl rfl) (fun k => k)
    · intro q
      rcases q with ⟨⟩ | v
      · refine (?_ : am_J (am_ro xs) 0 mc_X8_spells r (49, [none, none, none, none], [], hp A I x) _ _)
        refine am_J.go 1 rfl ?_
        exact am_J.retz rfl (Or.inr rfl) (fun k => k)
      · intro z hz hk
        cases hz
        exact hk
  · refine am_J.go 1 rfl ?_
    exact am_J.retz rfl (Or.inl rfl) (fun k => k)

def f_X11_journey (A : Nat → List Int32) (I : Nat → Int32) (a1 : Int32) (a2 : Int32) (a3 : Int32) : Option (Int32 × (List Int32) × (List Int32) × Int32 × Int32) :=
  ((f_X11_isLand a1).bind fun r1 =>
  (if r1 = 0 then
    some ((-2), (A 74), (A 75), (I 4675), (I 4676))
  else
    ((f_X11_isWithin a2 0 255).bind fun r2 =>
    (if r2 = 0 then
      some ((-2), (A 74), (A 75), (I 4675), (I 4676))
    else
      ((f_X4_plan A I a1 (a2 &&& ((1 <<< (a1 &&& 31)) ^^^ (-1)))).bind fun r3 =>
      (if a3 = (-1) then
        some (r3.2.2.2, r3.1, r3.2.1, r3.2.2.1, r3.2.2.2)
      else
        ((f_X11_isWithin a3 0 (r3.2.2.1 - 1)).bind fun r4 =>
        (if r4 = 0 then
          some ((-1), r3.1, r3.2.1, r3.2.2.1, r3.2.2.2)
        else
          ((am_at r3.2.1 a3).bind fun v5 =>
          some (v5, r3.1, r3.2.1, r3.2.2.1, r3.2.2.2))))))))))
set_option maxRecDepth 100000 in
set_option maxHeartbeats 4000000 in
theorem t_X11_journey {xs : List Int32} (A : Nat → List Int32) (I : Nat → Int32) (x : am_X) (a1 : Int32) (a2 : Int32) (a3 : Int32) {z : Int32 × (List Int32) × (List Int32) × Int32 × Int32} (hz : f_X11_journey A I a1 a2 a3 = some z) : am_Rt (am_ro xs) 29 ix_X11_journey [.ref 0, .int a1, .int a2, .int a3] (hp A I x) (some (.int z.1), hp (up (up A 74 z.2.1) 75 z.2.2.1) (up (up I 4675 z.2.2.2.1) 4676 z.2.2.2.2) x) := by
  refine am_Rt.J (k := ix_X11_journey) (M := mc_X11_journey) (nL := 4) (d := 28) (as := [.ref 0, .int a1, .int a2, .int a3]) (res := fun z => (some (.int z.1), hp (up (up A 74 z.2.1) 75 z.2.2.1) (up (up I 4675 z.2.2.2.1) 4676 z.2.2.2.2) x)) rfl (Nat.le_of_ble_eq_true rfl) (fun r => ?_) hz
  unfold f_X11_journey
  refine am_J.go 1 rfl ?_
  refine am_J.callz (v := fun r1 => r1) (h' := fun r1 => hp A I x) rfl rfl rfl (fun r1 hw => (t_X11_isLand (h := hp A I x) a1 hw).mono (Nat.le_of_ble_eq_true rfl)) (fun r1 hr1 => ?_)
  refine am_J.eq rfl ?_ ?_
  · refine am_J.go 1 rfl ?_
    exact am_J.ret rfl (fun k => k)
  · refine am_J.go 3 rfl ?_
    refine am_J.callz (v := fun r2 => r2) (h' := fun r2 => hp A I x) rfl rfl rfl (fun r2 hw => (t_X11_isWithin (h := hp A I x) a2 0 255 hw).mono (Nat.le_of_ble_eq_true rfl)) (fun r2 hr2 => ?_)
    refine am_J.ne rfl ?_ ?_
    · refine am_J.go 1 rfl ?_
      exact am_J.ret rfl (fun k => k)
    · refine am_J.go 10 rfl ?_
      refine am_J.calln (h' := fun r3 => hp (up (up A 74 r3.1) 75 r3.2.1) (up (up I 4675 r3.2.2.1) 4676 r3.2.2.2) x) rfl (fun r3 hw => (t_X4_plan A I x a1 (a2 &&& ((1 <<< (a1 &&& 31)) ^^^ (-1))) hw)) (fun r3 => ?_)
      refine am_J.go 2 rfl ?_
      refine am_J.ne rfl ?_ ?_
      · refine am_J.go 3 rfl ?_
        exact am_J.ret rfl (fun k => k)
      · refine am_J.go 7 rfl ?_
        refine am_J.callz (v := fun r4 => r4) (h' := fun r4 => hp (up (up A 74 r3.1) 75 r3.2.1) (up (up I 4675 r3.2.2.1) 4676 r3.2.2.2) x) rfl rfl rfl (fun r4 hw => (t_X11_isWithin (h := hp (up (up A 74 r3.1) 75 r3.2.1) (up (up I 4675 r3.2.2.1) 4676 r3.2.2.2) x) a3 0 (r3.2.2.1 - 1) hw).mono (Nat.le_of_ble_eq_true rfl)) (fun r4 hr4 => ?_)
        refine am_J.eq rfl ?_ ?_
        · refine am_J.go 1 rfl ?_
          exact am_J.ret rfl (fun k => k)
        · refine am_J.go 4 rfl ?_
          refine am_J.ial (xs := r3.2.1) rfl (Nat.le_of_ble_eq_true rfl) rfl (fun v5 => ?_)
          refine am_J.go 1 rfl ?_
          exact am_J.ret rfl (fun k => k)

def f_X8_readSum_l1 (gN gO gE : am_OrX) (A : Nat → List Int32) (I : Nat → Int32) (a1 : Int32) : (Int32 × (List Int32) × Int32 × Int32 × Int32 × Int32) → Option ((Int32 × (List Int32) × Int32 × Int32 × Int32 × Int32) ⊕ ((List Int32) × Int32 × Int32 × Int32 × Int32)) := fun q => match q with
    | (s2, s3, s4, s5, s6, s7) =>
    (if 160 ≤ s2 then
      some (.inr (s3, s4, s5, s6, s7))
    else
      (if s5 = 43 then
        (((if s5 = 43 then
            some (-13)
          else
            some (-14)) : Option (Int32)).bind (fun j8 =>
        ((f_X8_advance (up A 57 s3) (up (up (up (up I 3336 s4) 3337 s5) 3338 s6) 3340 s7)).bind fun r9 =>
        ((f_X8_readTerm gN gO gE (up A 57 s3) (up (up (up (up I 3336 r9.1) 3337 r9.2) 3338 s6) 3340 s7) a1).bind fun r10 =>
        ((f_X8_write (up A 57 r10.1) (up (up (up (up I 3336 r10.2.1) 3337 r10.2.2.1) 3338 r10.2.2.2.1) 3340 r10.2.2.2.2) j8).bind fun r11 =>
        some (.inl ((s2 + 1), r11.1, r10.2.1, r10.2.2.1, r10.2.2.2.1, r11.2)))))))
      else
        (if s5 = 45 then
          (((if s5 = 43 then
              some (-13)
            else
              some (-14)) : Option (Int32)).bind (fun j12 =>
          ((f_X8_advance (up A 57 s3) (up (up (up (up I 3336 s4) 3337 s5) 3338 s6) 3340 s7)).bind fun r13 =>
          ((f_X8_readTerm gN gO gE (up A 57 s3) (up (up (up (up I 3336 r13.1) 3337 r13.2) 3338 s6) 3340 s7) a1).bind fun r14 =>
          ((f_X8_write (up A 57 r14.1) (up (up (up (up I 3336 r14.2.1) 3337 r14.2.2.1) 3338 r14.2.2.2.1) 3340 r14.2.2.2.2) j12).bind fun r15 =>
          some (.inl ((s2 + 1), r15.1, r14.2.1, r14.2.2.1, r14.2.2.2.1, r15.2)))))))
        else
          some (.inr (s3, s4, s5, s6, s7)))))
def f_X8_readSum (gN gO gE : am_OrX) (A : Nat → List Int32) (I : Nat → Int32) (a1 : Int32) : Option ((List Int32) × Int32 × Int32 × Int32 × Int32) :=
  ((f_X8_readTerm gN gO gE A I a1).bind fun r1 =>
  ((wl (f_X8_readSum_l1 gN gO gE (up A 57 r1.1) (up (up (up (up I 3336 r1.2.1) 3337 r1.2.2.1) 3338 r1.2.2.2.1) 3340 r1.2.2.2.2) a1) 100000 (0, r1.1, r1.2.1, r1.2.2.1, r1.2.2.2.1, r1.2.2.2.2)).bind (fun q => match q with
  | (e16, e17, e18, e19, e20) =>
  some (e16, e17, e18, e19, e20))))
set_option maxRecDepth 100000 in
set_option maxHeartbeats 4000000 in
theorem t_X8_readSum {xs : List Int32} {d : Nat} {gN gO gE : am_OrX} (hN : am_OrXh xs d ix_X8_readNot gN) (hO : am_OrXh xs d ix_X8_readOne gO) (hE : am_OrXh xs d ix_X8_readEither gE) (A : Nat → List Int32) (I : Nat → Int32) (x : am_X) (a1 : Int32) {z : (List Int32) × Int32 × Int32 × Int32 × Int32} (hz : f_X8_readSum gN gO gE A I a1 = some z) : am_Rt (am_ro xs) (d + 5) ix_X8_readSum [.ref 52, .int a1] (hp A I x) (none, hp (up A 57 z.1) (up (up (up (up I 3336 z.2.1) 3337 z.2.2.1) 3338 z.2.2.2.1) 3340 z.2.2.2.2) x) := by
  refine am_Rt.J (k := ix_X8_readSum) (M := mc_X8_readSum) (nL := 4) (d := (d + 4)) (as := [.ref 52, .int a1]) (res := fun z => (none, hp (up A 57 z.1) (up (up (up (up I 3336 z.2.1) 3337 z.2.2.1) 3338 z.2.2.2.1) 3340 z.2.2.2.2) x)) rfl (Nat.le_of_ble_eq_true rfl) (fun r => ?_) hz
  unfold f_X8_readSum
  refine am_J.go 2 rfl ?_
  refine am_J.calln (h' := fun r1 => hp (up A 57 r1.1) (up (up (up (up I 3336 r1.2.1) 3337 r1.2.2.1) 3338 r1.2.2.2.1) 3340 r1.2.2.2.2) x) rfl (fun r1 hw => (t_X8_readTerm hN hO hE A I x a1 hw).mono (by omega)) (fun r1 => ?_)
  refine am_J.go (cf' := (7, [some (.ref 52), some (.int a1), some (.int 0), none], [], hp (up A 57 r1.1) (up (up (up (up I 3336 r1.2.1) 3337 r1.2.2.1) 3338 r1.2.2.2.1) 3340 r1.2.2.2.2) x)) 2 rfl ?_
  refine am_J.weak (L' := [some (.ref 52), some (.int a1), some (.int 0), none]) (am_Lle.k (am_Lle.k (am_Lle.k (am_Lle.o am_Lle.nil)))) ?_
  refine am_J.loop (cl := fun q => match q with | (s2, s3, s4, s5, s6, s7) => (7, [some (.ref 52), some (.int a1), some (.int s2), none], [], hp (up A 57 s3) (up (up (up (up I 3336 s4) 3337 s5) 3338 s6) 3340 s7) x)) (GX := fun q => match q with | (e16, e17, e18, e19, e20) => am_Ev (am_ro xs) (d + 4) mc_X8_readSum (69, [none, none, none, none], [], hp (up A 57 e16) (up (up (up (up I 3336 e17) 3337 e18) 3338 e19) 3340 e20) x) r) ?_ ?_
  · rintro ⟨s2, s3, s4, s5, s6, s7⟩
    unfold f_X8_readSum_l1
    refine am_J.go 2 rfl ?_
    refine am_J.ge rfl ?_ ?_
    · refine am_J.go (cf' := (69, [some (.ref 52), some (.int a1), some (.int s2), none], [], hp (up (up A 57 r1.1) 57 s3) (up (up (up (up (up (up (up (up I 3336 r1.2.1) 3337 r1.2.2.1) 3338 r1.2.2.2.1) 3340 r1.2.2.2.2) 3336 s4) 3337 s5) 3338 s6) 3340 s7) x)) 0 rfl ?_
      exact am_J.leaf (fun k => am_Ev.weak (L' := [none, none, none, none]) (am_Lle.o (am_Lle.o (am_Lle.o (am_Lle.o am_Lle.nil)))) k)
    · refine am_J.go 3 rfl ?_
      refine am_J.eq rfl ?_ ?_
      · refine am_J.go 3 rfl ?_
        refine am_J.join (β := Int32) (cj := fun j8 => (48, [some (.ref 52), some (.int a1), some (.int s2), none], [.int j8], hp (up (up A 57 r1.1) 57 s3) (up (up (up (up (up (up (up (up I 3336 r1.2.1) 3337 r1.2.2.1) 3338 r1.2.2.2.1) 3340 r1.2.2.2.2) 3336 s4) 3337 s5) 3338 s6) 3340 s7) x)) ?_ ?_
        · refine am_J.ne rfl ?_ ?_
          · refine am_J.go (cf' := (48, [some (.ref 52), some (.int a1), some (.int s2), none], [.int (-13)], hp (up (up A 57 r1.1) 57 s3) (up (up (up (up (up (up (up (up I 3336 r1.2.1) 3337 r1.2.2.1) 3338 r1.2.2.2.1) 3340 r1.2.2.2.2) 3336 s4) 3337 s5) 3338 s6) 3340 s7) x)) 2 rfl ?_
            exact am_J.leaf (fun k => am_Ev.weak (L' := [some (.ref 52), some (.int a1), some (.int s2), none]) (am_Lle.k (am_Lle.k (am_Lle.k (am_Lle.o am_Lle.nil)))) k)
          · refine am_J.go (cf' := (48, [some (.ref 52), some (.int a1), some (.int s2), none], [.int (-14)], hp (up (up A 57 r1.1) 57 s3) (up (up (up (up (up (up (up (up I 3336 r1.2.1) 3337 r1.2.2.1) 3338 r1.2.2.2.1) 3340 r1.2.2.2.2) 3336 s4) 3337 s5) 3338 s6) 3340 s7) x)) 1 rfl ?_
            exact am_J.leaf (fun k => am_Ev.weak (L' := [some (.ref 52), some (.int a1), some (.int s2), none]) (am_Lle.k (am_Lle.k (am_Lle.k (am_Lle.o am_Lle.nil)))) k)
        · rintro j8
          refine am_J.go 2 rfl ?_
          refine am_J.calln (h' := fun r9 => hp (up (up A 57 r1.1) 57 s3) (up (up (up (up (up (up (up (up I 3336 r1.2.1) 3337 r1.2.2.1) 3338 r1.2.2.2.1) 3340 r1.2.2.2.2) 3336 r9.1) 3337 r9.2) 3338 s6) 3340 s7) x) rfl (fun r9 hw => (t_X8_advance (up (up A 57 r1.1) 57 s3) (up (up (up (up (up (up (up (up I 3336 r1.2.1) 3337 r1.2.2.1) 3338 r1.2.2.2.1) 3340 r1.2.2.2.2) 3336 s4) 3337 s5) 3338 s6) 3340 s7) x hw).mono (by omega)) (fun r9 => ?_)
          refine am_J.go 2 rfl ?_
          refine am_J.calln (h' := fun r10 => hp (up (up A 57 r1.1) 57 r10.1) (up (up (up (up (up (up (up (up I 3336 r1.2.1) 3337 r1.2.2.1) 3338 r1.2.2.2.1) 3340 r1.2.2.2.2) 3336 r10.2.1) 3337 r10.2.2.1) 3338 r10.2.2.2.1) 3340 r10.2.2.2.2) x) rfl (fun r10 hw => (t_X8_readTerm hN hO hE (up (up A 57 r1.1) 57 s3) (up (up (up (up (up (up (up (up I 3336 r1.2.1) 3337 r1.2.2.1) 3338 r1.2.2.2.1) 3340 r1.2.2.2.2) 3336 r9.1) 3337 r9.2) 3338 s6) 3340 s7) x a1 hw).mono (by omega)) (fun r10 => ?_)
          refine am_J.go 2 rfl ?_
          refine am_J.calln (h' := fun r11 => hp (up (up A 57 r1.1) 57 r11.1) (up (up (up (up (up (up (up (up I 3336 r1.2.1) 3337 r1.2.2.1) 3338 r1.2.2.2.1) 3340 r1.2.2.2.2) 3336 r10.2.1) 3337 r10.2.2.1) 3338 r10.2.2.2.1) 3340 r11.2) x) rfl (fun r11 hw => (t_X8_write (up (up A 57 r1.1) 57 r10.1) (up (up (up (up (up (up (up (up I 3336 r1.2.1) 3337 r1.2.2.1) 3338 r1.2.2.2.1) 3340 r1.2.2.2.2) 3336 r10.2.1) 3337 r10.2.2.1) 3338 r10.2.2.2.1) 3340 r10.2.2.2.2) x j8 hw).mono (by omega)) (fun r11 => ?_)
          refine am_J.go (cf' := (7, [some (.ref 52), some (.int a1), some (.int (s2 + 1)), some (.int j8)], [], hp (up (up A 57 r1.1) 57 r11.1) (up (up (up (up (up (up (up (up I 3336 r1.2.1) 3337 r1.2.2.1) 3338 r1.2.2.2.1) 3340 r1.2.2.2.2) 3336 r10.2.1) 3337 r10.2.2.1) 3338 r10.2.2.2.1) 3340 r11.2) x)) 2 rfl ?_
          exact am_J.leaf (fun k => am_Ev.weak (L' := [some (.ref 52), some (.int a1), some (.int (s2 + 1)), none]) (am_Lle.k (am_Lle.k (am_Lle.k (am_Lle.o am_Lle.nil)))) k)
      · refine am_J.go 3 rfl ?_
        refine am_J.ne rfl ?_ ?_
        · refine am_J.go 3 rfl ?_
          refine am_J.join (β := Int32) (cj := fun j12 => (48, [some (.ref 52), some (.int a1), some (.int s2), none], [.int j12], hp (up (up A 57 r1.1) 57 s3) (up (up (up (up (up (up (up (up I 3336 r1.2.1) 3337 r1.2.2.1) 3338 r1.2.2.2.1) 3340 r1.2.2.2.2) 3336 s4) 3337 s5) 3338 s6) 3340 s7) x)) ?_ ?_
          · refine am_J.ne rfl ?_ ?_
            · refine am_J.go (cf' := (48, [some (.ref 52), some (.int a1), some (.int s2), none], [.int (-13)], hp (up (up A 57 r1.1) 57 s3) (up (up (up (up (up (up (up (up I 3336 r1.2.1) 3337 r1.2.2.1) 3338 r1.2.2.2.1) 3340 r1.2.2.2.2) 3336 s4) 3337 s5) 3338 s6) 3340 s7) x)) 2 rfl ?_
              exact am_J.leaf (fun k => am_Ev.weak (L' := [some (.ref 52), some (.int a1), some (.int s2), none]) (am_Lle.k (am_Lle.k (am_Lle.k (am_Lle.o am_Lle.nil)))) k)
            · refine am_J.go (cf' := (48, [some (.ref 52), some (.int a1), some (.int s2), none], [.int (-14)], hp (up (up A 57 r1.1) 57 s3) (up (up (up (up (up (up (up (up I 3336 r1.2.1) 3337 r1.2.2.1) 3338 r1.2.2.2.1) 3340 r1.2.2.2.2) 3336 s4) 3337 s5) 3338 s6) 3340 s7) x)) 1 rfl ?_
              exact am_J.leaf (fun k => am_Ev.weak (L' := [some (.ref 52), some (.int a1), some (.int s2), none]) (am_Lle.k (am_Lle.k (am_Lle.k (am_Lle.o am_Lle.nil)))) k)
          · rintro j12
            refine am_J.go 2 rfl ?_
            refine am_J.calln (h' := fun r13 => hp (up (up A 57 r1.1) 57 s3) (up (up (up (up (up (up (up (up I 3336 r1.2.1) 3337 r1.2.2.1) 3338 r1.2.2.2.1) 3340 r1.2.2.2.2) 3336 r13.1) 3337 r13.2) 3338 s6) 3340 s7) x) rfl (fun r13 hw => (t_X8_advance (up (up A 57 r1.1) 57 s3) (up (up (up (up (up (up (up (up I 3336 r1.2.1) 3337 r1.2.2.1) 3338 r1.2.2.2.1) 3340 r1.2.2.2.2) 3336 s4) 3337 s5) 3338 s6) 3340 s7) x hw).mono (by omega)) (fun r13 => ?_)
            refine am_J.go 2 rfl ?_
            refine am_J.calln (h' := fun r14 => hp (up (up A 57 r1.1) 57 r14.1) (up (up (up (up (up (up (up (up I 3336 r1.2.1) 3337 r1.2.2.1) 3338 r1.2.2.2.1) 3340 r1.2.2.2.2) 3336 r14.2.1) 3337 r14.2.2.1) 3338 r14.2.2.2.1) 3340 r14.2.2.2.2) x) rfl (fun r14 hw => (t_X8_readTerm hN hO hE (up (up A 57 r1.1) 57 s3) (up (up (up (up (up (up (up (up I 3336 r1.2.1) 3337 r1.2.2.1) 3338 r1.2.2.2.1) 3340 r1.2.2.2.2) 3336 r13.1) 3337 r13.2) 3338 s6) 3340 s7) x a1 hw).mono (by omega)) (fun r14 => ?_)
            refine am_J.go 2 rfl ?_
            refine am_J.calln (h' := fun r15 => hp (up (up A 57 r1.1) 57 r15.1) (up (up (up (up (up (up (up (up I 3336 r1.2.1) 3337 r1.2.2.1) 3338 r1.2.2.2.1) 3340 r1.2.2.2.2) 3336 r14.2.1) 3337 r14.2.2.1) 3338 r14.2.2.2.1) 3340 r15.2) x) rfl (fun r15 hw => (t_X8_write (up (up A 57 r1.1) 57 r14.1) (up (up (up (up (up (up (up (up I 3336 r1.2.1) 3337 r1.2.2.1) 3338 r1.2.2.2.1) 3340 r1.2.2.2.2) 3336 r14.2.1) 3337 r14.2.2.1) 3338 r14.2.2.2.1) 3340 r14.2.2.2.2) x j12 hw).mono (by omega)) (fun r15 => ?_)
            refine am_J.go (cf' := (7, [some (.ref 52), some (.int a1), some (.int (s2 + 1)), some (.int j12)], [], hp (up (up A 57 r1.1) 57 r15.1) (up (up (up (up (up (up (up (up I 3336 r1.2.1) 3337 r1.2.2.1) 3338 r1.2.2.2.1) 3340 r1.2.2.2.2) 3336 r14.2.1) 3337 r14.2.2.1) 3338 r14.2.2.2.1) 3340 r15.2) x)) 2 rfl ?_
            exact am_J.leaf (fun k => am_Ev.weak (L' := [some (.ref 52), some (.int a1), some (.int (s2 + 1)), none]) (am_Lle.k (am_Lle.k (am_Lle.k (am_Lle.o am_Lle.nil)))) k)
        · refine am_J.go (cf' := (69, [some (.ref 52), some (.int a1), some (.int s2), none], [], hp (up (up A 57 r1.1) 57 s3) (up (up (up (up (up (up (up (up I 3336 r1.2.1) 3337 r1.2.2.1) 3338 r1.2.2.2.1) 3340 r1.2.2.2.2) 3336 s4) 3337 s5) 3338 s6) 3340 s7) x)) 0 rfl ?_
          exact am_J.leaf (fun k => am_Ev.weak (L' := [none, none, none, none]) (am_Lle.o (am_Lle.o (am_Lle.o (am_Lle.o am_Lle.nil)))) k)
  · rintro ⟨e16, e17, e18, e19, e20⟩
    refine (?_ : am_J (am_ro xs) (d + 4) mc_X8_readSum r (69, [none, none, none, none], [], hp (up A 57 e16) (up (up (up (up I 3336 e17) 3337 e18) 3338 e19) 3340 e20) x) _ _)
    exact am_J.ret rfl (fun k => k)

def f_X10_isMissing_77 (A : Nat → List Int32) (I : Nat → Int32) : Option (Int32) :=
  (if (I 4928) = (-1) then
    some 1
  else
    some 0)
set_option maxRecDepth 100000 in
set_option maxHeartbeats 4000000 in
theorem t_X10_isMissing_77 {xs : List Int32} (A : Nat → List Int32) (I : Nat → Int32) (x : am_X) {z : Int32} (hz : f_X10_isMissing_77 A I = some z) : am_Rt (am_ro xs) 1 ix_X10_isMissing [.ref 77] (hp A I x) (some (.int z), hp A I x) := by
  refine am_Rt.J (k := ix_X10_isMissing) (M := mc_X10_isMissing) (nL := 1) (d := 0) (as := [.ref 77]) (res := fun z => (some (.int z), hp A I x)) rfl (Nat.le_of_ble_eq_true rfl) (fun r => ?_) hz
  unfold f_X10_isMissing_77
  refine am_J.go 3 rfl ?_
  refine am_J.ne rfl ?_ ?_
  · refine am_J.go 2 rfl ?_
    exact am_J.retz rfl (Or.inr rfl) (fun k => k)
  · refine am_J.go 1 rfl ?_
    exact am_J.retz rfl (Or.inl rfl) (fun k => k)

def f_X5_valueFor_41_42_l1 (ys : List Int32) (A : Nat → List Int32) (I : Nat → Int32) : (Int32 × Int32 × (List Int32)) → Option ((Int32 × Int32 × (List Int32)) ⊕ ((Int32 × (List Int32)) ⊕ (Int32 × (List Int32)))) := fun q => match q with
    | (s1, s2, s3) =>
    (if (Int32.ofNat ys.length) ≤ s2 then
      some (.inr (.inl (s1, s3)))
    else
      ((am_at ys s2).bind fun v4 =>
      (if v4 < (-6) then
        (if v4 < (-8) then
          (if 2 ≤ s1 then
            ((am_at s3 ((s1 + (-1)) - 1)).bind fun v5 =>
            ((am_at s3 (s1 + (-1))).bind fun v6 =>
            ((f_X5_joined v4 v5 v6).bind fun r7 =>
            ((am_up s3 ((s1 + (-1)) - 1) r7).bind fun y8 =>
            some (.inl ((s1 + (-1)), (s2 + 1), y8))))))
          else
            some (.inr (.inr (0, s3))))
        else
          (if 1 ≤ s1 then
            ((am_at s3 (s1 - 1)).bind fun v9 =>
            (((if v4 = (-8) then
                some (-v9)
              else
                (if v9 = 0 then
                  some 1
                else
                  some 0)) : Option (Int32)).bind (fun j10 =>
            ((am_up s3 (s1 - 1) j10).bind fun y11 =>
            some (.inl (s1, (s2 + 1), y11))))))
          else
            some (.inr (.inr (0, s3)))))
      else
        (if s1 < (Int32.ofNat s3.length) then
          (((if v4 < 0 then
              ((am_at (A 41) ((-1) - v4)).bind fun v12 =>
              some v12)
            else
              some v4) : Option (Int32)).bind (fun j13 =>
          ((am_up s3 s1 j13).bind fun y14 =>
          some (.inl ((s1 + 1), (s2 + 1), y14)))))
        else
          some (.inr (.inr (0, s3)))))))
def f_X5_valueFor_41_42 (ys : List Int32) (A : Nat → List Int32) (I : Nat → Int32) : Option (Int32 × (List Int32)) :=
  ((wl (f_X5_valueFor_41_42_l1 ys A I) 100000 (0, 0, (A 42))).bind (fun q => match q with
  | .inl (e15, e16) =>
  (if e15 = 1 then
    ((am_at e16 0).bind fun v17 =>
    some (v17, e16))
  else
    some (0, e16))
  | .inr v => some v))
set_option maxRecDepth 100000 in
set_option maxHeartbeats 4000000 in
theorem t_X5_valueFor_41_42 {xs : List Int32} (A : Nat → List Int32) (I : Nat → Int32) (x : am_X) {w c : Nat} {ys : List Int32} (hfo : am_fo A x w c ys) {z : Int32 × (List Int32)} (hz : f_X5_valueFor_41_42 ys A I = some z) : am_Rt (am_ro xs) 2 ix_X5_valueFor [.ref w, .ref 41, .ref 42] (hp A I x) (some (.int z.1), hp (up A 42 z.2) I x) := by
  refine am_Rt.J (k := ix_X5_valueFor) (M := mc_X5_valueFor) (nL := 7) (d := 1) (as := [.ref w, .ref 41, .ref 42]) (res := fun z => (some (.int z.1), hp (up A 42 z.2) I x)) rfl (Nat.le_of_ble_eq_true rfl) (fun r => ?_) hz
  unfold f_X5_valueFor_41_42
  refine am_J.go (cf' := (5, [some (.ref w), some (.ref 41), some (.ref 42), some (.int 0), some (.int 0), none, none], [], hp A I x)) 4 rfl ?_
  refine am_J.weak (L' := [some (.ref w), some (.ref 41), some (.ref 42), some (.int 0), some (.int 0), none, none]) (am_Lle.k (am_Lle.k (am_Lle.k (am_Lle.k (am_Lle.k (am_Lle.o (am_Lle.o am_Lle.nil))))))) ?_
  refine am_J.loop (cl := fun q => match q with | (s1, s2, s3) => (5, [some (.ref w), some (.ref 41), some (.ref 42), some (.int s1), some (.int s2), none, none], [], hp (up A 42 s3) I x)) (GX := fun q => Sum.elim (fun q => match q with | (e15, e16) => am_Ev (am_ro xs) 1 mc_X5_valueFor (150, [none, none, some (.ref 42), some (.int e15), none, none, none], [], hp (up A 42 e16) I x) r) (fun (z : Int32 × (List Int32)) => r = (some (.int z.1), hp (up A 42 z.2) I x)) q) ?_ ?_
  · rintro ⟨s1, s2, s3⟩
    unfold f_X5_valueFor_41_42_l1
    refine am_J.go 2 rfl ?_
    refine am_J.fcg rfl rfl (hfo.2 (up A 42 s3) I rfl rfl).1 ?_
    refine am_J.len (xs := ys) rfl hfo.1 (hfo.2 (up A 42 s3) I rfl rfl).2 ?_
    refine am_J.ge rfl ?_ ?_
    · refine am_J.go (cf' := (150, [some (.ref w), some (.ref 41), some (.ref 42), some (.int s1), some (.int s2), none, none], [], hp (up A 42 s3) I x)) 0 rfl ?_
      exact am_J.leaf (fun k => am_Ev.weak (L' := [none, none, some (.ref 42), some (.int s1), none, none, none]) (am_Lle.o (am_Lle.o (am_Lle.k (am_Lle.k (am_Lle.o (am_Lle.o (am_Lle.o am_Lle.nil))))))) k)
    · refine am_J.go 1 rfl ?_
      refine am_J.fcg rfl rfl (hfo.2 (up A 42 s3) I rfl rfl).1 ?_
      refine am_J.go 1 rfl ?_
      refine am_J.ial (xs := ys) rfl hfo.1 (hfo.2 (up A 42 s3) I rfl rfl).2 (fun v4 => ?_)
      refine am_J.go 3 rfl ?_
      refine am_J.lt rfl ?_ ?_
      · refine am_J.go 2 rfl ?_
        refine am_J.lt rfl ?_ ?_
        · refine am_J.go 2 rfl ?_
          refine am_J.ge rfl ?_ ?_
          · refine am_J.go 10 rfl ?_
            refine am_J.ial (xs := s3) rfl (Nat.le_of_ble_eq_true rfl) rfl (fun v5 => ?_)
            refine am_J.go 2 rfl ?_
            refine am_J.ial (xs := s3) rfl (Nat.le_of_ble_eq_true rfl) rfl (fun v6 => ?_)
            refine am_J.call (v := fun r7 => .int r7) (h' := fun r7 => hp (up A 42 s3) I x) rfl (fun r7 hw => (t_X5_joined (h := hp (up A 42 s3) I x) v4 v5 v6 hw)) (fun r7 => ?_)
            refine am_J.ias (xs := s3) (h' := fun y8 => hp (up A 42 y8) I x) rfl rfl (fun _ => rfl) (fun y8 => ?_)
            refine am_J.go (cf' := (5, [some (.ref w), some (.ref 41), some (.ref 42), some (.int (s1 + (-1))), some (.int (s2 + 1)), some (.int v4), none], [], hp (up A 42 y8) I x)) 2 rfl ?_
            exact am_J.leaf (fun k => am_Ev.weak (L' := [some (.ref w), some (.ref 41), some (.ref 42), some (.int (s1 + (-1))), some (.int (s2 + 1)), none, none]) (am_Lle.k (am_Lle.k (am_Lle.k (am_Lle.k (am_Lle.k (am_Lle.o (am_Lle.o am_Lle.nil))))))) k)
          · refine am_J.go 1 rfl ?_
            exact am_J.ret rfl (fun k => k)
        · refine am_J.go 2 rfl ?_
          refine am_J.ge rfl ?_ ?_
          · refine am_J.go 4 rfl ?_
            refine am_J.ial (xs := s3) rfl (Nat.le_of_ble_eq_true rfl) rfl (fun v9 => ?_)
            refine am_J.go 7 rfl ?_
            refine am_J.join (β := Int32) (cj := fun j10 => (112, [some (.ref w), some (.ref 41), some (.ref 42), some (.int s1), some (.int s2), none, none], [.int j10, .int (s1 - 1), .ref 42], hp (up A 42 s3) I x)) ?_ ?_
            · refine am_J.ne rfl ?_ ?_
              · refine am_J.go (cf' := (112, [some (.ref w), some (.ref 41), some (.ref 42), some (.int s1), some (.int s2), some (.int v4), some (.int v9)], [.int (-v9), .int (s1 - 1), .ref 42], hp (up A 42 s3) I x)) 3 rfl ?_
                exact am_J.leaf (fun k => am_Ev.weak (L' := [some (.ref w), some (.ref 41), some (.ref 42), some (.int s1), some (.int s2), none, none]) (am_Lle.k (am_Lle.k (am_Lle.k (am_Lle.k (am_Lle.k (am_Lle.o (am_Lle.o am_Lle.nil))))))) k)
              · refine am_J.go 1 rfl ?_
                refine am_J.ne rfl ?_ ?_
                · refine am_J.go (cf' := (112, [some (.ref w), some (.ref 41), some (.ref 42), some (.int s1), some (.int s2), some (.int v4), some (.int v9)], [.int 1, .int (s1 - 1), .ref 42], hp (up A 42 s3) I x)) 2 rfl ?_
                  exact am_J.leaf (fun k => am_Ev.weak (L' := [some (.ref w), some (.ref 41), some (.ref 42), some (.int s1), some (.int s2), none, none]) (am_Lle.k (am_Lle.k (am_Lle.k (am_Lle.k (am_Lle.k (am_Lle.o (am_Lle.o am_Lle.nil))))))) k)
                · refine am_J.go (cf' := (112, [some (.ref w), some (.ref 41), some (.ref 42), some (.int s1), some (.int s2), some (.int v4), some (.int v9)], [.int 0, .int (s1 - 1), .ref 42], hp (up A 42 s3) I x)) 1 rfl ?_
                  exact am_J.leaf (fun k => am_Ev.weak (L' := [some (.ref w), some (.ref 41), some (.ref 42), some (.int s1), some (.int s2), none, none]) (am_Lle.k (am_Lle.k (am_Lle.k (am_Lle.k (am_Lle.k (am_Lle.o (am_Lle.o am_Lle.nil))))))) k)
            · rintro j10
              refine am_J.ias (xs := s3) (h' := fun y11 => hp (up A 42 y11) I x) rfl rfl (fun _ => rfl) (fun y11 => ?_)
              refine am_J.go (cf' := (5, [some (.ref w), some (.ref 41), some (.ref 42), some (.int s1), some (.int (s2 + 1)), none, none], [], hp (up A 42 y11) I x)) 3 rfl ?_
              exact am_J.leaf (fun k => am_Ev.weak (L' := [some (.ref w), some (.ref 41), some (.ref 42), some (.int s1), some (.int (s2 + 1)), none, none]) (am_Lle.k (am_Lle.k (am_Lle.k (am_Lle.k (am_Lle.k (am_Lle.o (am_Lle.o am_Lle.nil))))))) k)
          · refine am_J.go 1 rfl ?_
            exact am_J.ret rfl (fun k => k)
      · refine am_J.go 3 rfl ?_
        refine am_J.lt rfl ?_ ?_
        · refine am_J.go 4 rfl ?_
          refine am_J.join (β := Int32) (cj := fun j13 => (60, [some (.ref w), some (.ref 41), some (.ref 42), some (.int (s1 + 1)), some (.int s2), none, none], [.int j13, .int s1, .ref 42], hp (up A 42 s3) I x)) ?_ ?_
          · refine am_J.lt rfl ?_ ?_
            · refine am_J.go 4 rfl ?_
              refine am_J.ial (xs := (A 41)) rfl (Nat.le_of_ble_eq_true rfl) rfl (fun v12 => ?_)
              refine am_J.go (cf' := (60, [some (.ref w), some (.ref 41), some (.ref 42), some (.int (s1 + 1)), some (.int s2), some (.int v4), none], [.int v12, .int s1, .ref 42], hp (up A 42 s3) I x)) 0 rfl ?_
              exact am_J.leaf (fun k => am_Ev.weak (L' := [some (.ref w), some (.ref 41), some (.ref 42), some (.int (s1 + 1)), some (.int s2), none, none]) (am_Lle.k (am_Lle.k (am_Lle.k (am_Lle.k (am_Lle.k (am_Lle.o (am_Lle.o am_Lle.nil))))))) k)
            · refine am_J.go (cf' := (60, [some (.ref w), some (.ref 41), some (.ref 42), some (.int (s1 + 1)), some (.int s2), some (.int v4), none], [.int v4, .int s1, .ref 42], hp (up A 42 s3) I x)) 2 rfl ?_
              exact am_J.leaf (fun k => am_Ev.weak (L' := [some (.ref w), some (.ref 41), some (.ref 42), some (.int (s1 + 1)), some (.int s2), none, none]) (am_Lle.k (am_Lle.k (am_Lle.k (am_Lle.k (am_Lle.k (am_Lle.o (am_Lle.o am_Lle.nil))))))) k)
          · rintro j13
            refine am_J.ias (xs := s3) (h' := fun y14 => hp (up A 42 y14) I x) rfl rfl (fun _ => rfl) (fun y14 => ?_)
            refine am_J.go (cf' := (5, [some (.ref w), some (.ref 41), some (.ref 42), some (.int (s1 + 1)), some (.int (s2 + 1)), none, none], [], hp (up A 42 y14) I x)) 3 rfl ?_
            exact am_J.leaf (fun k => am_Ev.weak (L' := [some (.ref w), some (.ref 41), some (.ref 42), some (.int (s1 + 1)), some (.int (s2 + 1)), none, none]) (am_Lle.k (am_Lle.k (am_Lle.k (am_Lle.k (am_Lle.k (am_Lle.o (am_Lle.o am_Lle.nil))))))) k)
        · refine am_J.go 1 rfl ?_
          exact am_J.ret rfl (fun k => k)
  · intro q
    rcases q with ⟨e15, e16⟩ | v
    · refine (?_ : am_J (am_ro xs) 1 mc_X5_valueFor r (150, [none, none, some (.ref 42), some (.int e15), none, none, none], [], hp (up A 42 e16) I x) _ _)
      refine am_J.go 2 rfl ?_
      refine am_J.ne rfl ?_ ?_
      · refine am_J.go 2 rfl ?_
        refine am_J.ial (xs := e16) rfl (Nat.le_of_ble_eq_true rfl) rfl (fun v17 => ?_)
        refine am_J.go 1 rfl ?_
        exact am_J.ret rfl (fun k => k)
      · refine am_J.go 1 rfl ?_
        exact am_J.ret rfl (fun k => k)
    · intro z hz hk
      cases hz
      exact hk

def f_X1_valueIfHeld (A : Nat → List Int32) (I : Nat → Int32) (x : am_X) (a1 : Int32) (a2 : Int32) (a3 : Int32) (a4 : Int32) : Option (Int32 × (List Int32) × (List Int32)) :=
  ((am_at (A 30) a2).bind fun v1 =>
  ((am_up (A 41) 0 v1).bind fun y2 =>
  ((am_at (A 33) a2).bind fun v3 =>
  ((am_up y2 1 v3).bind fun y4 =>
  ((f_X2_rankOf (up A 41 y4) I a2).bind fun r5 =>
  ((am_up y4 2 r5).bind fun y6 =>
  (((if a1 = 2 then
      some 1
    else
      (if a1 = a4 then
        some 1
      else
        some 0)) : Option (Int32)).bind (fun j7 =>
  ((am_up y6 3 j7).bind fun y8 =>
  ((am_at (A 35) a2).bind fun v9 =>
  ((f_J6_bitCount_0f7a4 v9).bind fun r10 =>
  ((am_up y8 4 r10).bind fun y11 =>
  ((am_at (A 34) a2).bind fun v12 =>
  ((am_up y11 5 v12).bind fun y13 =>
  (((if a3 = 0 then
      ((am_at (A 40) a1).bind fun v16 =>
      ((am_fat x.1 v16).bind fun w17 =>
      some w17))
    else
      ((am_at (A 40) a1).bind fun v14 =>
      ((am_fat x.2.1 v14).bind fun w15 =>
      some w15))) : Option (Nat)).bind (fun j18 =>
  ((am_fcode (up A 41 y13) x j18).bind fun ys =>
  ((f_X5_valueFor_41_42 ys (up A 41 y13) I).bind fun r19 =>
  some (r19.1, y13, r19.2)))))))))))))))))))
set_option maxRecDepth 100000 in
set_option maxHeartbeats 4000000 in
theorem t_X1_valueIfHeld {xs : List Int32} (A : Nat → List Int32) (I : Nat → Int32) (x : am_X) (a1 : Int32) (a2 : Int32) (a3 : Int32) (a4 : Int32) {z : Int32 × (List Int32) × (List Int32)} (hz : f_X1_valueIfHeld A I x a1 a2 a3 a4 = some z) : am_Rt (am_ro xs) 3 ix_X1_valueIfHeld [.ref 37, .int a1, .int a2, .int a3, .int a4] (hp A I x) (some (.int z.1), hp (up (up A 41 z.2.1) 42 z.2.2) I x) := by
  refine am_Rt.J (k := ix_X1_valueIfHeld) (M := mc_X1_valueIfHeld) (nL := 6) (d := 2) (as := [.ref 37, .int a1, .int a2, .int a3, .int a4]) (res := fun z => (some (.int z.1), hp (up (up A 41 z.2.1) 42 z.2.2) I x)) rfl (Nat.le_of_ble_eq_true rfl) (fun r => ?_) hz
  unfold f_X1_valueIfHeld
  refine am_J.go 7 rfl ?_
  refine am_J.ial (xs := (A 30)) rfl (Nat.le_of_ble_eq_true rfl) rfl (fun v1 => ?_)
  refine am_J.ias (xs := (A 41)) (h' := fun y2 => hp (up A 41 y2) I x) rfl rfl (fun _ => rfl) (fun y2 => ?_)
  refine am_J.go 7 rfl ?_
  refine am_J.ial (xs := (A 33)) rfl (Nat.le_of_ble_eq_true rfl) rfl (fun v3 => ?_)
  refine am_J.ias (xs := y2) (h' := fun y4 => hp (up A 41 y4) I x) rfl rfl (fun _ => rfl) (fun y4 => ?_)
  refine am_J.go 6 rfl ?_
  refine am_J.call (v := fun r5 => .int r5) (h' := fun r5 => hp (up A 41 y4) I x) rfl (fun r5 hw => (t_X2_rankOf (up A 41 y4) I x a2 hw).mono (Nat.le_of_ble_eq_true rfl)) (fun r5 => ?_)
  refine am_J.ias (xs := y4) (h' := fun y6 => hp (up A 41 y6) I x) rfl rfl (fun _ => rfl) (fun y6 => ?_)
  refine am_J.go 5 rfl ?_
  refine am_J.join (β := Int32) (cj := fun j7 => (65, [some (.ref 37), some (.int a1), some (.int a2), some (.int a3), none, none], [.int j7, .int 3, .ref 41], hp (up A 41 y6) I x)) ?_ ?_
  · refine am_J.eq rfl ?_ ?_
    · refine am_J.go (cf' := (65, [some (.ref 37), some (.int a1), some (.int a2), some (.int a3), some (.int a4), none], [.int 1, .int 3, .ref 41], hp (up A 41 y6) I x)) 2 rfl ?_
      exact am_J.leaf (fun k => am_Ev.weak (L' := [some (.ref 37), some (.int a1), some (.int a2), some (.int a3), none, none]) (am_Lle.k (am_Lle.k (am_Lle.k (am_Lle.k (am_Lle.o (am_Lle.o am_Lle.nil)))))) k)
    · refine am_J.go 2 rfl ?_
      refine am_J.ne rfl ?_ ?_
      · refine am_J.go (cf' := (65, [some (.ref 37), some (.int a1), some (.int a2), some (.int a3), some (.int a4), none], [.int 1, .int 3, .ref 41], hp (up A 41 y6) I x)) 2 rfl ?_
        exact am_J.leaf (fun k => am_Ev.weak (L' := [some (.ref 37), some (.int a1), some (.int a2), some (.int a3), none, none]) (am_Lle.k (am_Lle.k (am_Lle.k (am_Lle.k (am_Lle.o (am_Lle.o am_Lle.nil)))))) k)
      · refine am_J.go (cf' := (65, [some (.ref 37), some (.int a1), some (.int a2), some (.int a3), some (.int a4), none], [.int 0, .int 3, .ref 41], hp (up A 41 y6) I x)) 1 rfl ?_
        exact am_J.leaf (fun k => am_Ev.weak (L' := [some (.ref 37), some (.int a1), some (.int a2), some (.int a3), none, none]) (am_Lle.k (am_Lle.k (am_Lle.k (am_Lle.k (am_Lle.o (am_Lle.o am_Lle.nil)))))) k)
  · rintro j7
    refine am_J.ias (xs := y6) (h' := fun y8 => hp (up A 41 y8) I x) rfl rfl (fun _ => rfl) (fun y8 => ?_)
    refine am_J.go 7 rfl ?_
    refine am_J.ial (xs := (A 35)) rfl (Nat.le_of_ble_eq_true rfl) rfl (fun v9 => ?_)
    refine am_J.call (v := fun r10 => .int r10) (h' := fun r10 => hp (up A 41 y8) I x) rfl (fun r10 hw => (t_J6_bitCount_0f7a4 (h := hp (up A 41 y8) I x) v9 hw).mono (Nat.le_of_ble_eq_true rfl)) (fun r10 => ?_)
    refine am_J.ias (xs := y8) (h' := fun y11 => hp (up A 41 y11) I x) rfl rfl (fun _ => rfl) (fun y11 => ?_)
    refine am_J.go 7 rfl ?_
    refine am_J.ial (xs := (A 34)) rfl (Nat.le_of_ble_eq_true rfl) rfl (fun v12 => ?_)
    refine am_J.ias (xs := y11) (h' := fun y13 => hp (up A 41 y13) I x) rfl rfl (fun _ => rfl) (fun y13 => ?_)
    refine am_J.go 1 rfl ?_
    refine am_J.join (β := Nat) (cj := fun j18 => (128, [some (.ref 37), none, none, none, none, none], [.ref j18], hp (up A 41 y13) I x)) ?_ ?_
    · refine am_J.ne rfl ?_ ?_
      · refine am_J.go 5 rfl ?_
        refine am_J.ial (xs := (A 40)) rfl (Nat.le_of_ble_eq_true rfl) rfl (fun v16 => ?_)
        refine am_J.fat rfl rfl (fun w17 => ?_)
        refine am_J.go (cf' := (128, [some (.ref 37), some (.int a1), some (.int a2), some (.int a3), none, none], [.ref w17], hp (up A 41 y13) I x)) 1 rfl ?_
        exact am_J.leaf (fun k => am_Ev.weak (L' := [some (.ref 37), none, none, none, none, none]) (am_Lle.k (am_Lle.o (am_Lle.o (am_Lle.o (am_Lle.o (am_Lle.o am_Lle.nil)))))) k)
      · refine am_J.go 5 rfl ?_
        refine am_J.ial (xs := (A 40)) rfl (Nat.le_of_ble_eq_true rfl) rfl (fun v14 => ?_)
        refine am_J.fat rfl rfl (fun w15 => ?_)
        refine am_J.go (cf' := (128, [some (.ref 37), some (.int a1), some (.int a2), some (.int a3), none, none], [.ref w15], hp (up A 41 y13) I x)) 0 rfl ?_
        exact am_J.leaf (fun k => am_Ev.weak (L' := [some (.ref 37), none, none, none, none, none]) (am_Lle.k (am_Lle.o (am_Lle.o (am_Lle.o (am_Lle.o (am_Lle.o am_Lle.nil)))))) k)
    · rintro j18
      refine am_J.go 8 rfl ?_
      refine am_J.fo (fun c ys hfo => ?_)
      refine am_J.call (v := fun r19 => .int r19.1) (h' := fun r19 => hp (up (up A 41 y13) 42 r19.2) I x) (am_one_v rfl rfl (Nat.le_of_ble_eq_true rfl) (hfo.2 (up A 41 y13) I rfl rfl).1 rfl) (fun r19 hw => (t_X5_valueFor_41_42 (up A 41 y13) I x hfo hw)) (fun r19 => ?_)
      exact am_J.ret rfl (fun k => k)

def f_X1_valueOf (A : Nat → List Int32) (I : Nat → Int32) (x : am_X) (a1 : Int32) (a2 : Int32) (a3 : Int32) : Option (Int32 × (List Int32) × (List Int32)) :=
  ((f_X1_landOf A I a2).bind fun r1 =>
  ((am_at (A 33) a2).bind fun v2 =>
  ((f_X6_sideOn A I r1 v2).bind fun r3 =>
  ((f_X1_valueIfHeld A I x a1 a2 a3 r3).bind fun r4 =>
  some (r4.1, r4.2.1, r4.2.2)))))
set_option maxRecDepth 100000 in
set_option maxHeartbeats 4000000 in
theorem t_X1_valueOf {xs : List Int32} (A : Nat → List Int32) (I : Nat → Int32) (x : am_X) (a1 : Int32) (a2 : Int32) (a3 : Int32) {z : Int32 × (List Int32) × (List Int32)} (hz : f_X1_valueOf A I x a1 a2 a3 = some z) : am_Rt (am_ro xs) 4 ix_X1_valueOf [.ref 37, .int a1, .int a2, .int a3] (hp A I x) (some (.int z.1), hp (up (up A 41 z.2.1) 42 z.2.2) I x) := by
  refine am_Rt.J (k := ix_X1_valueOf) (M := mc_X1_valueOf) (nL := 5) (d := 3) (as := [.ref 37, .int a1, .int a2, .int a3]) (res := fun z => (some (.int z.1), hp (up (up A 41 z.2.1) 42 z.2.2) I x)) rfl (Nat.le_of_ble_eq_true rfl) (fun r => ?_) hz
  unfold f_X1_valueOf
  refine am_J.go 4 rfl ?_
  refine am_J.call (v := fun r1 => .int r1) (h' := fun r1 => hp A I x) rfl (fun r1 hw => (t_X1_landOf A I x a2 hw).mono (Nat.le_of_ble_eq_true rfl)) (fun r1 => ?_)
  refine am_J.go 4 rfl ?_
  refine am_J.ial (xs := (A 33)) rfl (Nat.le_of_ble_eq_true rfl) rfl (fun v2 => ?_)
  refine am_J.call (v := fun r3 => .int r3) (h' := fun r3 => hp A I x) rfl (fun r3 hw => (t_X6_sideOn A I x r1 v2 hw).mono (Nat.le_of_ble_eq_true rfl)) (fun r3 => ?_)
  refine am_J.go 6 rfl ?_
  refine am_J.call (v := fun r4 => .int r4.1) (h' := fun r4 => hp (up (up A 41 r4.2.1) 42 r4.2.2) I x) rfl (fun r4 hw => (t_X1_valueIfHeld A I x a1 a2 a3 r3 hw)) (fun r4 => ?_)
  exact am_J.ret rfl (fun k => k)

def f_X8_readNot (gN gO gE : am_OrX) (A : Nat → List Int32) (I : Nat → Int32) (a1 : Int32) : Option ((List Int32) × Int32 × Int32 × Int32 × Int32) :=
  (if (I 3337) = 8 then
    ((f_X8_mayOpen A I a1).bind fun r10 =>
    (if r10.1 = 0 then
      some ((A 57), r10.2.1, r10.2.2.1, r10.2.2.2, (I 3340))
    else
      ((gN A (up (up (up I 3336 r10.2.1) 3337 r10.2.2.1) 3338 r10.2.2.2) (a1 + 1)).bind fun r11 =>
      ((f_X8_write (up A 57 r11.1) (up (up (up (up I 3336 r11.2.1) 3337 r11.2.2.1) 3338 r11.2.2.2.1) 3340 r11.2.2.2.2) (-7)).bind fun r12 =>
      some (r12.1, r11.2.1, r11.2.2.1, r11.2.2.2.1, r12.2)))))
  else
    ((f_X8_readSum gN gO gE A I a1).bind fun r1 =>
    (if r1.2.2.1 = 60 then
      (((if r1.2.2.1 = 60 then
          some (-11)
        else
          some (-12)) : Option (Int32)).bind (fun j2 =>
      ((f_X8_advance (up A 57 r1.1) (up (up (up (up I 3336 r1.2.1) 3337 r1.2.2.1) 3338 r1.2.2.2.1) 3340 r1.2.2.2.2)).bind fun r3 =>
      ((f_X8_readSum gN gO gE (up A 57 r1.1) (up (up (up (up I 3336 r3.1) 3337 r3.2) 3338 r1.2.2.2.1) 3340 r1.2.2.2.2) a1).bind fun r4 =>
      ((f_X8_write (up A 57 r4.1) (up (up (up (up I 3336 r4.2.1) 3337 r4.2.2.1) 3338 r4.2.2.2.1) 3340 r4.2.2.2.2) j2).bind fun r5 =>
      some (r5.1, r4.2.1, r4.2.2.1, r4.2.2.2.1, r5.2))))))
    else
      (if r1.2.2.1 = 61 then
        (((if r1.2.2.1 = 60 then
            some (-11)
          else
            some (-12)) : Option (Int32)).bind (fun j6 =>
        ((f_X8_advance (up A 57 r1.1) (up (up (up (up I 3336 r1.2.1) 3337 r1.2.2.1) 3338 r1.2.2.2.1) 3340 r1.2.2.2.2)).bind fun r7 =>
        ((f_X8_readSum gN gO gE (up A 57 r1.1) (up (up (up (up I 3336 r7.1) 3337 r7.2) 3338 r1.2.2.2.1) 3340 r1.2.2.2.2) a1).bind fun r8 =>
        ((f_X8_write (up A 57 r8.1) (up (up (up (up I 3336 r8.2.1) 3337 r8.2.2.1) 3338 r8.2.2.2.1) 3340 r8.2.2.2.2) j6).bind fun r9 =>
        some (r9.1, r8.2.1, r8.2.2.1, r8.2.2.2.1, r9.2))))))
      else
        some (r1.1, r1.2.1, r1.2.2.1, r1.2.2.2.1, r1.2.2.2.2)))))
set_option maxRecDepth 100000 in
set_option maxHeartbeats 4000000 in
theorem t_X8_readNot {xs : List Int32} {d : Nat} {gN gO gE : am_OrX} (hN : am_OrXh xs d ix_X8_readNot gN) (hO : am_OrXh xs d ix_X8_readOne gO) (hE : am_OrXh xs d ix_X8_readEither gE) (A : Nat → List Int32) (I : Nat → Int32) (x : am_X) (a1 : Int32) {z : (List Int32) × Int32 × Int32 × Int32 × Int32} (hz : f_X8_readNot gN gO gE A I a1 = some z) : am_Rt (am_ro xs) (d + 6) ix_X8_readNot [.ref 52, .int a1] (hp A I x) (none, hp (up A 57 z.1) (up (up (up (up I 3336 z.2.1) 3337 z.2.2.1) 3338 z.2.2.2.1) 3340 z.2.2.2.2) x) := by
  refine am_Rt.J (k := ix_X8_readNot) (M := mc_X8_readNot) (nL := 3) (d := (d + 5)) (as := [.ref 52, .int a1]) (res := fun z => (none, hp (up A 57 z.1) (up (up (up (up I 3336 z.2.1) 3337 z.2.2.1) 3338 z.2.2.2.1) 3340 z.2.2.2.2) x)) rfl (Nat.le_of_ble_eq_true rfl) (fun r => ?_) hz
  unfold f_X8_readNot
  refine am_J.go 3 rfl ?_
  refine am_J.ne rfl ?_ ?_
  · refine am_J.go 2 rfl ?_
    refine am_J.callz (v := fun r10 => r10.1) (h' := fun r10 => hp A (up (up (up I 3336 r10.2.1) 3337 r10.2.2.1) 3338 r10.2.2.2) x) rfl rfl rfl (fun r10 hw => (t_X8_mayOpen A I x a1 hw).mono (by omega)) (fun r10 hr10 => ?_)
    refine am_J.eq rfl ?_ ?_
    · exact am_J.ret rfl (fun k => k)
    · refine am_J.go 4 rfl ?_
      refine am_J.calln (h' := fun r11 => hp (up A 57 r11.1) (up (up (up (up I 3336 r11.2.1) 3337 r11.2.2.1) 3338 r11.2.2.2.1) 3340 r11.2.2.2.2) x) rfl (fun r11 hw => (hN A (up (up (up I 3336 r10.2.1) 3337 r10.2.2.1) 3338 r10.2.2.2) x (a1 + 1) hw).mono (by omega)) (fun r11 => ?_)
      refine am_J.go 2 rfl ?_
      refine am_J.calln (h' := fun r12 => hp (up A 57 r12.1) (up (up (up (up I 3336 r11.2.1) 3337 r11.2.2.1) 3338 r11.2.2.2.1) 3340 r12.2) x) rfl (fun r12 hw => (t_X8_write (up A 57 r11.1) (up (up (up (up I 3336 r11.2.1) 3337 r11.2.2.1) 3338 r11.2.2.2.1) 3340 r11.2.2.2.2) x (-7) hw).mono (by omega)) (fun r12 => ?_)
      exact am_J.ret rfl (fun k => k)
  · refine am_J.go 2 rfl ?_
    refine am_J.calln (h' := fun r1 => hp (up A 57 r1.1) (up (up (up (up I 3336 r1.2.1) 3337 r1.2.2.1) 3338 r1.2.2.2.1) 3340 r1.2.2.2.2) x) rfl (fun r1 hw => (t_X8_readSum hN hO hE A I x a1 hw).mono (by omega)) (fun r1 => ?_)
    refine am_J.go 3 rfl ?_
    refine am_J.eq rfl ?_ ?_
    · refine am_J.go 3 rfl ?_
      refine am_J.join (β := Int32) (cj := fun j2 => (70, [some (.ref 52), some (.int a1), none], [.int j2], hp (up A 57 r1.1) (up (up (up (up I 3336 r1.2.1) 3337 r1.2.2.1) 3338 r1.2.2.2.1) 3340 r1.2.2.2.2) x)) ?_ ?_
      · refine am_J.ne rfl ?_ ?_
        · refine am_J.go (cf' := (70, [some (.ref 52), some (.int a1), none], [.int (-11)], hp (up A 57 r1.1) (up (up (up (up I 3336 r1.2.1) 3337 r1.2.2.1) 3338 r1.2.2.2.1) 3340 r1.2.2.2.2) x)) 2 rfl ?_
          exact am_J.leaf (fun k => am_Ev.weak (L' := [some (.ref 52), some (.int a1), none]) (am_Lle.k (am_Lle.k (am_Lle.o am_Lle.nil))) k)
        · refine am_J.go (cf' := (70, [some (.ref 52), some (.int a1), none], [.int (-12)], hp (up A 57 r1.1) (up (up (up (up I 3336 r1.2.1) 3337 r1.2.2.1) 3338 r1.2.2.2.1) 3340 r1.2.2.2.2) x)) 1 rfl ?_
          exact am_J.leaf (fun k => am_Ev.weak (L' := [some (.ref 52), some (.int a1), none]) (am_Lle.k (am_Lle.k (am_Lle.o am_Lle.nil))) k)
      · rintro j2
        refine am_J.go 2 rfl ?_
        refine am_J.calln (h' := fun r3 => hp (up A 57 r1.1) (up (up (up (up I 3336 r3.1) 3337 r3.2) 3338 r1.2.2.2.1) 3340 r1.2.2.2.2) x) rfl (fun r3 hw => (t_X8_advance (up A 57 r1.1) (up (up (up (up I 3336 r1.2.1) 3337 r1.2.2.1) 3338 r1.2.2.2.1) 3340 r1.2.2.2.2) x hw).mono (by omega)) (fun r3 => ?_)
        refine am_J.go 2 rfl ?_
        refine am_J.calln (h' := fun r4 => hp (up A 57 r4.1) (up (up (up (up I 3336 r4.2.1) 3337 r4.2.2.1) 3338 r4.2.2.2.1) 3340 r4.2.2.2.2) x) rfl (fun r4 hw => (t_X8_readSum hN hO hE (up A 57 r1.1) (up (up (up (up I 3336 r3.1) 3337 r3.2) 3338 r1.2.2.2.1) 3340 r1.2.2.2.2) x a1 hw).mono (by omega)) (fun r4 => ?_)
        refine am_J.go 2 rfl ?_
        refine am_J.calln (h' := fun r5 => hp (up A 57 r5.1) (up (up (up (up I 3336 r4.2.1) 3337 r4.2.2.1) 3338 r4.2.2.2.1) 3340 r5.2) x) rfl (fun r5 hw => (t_X8_write (up A 57 r4.1) (up (up (up (up I 3336 r4.2.1) 3337 r4.2.2.1) 3338 r4.2.2.2.1) 3340 r4.2.2.2.2) x j2 hw).mono (by omega)) (fun r5 => ?_)
        exact am_J.ret rfl (fun k => k)
    · refine am_J.go 3 rfl ?_
      refine am_J.ne rfl ?_ ?_
      · refine am_J.go 3 rfl ?_
        refine am_J.join (β := Int32) (cj := fun j6 => (70, [some (.ref 52), some (.int a1), none], [.int j6], hp (up A 57 r1.1) (up (up (up (up I 3336 r1.2.1) 3337 r1.2.2.1) 3338 r1.2.2.2.1) 3340 r1.2.2.2.2) x)) ?_ ?_
        · refine am_J.ne rfl ?_ ?_
          · refine am_J.go (cf' := (70, [some (.ref 52), some (.int a1), none], [.int (-11)], hp (up A 57 r1.1) (up (up (up (up I 3336 r1.2.1) 3337 r1.2.2.1) 3338 r1.2.2.2.1) 3340 r1.2.2.2.2) x)) 2 rfl ?_
            exact am_J.leaf (fun k => am_Ev.weak (L' := [some (.ref 52), some (.int a1), none]) (am_Lle.k (am_Lle.k (am_Lle.o am_Lle.nil))) k)
          · refine am_J.go (cf' := (70, [some (.ref 52), some (.int a1), none], [.int (-12)], hp (up A 57 r1.1) (up (up (up (up I 3336 r1.2.1) 3337 r1.2.2.1) 3338 r1.2.2.2.1) 3340 r1.2.2.2.2) x)) 1 rfl ?_
            exact am_J.leaf (fun k => am_Ev.weak (L' := [some (.ref 52), some (.int a1), none]) (am_Lle.k (am_Lle.k (am_Lle.o am_Lle.nil))) k)
        · rintro j6
          refine am_J.go 2 rfl ?_
          refine am_J.calln (h' := fun r7 => hp (up A 57 r1.1) (up (up (up (up I 3336 r7.1) 3337 r7.2) 3338 r1.2.2.2.1) 3340 r1.2.2.2.2) x) rfl (fun r7 hw => (t_X8_advance (up A 57 r1.1) (up (up (up (up I 3336 r1.2.1) 3337 r1.2.2.1) 3338 r1.2.2.2.1) 3340 r1.2.2.2.2) x hw).mono (by omega)) (fun r7 => ?_)
          refine am_J.go 2 rfl ?_
          refine am_J.calln (h' := fun r8 => hp (up A 57 r8.1) (up (up (up (up I 3336 r8.2.1) 3337 r8.2.2.1) 3338 r8.2.2.2.1) 3340 r8.2.2.2.2) x) rfl (fun r8 hw => (t_X8_readSum hN hO hE (up A 57 r1.1) (up (up (up (up I 3336 r7.1) 3337 r7.2) 3338 r1.2.2.2.1) 3340 r1.2.2.2.2) x a1 hw).mono (by omega)) (fun r8 => ?_)
          refine am_J.go 2 rfl ?_
          refine am_J.calln (h' := fun r9 => hp (up A 57 r9.1) (up (up (up (up I 3336 r8.2.1) 3337 r8.2.2.1) 3338 r8.2.2.2.1) 3340 r9.2) x) rfl (fun r9 hw => (t_X8_write (up A 57 r8.1) (up (up (up (up I 3336 r8.2.1) 3337 r8.2.2.1) 3338 r8.2.2.2.1) 3340 r8.2.2.2.2) x j6 hw).mono (by omega)) (fun r9 => ?_)
          exact am_J.ret rfl (fun k => k)
      · exact am_J.ret rfl (fun k => k)

def f_J7_fill_53178_78_l1 (A : Nat → List Int32) (I : Nat → Int32) (a2 : Int32) (p3 : Int32) : (Int32 × (List Int32)) → Option ((Int32 × (List Int32)) ⊕ ((List Int32))) := fun q => match q with
    | (s1, s2) =>
    (if p3 ≤ s1 then
      some (.inr s2)
    else
      ((am_up s2 s1 a2).bind fun y4 =>
      some (.inl ((s1 + 1), y4))))
def f_J7_fill_53178_78 (A : Nat → List Int32) (I : Nat → Int32) (a2 : Int32) : Option ((List Int32)) :=
  ((wl (f_J7_fill_53178_78_l1 A I a2 (Int32.ofNat (A 78).length)) 100000 (0, (A 78))).bind (fun e5 =>
  some e5))
set_option maxRecDepth 100000 in
set_option maxHeartbeats 4000000 in
theorem t_J7_fill_53178_78 {xs : List Int32} (A : Nat → List Int32) (I : Nat → Int32) (x : am_X) (a2 : Int32) {z : (List Int32)} (hz : f_J7_fill_53178_78 A I a2 = some z) : am_Rt (am_ro xs) 1 ix_J7_fill_53178 [.ref 78, .int a2] (hp A I x) (none, hp (up A 78 z) I x) := by
  refine am_Rt.J (k := ix_J7_fill_53178) (M := mc_J7_fill_53178) (nL := 4) (d := 0) (as := [.ref 78, .int a2]) (res := fun z => (none, hp (up A 78 z) I x)) rfl (Nat.le_of_ble_eq_true rfl) (fun r => ?_) hz
  unfold f_J7_fill_53178_78
  refine am_J.go (cf' := (5, [some (.ref 78), some (.int a2), some (.int 0), some (.int (Int32.ofNat (A 78).length))], [], hp A I x)) 5 rfl ?_
  refine am_J.weak (L' := [some (.ref 78), some (.int a2), some (.int 0), some (.int (Int32.ofNat (A 78).length))]) (am_Lle.k (am_Lle.k (am_Lle.k (am_Lle.k am_Lle.nil)))) ?_
  refine am_J.loop (cl := fun q => match q with | (s1, s2) => (5, [some (.ref 78), some (.int a2), some (.int s1), some (.int (Int32.ofNat (A 78).length))], [], hp (up A 78 s2) I x)) (GX := fun e5 => am_Ev (am_ro xs) 0 mc_J7_fill_53178 (20, [none, none, none, none], [], hp (up A 78 e5) I x) r) ?_ ?_
  · rintro ⟨s1, s2⟩
    unfold f_J7_fill_53178_78_l1
    refine am_J.go 2 rfl ?_
    refine am_J.ge rfl ?_ ?_
    · refine am_J.go (cf' := (20, [some (.ref 78), some (.int a2), some (.int s1), some (.int (Int32.ofNat (A 78).length))], [], hp (up A 78 s2) I x)) 0 rfl ?_
      exact am_J.leaf (fun k => am_Ev.weak (L' := [none, none, none, none]) (am_Lle.o (am_Lle.o (am_Lle.o (am_Lle.o am_Lle.nil)))) k)
    · refine am_J.go 3 rfl ?_
      refine am_J.ias (xs := s2) (h' := fun y4 => hp (up A 78 y4) I x) rfl rfl (fun _ => rfl) (fun y4 => ?_)
      refine am_J.go (cf' := (5, [some (.ref 78), some (.int a2), some (.int (s1 + 1)), some (.int (Int32.ofNat (A 78).length))], [], hp (up A 78 y4) I x)) 2 rfl ?_
      exact am_J.leaf (fun k => am_Ev.weak (L' := [some (.ref 78), some (.int a2), some (.int (s1 + 1)), some (.int (Int32.ofNat (A 78).length))]) (am_Lle.k (am_Lle.k (am_Lle.k (am_Lle.k am_Lle.nil)))) k)
  · rintro e5
    refine (?_ : am_J (am_ro xs) 0 mc_J7_fill_53178 r (20, [none, none, none, none], [], hp (up A 78 e5) I x) _ _)
    exact am_J.ret rfl (fun k => k)

def f_X10_become_77 (A : Nat → List Int32) (I : Nat → Int32) (a1 : Int32) (a2 : Int32) : Option ((List Int32) × Int32 × Int32) :=
  ((f_J7_fill_53178_78 A (up (up I 4928 a1) 4929 a2) 0).bind fun r1 =>
  some (r1, a1, a2))
set_option maxRecDepth 100000 in
set_option maxHeartbeats 4000000 in
theorem t_X10_become_77 {xs : List Int32} (A : Nat → List Int32) (I : Nat → Int32) (x : am_X) (a1 : Int32) (a2 : Int32) {z : (List Int32) × Int32 × Int32} (hz : f_X10_become_77 A I a1 a2 = some z) : am_Rt (am_ro xs) 2 ix_X10_become [.ref 77, .int a1, .int a2] (hp A I x) (none, hp (up A 78 z.1) (up (up I 4928 z.2.1) 4929 z.2.2) x) := by
  refine am_Rt.J (k := ix_X10_become) (M := mc_X10_become) (nL := 3) (d := 1) (as := [.ref 77, .int a1, .int a2]) (res := fun z => (none, hp (up A 78 z.1) (up (up I 4928 z.2.1) 4929 z.2.2) x)) rfl (Nat.le_of_ble_eq_true rfl) (fun r => ?_) hz
  unfold f_X10_become_77
  refine am_J.go 9 rfl ?_
  refine am_J.calln (h' := fun r1 => hp (up A 78 r1) (up (up I 4928 a1) 4929 a2) x) rfl (fun r1 hw => (t_J7_fill_53178_78 A (up (up I 4928 a1) 4929 a2) x 0 hw)) (fun r1 => ?_)
  exact am_J.ret rfl (fun k => k)

def f_X8_spells_s1_l1 (A : Nat → List Int32) (I : Nat → Int32) (a1 : Int32) : (Int32) → Option ((Int32) ⊕ ((Unit) ⊕ (Int32))) := fun s1 =>
    (if 3 ≤ s1 then
      some (.inr (.inl ()))
    else
      ((am_at (A 53) (a1 + s1)).bind fun v2 =>
      ((am_at (am_str 1) s1).bind fun v3 =>
      (if v2 = v3 then
        some (.inl (s1 + 1))
      else
        some (.inr (.inr 0))))))
def f_X8_spells_s1 (A : Nat → List Int32) (I : Nat → Int32) (a1 : Int32) : Option (Int32) :=
  (if ((I 3332) - a1) = 3 then
    ((wl (f_X8_spells_s1_l1 A I a1) 100000 0).bind (fun q => match q with
    | .inl _ =>
    some 1
    | .inr v => some v))
  else
    some 0)
set_option maxRecDepth 100000 in
set_option maxHeartbeats 4000000 in
theorem t_X8_spells_s1 {xs : List Int32} (A : Nat → List Int32) (I : Nat → Int32) (x : am_X) (a1 : Int32) {z : Int32} (hz : f_X8_spells_s1 A I a1 = some z) : am_Rt (am_ro xs) 1 ix_X8_spells [.ref 52, .int a1, .ref (am_RO + 16 + 1)] (hp A I x) (some (.int z), hp A I x) := by
  refine am_Rt.J (k := ix_X8_spells) (M := mc_X8_spells) (nL := 4) (d := 0) (as := [.ref 52, .int a1, .ref (am_RO + 16 + 1)]) (res := fun z => (some (.int z), hp A I x)) rfl (Nat.le_of_ble_eq_true rfl) (fun r => ?_) hz
  unfold f_X8_spells_s1
  refine am_J.go 6 rfl ?_
  refine am_J.eq rfl ?_ ?_
  · refine am_J.go (cf' := (17, [some (.ref 52), some (.int a1), some (.ref (am_RO + 16 + 1)), some (.int 0)], [], hp A I x)) 2 rfl ?_
    refine am_J.weak (L' := [some (.ref 52), some (.int a1), some (.ref (am_RO + 16 + 1)), some (.int 0)]) (am_Lle.k (am_Lle.k (am_Lle.k (am_Lle.k am_Lle.nil)))) ?_
    refine am_J.loop (cl := fun s1 => (17, [some (.ref 52), some (.int a1), some (.ref (am_RO + 16 + 1)), some (.int s1)], [], hp A I x)) (GX := fun q => Sum.elim (fun _ => am_Ev (am_ro xs) 0 mc_X8_spells (49, [none, none, none, none], [], hp A I x) r) (fun (z : Int32) => r = (some (.int z), hp A I x)) q) ?_ ?_
    · rintro s1
      unfold f_X8_spells_s1_l1
      refine am_J.go 3 rfl ?_
      refine am_J.ge rfl ?_ ?_
      · refine am_J.go (cf' := (49, [some (.ref 52), some (.int a1), some (.ref (am_RO + 16 + 1)), some (.int s1)], [], hp A I x)) 0 rfl ?_
        exact am_J.leaf (fun k => am_Ev.weak (L' := [none, none, none, none]) (am_Lle.o (am_Lle.o (am_Lle.o (am_Lle.o am_Lle.nil)))) k)
      · refine am_J.go 5 rfl ?_
        refine am_J.bal (xs := (A 53)) (t := 1) rfl (by decide) rfl (fun v2 => ?_)
        refine am_J.go 2 rfl ?_
        refine am_J.sat (j := 1) rfl (Nat.le_of_ble_eq_true rfl) (by decide) (fun v3 => ?_)
        refine am_J.eq rfl ?_ ?_
        · refine am_J.go (cf' := (17, [some (.ref 52), some (.int a1), some (.ref (am_RO + 16 + 1)), some (.int (s1 + 1))], [], hp A I x)) 2 rfl ?_
          exact am_J.leaf (fun k => am_Ev.weak (L' := [some (.ref 52), some (.int a1), some (.ref (am_RO + 16 + 1)), some (.int (s1 + 1))]) (am_Lle.k (am_Lle.k (am_Lle.k (am_Lle.k am_Lle.nil)))) k)
        · refine am_J.go 1 rfl ?_
          exact am_J.retz rfl (Or.inl rfl) (fun k => k)
    · intro q
      rcases q with ⟨⟩ | v
      · refine (?_ : am_J (am_ro xs) 0 mc_X8_spells r (49, [none, none, none, none], [], hp A I x) _ _)
        refine am_J.go 1 rfl ?_
        exact am_J.retz rfl (Or.inr rfl) (fun k => k)
      · intro z hz hk
        cases hz
        exact hk
  · refine am_J.go 1 rfl ?_
    exact am_J.retz rfl (Or.inl rfl) (fun k => k)

def f_X8_spells_s7_l1 (A : Nat → List Int32) (I : Nat → Int32) (a1 : Int32) : (Int32) → Option ((Int32) ⊕ ((Unit) ⊕ (Int32))) := fun s1 =>
    (if 5 ≤ s1 then
      some (.inr (.inl ()))
    else
      ((am_at (A 53) (a1 + s1)).bind fun v2 =>
      ((am_at (am_str 7) s1).bind fun v3 =>
      (if v2 = v3 then
        some (.inl (s1 + 1))
      else
        some (.inr (.inr 0))))))
def f_X8_spells_s7 (A : Nat → List Int32) (I : Nat → Int32) (a1 : Int32) : Option (Int32) :=
  (if ((I 3332) - a1) = 5 then
    ((wl (f_X8_spells_s7_l1 A I a1) 100000 0).bind (fun q => match q with
    | .inl _ =>
    some 1
    | .inr v => some v))
  else
    some 0)
set_option maxRecDepth 100000 in
set_option maxHeartbeats 4000000 in
theorem t_X8_spells_s7 {xs : List Int32} (A : Nat → List Int32) (I : Nat → Int32) (x : am_X) (a1 : Int32) {z : Int32} (hz : f_X8_spells_s7 A I a1 = some z) : am_Rt (am_ro xs) 1 ix_X8_spells [.ref 52, .int a1, .ref (am_RO + 16 + 7)] (hp A I x) (some (.int z), hp A I x) := by
  refine am_Rt.J (k := ix_X8_spells) (M := mc_X8_spells) (nL := 4) (d := 0) (as := [.ref 52, .int a1, .ref (am_RO + 16 + 7)]) (res := fun z => (some (.int z), hp A I x)) rfl (Nat.le_of_ble_eq_true rfl) (fun r => ?_) hz
  unfold f_X8_spells_s7
  refine am_J.go 6 rfl ?_
  refine am_J.eq rfl ?_ ?_
  · refine am_J.go (cf' := (17, [some (.ref 52), some (.int a1), some (.ref (am_RO + 16 + 7)), some (.int 0)], [], hp A I x)) 2 rfl ?_
    refine am_J.weak (L' := [some (.ref 52), some (.int a1), some (.ref (am_RO + 16 + 7)), some (.int 0)]) (am_Lle.k (am_Lle.k (am_Lle.k (am_Lle.k am_Lle.nil)))) ?_
    refine am_J.loop (cl := fun s1 => (17, [some (.ref 52), some (.int a1), some (.ref (am_RO + 16 + 7)), some (.int s1)], [], hp A I x)) (GX := fun q => Sum.elim (fun _ => am_Ev (am_ro xs) 0 mc_X8_spells (49, [none, none, none, none], [], hp A I x) r) (fun (z : Int32) => r = (some (.int z), hp A I x)) q) ?_ ?_
    · rintro s1
      unfold f_X8_spells_s7_l1
      refine am_J.go 3 rfl ?_
      refine am_J.ge rfl ?_ ?_
      · refine am_J.go (cf' := (49, [some (.ref 52), some (.int a1), some (.ref (am_RO + 16 + 7)), some (.int s1)], [], hp A I x)) 0 rfl ?_
        exact am_J.leaf (fun k => am_Ev.weak (L' := [none, none, none, none]) (am_Lle.o (am_Lle.o (am_Lle.o (am_Lle.o am_Lle.nil)))) k)
      · refine am_J.go 5 rfl ?_
        refine am_J.bal (xs := (A 53)) (t := 1) rfl (by decide) rfl (fun v2 => ?_)
        refine am_J.go 2 rfl ?_
        refine am_J.sat (j := 7) rfl (Nat.le_of_ble_eq_true rfl) (by decide) (fun v3 => ?_)
        refine am_J.eq rfl ?_ ?_
        · refine am_J.go (cf' := (17, [some (.ref 52), some (.int a1), some (.ref (am_RO + 16 + 7)), some (.int (s1 + 1))], [], hp A I x)) 2 rfl ?_
          exact am_J.leaf (fun k => am_Ev.weak (L' := [some (.ref 52), some (.int a1), some (.ref (am_RO + 16 + 7)), some (.int (s1 + 1))]) (am_Lle.k (am_Lle.k (am_Lle.k (am_Lle.k am_Lle.nil)))) k)
        · refine am_J.go 1 rfl ?_
          exact am_J.retz rfl (Or.inl rfl) (fun k => k)
    · intro q
      rcases q with ⟨⟩ | v
      · refine (?_ : am_J (am_ro xs) 0 mc_X8_spells r (49, [none, none, none, none], [], hp A I x) _ _)
        refine am_J.go 1 rfl ?_
        exact am_J.retz rfl (Or.inr rfl) (fun k => k)
      · intro z hz hk
        cases hz
        exact hk
  · refine am_J.go 1 rfl ?_
    exact am_J.retz rfl (Or.inl rfl) (fun k => k)

def f_X11_says (A : Nat → List Int32) (I : Nat → Int32) (x : am_X) (a1 : Int32) (a2 : Int32) (a3 : Int32) : Option (Int64 × (List Int32) × (List Int32)) :=
  ((f_X11_isSide a1).bind fun r1 =>
  (if r1 = 0 then
    some ((-4611686018427387904), (A 41), (A 42))
  else
    ((f_X11_isAct A I a2).bind fun r2 =>
    (if r2 = 0 then
      some ((-4611686018427387904), (A 41), (A 42))
    else
      ((f_X11_isWithin a3 0 1).bind fun r3 =>
      (if r3 = 0 then
        some ((-4611686018427387904), (A 41), (A 42))
      else
        ((f_X1_valueOf A I x a1 a2 a3).bind fun r4 =>
        some ((Int32.toInt64 r4.1), r4.2.1, r4.2.2))))))))
set_option maxRecDepth 100000 in
set_option maxHeartbeats 4000000 in
theorem t_X11_says {xs : List Int32} (A : Nat → List Int32) (I : Nat → Int32) (x : am_X) (a1 : Int32) (a2 : Int32) (a3 : Int32) {z : Int64 × (List Int32) × (List Int32)} (hz : f_X11_says A I x a1 a2 a3 = some z) : am_Rt (am_ro xs) 5 ix_X11_says [.ref 0, .int a1, .int a2, .int a3] (hp A I x) (some (.long z.1), hp (up (up A 41 z.2.1) 42 z.2.2) I x) := by
  refine am_Rt.J (k := ix_X11_says) (M := mc_X11_says) (nL := 4) (d := 4) (as := [.ref 0, .int a1, .int a2, .int a3]) (res := fun z => (some (.long z.1), hp (up (up A 41 z.2.1) 42 z.2.2) I x)) rfl (Nat.le_of_ble_eq_true rfl) (fun r => ?_) hz
  unfold f_X11_says
  refine am_J.go 1 rfl ?_
  refine am_J.callz (v := fun r1 => r1) (h' := fun r1 => hp A I x) rfl rfl rfl (fun r1 hw => (t_X11_isSide (h := hp A I x) a1 hw).mono (Nat.le_of_ble_eq_true rfl)) (fun r1 hr1 => ?_)
  refine am_J.eq rfl ?_ ?_
  · refine am_J.go 1 rfl ?_
    exact am_J.ret rfl (fun k => k)
  · refine am_J.go 2 rfl ?_
    refine am_J.callz (v := fun r2 => r2) (h' := fun r2 => hp A I x) rfl rfl rfl (fun r2 hw => (t_X11_isAct A I x a2 hw).mono (Nat.le_of_ble_eq_true rfl)) (fun r2 hr2 => ?_)
    refine am_J.eq rfl ?_ ?_
    · refine am_J.go 1 rfl ?_
      exact am_J.ret rfl (fun k => k)
    · refine am_J.go 3 rfl ?_
      refine am_J.callz (v := fun r3 => r3) (h' := fun r3 => hp A I x) rfl rfl rfl (fun r3 hw => (t_X11_isWithin (h := hp A I x) a3 0 1 hw).mono (Nat.le_of_ble_eq_true rfl)) (fun r3 hr3 => ?_)
      refine am_J.ne rfl ?_ ?_
      · refine am_J.go 1 rfl ?_
        exact am_J.ret rfl (fun k => k)
      · refine am_J.go 5 rfl ?_
        refine am_J.call (v := fun r4 => .int r4.1) (h' := fun r4 => hp (up (up A 41 r4.2.1) 42 r4.2.2) I x) rfl (fun r4 hw => (t_X1_valueOf A I x a1 a2 a3 hw)) (fun r4 => ?_)
        refine am_J.go 1 rfl ?_
        exact am_J.ret rfl (fun k => k)

def f_X1_tellsApart_l1 (A : Nat → List Int32) (I : Nat → Int32) (x : am_X) (a1 : Int32) (a2 : Int32) (a3 : Int32) : (Int32 × (List Int32) × (List Int32)) → Option ((Int32 × (List Int32) × (List Int32)) ⊕ (((List Int32) × (List Int32)) ⊕ (Int32 × (List Int32) × (List Int32)))) := fun q => match q with
    | (s1, s2, s3) =>
    (if 2 ≤ s1 then
      some (.inr (.inl (s2, s3)))
    else
      ((f_X1_valueIfHeld (up (up A 41 s2) 42 s3) I x s1 a1 0 a2).bind fun r4 =>
      (((if r4.1 = 0 then
          some 0
        else
          some 1) : Option (Int32)).bind (fun j5 =>
      ((f_X1_valueIfHeld (up (up A 41 r4.2.1) 42 r4.2.2) I x s1 a1 0 a3).bind fun r6 =>
      (((if r6.1 = 0 then
          some 0
        else
          some 1) : Option (Int32)).bind (fun j7 =>
      (if j5 = j7 then
        some (.inl ((s1 + 1), r6.2.1, r6.2.2))
      else
        some (.inr (.inr (1, r6.2.1, r6.2.2)))))))))))
def f_X1_tellsApart (A : Nat → List Int32) (I : Nat → Int32) (x : am_X) (a1 : Int32) (a2 : Int32) (a3 : Int32) : Option (Int32 × (List Int32) × (List Int32)) :=
  ((wl (f_X1_tellsApart_l1 A I x a1 a2 a3) 100000 (0, (A 41), (A 42))).bind (fun q => match q with
  | .inl (e8, e9) =>
  some (0, e8, e9)
  | .inr v => some v))
set_option maxRecDepth 100000 in
set_option maxHeartbeats 4000000 in
theorem t_X1_tellsApart {xs : List Int32} (A : Nat → List Int32) (I : Nat → Int32) (x : am_X) (a1 : Int32) (a2 : Int32) (a3 : Int32) {z : Int32 × (List Int32) × (List Int32)} (hz : f_X1_tellsApart A I x a1 a2 a3 = some z) : am_Rt (am_ro xs) 4 ix_X1_tellsApart [.ref 37, .int a1, .int a2, .int a3] (hp A I x) (some (.int z.1), hp (up (up A 41 z.2.1) 42 z.2.2) I x) := by
  refine am_Rt.J (k := ix_X1_tellsApart) (M := mc_X1_tellsApart) (nL := 7) (d := 3) (as := [.ref 37, .int a1, .int a2, .int a3]) (res := fun z => (some (.int z.1), hp (up (up A 41 z.2.1) 42 z.2.2) I x)) rfl (Nat.le_of_ble_eq_true rfl) (fun r => ?_) hz
  unfold f_X1_tellsApart
  refine am_J.go (cf' := (3, [some (.ref 37), some (.int a1), some (.int a2), some (.int a3), some (.int 0), none, none], [], hp A I x)) 2 rfl ?_
  refine am_J.weak (L' := [some (.ref 37), some (.int a1), some (.int a2), some (.int a3), some (.int 0), none, none]) (am_Lle.k (am_Lle.k (am_Lle.k (am_Lle.k (am_Lle.k (am_Lle.o (am_Lle.o am_Lle.nil))))))) ?_
  refine am_J.loop (cl := fun q => match q with | (s1, s2, s3) => (3, [some (.ref 37), some (.int a1), some (.int a2), some (.int a3), some (.int s1), none, none], [], hp (up (up A 41 s2) 42 s3) I x)) (GX := fun q => Sum.elim (fun q => match q with | (e8, e9) => am_Ev (am_ro xs) 3 mc_X1_tellsApart (62, [none, none, none, none, none, none, none], [], hp (up (up A 41 e8) 42 e9) I x) r) (fun (z : Int32 × (List Int32) × (List Int32)) => r = (some (.int z.1), hp (up (up A 41 z.2.1) 42 z.2.2) I x)) q) ?_ ?_
  · rintro ⟨s1, s2, s3⟩
    unfold f_X1_tellsApart_l1
    refine am_J.go 2 rfl ?_
    refine am_J.ge rfl ?_ ?_
    · refine am_J.go (cf' := (62, [some (.ref 37), some (.int a1), some (.int a2), some (.int a3), some (.int s1), none, none], [], hp (up (up A 41 s2) 42 s3) I x)) 0 rfl ?_
      exact am_J.leaf (fun k => am_Ev.weak (L' := [none, none, none, none, none, none, none]) (am_Lle.o (am_Lle.o (am_Lle.o (am_Lle.o (am_Lle.o (am_Lle.o (am_Lle.o am_Lle.nil))))))) k)
    · refine am_J.go 5 rfl ?_
      refine am_J.call (v := fun r4 => .int r4.1) (h' := fun r4 => hp (up (up A 41 r4.2.1) 42 r4.2.2) I x) rfl (fun r4 hw => (t_X1_valueIfHeld (up (up A 41 s2) 42 s3) I x s1 a1 0 a2 hw)) (fun r4 => ?_)
      refine am_J.join (β := Int32) (cj := fun j5 => (26, [some (.ref 37), some (.int a1), some (.int a2), some (.int a3), some (.int s1), none, none], [.int j5], hp (up (up A 41 r4.2.1) 42 r4.2.2) I x)) ?_ ?_
      · refine am_J.eq rfl ?_ ?_
        · refine am_J.go (cf' := (26, [some (.ref 37), some (.int a1), some (.int a2), some (.int a3), some (.int s1), none, none], [.int 0], hp (up (up A 41 r4.2.1) 42 r4.2.2) I x)) 1 rfl ?_
          exact am_J.leaf (fun k => am_Ev.weak (L' := [some (.ref 37), some (.int a1), some (.int a2), some (.int a3), some (.int s1), none, none]) (am_Lle.k (am_Lle.k (am_Lle.k (am_Lle.k (am_Lle.k (am_Lle.o (am_Lle.o am_Lle.nil))))))) k)
        · refine am_J.go (cf' := (26, [some (.ref 37), some (.int a1), some (.int a2), some (.int a3), some (.int s1), none, none], [.int 1], hp (up (up A 41 r4.2.1) 42 r4.2.2) I x)) 2 rfl ?_
          exact am_J.leaf (fun k => am_Ev.weak (L' := [some (.ref 37), some (.int a1), some (.int a2), some (.int a3), some (.int s1), none, none]) (am_Lle.k (am_Lle.k (am_Lle.k (am_Lle.k (am_Lle.k (am_Lle.o (am_Lle.o am_Lle.nil))))))) k)
      · rintro j5
        refine am_J.go 6 rfl ?_
        refine am_J.call (v := fun r6 => .int r6.1) (h' := fun r6 => hp (up (up A 41 r6.2.1) 42 r6.2.2) I x) rfl (fun r6 hw => (t_X1_valueIfHeld (up (up A 41 r4.2.1) 42 r4.2.2) I x s1 a1 0 a3 hw)) (fun r6 => ?_)
        refine am_J.join (β := Int32) (cj := fun j7 => (45, [some (.ref 37), some (.int a1), some (.int a2), some (.int a3), some (.int s1), some (.int j5), none], [.int j7], hp (up (up A 41 r6.2.1) 42 r6.2.2) I x)) ?_ ?_
        · refine am_J.eq rfl ?_ ?_
          · refine am_J.go (cf' := (45, [some (.ref 37), some (.int a1), some (.int a2), some (.int a3), some (.int s1), some (.int j5), none], [.int 0], hp (up (up A 41 r6.2.1) 42 r6.2.2) I x)) 1 rfl ?_
            exact am_J.leaf (fun k => am_Ev.weak (L' := [some (.ref 37), some (.int a1), some (.int a2), some (.int a3), some (.int s1), some (.int j5), none]) (am_Lle.k (am_Lle.k (am_Lle.k (am_Lle.k (am_Lle.k (am_Lle.k (am_Lle.o am_Lle.nil))))))) k)
          · refine am_J.go (cf' := (45, [some (.ref 37), some (.int a1), some (.int a2), some (.int a3), some (.int s1), some (.int j5), none], [.int 1], hp (up (up A 41 r6.2.1) 42 r6.2.2) I x)) 2 rfl ?_
            exact am_J.leaf (fun k => am_Ev.weak (L' := [some (.ref 37), some (.int a1), some (.int a2), some (.int a3), some (.int s1), some (.int j5), none]) (am_Lle.k (am_Lle.k (am_Lle.k (am_Lle.k (am_Lle.k (am_Lle.k (am_Lle.o am_Lle.nil))))))) k)
        · rintro j7
          refine am_J.go 3 rfl ?_
          refine am_J.eq rfl ?_ ?_
          · refine am_J.go (cf' := (3, [some (.ref 37), some (.int a1), some (.int a2), some (.int a3), some (.int (s1 + 1)), some (.int j5), some (.int j7)], [], hp (up (up A 41 r6.2.1) 42 r6.2.2) I x)) 2 rfl ?_
            exact am_J.leaf (fun k => am_Ev.weak (L' := [some (.ref 37), some (.int a1), some (.int a2), some (.int a3), some (.int (s1 + 1)), none, none]) (am_Lle.k (am_Lle.k (am_Lle.k (am_Lle.k (am_Lle.k (am_Lle.o (am_Lle.o am_Lle.nil))))))) k)
          · refine am_J.go 1 rfl ?_
            exact am_J.retz rfl (Or.inr rfl) (fun k => k)
  · intro q
    rcases q with ⟨e8, e9⟩ | v
    · refine (?_ : am_J (am_ro xs) 3 mc_X1_tellsApart r (62, [none, none, none, none, none, none, none], [], hp (up (up A 41 e8) 42 e9) I x) _ _)
      refine am_J.go 1 rfl ?_
      exact am_J.retz rfl (Or.inl rfl) (fun k => k)
    · intro z hz hk
      cases hz
      exact hk

def f_X1_trueUnder_l1 (A : Nat → List Int32) (I : Nat → Int32) (x : am_X) (a1 : Int32) (a2 : Int32) : (Int32 × Int32 × (List Int32) × (List Int32)) → Option ((Int32 × Int32 × (List Int32) × (List Int32)) ⊕ (Int32 × (List Int32) × (List Int32))) := fun q => match q with
    | (s1, s2, s3, s4) =>
    (if (I 1863) ≤ s2 then
      some (.inr (s1, s3, s4))
    else
      ((f_X1_valueOf (up (up A 41 s3) 42 s4) I x a1 s2 a2).bind fun r5 =>
      (((if r5.1 = 0 then
          some 0
        else
          some (1 <<< (s2 &&& 31))) : Option (Int32)).bind (fun j6 =>
      some (.inl ((s1 ||| j6), (s2 + 1), r5.2.1, r5.2.2))))))
def f_X1_trueUnder (A : Nat → List Int32) (I : Nat → Int32) (x : am_X) (a1 : Int32) (a2 : Int32) : Option (Int32 × (List Int32) × (List Int32)) :=
  ((wl (f_X1_trueUnder_l1 A I x a1 a2) 100000 (0, 0, (A 41), (A 42))).bind (fun q => match q with
  | (e7, e8, e9) =>
  some (e7, e8, e9)))
set_option maxRecDepth 100000 in
set_option maxHeartbeats 4000000 in
theorem t_X1_trueUnder {xs : List Int32} (A : Nat → List Int32) (I : Nat → Int32) (x : am_X) (a1 : Int32) (a2 : Int32) {z : Int32 × (List Int32) × (List Int32)} (hz : f_X1_trueUnder A I x a1 a2 = some z) : am_Rt (am_ro xs) 5 ix_X1_trueUnder [.ref 37, .int a1, .int a2] (hp A I x) (some (.int z.1), hp (up (up A 41 z.2.1) 42 z.2.2) I x) := by
  refine am_Rt.J (k := ix_X1_trueUnder) (M := mc_X1_trueUnder) (nL := 5) (d := 4) (as := [.ref 37, .int a1, .int a2]) (res := fun z => (some (.int z.1), hp (up (up A 41 z.2.1) 42 z.2.2) I x)) rfl (Nat.le_of_ble_eq_true rfl) (fun r => ?_) hz
  unfold f_X1_trueUnder
  refine am_J.go (cf' := (5, [some (.ref 37), some (.int a1), some (.int a2), some (.int 0), some (.int 0)], [], hp A I x)) 4 rfl ?_
  refine am_J.weak (L' := [some (.ref 37), some (.int a1), some (.int a2), some (.int 0), some (.int 0)]) (am_Lle.k (am_Lle.k (am_Lle.k (am_Lle.k (am_Lle.k am_Lle.nil))))) ?_
  refine am_J.loop (cl := fun q => match q with | (s1, s2, s3, s4) => (5, [some (.ref 37), some (.int a1), some (.int a2), some (.int s1), some (.int s2)], [], hp (up (up A 41 s3) 42 s4) I x)) (GX := fun q => match q with | (e7, e8, e9) => am_Ev (am_ro xs) 4 mc_X1_trueUnder (45, [none, none, none, some (.int e7), none], [], hp (up (up A 41 e8) 42 e9) I x) r) ?_ ?_
  · rintro ⟨s1, s2, s3, s4⟩
    unfold f_X1_trueUnder_l1
    refine am_J.go 4 rfl ?_
    refine am_J.ge rfl ?_ ?_
    · refine am_J.go (cf' := (45, [some (.ref 37), some (.int a1), some (.int a2), some (.int s1), some (.int s2)], [], hp (up (up A 41 s3) 42 s4) I x)) 0 rfl ?_
      exact am_J.leaf (fun k => am_Ev.weak (L' := [none, none, none, some (.int s1), none]) (am_Lle.o (am_Lle.o (am_Lle.o (am_Lle.k (am_Lle.o am_Lle.nil))))) k)
    · refine am_J.go 5 rfl ?_
      refine am_J.call (v := fun r5 => .int r5.1) (h' := fun r5 => hp (up (up A 41 r5.2.1) 42 r5.2.2) I x) rfl (fun r5 hw => (t_X1_valueOf (up (up A 41 s3) 42 s4) I x a1 s2 a2 hw)) (fun r5 => ?_)
      refine am_J.join (β := Int32) (cj := fun j6 => (37, [some (.ref 37), some (.int a1), some (.int a2), none, some (.int s2)], [.int j6, .int s1], hp (up (up A 41 r5.2.1) 42 r5.2.2) I x)) ?_ ?_
      · refine am_J.eq rfl ?_ ?_
        · refine am_J.go (cf' := (37, [some (.ref 37), some (.int a1), some (.int a2), some (.int s1), some (.int s2)], [.int 0, .int s1], hp (up (up A 41 r5.2.1) 42 r5.2.2) I x)) 1 rfl ?_
          exact am_J.leaf (fun k => am_Ev.weak (L' := [some (.ref 37), some (.int a1), some (.int a2), none, some (.int s2)]) (am_Lle.k (am_Lle.k (am_Lle.k (am_Lle.o (am_Lle.k am_Lle.nil))))) k)
        · refine am_J.go (cf' := (37, [some (.ref 37), some (.int a1), some (.int a2), some (.int s1), some (.int s2)], [.int (1 <<< (s2 &&& 31)), .int s1], hp (up (up A 41 r5.2.1) 42 r5.2.2) I x)) 4 rfl ?_
          exact am_J.leaf (fun k => am_Ev.weak (L' := [some (.ref 37), some (.int a1), some (.int a2), none, some (.int s2)]) (am_Lle.k (am_Lle.k (am_Lle.k (am_Lle.o (am_Lle.k am_Lle.nil))))) k)
      · rintro j6
        refine am_J.go (cf' := (5, [some (.ref 37), some (.int a1), some (.int a2), some (.int (s1 ||| j6)), some (.int (s2 + 1))], [], hp (up (up A 41 r5.2.1) 42 r5.2.2) I x)) 4 rfl ?_
        exact am_J.leaf (fun k => am_Ev.weak (L' := [some (.ref 37), some (.int a1), some (.int a2), some (.int (s1 ||| j6)), some (.int (s2 + 1))]) (am_Lle.k (am_Lle.k (am_Lle.k (am_Lle.k (am_Lle.k am_Lle.nil))))) k)
  · rintro ⟨e7, e8, e9⟩
    refine (?_ : am_J (am_ro xs) 4 mc_X1_trueUnder r (45, [none, none, none, some (.int e7), none], [], hp (up (up A 41 e8) 42 e9) I x) _ _)
    refine am_J.go 1 rfl ?_
    exact am_J.ret rfl (fun k => k)

def f_X8_readBoth_l1 (gN gO gE : am_OrX) (A : Nat → List Int32) (I : Nat → Int32) (a1 : Int32) : (Int32 × (List Int32) × Int32 × Int32 × Int32 × Int32) → Option ((Int32 × (List Int32) × Int32 × Int32 × Int32 × Int32) ⊕ ((List Int32) × Int32 × Int32 × Int32 × Int32)) := fun q => match q with
    | (s2, s3, s4, s5, s6, s7) =>
    (if 160 ≤ s2 then
      some (.inr (s3, s4, s5, s6, s7))
    else
      (if s5 = 7 then
        ((f_X8_advance (up A 57 s3) (up (up (up (up I 3336 s4) 3337 s5) 3338 s6) 3340 s7)).bind fun r8 =>
        ((f_X8_readNot gN gO gE (up A 57 s3) (up (up (up (up I 3336 r8.1) 3337 r8.2) 3338 s6) 3340 s7) a1).bind fun r9 =>
        ((f_X8_write (up A 57 r9.1) (up (up (up (up I 3336 r9.2.1) 3337 r9.2.2.1) 3338 r9.2.2.2.1) 3340 r9.2.2.2.2) (-10)).bind fun r10 =>
        some (.inl ((s2 + 1), r10.1, r9.2.1, r9.2.2.1, r9.2.2.2.1, r10.2)))))
      else
        some (.inr (s3, s4, s5, s6, s7))))
def f_X8_readBoth (gN gO gE : am_OrX) (A : Nat → List Int32) (I : Nat → Int32) (a1 : Int32) : Option ((List Int32) × Int32 × Int32 × Int32 × Int32) :=
  ((f_X8_readNot gN gO gE A I a1).bind fun r1 =>
  ((wl (f_X8_readBoth_l1 gN gO gE (up A 57 r1.1) (up (up (up (up I 3336 r1.2.1) 3337 r1.2.2.1) 3338 r1.2.2.2.1) 3340 r1.2.2.2.2) a1) 100000 (0, r1.1, r1.2.1, r1.2.2.1, r1.2.2.2.1, r1.2.2.2.2)).bind (fun q => match q with
  | (e11, e12, e13, e14, e15) =>
  some (e11, e12, e13, e14, e15))))
set_option maxRecDepth 100000 in
set_option maxHeartbeats 4000000 in
theorem t_X8_readBoth {xs : List Int32} {d : Nat} {gN gO gE : am_OrX} (hN : am_OrXh xs d ix_X8_readNot gN) (hO : am_OrXh xs d ix_X8_readOne gO) (hE : am_OrXh xs d ix_X8_readEither gE) (A : Nat → List Int32) (I : Nat → Int32) (x : am_X) (a1 : Int32) {z : (List Int32) × Int32 × Int32 × Int32 × Int32} (hz : f_X8_readBoth gN gO gE A I a1 = some z) : am_Rt (am_ro xs) (d + 7) ix_X8_readBoth [.ref 52, .int a1] (hp A I x) (none, hp (up A 57 z.1) (up (up (up (up I 3336 z.2.1) 3337 z.2.2.1) 3338 z.2.2.2.1) 3340 z.2.2.2.2) x) := by
  refine am_Rt.J (k := ix_X8_readBoth) (M := mc_X8_readBoth) (nL := 3) (d := (d + 6)) (as := [.ref 52, .int a1]) (res := fun z => (none, hp (up A 57 z.1) (up (up (up (up I 3336 z.2.1) 3337 z.2.2.1) 3338 z.2.2.2.1) 3340 z.2.2.2.2) x)) rfl (Nat.le_of_ble_eq_true rfl) (fun r => ?_) hz
  unfold f_X8_readBoth
  refine am_J.go 2 rfl ?_
  refine am_J.calln (h' := fun r1 => hp (up A 57 r1.1) (up (up (up (up I 3336 r1.2.1) 3337 r1.2.2.1) 3338 r1.2.2.2.1) 3340 r1.2.2.2.2) x) rfl (fun r1 hw => (t_X8_readNot hN hO hE A I x a1 hw).mono (by omega)) (fun r1 => ?_)
  refine am_J.go (cf' := (7, [some (.ref 52), some (.int a1), some (.int 0)], [], hp (up A 57 r1.1) (up (up (up (up I 3336 r1.2.1) 3337 r1.2.2.1) 3338 r1.2.2.2.1) 3340 r1.2.2.2.2) x)) 2 rfl ?_
  refine am_J.weak (L' := [some (.ref 52), some (.int a1), some (.int 0)]) (am_Lle.k (am_Lle.k (am_Lle.k am_Lle.nil))) ?_
  refine am_J.loop (cl := fun q => match q with | (s2, s3, s4, s5, s6, s7) => (7, [some (.ref 52), some (.int a1), some (.int s2)], [], hp (up A 57 s3) (up (up (up (up I 3336 s4) 3337 s5) 3338 s6) 3340 s7) x)) (GX := fun q => match q with | (e11, e12, e13, e14, e15) => am_Ev (am_ro xs) (d + 6) mc_X8_readBoth (44, [none, none, none], [], hp (up A 57 e11) (up (up (up (up I 3336 e12) 3337 e13) 3338 e14) 3340 e15) x) r) ?_ ?_
  · rintro ⟨s2, s3, s4, s5, s6, s7⟩
    unfold f_X8_readBoth_l1
    refine am_J.go 2 rfl ?_
    refine am_J.ge rfl ?_ ?_
    · refine am_J.go (cf' := (44, [some (.ref 52), some (.int a1), some (.int s2)], [], hp (up (up A 57 r1.1) 57 s3) (up (up (up (up (up (up (up (up I 3336 r1.2.1) 3337 r1.2.2.1) 3338 r1.2.2.2.1) 3340 r1.2.2.2.2) 3336 s4) 3337 s5) 3338 s6) 3340 s7) x)) 0 rfl ?_
      exact am_J.leaf (fun k => am_Ev.weak (L' := [none, none, none]) (am_Lle.o (am_Lle.o (am_Lle.o am_Lle.nil))) k)
    · refine am_J.go 3 rfl ?_
      refine am_J.ne rfl ?_ ?_
      · refine am_J.go 1 rfl ?_
        refine am_J.calln (h' := fun r8 => hp (up (up A 57 r1.1) 57 s3) (up (up (up (up (up (up (up (up I 3336 r1.2.1) 3337 r1.2.2.1) 3338 r1.2.2.2.1) 3340 r1.2.2.2.2) 3336 r8.1) 3337 r8.2) 3338 s6) 3340 s7) x) rfl (fun r8 hw => (t_X8_advance (up (up A 57 r1.1) 57 s3) (up (up (up (up (up (up (up (up I 3336 r1.2.1) 3337 r1.2.2.1) 3338 r1.2.2.2.1) 3340 r1.2.2.2.2) 3336 s4) 3337 s5) 3338 s6) 3340 s7) x hw).mono (by omega)) (fun r8 => ?_)
        refine am_J.go 2 rfl ?_
        refine am_J.calln (h' := fun r9 => hp (up (up A 57 r1.1) 57 r9.1) (up (up (up (up (up (up (up (up I 3336 r1.2.1) 3337 r1.2.2.1) 3338 r1.2.2.2.1) 3340 r1.2.2.2.2) 3336 r9.2.1) 3337 r9.2.2.1) 3338 r9.2.2.2.1) 3340 r9.2.2.2.2) x) rfl (fun r9 hw => (t_X8_readNot hN hO hE (up (up A 57 r1.1) 57 s3) (up (up (up (up (up (up (up (up I 3336 r1.2.1) 3337 r1.2.2.1) 3338 r1.2.2.2.1) 3340 r1.2.2.2.2) 3336 r8.1) 3337 r8.2) 3338 s6) 3340 s7) x a1 hw).mono (by omega)) (fun r9 => ?_)
        refine am_J.go 2 rfl ?_
        refine am_J.calln (h' := fun r10 => hp (up (up A 57 r1.1) 57 r10.1) (up (up (up (up (up (up (up (up I 3336 r1.2.1) 3337 r1.2.2.1) 3338 r1.2.2.2.1) 3340 r1.2.2.2.2) 3336 r9.2.1) 3337 r9.2.2.1) 3338 r9.2.2.2.1) 3340 r10.2) x) rfl (fun r10 hw => (t_X8_write (up (up A 57 r1.1) 57 r9.1) (up (up (up (up (up (up (up (up I 3336 r1.2.1) 3337 r1.2.2.1) 3338 r1.2.2.2.1) 3340 r1.2.2.2.2) 3336 r9.2.1) 3337 r9.2.2.1) 3338 r9.2.2.2.1) 3340 r9.2.2.2.2) x (-10) hw).mono (by omega)) (fun r10 => ?_)
        refine am_J.go (cf' := (7, [some (.ref 52), some (.int a1), some (.int (s2 + 1))], [], hp (up (up A 57 r1.1) 57 r10.1) (up (up (up (up (up (up (up (up I 3336 r1.2.1) 3337 r1.2.2.1) 3338 r1.2.2.2.1) 3340 r1.2.2.2.2) 3336 r9.2.1) 3337 r9.2.2.1) 3338 r9.2.2.2.1) 3340 r10.2) x)) 2 rfl ?_
        exact am_J.leaf (fun k => am_Ev.weak (L' := [some (.ref 52), some (.int a1), some (.int (s2 + 1))]) (am_Lle.k (am_Lle.k (am_Lle.k am_Lle.nil))) k)
      · refine am_J.go (cf' := (44, [some (.ref 52), some (.int a1), some (.int s2)], [], hp (up (up A 57 r1.1) 57 s3) (up (up (up (up (up (up (up (up I 3336 r1.2.1) 3337 r1.2.2.1) 3338 r1.2.2.2.1) 3340 r1.2.2.2.2) 3336 s4) 3337 s5) 3338 s6) 3340 s7) x)) 0 rfl ?_
        exact am_J.leaf (fun k => am_Ev.weak (L' := [none, none, none]) (am_Lle.o (am_Lle.o (am_Lle.o am_Lle.nil))) k)
  · rintro ⟨e11, e12, e13, e14, e15⟩
    refine (?_ : am_J (am_ro xs) (d + 6) mc_X8_readBoth r (44, [none, none, none], [], hp (up A 57 e11) (up (up (up (up I 3336 e12) 3337 e13) 3338 e14) 3340 e15) x) _ _)
    exact am_J.ret rfl (fun k => k)

def f_X8_readEither_l1 (gN gO gE : am_OrX) (A : Nat → List Int32) (I : Nat → Int32) (a1 : Int32) : (Int32 × (List Int32) × Int32 × Int32 × Int32 × Int32) → Option ((Int32 × (List Int32) × Int32 × Int32 × Int32 × Int32) ⊕ ((List Int32) × Int32 × Int32 × Int32 × Int32)) := fun q => match q with
    | (s2, s3, s4, s5, s6, s7) =>
    (if 160 ≤ s2 then
      some (.inr (s3, s4, s5, s6, s7))
    else
      (if s5 = 6 then
        ((f_X8_advance (up A 57 s3) (up (up (up (up I 3336 s4) 3337 s5) 3338 s6) 3340 s7)).bind fun r8 =>
        ((f_X8_readBoth gN gO gE (up A 57 s3) (up (up (up (up I 3336 r8.1) 3337 r8.2) 3338 s6) 3340 s7) a1).bind fun r9 =>
        ((f_X8_write (up A 57 r9.1) (up (up (up (up I 3336 r9.2.1) 3337 r9.2.2.1) 3338 r9.2.2.2.1) 3340 r9.2.2.2.2) (-9)).bind fun r10 =>
        some (.inl ((s2 + 1), r10.1, r9.2.1, r9.2.2.1, r9.2.2.2.1, r10.2)))))
      else
        some (.inr (s3, s4, s5, s6, s7))))
def f_X8_readEither (gN gO gE : am_OrX) (A : Nat → List Int32) (I : Nat → Int32) (a1 : Int32) : Option ((List Int32) × Int32 × Int32 × Int32 × Int32) :=
  ((f_X8_readBoth gN gO gE A I a1).bind fun r1 =>
  ((wl (f_X8_readEither_l1 gN gO gE (up A 57 r1.1) (up (up (up (up I 3336 r1.2.1) 3337 r1.2.2.1) 3338 r1.2.2.2.1) 3340 r1.2.2.2.2) a1) 100000 (0, r1.1, r1.2.1, r1.2.2.1, r1.2.2.2.1, r1.2.2.2.2)).bind (fun q => match q with
  | (e11, e12, e13, e14, e15) =>
  some (e11, e12, e13, e14, e15))))
set_option maxRecDepth 100000 in
set_option maxHeartbeats 4000000 in
theorem t_X8_readEither {xs : List Int32} {d : Nat} {gN gO gE : am_OrX} (hN : am_OrXh xs d ix_X8_readNot gN) (hO : am_OrXh xs d ix_X8_readOne gO) (hE : am_OrXh xs d ix_X8_readEither gE) (A : Nat → List Int32) (I : Nat → Int32) (x : am_X) (a1 : Int32) {z : (List Int32) × Int32 × Int32 × Int32 × Int32} (hz : f_X8_readEither gN gO gE A I a1 = some z) : am_Rt (am_ro xs) (d + 8) ix_X8_readEither [.ref 52, .int a1] (hp A I x) (none, hp (up A 57 z.1) (up (up (up (up I 3336 z.2.1) 3337 z.2.2.1) 3338 z.2.2.2.1) 3340 z.2.2.2.2) x) := by
  refine am_Rt.J (k := ix_X8_readEither) (M := mc_X8_readEither) (nL := 3) (d := (d + 7)) (as := [.ref 52, .int a1]) (res := fun z => (none, hp (up A 57 z.1) (up (up (up (up I 3336 z.2.1) 3337 z.2.2.1) 3338 z.2.2.2.1) 3340 z.2.2.2.2) x)) rfl (Nat.le_of_ble_eq_true rfl) (fun r => ?_) hz
  unfold f_X8_readEither
  refine am_J.go 2 rfl ?_
  refine am_J.calln (h' := fun r1 => hp (up A 57 r1.1) (up (up (up (up I 3336 r1.2.1) 3337 r1.2.2.1) 3338 r1.2.2.2.1) 3340 r1.2.2.2.2) x) rfl (fun r1 hw => (t_X8_readBoth hN hO hE A I x a1 hw).mono (by omega)) (fun r1 => ?_)
  refine am_J.go (cf' := (7, [some (.ref 52), some (.int a1), some (.int 0)], [], hp (up A 57 r1.1) (up (up (up (up I 3336 r1.2.1) 3337 r1.2.2.1) 3338 r1.2.2.2.1) 3340 r1.2.2.2.2) x)) 2 rfl ?_
  refine am_J.weak (L' := [some (.ref 52), some (.int a1), some (.int 0)]) (am_Lle.k (am_Lle.k (am_Lle.k am_Lle.nil))) ?_
  refine am_J.loop (cl := fun q => match q with | (s2, s3, s4, s5, s6, s7) => (7, [some (.ref 52), some (.int a1), some (.int s2)], [], hp (up A 57 s3) (up (up (up (up I 3336 s4) 3337 s5) 3338 s6) 3340 s7) x)) (GX := fun q => match q with | (e11, e12, e13, e14, e15) => am_Ev (am_ro xs) (d + 7) mc_X8_readEither (44, [none, none, none], [], hp (up A 57 e11) (up (up (up (up I 3336 e12) 3337 e13) 3338 e14) 3340 e15) x) r) ?_ ?_
  · rintro ⟨s2, s3, s4, s5, s6, s7⟩
    unfold f_X8_readEither_l1
    refine am_J.go 2 rfl ?_
    refine am_J.ge rfl ?_ ?_
    · refine am_J.go (cf' := (44, [some (.ref 52), some (.int a1), some (.int s2)], [], hp (up (up A 57 r1.1) 57 s3) (up (up (up (up (up (up (up (up I 3336 r1.2.1) 3337 r1.2.2.1) 3338 r1.2.2.2.1) 3340 r1.2.2.2.2) 3336 s4) 3337 s5) 3338 s6) 3340 s7) x)) 0 rfl ?_
      exact am_J.leaf (fun k => am_Ev.weak (L' := [none, none, none]) (am_Lle.o (am_Lle.o (am_Lle.o am_Lle.nil))) k)
    · refine am_J.go 3 rfl ?_
      refine am_J.ne rfl ?_ ?_
      · refine am_J.go 1 rfl ?_
        refine am_J.calln (h' := fun r8 => hp (up (up A 57 r1.1) 57 s3) (up (up (up (up (up (up (up (up I 3336 r1.2.1) 3337 r1.2.2.1) 3338 r1.2.2.2.1) 3340 r1.2.2.2.2) 3336 r8.1) 3337 r8.2) 3338 s6) 3340 s7) x) rfl (fun r8 hw => (t_X8_advance (up (up A 57 r1.1) 57 s3) (up (up (up (up (up (up (up (up I 3336 r1.2.1) 3337 r1.2.2.1) 3338 r1.2.2.2.1) 3340 r1.2.2.2.2) 3336 s4) 3337 s5) 3338 s6) 3340 s7) x hw).mono (by omega)) (fun r8 => ?_)
        refine am_J.go 2 rfl ?_
        refine am_J.calln (h' := fun r9 => hp (up (up A 57 r1.1) 57 r9.1) (up (up (up (up (up (up (up (up I 3336 r1.2.1) 3337 r1.2.2.1) 3338 r1.2.2.2.1) 3340 r1.2.2.2.2) 3336 r9.2.1) 3337 r9.2.2.1) 3338 r9.2.2.2.1) 3340 r9.2.2.2.2) x) rfl (fun r9 hw => (t_X8_readBoth hN hO hE (up (up A 57 r1.1) 57 s3) (up (up (up (up (up (up (up (up I 3336 r1.2.1) 3337 r1.2.2.1) 3338 r1.2.2.2.1) 3340 r1.2.2.2.2) 3336 r8.1) 3337 r8.2) 3338 s6) 3340 s7) x a1 hw).mono (by omega)) (fun r9 => ?_)
        refine am_J.go 2 rfl ?_
        refine am_J.calln (h' := fun r10 => hp (up (up A 57 r1.1) 57 r10.1) (up (up (up (up (up (up (up (up I 3336 r1.2.1) 3337 r1.2.2.1) 3338 r1.2.2.2.1) 3340 r1.2.2.2.2) 3336 r9.2.1) 3337 r9.2.2.1) 3338 r9.2.2.2.1) 3340 r10.2) x) rfl (fun r10 hw => (t_X8_write (up (up A 57 r1.1) 57 r9.1) (up (up (up (up (up (up (up (up I 3336 r1.2.1) 3337 r1.2.2.1) 3338 r1.2.2.2.1) 3340 r1.2.2.2.2) 3336 r9.2.1) 3337 r9.2.2.1) 3338 r9.2.2.2.1) 3340 r9.2.2.2.2) x (-9) hw).mono (by omega)) (fun r10 => ?_)
        refine am_J.go (cf' := (7, [some (.ref 52), some (.int a1), some (.int (s2 + 1))], [], hp (up (up A 57 r1.1) 57 r10.1) (up (up (up (up (up (up (up (up I 3336 r1.2.1) 3337 r1.2.2.1) 3338 r1.2.2.2.1) 3340 r1.2.2.2.2) 3336 r9.2.1) 3337 r9.2.2.1) 3338 r9.2.2.2.1) 3340 r10.2) x)) 2 rfl ?_
        exact am_J.leaf (fun k => am_Ev.weak (L' := [some (.ref 52), some (.int a1), some (.int (s2 + 1))]) (am_Lle.k (am_Lle.k (am_Lle.k am_Lle.nil))) k)
      · refine am_J.go (cf' := (44, [some (.ref 52), some (.int a1), some (.int s2)], [], hp (up (up A 57 r1.1) 57 s3) (up (up (up (up (up (up (up (up I 3336 r1.2.1) 3337 r1.2.2.1) 3338 r1.2.2.2.1) 3340 r1.2.2.2.2) 3336 s4) 3337 s5) 3338 s6) 3340 s7) x)) 0 rfl ?_
        exact am_J.leaf (fun k => am_Ev.weak (L' := [none, none, none]) (am_Lle.o (am_Lle.o (am_Lle.o am_Lle.nil))) k)
  · rintro ⟨e11, e12, e13, e14, e15⟩
    refine (?_ : am_J (am_ro xs) (d + 7) mc_X8_readEither r (44, [none, none, none], [], hp (up A 57 e11) (up (up (up (up I 3336 e12) 3337 e13) 3338 e14) 3340 e15) x) _ _)
    exact am_J.ret rfl (fun k => k)
