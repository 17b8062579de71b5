/-! ===== methods as functions (by wip/whole/dec.py) ===== -/
def f_X1_landOf (A : Nat → List Int32) (I : Nat → Int32) (a1 : Int32) : Option (Int32) :=
  ((am_at (A 31) a1).bind fun v1 =>
  ((am_at (A 26) v1).bind fun v2 =>
  some v2))
set_option maxRecDepth 100000 in
set_option maxHeartbeats 4000000 in
theorem t_X1_landOf {xs : List Int32} (A : Nat → List Int32) (I : Nat → Int32) (x : am_X) (a1 : Int32) {z : Int32} (hz : f_X1_landOf A I a1 = some z) : am_Rt (am_ro xs) 1 ix_X1_landOf [.ref 37, .int a1] (hp A I x) (some (.int z), hp A I x) := by
  refine am_Rt.J (k := ix_X1_landOf) (M := mc_X1_landOf) (nL := 2) (d := 0) (as := [.ref 37, .int a1]) (res := fun z => (some (.int z), hp A I x)) rfl (Nat.le_of_ble_eq_true rfl) (fun r => ?_) hz
  unfold f_X1_landOf
  refine am_J.go 7 rfl ?_
  refine am_J.ial (xs := (A 31)) rfl (Nat.le_of_ble_eq_true rfl) rfl (fun v1 => ?_)
  refine am_J.ial (xs := (A 26)) rfl (Nat.le_of_ble_eq_true rfl) rfl (fun v2 => ?_)
  exact am_J.ret rfl (fun k => k)

def f_X2_add (A : Nat → List Int32) (I : Nat → Int32) (a1 : Int32) (a2 : Int32) (a3 : Int32) (a4 : Int32) (a5 : Int32) : Option (Int32 × (List Int32) × (List Int32) × (List Int32) × (List Int32) × (List Int32) × Int32) :=
  ((am_up (A 30) (I 1863) a1).bind fun y1 =>
  ((am_up (A 31) (I 1863) a2).bind fun y2 =>
  ((am_up (A 32) (I 1863) a3).bind fun y3 =>
  ((am_up (A 33) (I 1863) a4).bind fun y4 =>
  ((am_up (A 34) (I 1863) a5).bind fun y5 =>
  some ((I 1863), y1, y2, y3, y4, y5, ((I 1863) + 1)))))))
set_option maxRecDepth 100000 in
set_option maxHeartbeats 4000000 in
theorem t_X2_add {xs : List Int32} (A : Nat → List Int32) (I : Nat → Int32) (x : am_X) (a1 : Int32) (a2 : Int32) (a3 : Int32) (a4 : Int32) (a5 : Int32) {z : Int32 × (List Int32) × (List Int32) × (List Int32) × (List Int32) × (List Int32) × Int32} (hz : f_X2_add A I a1 a2 a3 a4 a5 = some z) : am_Rt (am_ro xs) 1 ix_X2_add [.ref 29, .int a1, .int a2, .int a3, .int a4, .int a5] (hp A I x) (some (.int z.1), hp (up (up (up (up (up A 30 z.2.1) 31 z.2.2.1) 32 z.2.2.2.1) 33 z.2.2.2.2.1) 34 z.2.2.2.2.2.1) (up I 1863 z.2.2.2.2.2.2) x) := by
  refine am_Rt.J (k := ix_X2_add) (M := mc_X2_add) (nL := 6) (d := 0) (as := [.ref 29, .int a1, .int a2, .int a3, .int a4, .int a5]) (res := fun z => (some (.int z.1), hp (up (up (up (up (up A 30 z.2.1) 31 z.2.2.1) 32 z.2.2.2.1) 33 z.2.2.2.2.1) 34 z.2.2.2.2.2.1) (up I 1863 z.2.2.2.2.2.2) x)) rfl (Nat.le_of_ble_eq_true rfl) (fun r => ?_) hz
  unfold f_X2_add
  refine am_J.go 5 rfl ?_
  refine am_J.ias (xs := (A 30)) (h' := fun y1 => hp (up A 30 y1) I x) rfl rfl (fun _ => rfl) (fun y1 => ?_)
  refine am_J.go 5 rfl ?_
  refine am_J.ias (xs := (A 31)) (h' := fun y2 => hp (up (up A 30 y1) 31 y2) I x) rfl rfl (fun _ => rfl) (fun y2 => ?_)
  refine am_J.go 5 rfl ?_
  refine am_J.ias (xs := (A 32)) (h' := fun y3 => hp (up (up (up A 30 y1) 31 y2) 32 y3) I x) rfl rfl (fun _ => rfl) (fun y3 => ?_)
  refine am_J.go 5 rfl ?_
  refine am_J.ias (xs := (A 33)) (h' := fun y4 => hp (up (up (up (up A 30 y1) 31 y2) 32 y3) 33 y4) I x) rfl rfl (fun _ => rfl) (fun y4 => ?_)
  refine am_J.go 5 rfl ?_
  refine am_J.ias (xs := (A 34)) (h' := fun y5 => hp (up (up (up (up (up A 30 y1) 31 y2) 32 y3) 33 y4) 34 y5) I x) rfl rfl (fun _ => rfl) (fun y5 => ?_)
  refine am_J.go 7 rfl ?_
  exact am_J.ret rfl (fun k => k)

def f_X2_lastsFor (A : Nat → List Int32) (I : Nat → Int32) (a1 : Int32) : Option (Int32) :=
  ((am_at (A 36) a1).bind fun v1 =>
  (if v1 = (-1) then
    ((am_at (A 30) a1).bind fun v4 =>
    ((am_at (am_sta 2) v4).bind fun v5 =>
    some v5))
  else
    ((am_at (A 36) a1).bind fun v2 =>
    ((am_at (A 33) a1).bind fun v3 =>
    some (v2 - v3)))))
set_option maxRecDepth 100000 in
set_option maxHeartbeats 4000000 in
theorem t_X2_lastsFor {xs : List Int32} (A : Nat → List Int32) (I : Nat → Int32) (x : am_X) (a1 : Int32) {z : Int32} (hz : f_X2_lastsFor A I a1 = some z) : am_Rt (am_ro xs) 1 ix_X2_lastsFor [.ref 29, .int a1] (hp A I x) (some (.int z), hp A I x) := by
  refine am_Rt.J (k := ix_X2_lastsFor) (M := mc_X2_lastsFor) (nL := 2) (d := 0) (as := [.ref 29, .int a1]) (res := fun z => (some (.int z), hp A I x)) rfl (Nat.le_of_ble_eq_true rfl) (fun r => ?_) hz
  unfold f_X2_lastsFor
  refine am_J.go 3 rfl ?_
  refine am_J.ial (xs := (A 36)) rfl (Nat.le_of_ble_eq_true rfl) rfl (fun v1 => ?_)
  refine am_J.go 1 rfl ?_
  refine am_J.ne rfl ?_ ?_
  · refine am_J.go 4 rfl ?_
    refine am_J.ial (xs := (A 30)) rfl (Nat.le_of_ble_eq_true rfl) rfl (fun v4 => ?_)
    refine am_J.iar (xs := (am_sta 2)) rfl (Nat.not_lt.mpr (Nat.le_add_right _ _)) rfl (fun v5 => ?_)
    refine am_J.go 1 rfl ?_
    exact am_J.ret rfl (fun k => k)
  · refine am_J.go 3 rfl ?_
    refine am_J.ial (xs := (A 36)) rfl (Nat.le_of_ble_eq_true rfl) rfl (fun v2 => ?_)
    refine am_J.go 3 rfl ?_
    refine am_J.ial (xs := (A 33)) rfl (Nat.le_of_ble_eq_true rfl) rfl (fun v3 => ?_)
    refine am_J.go 1 rfl ?_
    exact am_J.ret rfl (fun k => k)

def f_X2_rankOf (A : Nat → List Int32) (I : Nat → Int32) (a1 : Int32) : Option (Int32) :=
  ((am_at (A 30) a1).bind fun v1 =>
  ((am_at (am_sta 1) v1).bind fun v2 =>
  some v2))
set_option maxRecDepth 100000 in
set_option maxHeartbeats 4000000 in
theorem t_X2_rankOf {xs : List Int32} (A : Nat → List Int32) (I : Nat → Int32) (x : am_X) (a1 : Int32) {z : Int32} (hz : f_X2_rankOf A I a1 = some z) : am_Rt (am_ro xs) 1 ix_X2_rankOf [.ref 29, .int a1] (hp A I x) (some (.int z), hp A I x) := by
  refine am_Rt.J (k := ix_X2_rankOf) (M := mc_X2_rankOf) (nL := 2) (d := 0) (as := [.ref 29, .int a1]) (res := fun z => (some (.int z), hp A I x)) rfl (Nat.le_of_ble_eq_true rfl) (fun r => ?_) hz
  unfold f_X2_rankOf
  refine am_J.go 4 rfl ?_
  refine am_J.ial (xs := (A 30)) rfl (Nat.le_of_ble_eq_true rfl) rfl (fun v1 => ?_)
  refine am_J.iar (xs := (am_sta 1)) rfl (Nat.not_lt.mpr (Nat.le_add_right _ _)) rfl (fun v2 => ?_)
  exact am_J.ret rfl (fun k => k)

def f_X2_runsOn (A : Nat → List Int32) (I : Nat → Int32) (a1 : Int32) (a2 : Int32) : Option (Int32) :=
  ((am_at (A 33) a1).bind fun v1 =>
  (if a2 < v1 then
    some 0
  else
    ((am_at (A 33) a1).bind fun v2 =>
    ((f_X2_lastsFor A I a1).bind fun r3 =>
    (if (v2 + r3) ≤ a2 then
      some 0
    else
      some 1)))))
set_option maxRecDepth 100000 in
set_option maxHeartbeats 4000000 in
theorem t_X2_runsOn {xs : List Int32} (A : Nat → List Int32) (I : Nat → Int32) (x : am_X) (a1 : Int32) (a2 : Int32) {z : Int32} (hz : f_X2_runsOn A I a1 a2 = some z) : am_Rt (am_ro xs) 2 ix_X2_runsOn [.ref 29, .int a1, .int a2] (hp A I x) (some (.int z), hp A I x) := by
  refine am_Rt.J (k := ix_X2_runsOn) (M := mc_X2_runsOn) (nL := 3) (d := 1) (as := [.ref 29, .int a1, .int a2]) (res := fun z => (some (.int z), hp A I x)) rfl (Nat.le_of_ble_eq_true rfl) (fun r => ?_) hz
  unfold f_X2_runsOn
  refine am_J.go 3 rfl ?_
  refine am_J.ial (xs := (A 33)) rfl (Nat.le_of_ble_eq_true rfl) rfl (fun v1 => ?_)
  refine am_J.go 1 rfl ?_
  refine am_J.gt rfl ?_ ?_
  · refine am_J.go 1 rfl ?_
    exact am_J.retz rfl (Or.inl rfl) (fun k => k)
  · refine am_J.go 4 rfl ?_
    refine am_J.ial (xs := (A 33)) rfl (Nat.le_of_ble_eq_true rfl) rfl (fun v2 => ?_)
    refine am_J.go 2 rfl ?_
    refine am_J.call (v := fun r3 => .int r3) (h' := fun r3 => hp A I x) rfl (fun r3 hw => (t_X2_lastsFor A I x a1 hw)) (fun r3 => ?_)
    refine am_J.go 1 rfl ?_
    refine am_J.ge rfl ?_ ?_
    · refine am_J.go 1 rfl ?_
      exact am_J.retz rfl (Or.inl rfl) (fun k => k)
    · refine am_J.go 2 rfl ?_
      exact am_J.retz rfl (Or.inr rfl) (fun k => k)

def f_X2_tell (A : Nat → List Int32) (I : Nat → Int32) (a1 : Int32) (a2 : Int32) : Option (Int32) :=
  (if a2 = 0 then
    ((am_at (A 30) a1).bind fun v1 =>
    some v1)
  else
  (if a2 = 1 then
    ((am_at (A 31) a1).bind fun v2 =>
    some v2)
  else
  (if a2 = 2 then
    ((am_at (A 32) a1).bind fun v3 =>
    some v3)
  else
  (if a2 = 3 then
    ((am_at (A 33) a1).bind fun v4 =>
    some v4)
  else
  (if a2 = 4 then
    ((am_at (A 34) a1).bind fun v5 =>
    some v5)
  else
  (if a2 = 5 then
    ((f_X2_rankOf A I a1).bind fun r6 =>
    some r6)
  else
  (if a2 = 6 then
    ((f_X2_lastsFor A I a1).bind fun r7 =>
    some r7)
  else
  (if a2 = 7 then
    ((am_at (A 35) a1).bind fun v8 =>
    some v8)
  else
  some (-2)))))))))
set_option maxRecDepth 100000 in
set_option maxHeartbeats 4000000 in
theorem t_X2_tell {xs : List Int32} (A : Nat → List Int32) (I : Nat → Int32) (x : am_X) (a1 : Int32) (a2 : Int32) {z : Int32} (hz : f_X2_tell A I a1 a2 = some z) : am_Rt (am_ro xs) 2 ix_X2_tell [.ref 29, .int a1, .int a2] (hp A I x) (some (.int z), hp A I x) := by
  refine am_Rt.J (k := ix_X2_tell) (M := mc_X2_tell) (nL := 3) (d := 1) (as := [.ref 29, .int a1, .int a2]) (res := fun z => (some (.int z), hp A I x)) rfl (Nat.le_of_ble_eq_true rfl) (fun r => ?_) hz
  unfold f_X2_tell
  refine am_J.go 1 rfl ?_
  refine am_J.sw (c := 0) (fun v => (1, [some (.ref 29), some (.int a1), some (.int a2)], [.int v], hp A I x)) ?_ (fun hs0 => ?_)
  · refine am_J.go 1 rfl ?_
    refine am_J.go 3 rfl ?_
    refine am_J.ial (xs := (A 30)) rfl (Nat.le_of_ble_eq_true rfl) rfl (fun v1 => ?_)
    exact am_J.ret rfl (fun k => k)
  refine am_J.sw (c := 1) (fun v => (1, [some (.ref 29), some (.int a1), some (.int a2)], [.int v], hp A I x)) ?_ (fun hs1 => ?_)
  · refine am_J.go 1 rfl ?_
    refine am_J.go 3 rfl ?_
    refine am_J.ial (xs := (A 31)) rfl (Nat.le_of_ble_eq_true rfl) rfl (fun v2 => ?_)
    exact am_J.ret rfl (fun k => k)
  refine am_J.sw (c := 2) (fun v => (1, [some (.ref 29), some (.int a1), some (.int a2)], [.int v], hp A I x)) ?_ (fun hs2 => ?_)
  · refine am_J.go 1 rfl ?_
    refine am_J.go 3 rfl ?_
    refine am_J.ial (xs := (A 32)) rfl (Nat.le_of_ble_eq_true rfl) rfl (fun v3 => ?_)
    exact am_J.ret rfl (fun k => k)
  refine am_J.sw (c := 3) (fun v => (1, [some (.ref 29), some (.int a1), some (.int a2)], [.int v], hp A I x)) ?_ (fun hs3 => ?_)
  · refine am_J.go 1 rfl ?_
    refine am_J.go 3 rfl ?_
    refine am_J.ial (xs := (A 33)) rfl (Nat.le_of_ble_eq_true rfl) rfl (fun v4 => ?_)
    exact am_J.ret rfl (fun k => k)
  refine am_J.sw (c := 4) (fun v => (1, [some (.ref 29), some (.int a1), some (.int a2)], [.int v], hp A I x)) ?_ (fun hs4 => ?_)
  · refine am_J.go 1 rfl ?_
    refine am_J.go 3 rfl ?_
    refine am_J.ial (xs := (A 34)) rfl (Nat.le_of_ble_eq_true rfl) rfl (fun v5 => ?_)
    exact am_J.ret rfl (fun k => k)
  refine am_J.sw (c := 5) (fun v => (1, [some (.ref 29), some (.int a1), some (.int a2)], [.int v], hp A I x)) ?_ (fun hs5 => ?_)
  · refine am_J.go 1 rfl ?_
    refine am_J.go 2 rfl ?_
    refine am_J.call (v := fun r6 => .int r6) (h' := fun r6 => hp A I x) rfl (fun r6 hw => (t_X2_rankOf A I x a1 hw)) (fun r6 => ?_)
    exact am_J.ret rfl (fun k => k)
  refine am_J.sw (c := 6) (fun v => (1, [some (.ref 29), some (.int a1), some (.int a2)], [.int v], hp A I x)) ?_ (fun hs6 => ?_)
  · refine am_J.go 1 rfl ?_
    refine am_J.go 2 rfl ?_
    refine am_J.call (v := fun r7 => .int r7) (h' := fun r7 => hp A I x) rfl (fun r7 hw => (t_X2_lastsFor A I x a1 hw)) (fun r7 => ?_)
    exact am_J.ret rfl (fun k => k)
  refine am_J.sw (c := 7) (fun v => (1, [some (.ref 29), some (.int a1), some (.int a2)], [.int v], hp A I x)) ?_ (fun hs7 => ?_)
  · refine am_J.go 1 rfl ?_
    refine am_J.go 3 rfl ?_
    refine am_J.ial (xs := (A 35)) rfl (Nat.le_of_ble_eq_true rfl) rfl (fun v8 => ?_)
    exact am_J.ret rfl (fun k => k)
  refine am_J.swd rfl (am_out (0) (7) (fun c h1 h2 q => ?_)) rfl ?_
  · rcases (show c = 0 ∨ c = 1 ∨ c = 2 ∨ c = 3 ∨ c = 4 ∨ c = 5 ∨ c = 6 ∨ c = 7 by omega) with rfl | rfl | rfl | rfl | rfl | rfl | rfl | rfl
    · exact hs0 (Int32.toInt_inj.mp (q.trans (by decide)))
    · exact hs1 (Int32.toInt_inj.mp (q.trans (by decide)))
    · exact hs2 (Int32.toInt_inj.mp (q.trans (by decide)))
    · exact hs3 (Int32.toInt_inj.mp (q.trans (by decide)))
    · exact hs4 (Int32.toInt_inj.mp (q.trans (by decide)))
    · exact hs5 (Int32.toInt_inj.mp (q.trans (by decide)))
    · exact hs6 (Int32.toInt_inj.mp (q.trans (by decide)))
    · exact hs7 (Int32.toInt_inj.mp (q.trans (by decide)))
  · refine am_J.go 1 rfl ?_
    exact am_J.ret rfl (fun k => k)

def f_X3_add (A : Nat → List Int32) (I : Nat → Int32) (a1 : Int32) (a2 : Int32) : Option (Int32 × (List Int32) × Int32 × Int32) :=
  ((am_up (A 59) (I 3715) a1).bind fun y1 =>
  some ((I 3715), y1, ((I 3714) ||| (a2 <<< ((I 3715) &&& 31))), ((I 3715) + 1)))
set_option maxRecDepth 100000 in
set_option maxHeartbeats 4000000 in
theorem t_X3_add {xs : List Int32} (A : Nat → List Int32) (I : Nat → Int32) (x : am_X) (a1 : Int32) (a2 : Int32) {z : Int32 × (List Int32) × Int32 × Int32} (hz : f_X3_add A I a1 a2 = some z) : am_Rt (am_ro xs) 1 ix_X3_add [.ref 58, .int a1, .int a2] (hp A I x) (some (.int z.1), hp (up A 59 z.2.1) (up (up I 3714 z.2.2.1) 3715 z.2.2.2) x) := by
  refine am_Rt.J (k := ix_X3_add) (M := mc_X3_add) (nL := 3) (d := 0) (as := [.ref 58, .int a1, .int a2]) (res := fun z => (some (.int z.1), hp (up A 59 z.2.1) (up (up I 3714 z.2.2.1) 3715 z.2.2.2) x)) rfl (Nat.le_of_ble_eq_true rfl) (fun r => ?_) hz
  unfold f_X3_add
  refine am_J.go 5 rfl ?_
  refine am_J.ias (xs := (A 59)) (h' := fun y1 => hp (up A 59 y1) I x) rfl rfl (fun _ => rfl) (fun y1 => ?_)
  refine am_J.go 16 rfl ?_
  exact am_J.ret rfl (fun k => k)

def f_X4_keep (A : Nat → List Int32) (I : Nat → Int32) (a1 : Int32) : Option ((List Int32) × Int32) :=
  ((am_acq (A 74) (A 75) 0 0 7).bind fun y1 =>
  some (y1, a1))
set_option maxRecDepth 100000 in
set_option maxHeartbeats 4000000 in
theorem t_X4_keep {xs : List Int32} (A : Nat → List Int32) (I : Nat → Int32) (x : am_X) (a1 : Int32) {z : (List Int32) × Int32} (hz : f_X4_keep A I a1 = some z) : am_Rt (am_ro xs) 1 ix_X4_keep [.ref 73, .int a1] (hp A I x) (none, hp (up A 75 z.1) (up I 4676 z.2) x) := by
  refine am_Rt.J (k := ix_X4_keep) (M := mc_X4_keep) (nL := 2) (d := 0) (as := [.ref 73, .int a1]) (res := fun z => (none, hp (up A 75 z.1) (up I 4676 z.2) x)) rfl (Nat.le_of_ble_eq_true rfl) (fun r => ?_) hz
  unfold f_X4_keep
  refine am_J.go 10 rfl ?_
  refine am_J.acp (xs := (A 74)) (ys := (A 75)) (h' := fun y1 => hp (up A 75 y1) (up I 4676 a1) x) rfl rfl rfl (by decide) (fun _ => rfl) (fun y1 => ?_)
  exact am_J.ret rfl (fun k => k)

def f_X4_mayBeWon_l1 (A : Nat → List Int32) (I : Nat → Int32) (a1 : Int32) (a2 : Int32) (a3 : Int32) : (Int32 × Int32) → Option ((Int32 × Int32) ⊕ (Int32)) := fun q => match q with
    | (s1, s2) =>
    (if 8 ≤ s2 then
      some (.inr s1)
    else
      ((am_row 12 a1).bind fun w3 =>
      ((am_at (A w3) s2).bind fun v4 =>
      ((f_X11_has a2 s2).bind fun r5 =>
      (((if r5 = 0 then
          some s1
        else
          (if v4 = 999 then
            some s1
          else
            ((am_at (A 24) s2).bind fun v6 =>
            (if v6 < (a3 + v4) then
              some s1
            else
              some (s1 + 1))))) : Option (Int32)).bind (fun j7 =>
      some (.inl (j7, (s2 + 1)))))))))
def f_X4_mayBeWon (A : Nat → List Int32) (I : Nat → Int32) (a1 : Int32) (a2 : Int32) (a3 : Int32) : Option (Int32) :=
  ((wl (f_X4_mayBeWon_l1 A I a1 a2 a3) 100000 (0, 0)).bind (fun e8 =>
  some e8))
set_option maxRecDepth 100000 in
set_option maxHeartbeats 4000000 in
theorem t_X4_mayBeWon {xs : List Int32} (A : Nat → List Int32) (I : Nat → Int32) (x : am_X) (a1 : Int32) (a2 : Int32) (a3 : Int32) {z : Int32} (hz : f_X4_mayBeWon A I a1 a2 a3 = some z) : am_Rt (am_ro xs) 2 ix_X4_mayBeWon [.ref 73, .int a1, .int a2, .int a3] (hp A I x) (some (.int z), hp A I x) := by
  refine am_Rt.J (k := ix_X4_mayBeWon) (M := mc_X4_mayBeWon) (nL := 7) (d := 1) (as := [.ref 73, .int a1, .int a2, .int a3]) (res := fun z => (some (.int z), hp A I x)) rfl (Nat.le_of_ble_eq_true rfl) (fun r => ?_) hz
  unfold f_X4_mayBeWon
  refine am_J.go (cf' := (6, [some (.ref 73), some (.int a1), some (.int a2), some (.int a3), some (.int 0), some (.int 0), none], [], hp A I x)) 4 rfl ?_
  refine am_J.weak (L' := [some (.ref 73), some (.int a1), some (.int a2), some (.int a3), some (.int 0), some (.int 0), none]) (am_Lle.k (am_Lle.k (am_Lle.k (am_Lle.k (am_Lle.k (am_Lle.k (am_Lle.o am_Lle.nil))))))) ?_
  refine am_J.loop (cl := fun q => match q with | (s1, s2) => (6, [some (.ref 73), some (.int a1), some (.int a2), some (.int a3), some (.int s1), some (.int s2), none], [], hp A I x)) (GX := fun e8 => am_Ev (am_ro xs) 1 mc_X4_mayBeWon (70, [none, none, none, none, some (.int e8), none, none], [], hp A I x) r) ?_ ?_
  · rintro ⟨s1, s2⟩
    unfold f_X4_mayBeWon_l1
    refine am_J.go 2 rfl ?_
    refine am_J.ge rfl ?_ ?_
    · refine am_J.go (cf' := (70, [some (.ref 73), some (.int a1), some (.int a2), some (.int a3), some (.int s1), some (.int s2), none], [], hp A I x)) 0 rfl ?_
      exact am_J.leaf (fun k => am_Ev.weak (L' := [none, none, none, none, some (.int s1), none, none]) (am_Lle.o (am_Lle.o (am_Lle.o (am_Lle.o (am_Lle.k (am_Lle.o (am_Lle.o am_Lle.nil))))))) k)
    · refine am_J.go 4 rfl ?_
      refine am_J.row (base := 12) rfl rfl (by decide) (fun w3 hw3 => ?_)
      refine am_J.go 1 rfl ?_
      refine am_J.ial (xs := (A w3)) rfl (am_rlt hw3) (hp_row hw3) (fun v4 => ?_)
      refine am_J.go 3 rfl ?_
      refine am_J.callz (v := fun r5 => r5) (h' := fun r5 => hp A I x) rfl rfl rfl (fun r5 hw => (t_X11_has (h := hp A I x) a2 s2 hw)) (fun r5 hr5 => ?_)
      refine am_J.join (β := Int32) (cj := fun j7 => (64, [some (.ref 73), some (.int a1), some (.int a2), some (.int a3), some (.int j7), some (.int s2), none], [], hp A I x)) ?_ ?_
      · refine am_J.eq rfl ?_ ?_
        · refine am_J.go (cf' := (64, [some (.ref 73), some (.int a1), some (.int a2), some (.int a3), some (.int s1), some (.int s2), some (.int v4)], [], hp A I x)) 0 rfl ?_
          exact am_J.leaf (fun k => am_Ev.weak (L' := [some (.ref 73), some (.int a1), some (.int a2), some (.int a3), some (.int s1), some (.int s2), none]) (am_Lle.k (am_Lle.k (am_Lle.k (am_Lle.k (am_Lle.k (am_Lle.k (am_Lle.o am_Lle.nil))))))) k)
        · refine am_J.go 2 rfl ?_
          refine am_J.eq rfl ?_ ?_
          · refine am_J.go (cf' := (64, [some (.ref 73), some (.int a1), some (.int a2), some (.int a3), some (.int s1), some (.int s2), some (.int v4)], [], hp A I x)) 0 rfl ?_
            exact am_J.leaf (fun k => am_Ev.weak (L' := [some (.ref 73), some (.int a1), some (.int a2), some (.int a3), some (.int s1), some (.int s2), none]) (am_Lle.k (am_Lle.k (am_Lle.k (am_Lle.k (am_Lle.k (am_Lle.k (am_Lle.o am_Lle.nil))))))) k)
          · refine am_J.go 7 rfl ?_
            refine am_J.ial (xs := (A 24)) rfl (Nat.le_of_ble_eq_true rfl) rfl (fun v6 => ?_)
            refine am_J.gt rfl ?_ ?_
            · refine am_J.go (cf' := (64, [some (.ref 73), some (.int a1), some (.int a2), some (.int a3), some (.int s1), some (.int s2), some (.int v4)], [], hp A I x)) 0 rfl ?_
              exact am_J.leaf (fun k => am_Ev.weak (L' := [some (.ref 73), some (.int a1), some (.int a2), some (.int a3), some (.int s1), some (.int s2), none]) (am_Lle.k (am_Lle.k (am_Lle.k (am_Lle.k (am_Lle.k (am_Lle.k (am_Lle.o am_Lle.nil))))))) k)
            · refine am_J.go (cf' := (64, [some (.ref 73), some (.int a1), some (.int a2), some (.int a3), some (.int (s1 + 1)), some (.int s2), some (.int v4)], [], hp A I x)) 1 rfl ?_
              exact am_J.leaf (fun k => am_Ev.weak (L' := [some (.ref 73), some (.int a1), some (.int a2), some (.int a3), some (.int (s1 + 1)), some (.int s2), none]) (am_Lle.k (am_Lle.k (am_Lle.k (am_Lle.k (am_Lle.k (am_Lle.k (am_Lle.o am_Lle.nil))))))) k)
      · rintro j7
        refine am_J.go (cf' := (6, [some (.ref 73), some (.int a1), some (.int a2), some (.int a3), some (.int j7), some (.int (s2 + 1)), none], [], hp A I x)) 2 rfl ?_
        exact am_J.leaf (fun k => am_Ev.weak (L' := [some (.ref 73), some (.int a1), some (.int a2), some (.int a3), some (.int j7), some (.int (s2 + 1)), none]) (am_Lle.k (am_Lle.k (am_Lle.k (am_Lle.k (am_Lle.k (am_Lle.k (am_Lle.o am_Lle.nil))))))) k)
  · rintro e8
    refine (?_ : am_J (am_ro xs) 1 mc_X4_mayBeWon r (70, [none, none, none, none, some (.int e8), none, none], [], hp A I x) _ _)
    refine am_J.go 1 rfl ?_
    exact am_J.ret rfl (fun k => k)

def f_X5_joined (a1 : Int32) (a2 : Int32) (a3 : Int32) : Option (Int32) :=
  (if a1 = (-15) then
    some (a2 * a3)
  else
  (if a1 = (-14) then
    some (a2 - a3)
  else
  (if a1 = (-13) then
    some (a2 + a3)
  else
  (if a1 = (-12) then
    (if a2 = a3 then
      some 1
    else
      some 0)
  else
  (if a1 = (-11) then
    (if a3 ≤ a2 then
      some 0
    else
      some 1)
  else
  (if a1 = (-10) then
    (if a2 = 0 then
      some 0
    else
      (if a3 = 0 then
        some 0
      else
        some 1))
  else
  (if a1 = (-9) then
    (if a2 = 0 then
      (if a3 = 0 then
        some 0
      else
        some 1)
    else
      some 1)
  else
  some 0)))))))
set_option maxRecDepth 100000 in
set_option maxHeartbeats 4000000 in
theorem t_X5_joined {xs : List Int32} {h : am_H} (a1 : Int32) (a2 : Int32) (a3 : Int32) {z : Int32} (hz : f_X5_joined a1 a2 a3 = some z) : am_Rt (am_ro xs) 1 ix_X5_joined [.int a1, .int a2, .int a3] h (some (.int z), h) := by
  refine am_Rt.J (k := ix_X5_joined) (M := mc_X5_joined) (nL := 3) (d := 0) (as := [.int a1, .int a2, .int a3]) (res := fun z => (some (.int z), h)) rfl (Nat.le_of_ble_eq_true rfl) (fun r => ?_) hz
  unfold f_X5_joined
  refine am_J.go 1 rfl ?_
  refine am_J.sw (c := (-15)) (fun v => (1, [some (.int a1), some (.int a2), some (.int a3)], [.int v], h)) ?_ (fun hs0 => ?_)
  · refine am_J.go 1 rfl ?_
    refine am_J.go 3 rfl ?_
    exact am_J.ret rfl (fun k => k)
  refine am_J.sw (c := (-14)) (fun v => (1, [some (.int a1), some (.int a2), some (.int a3)], [.int v], h)) ?_ (fun hs1 => ?_)
  · refine am_J.go 1 rfl ?_
    refine am_J.go 3 rfl ?_
    exact am_J.ret rfl (fun k => k)
  refine am_J.sw (c := (-13)) (fun v => (1, [some (.int a1), some (.int a2), some (.int a3)], [.int v], h)) ?_ (fun hs2 => ?_)
  · refine am_J.go 1 rfl ?_
    refine am_J.go 3 rfl ?_
    exact am_J.ret rfl (fun k => k)
  refine am_J.sw (c := (-12)) (fun v => (1, [some (.int a1), some (.int a2), some (.int a3)], [.int v], h)) ?_ (fun hs3 => ?_)
  · refine am_J.go 1 rfl ?_
    refine am_J.go 2 rfl ?_
    refine am_J.ne rfl ?_ ?_
    · refine am_J.go 2 rfl ?_
      exact am_J.ret rfl (fun k => k)
    · refine am_J.go 1 rfl ?_
      exact am_J.ret rfl (fun k => k)
  refine am_J.sw (c := (-11)) (fun v => (1, [some (.int a1), some (.int a2), some (.int a3)], [.int v], h)) ?_ (fun hs4 => ?_)
  · refine am_J.go 1 rfl ?_
    refine am_J.go 2 rfl ?_
    refine am_J.ge rfl ?_ ?_
    · refine am_J.go 1 rfl ?_
      exact am_J.ret rfl (fun k => k)
    · refine am_J.go 2 rfl ?_
      exact am_J.ret rfl (fun k => k)
  refine am_J.sw (c := (-10)) (fun v => (1, [some (.int a1), some (.int a2), some (.int a3)], [.int v], h)) ?_ (fun hs5 => ?_)
  · refine am_J.go 1 rfl ?_
    refine am_J.go 1 rfl ?_
    refine am_J.eq rfl ?_ ?_
    · refine am_J.go 1 rfl ?_
      exact am_J.ret rfl (fun k => k)
    · refine am_J.go 1 rfl ?_
      refine am_J.eq rfl ?_ ?_
      · refine am_J.go 1 rfl ?_
        exact am_J.ret rfl (fun k => k)
      · refine am_J.go 2 rfl ?_
        exact am_J.ret rfl (fun k => k)
  refine am_J.sw (c := (-9)) (fun v => (1, [some (.int a1), some (.int a2), some (.int a3)], [.int v], h)) ?_ (fun hs6 => ?_)
  · refine am_J.go 1 rfl ?_
    refine am_J.go 1 rfl ?_
    refine am_J.ne rfl ?_ ?_
    · refine am_J.go 1 rfl ?_
      refine am_J.eq rfl ?_ ?_
      · refine am_J.go 1 rfl ?_
        exact am_J.ret rfl (fun k => k)
      · refine am_J.go 2 rfl ?_
        exact am_J.ret rfl (fun k => k)
    · refine am_J.go 2 rfl ?_
      exact am_J.ret rfl (fun k => k)
  refine am_J.swd rfl (am_out (-15) (-9) (fun c h1 h2 q => ?_)) rfl ?_
  · rcases (show c = -15 ∨ c = -14 ∨ c = -13 ∨ c = -12 ∨ c = -11 ∨ c = -10 ∨ c = -9 by omega) with rfl | rfl | rfl | rfl | rfl | rfl | rfl
    · exact hs0 (Int32.toInt_inj.mp (q.trans (by decide)))
    · exact hs1 (Int32.toInt_inj.mp (q.trans (by decide)))
    · exact hs2 (Int32.toInt_inj.mp (q.trans (by decide)))
    · exact hs3 (Int32.toInt_inj.mp (q.trans (by decide)))
    · exact hs4 (Int32.toInt_inj.mp (q.trans (by decide)))
    · exact hs5 (Int32.toInt_inj.mp (q.trans (by decide)))
    · exact hs6 (Int32.toInt_inj.mp (q.trans (by decide)))
  · refine am_J.go 1 rfl ?_
    exact am_J.ret rfl (fun k => k)

def f_X6_addTurn (A : Nat → List Int32) (I : Nat → Int32) (a1 : Int32) (a2 : Int32) (a3 : Int32) : Option (Int32 × (List Int32) × (List Int32) × (List Int32) × Int32) :=
  ((am_up (A 20) (I 69) a1).bind fun y1 =>
  ((am_up (A 21) (I 69) a2).bind fun y2 =>
  ((am_up (A 22) (I 69) a3).bind fun y3 =>
  some ((I 69), y1, y2, y3, ((I 69) + 1)))))
set_option maxRecDepth 100000 in
set_option maxHeartbeats 4000000 in
theorem t_X6_addTurn {xs : List Int32} (A : Nat → List Int32) (I : Nat → Int32) (x : am_X) (a1 : Int32) (a2 : Int32) (a3 : Int32) {z : Int32 × (List Int32) × (List Int32) × (List Int32) × Int32} (hz : f_X6_addTurn A I a1 a2 a3 = some z) : am_Rt (am_ro xs) 1 ix_X6_addTurn [.ref 1, .int a1, .int a2, .int a3] (hp A I x) (some (.int z.1), hp (up (up (up A 20 z.2.1) 21 z.2.2.1) 22 z.2.2.2.1) (up I 69 z.2.2.2.2) x) := by
  refine am_Rt.J (k := ix_X6_addTurn) (M := mc_X6_addTurn) (nL := 4) (d := 0) (as := [.ref 1, .int a1, .int a2, .int a3]) (res := fun z => (some (.int z.1), hp (up (up (up A 20 z.2.1) 21 z.2.2.1) 22 z.2.2.2.1) (up I 69 z.2.2.2.2) x)) rfl (Nat.le_of_ble_eq_true rfl) (fun r => ?_) hz
  unfold f_X6_addTurn
  refine am_J.go 5 rfl ?_
  refine am_J.ias (xs := (A 20)) (h' := fun y1 => hp (up A 20 y1) I x) rfl rfl (fun _ => rfl) (fun y1 => ?_)
  refine am_J.go 5 rfl ?_
  refine am_J.ias (xs := (A 21)) (h' := fun y2 => hp (up (up A 20 y1) 21 y2) I x) rfl rfl (fun _ => rfl) (fun y2 => ?_)
  refine am_J.go 5 rfl ?_
  refine am_J.ias (xs := (A 22)) (h' := fun y3 => hp (up (up (up A 20 y1) 21 y2) 22 y3) I x) rfl rfl (fun _ => rfl) (fun y3 => ?_)
  refine am_J.go 7 rfl ?_
  exact am_J.ret rfl (fun k => k)

def f_X6_call_l1 (A : Nat → List Int32) (I : Nat → Int32) (a1 : Int32) (a2 : Int32) (a3 : Int32) : (Int32 × Int32 × Int32 × Int32) → Option ((Int32 × Int32 × Int32 × Int32) ⊕ (Int32)) := fun q => match q with
    | (s1, s2, s3, s4) =>
    (if 256 ≤ s4 then
      some (.inr s1)
    else
      ((f_J6_bitCount_0f7a4 s4).bind fun r5 =>
      (((if (s4 &&& (a1 ^^^ (-1))) = 0 then
          (if r5 ≤ s2 then
            ((f_X11_sumOver (A 23) s4).bind fun r6 =>
            ((f_X11_sumOver (A 23) (s4 &&& a2)).bind fun r7 =>
            (((if r6 < a3 then
                some 0
              else
                (if (if (r6 - r7) < r7 then (r6 - r7) else r7) < (a3 / 3) then
                  some 0
                else
                  some 1)) : Option (Int32)).bind (fun j8 =>
            (if j8 = 0 then
              some (s1, s2, s3)
            else
              (if r5 < s2 then
                some (s4, r5, r6)
              else
                (if r6 ≤ s3 then
                  some (s1, s2, s3)
                else
                  some (s4, r5, r6))))))))
          else
            some (s1, s2, s3))
        else
          some (s1, s2, s3)) : Option (Int32 × Int32 × Int32)).bind (fun q => match q with
      | (j9, j10, j11) =>
      some (.inl (j9, j10, j11, (s4 + 1)))))))
def f_X6_call (A : Nat → List Int32) (I : Nat → Int32) (a1 : Int32) (a2 : Int32) (a3 : Int32) : Option (Int32) :=
  ((wl (f_X6_call_l1 A I a1 a2 a3) 100000 ((-1), 9, 0, 1)).bind (fun e12 =>
  some e12))
set_option maxRecDepth 100000 in
set_option maxHeartbeats 4000000 in
theorem t_X6_call {xs : List Int32} (A : Nat → List Int32) (I : Nat → Int32) (x : am_X) (a1 : Int32) (a2 : Int32) (a3 : Int32) {z : Int32} (hz : f_X6_call A I a1 a2 a3 = some z) : am_Rt (am_ro xs) 3 ix_X6_call [.ref 1, .int a1, .int a2, .int a3] (hp A I x) (some (.int z), hp A I x) := by
  refine am_Rt.J (k := ix_X6_call) (M := mc_X6_call) (nL := 12) (d := 2) (as := [.ref 1, .int a1, .int a2, .int a3]) (res := fun z => (some (.int z), hp A I x)) rfl (Nat.le_of_ble_eq_true rfl) (fun r => ?_) hz
  unfold f_X6_call
  refine am_J.go (cf' := (13, [some (.ref 1), some (.int a1), some (.int a2), some (.int a3), some (.int (-1)), some (.int 9), some (.int 0), some (.int 1), none, none, none, none], [], hp A I x)) 8 rfl ?_
  refine am_J.weak (L' := [some (.ref 1), some (.int a1), some (.int a2), some (.int a3), some (.int (-1)), some (.int 9), some (.int 0), some (.int 1), none, none, none, none]) (am_Lle.k (am_Lle.k (am_Lle.k (am_Lle.k (am_Lle.k (am_Lle.k (am_Lle.k (am_Lle.k (am_Lle.o (am_Lle.o (am_Lle.o (am_Lle.o am_Lle.nil)))))))))))) ?_
  refine am_J.loop (cl := fun q => match q with | (s1, s2, s3, s4) => (13, [some (.ref 1), some (.int a1), some (.int a2), some (.int a3), some (.int s1), some (.int s2), some (.int s3), some (.int s4), none, none, none, none], [], hp A I x)) (GX := fun e12 => am_Ev (am_ro xs) 2 mc_X6_call (137, [none, none, none, none, some (.int e12), none, none, none, none, none, none, none], [], hp A I x) r) ?_ ?_
  · rintro ⟨s1, s2, s3, s4⟩
    unfold f_X6_call_l1
    refine am_J.go 2 rfl ?_
    refine am_J.ge rfl ?_ ?_
    · refine am_J.go (cf' := (137, [some (.ref 1), some (.int a1), some (.int a2), some (.int a3), some (.int s1), some (.int s2), some (.int s3), some (.int s4), none, none, none, none], [], hp A I x)) 0 rfl ?_
      exact am_J.leaf (fun k => am_Ev.weak (L' := [none, none, none, none, some (.int s1), none, none, none, none, none, none, none]) (am_Lle.o (am_Lle.o (am_Lle.o (am_Lle.o (am_Lle.k (am_Lle.o (am_Lle.o (am_Lle.o (am_Lle.o (am_Lle.o (am_Lle.o (am_Lle.o am_Lle.nil)))))))))))) k)
    · refine am_J.go 1 rfl ?_
      refine am_J.call (v := fun r5 => .int r5) (h' := fun r5 => hp A I x) rfl (fun r5 hw => (t_J6_bitCount_0f7a4 (h := hp A I x) s4 hw).mono (Nat.le_of_ble_eq_true rfl)) (fun r5 => ?_)
      refine am_J.go 6 rfl ?_
      refine am_J.join (β := Int32 × Int32 × Int32) (cj := fun q => match q with | (j9, j10, j11) => (131, [some (.ref 1), some (.int a1), some (.int a2), some (.int a3), some (.int j9), some (.int j10), some (.int j11), some (.int s4), none, none, none, none], [], hp A I x)) ?_ ?_
      · refine am_J.ne rfl ?_ ?_
        · refine am_J.go 2 rfl ?_
          refine am_J.le rfl ?_ ?_
          · refine am_J.go 3 rfl ?_
            refine am_J.call (v := fun r6 => .int r6) (h' := fun r6 => hp A I x) rfl (fun r6 hw => (t_X11_sumOver (h := hp A I x) (a := 23) (ys := (A 23)) s4 (Nat.le_of_ble_eq_true rfl) rfl hw)) (fun r6 => ?_)
            refine am_J.go 6 rfl ?_
            refine am_J.call (v := fun r7 => .int r7) (h' := fun r7 => hp A I x) rfl (fun r7 hw => (t_X11_sumOver (h := hp A I x) (a := 23) (ys := (A 23)) (s4 &&& a2) (Nat.le_of_ble_eq_true rfl) rfl hw)) (fun r7 => ?_)
            refine am_J.go 3 rfl ?_
            refine am_J.join (β := Int32) (cj := fun j8 => (98, [some (.ref 1), some (.int a1), some (.int a2), some (.int a3), some (.int s1), some (.int s2), some (.int s3), some (.int s4), some (.int r5), some (.int r6), none, none], [.int j8], hp A I x)) ?_ ?_
            · refine am_J.lt rfl ?_ ?_
              · refine am_J.go (cf' := (98, [some (.ref 1), some (.int a1), some (.int a2), some (.int a3), some (.int s1), some (.int s2), some (.int s3), some (.int s4), some (.int r5), some (.int r6), some (.int r7), none], [.int 0], hp A I x)) 1 rfl ?_
                exact am_J.leaf (fun k => am_Ev.weak (L' := [some (.ref 1), some (.int a1), some (.int a2), some (.int a3), some (.int s1), some (.int s2), some (.int s3), some (.int s4), some (.int r5), some (.int r6), none, none]) (am_Lle.k (am_Lle.k (am_Lle.k (am_Lle.k (am_Lle.k (am_Lle.k (am_Lle.k (am_Lle.k (am_Lle.k (am_Lle.k (am_Lle.o (am_Lle.o am_Lle.nil)))))))))))) k)
              · refine am_J.go 8 rfl ?_
                refine am_J.lt rfl ?_ ?_
                · refine am_J.go (cf' := (98, [some (.ref 1), some (.int a1), some (.int a2), some (.int a3), some (.int s1), some (.int s2), some (.int s3), some (.int s4), some (.int r5), some (.int r6), some (.int r7), none], [.int 0], hp A I x)) 1 rfl ?_
                  exact am_J.leaf (fun k => am_Ev.weak (L' := [some (.ref 1), some (.int a1), some (.int a2), some (.int a3), some (.int s1), some (.int s2), some (.int s3), some (.int s4), some (.int r5), some (.int r6), none, none]) (am_Lle.k (am_Lle.k (am_Lle.k (am_Lle.k (am_Lle.k (am_Lle.k (am_Lle.k (am_Lle.k (am_Lle.k (am_Lle.k (am_Lle.o (am_Lle.o am_Lle.nil)))))))))))) k)
                · refine am_J.go (cf' := (98, [some (.ref 1), some (.int a1), some (.int a2), some (.int a3), some (.int s1), some (.int s2), some (.int s3), some (.int s4), some (.int r5), some (.int r6), some (.int r7), none], [.int 1], hp A I x)) 2 rfl ?_
                  exact am_J.leaf (fun k => am_Ev.weak (L' := [some (.ref 1), some (.int a1), some (.int a2), some (.int a3), some (.int s1), some (.int s2), some (.int s3), some (.int s4), some (.int r5), some (.int r6), none, none]) (am_Lle.k (am_Lle.k (am_Lle.k (am_Lle.k (am_Lle.k (am_Lle.k (am_Lle.k (am_Lle.k (am_Lle.k (am_Lle.k (am_Lle.o (am_Lle.o am_Lle.nil)))))))))))) k)
            · rintro j8
              refine am_J.go 2 rfl ?_
              refine am_J.eq rfl ?_ ?_
              · refine am_J.go (cf' := (131, [some (.ref 1), some (.int a1), some (.int a2), some (.int a3), some (.int s1), some (.int s2), some (.int s3), some (.int s4), some (.int r5), some (.int r6), none, some (.int j8)], [], hp A I x)) 0 rfl ?_
                exact am_J.leaf (fun k => am_Ev.weak (L' := [some (.ref 1), some (.int a1), some (.int a2), some (.int a3), some (.int s1), some (.int s2), some (.int s3), some (.int s4), none, none, none, none]) (am_Lle.k (am_Lle.k (am_Lle.k (am_Lle.k (am_Lle.k (am_Lle.k (am_Lle.k (am_Lle.k (am_Lle.o (am_Lle.o (am_Lle.o (am_Lle.o am_Lle.nil)))))))))))) k)
              · refine am_J.go 2 rfl ?_
                refine am_J.lt rfl ?_ ?_
                · refine am_J.go (cf' := (131, [some (.ref 1), some (.int a1), some (.int a2), some (.int a3), some (.int s4), some (.int r5), some (.int r6), some (.int s4), some (.int r5), some (.int r6), none, some (.int j8)], [], hp A I x)) 6 rfl ?_
                  exact am_J.leaf (fun k => am_Ev.weak (L' := [some (.ref 1), some (.int a1), some (.int a2), some (.int a3), some (.int s4), some (.int r5), some (.int r6), some (.int s4), none, none, none, none]) (am_Lle.k (am_Lle.k (am_Lle.k (am_Lle.k (am_Lle.k (am_Lle.k (am_Lle.k (am_Lle.k (am_Lle.o (am_Lle.o (am_Lle.o (am_Lle.o am_Lle.nil)))))))))))) k)
                · refine am_J.go 2 rfl ?_
                  refine am_J.le rfl ?_ ?_
                  · refine am_J.go (cf' := (131, [some (.ref 1), some (.int a1), some (.int a2), some (.int a3), some (.int s1), some (.int s2), some (.int s3), some (.int s4), some (.int r5), some (.int r6), none, some (.int j8)], [], hp A I x)) 0 rfl ?_
                    exact am_J.leaf (fun k => am_Ev.weak (L' := [some (.ref 1), some (.int a1), some (.int a2), some (.int a3), some (.int s1), some (.int s2), some (.int s3), some (.int s4), none, none, none, none]) (am_Lle.k (am_Lle.k (am_Lle.k (am_Lle.k (am_Lle.k (am_Lle.k (am_Lle.k (am_Lle.k (am_Lle.o (am_Lle.o (am_Lle.o (am_Lle.o am_Lle.nil)))))))))))) k)
                  · refine am_J.go (cf' := (131, [some (.ref 1), some (.int a1), some (.int a2), some (.int a3), some (.int s4), some (.int r5), some (.int r6), some (.int s4), some (.int r5), some (.int r6), none, some (.int j8)], [], hp A I x)) 6 rfl ?_
                    exact am_J.leaf (fun k => am_Ev.weak (L' := [some (.ref 1), some (.int a1), some (.int a2), some (.int a3), some (.int s4), some (.int r5), some (.int r6), some (.int s4), none, none, none, none]) (am_Lle.k (am_Lle.k (am_Lle.k (am_Lle.k (am_Lle.k (am_Lle.k (am_Lle.k (am_Lle.k (am_Lle.o (am_Lle.o (am_Lle.o (am_Lle.o am_Lle.nil)))))))))))) k)
          · refine am_J.go (cf' := (131, [some (.ref 1), some (.int a1), some (.int a2), some (.int a3), some (.int s1), some (.int s2), some (.int s3), some (.int s4), some (.int r5), none, none, none], [], hp A I x)) 1 rfl ?_
            exact am_J.leaf (fun k => am_Ev.weak (L' := [some (.ref 1), some (.int a1), some (.int a2), some (.int a3), some (.int s1), some (.int s2), some (.int s3), some (.int s4), none, none, none, none]) (am_Lle.k (am_Lle.k (am_Lle.k (am_Lle.k (am_Lle.k (am_Lle.k (am_Lle.k (am_Lle.k (am_Lle.o (am_Lle.o (am_Lle.o (am_Lle.o am_Lle.nil)))))))))))) k)
        · refine am_J.go (cf' := (131, [some (.ref 1), some (.int a1), some (.int a2), some (.int a3), some (.int s1), some (.int s2), some (.int s3), some (.int s4), some (.int r5), none, none, none], [], hp A I x)) 0 rfl ?_
          exact am_J.leaf (fun k => am_Ev.weak (L' := [some (.ref 1), some (.int a1), some (.int a2), some (.int a3), some (.int s1), some (.int s2), some (.int s3), some (.int s4), none, none, none, none]) (am_Lle.k (am_Lle.k (am_Lle.k (am_Lle.k (am_Lle.k (am_Lle.k (am_Lle.k (am_Lle.k (am_Lle.o (am_Lle.o (am_Lle.o (am_Lle.o am_Lle.nil)))))))))))) k)
      · rintro ⟨j9, j10, j11⟩
        refine am_J.go (cf' := (13, [some (.ref 1), some (.int a1), some (.int a2), some (.int a3), some (.int j9), some (.int j10), some (.int j11), some (.int (s4 + 1)), none, none, none, none], [], hp A I x)) 2 rfl ?_
        exact am_J.leaf (fun k => am_Ev.weak (L' := [some (.ref 1), some (.int a1), some (.int a2), some (.int a3), some (.int j9), some (.int j10), some (.int j11), some (.int (s4 + 1)), none, none, none, none]) (am_Lle.k (am_Lle.k (am_Lle.k (am_Lle.k (am_Lle.k (am_Lle.k (am_Lle.k (am_Lle.k (am_Lle.o (am_Lle.o (am_Lle.o (am_Lle.o am_Lle.nil)))))))))))) k)
  · rintro e12
    refine (?_ : am_J (am_ro xs) 2 mc_X6_call r (137, [none, none, none, none, some (.int e12), none, none, none, none, none, none, none], [], hp A I x) _ _)
    refine am_J.go 1 rfl ?_
    exact am_J.ret rfl (fun k => k)

def f_X6_measure_l1 (A : Nat → List Int32) (I : Nat → Int32) : (Int32 × (Nat → List Int32)) → Option ((Int32 × (Nat → List Int32)) ⊕ ((Nat → List Int32))) := fun q => match q with
    | (s1, s2) =>
    (if 8 ≤ s1 then
      some (.inr s2)
    else
      ((am_row 3 s1).bind fun w3 =>
      ((am_row 12 s1).bind fun w4 =>
      ((am_acq (s2 w3) (s2 w4) 0 0 8).bind fun y5 =>
      ((am_row 12 s1).bind fun w6 =>
      ((am_up ((up s2 w4 y5) w6) s1 0).bind fun y7 =>
      some (.inl ((s1 + 1), (up (up s2 w4 y5) w6 y7)))))))))
def f_X6_measure_l4 (A : Nat → List Int32) (I : Nat → Int32) (s9 : Int32) (s11 : Int32) : (Int32 × (Nat → List Int32)) → Option ((Int32 × (Nat → List Int32)) ⊕ ((Nat → List Int32))) := fun q => match q with
    | (s13, s14) =>
    (if 8 ≤ s13 then
      some (.inr s14)
    else
      ((am_row 12 s11).bind fun w15 =>
      ((am_row 12 s11).bind fun w16 =>
      ((am_at (s14 w16) s13).bind fun v17 =>
      ((am_row 12 s11).bind fun w18 =>
      ((am_at (s14 w18) s9).bind fun v19 =>
      ((am_row 12 s9).bind fun w20 =>
      ((am_at (s14 w20) s13).bind fun v21 =>
      ((am_up (s14 w15) s13 (if (v19 + v21) < v17 then (v19 + v21) else v17)).bind fun y22 =>
      some (.inl ((s13 + 1), (up s14 w15 y22))))))))))))
def f_X6_measure_l3 (A : Nat → List Int32) (I : Nat → Int32) (s9 : Int32) : (Int32 × (Nat → List Int32)) → Option ((Int32 × (Nat → List Int32)) ⊕ ((Nat → List Int32))) := fun q => match q with
    | (s11, s12) =>
    (if 8 ≤ s11 then
      some (.inr s12)
    else
      ((wl (f_X6_measure_l4 s12 I s9 s11) 100000 (0, s12)).bind (fun e23 =>
      some (.inl ((s11 + 1), e23)))))
def f_X6_measure_l2 (A : Nat → List Int32) (I : Nat → Int32) : (Int32 × (Nat → List Int32)) → Option ((Int32 × (Nat → List Int32)) ⊕ ((Nat → List Int32))) := fun q => match q with
    | (s9, s10) =>
    (if 8 ≤ s9 then
      some (.inr s10)
    else
      ((wl (f_X6_measure_l3 s10 I s9) 100000 (0, s10)).bind (fun e24 =>
      some (.inl ((s9 + 1), e24)))))
def f_X6_measure (A : Nat → List Int32) (I : Nat → Int32) : Option ((Nat → List Int32)) :=
  ((wl (f_X6_measure_l1 A I) 100000 (0, A)).bind (fun e8 =>
  ((wl (f_X6_measure_l2 e8 I) 100000 (0, e8)).bind (fun e25 =>
  some e25))))
set_option maxRecDepth 100000 in
set_option maxHeartbeats 4000000 in
theorem t_X6_measure {xs : List Int32} (A : Nat → List Int32) (I : Nat → Int32) (x : am_X) {z : (Nat → List Int32)} (hz : f_X6_measure A I = some z) : am_Rt (am_ro xs) 1 ix_X6_measure [.ref 1] (hp A I x) (none, hp z I x) := by
  refine am_Rt.J (k := ix_X6_measure) (M := mc_X6_measure) (nL := 4) (d := 0) (as := [.ref 1]) (res := fun z => (none, hp z I x)) rfl (Nat.le_of_ble_eq_true rfl) (fun r => ?_) hz
  unfold f_X6_measure
  refine am_J.go (cf' := (2, [some (.ref 1), some (.int 0), none, none], [], hp A I x)) 2 rfl ?_
  refine am_J.weak (L' := [some (.ref 1), some (.int 0), none, none]) (am_Lle.k (am_Lle.k (am_Lle.o (am_Lle.o am_Lle.nil)))) ?_
  refine am_J.loop (cl := fun q => match q with | (s1, s2) => (2, [some (.ref 1), some (.int s1), none, none], [], hp s2 I x)) (GX := fun e8 => am_Ev (am_ro xs) 0 mc_X6_measure (42, [some (.ref 1), none, none, none], [], hp e8 I x) r) ?_ ?_
  · rintro ⟨s1, s2⟩
    unfold f_X6_measure_l1
    refine am_J.go 2 rfl ?_
    refine am_J.ge rfl ?_ ?_
    · refine am_J.go (cf' := (42, [some (.ref 1), some (.int s1), none, none], [], hp s2 I x)) 0 rfl ?_
      exact am_J.leaf (fun k => am_Ev.weak (L' := [some (.ref 1), none, none, none]) (am_Lle.k (am_Lle.o (am_Lle.o (am_Lle.o am_Lle.nil)))) k)
    · refine am_J.go 3 rfl ?_
      refine am_J.row (base := 3) rfl rfl (by decide) (fun w3 hw3 => ?_)
      refine am_J.go 4 rfl ?_
      refine am_J.row (base := 12) rfl rfl (by decide) (fun w4 hw4 => ?_)
      refine am_J.go 2 rfl ?_
      refine am_J.acp (xs := (s2 w3)) (ys := (s2 w4)) (h' := fun y5 => hp (up s2 w4 y5) I x) rfl (hp_row hw3) (hp_row hw4) (by decide) (fun _ => hp_row_set hw4) (fun y5 => ?_)
      refine am_J.go 3 rfl ?_
      refine am_J.row (base := 12) rfl rfl (by decide) (fun w6 hw6 => ?_)
      refine am_J.go 2 rfl ?_
      refine am_J.ias (xs := ((up s2 w4 y5) w6)) (h' := fun y7 => hp (up (up s2 w4 y5) w6 y7) I x) rfl (hp_row hw6) (fun _ => hp_row_set hw6) (fun y7 => ?_)
      refine am_J.go (cf' := (2, [some (.ref 1), some (.int (s1 + 1)), none, none], [], hp (up (up s2 w4 y5) w6 y7) I x)) 2 rfl ?_
      exact am_J.leaf (fun k => am_Ev.weak (L' := [some (.ref 1), some (.int (s1 + 1)), none, none]) (am_Lle.k (am_Lle.k (am_Lle.o (am_Lle.o am_Lle.nil)))) k)
  · rintro e8
    refine (?_ : am_J (am_ro xs) 0 mc_X6_measure r (42, [some (.ref 1), none, none, none], [], hp e8 I x) _ _)
    refine am_J.go (cf' := (44, [some (.ref 1), some (.int 0), none, none], [], hp e8 I x)) 2 rfl ?_
    refine am_J.weak (L' := [some (.ref 1), some (.int 0), none, none]) (am_Lle.k (am_Lle.k (am_Lle.o (am_Lle.o am_Lle.nil)))) ?_
    refine am_J.loop (cl := fun q => match q with | (s9, s10) => (44, [some (.ref 1), some (.int s9), none, none], [], hp s10 I x)) (GX := fun e25 => am_Ev (am_ro xs) 0 mc_X6_measure (120, [none, none, none, none], [], hp e25 I x) r) ?_ ?_
    · rintro ⟨s9, s10⟩
      unfold f_X6_measure_l2
      refine am_J.go 2 rfl ?_
      refine am_J.ge rfl ?_ ?_
      · refine am_J.go (cf' := (120, [some (.ref 1), some (.int s9), none, none], [], hp s10 I x)) 0 rfl ?_
        exact am_J.leaf (fun k => am_Ev.weak (L' := [none, none, none, none]) (am_Lle.o (am_Lle.o (am_Lle.o (am_Lle.o am_Lle.nil)))) k)
      · refine am_J.go (cf' := (52, [some (.ref 1), some (.int s9), some (.int 0), none], [], hp s10 I x)) 2 rfl ?_
        refine am_J.weak (L' := [some (.ref 1), some (.int s9), some (.int 0), none]) (am_Lle.k (am_Lle.k (am_Lle.k (am_Lle.o am_Lle.nil)))) ?_
        refine am_J.loop (cl := fun q => match q with | (s11, s12) => (52, [some (.ref 1), some (.int s9), some (.int s11), none], [], hp s12 I x)) (GX := fun e24 => am_Ev (am_ro xs) 0 mc_X6_measure (114, [some (.ref 1), some (.int s9), none, none], [], hp e24 I x) r) ?_ ?_
        · rintro ⟨s11, s12⟩
          unfold f_X6_measure_l3
          refine am_J.go 2 rfl ?_
          refine am_J.ge rfl ?_ ?_
          · refine am_J.go (cf' := (114, [some (.ref 1), some (.int s9), some (.int s11), none], [], hp s12 I x)) 0 rfl ?_
            exact am_J.leaf (fun k => am_Ev.weak (L' := [some (.ref 1), some (.int s9), none, none]) (am_Lle.k (am_Lle.k (am_Lle.o (am_Lle.o am_Lle.nil)))) k)
          · refine am_J.go (cf' := (60, [some (.ref 1), some (.int s9), some (.int s11), some (.int 0)], [], hp s12 I x)) 2 rfl ?_
            refine am_J.weak (L' := [some (.ref 1), some (.int s9), some (.int s11), some (.int 0)]) (am_Lle.k (am_Lle.k (am_Lle.k (am_Lle.k am_Lle.nil)))) ?_
            refine am_J.loop (cl := fun q => match q with | (s13, s14) => (60, [some (.ref 1), some (.int s9), some (.int s11), some (.int s13)], [], hp s14 I x)) (GX := fun e23 => am_Ev (am_ro xs) 0 mc_X6_measure (108, [some (.ref 1), some (.int s9), some (.int s11), none], [], hp e23 I x) r) ?_ ?_
            · rintro ⟨s13, s14⟩
              unfold f_X6_measure_l4
              refine am_J.go 2 rfl ?_
              refine am_J.ge rfl ?_ ?_
              · refine am_J.go (cf' := (108, [some (.ref 1), some (.int s9), some (.int s11), some (.int s13)], [], hp s14 I x)) 0 rfl ?_
                exact am_J.leaf (fun k => am_Ev.weak (L' := [some (.ref 1), some (.int s9), some (.int s11), none]) (am_Lle.k (am_Lle.k (am_Lle.k (am_Lle.o am_Lle.nil)))) k)
              · refine am_J.go 3 rfl ?_
                refine am_J.row (base := 12) rfl rfl (by decide) (fun w15 hw15 => ?_)
                refine am_J.go 4 rfl ?_
                refine am_J.row (base := 12) rfl rfl (by decide) (fun w16 hw16 => ?_)
                refine am_J.go 1 rfl ?_
                refine am_J.ial (xs := (s14 w16)) rfl (am_rlt hw16) (hp_row hw16) (fun v17 => ?_)
                refine am_J.go 3 rfl ?_
                refine am_J.row (base := 12) rfl rfl (by decide) (fun w18 hw18 => ?_)
                refine am_J.go 1 rfl ?_
                refine am_J.ial (xs := (s14 w18)) rfl (am_rlt hw18) (hp_row hw18) (fun v19 => ?_)
                refine am_J.go 3 rfl ?_
                refine am_J.row (base := 12) rfl rfl (by decide) (fun w20 hw20 => ?_)
                refine am_J.go 1 rfl ?_
                refine am_J.ial (xs := (s14 w20)) rfl (am_rlt hw20) (hp_row hw20) (fun v21 => ?_)
                refine am_J.go 2 rfl ?_
                refine am_J.ias (xs := (s14 w15)) (h' := fun y22 => hp (up s14 w15 y22) I x) rfl (hp_row hw15) (fun _ => hp_row_set hw15) (fun y22 => ?_)
                refine am_J.go (cf' := (60, [some (.ref 1), some (.int s9), some (.int s11), some (.int (s13 + 1))], [], hp (up s14 w15 y22) I x)) 2 rfl ?_
                exact am_J.leaf (fun k => am_Ev.weak (L' := [some (.ref 1), some (.int s9), some (.int s11), some (.int (s13 + 1))]) (am_Lle.k (am_Lle.k (am_Lle.k (am_Lle.k am_Lle.nil)))) k)
            · rintro e23
              refine (?_ : am_J (am_ro xs) 0 mc_X6_measure r (108, [some (.ref 1), some (.int s9), some (.int s11), none], [], hp e23 I x) _ _)
              refine am_J.go (cf' := (52, [some (.ref 1), some (.int s9), some (.int (s11 + 1)), none], [], hp e23 I x)) 2 rfl ?_
              exact am_J.leaf (fun k => am_Ev.weak (L' := [some (.ref 1), some (.int s9), some (.int (s11 + 1)), none]) (am_Lle.k (am_Lle.k (am_Lle.k (am_Lle.o am_Lle.nil)))) k)
        · rintro e24
          refine (?_ : am_J (am_ro xs) 0 mc_X6_measure r (114, [some (.ref 1), some (.int s9), none, none], [], hp e24 I x) _ _)
          refine am_J.go (cf' := (44, [some (.ref 1), some (.int (s9 + 1)), none, none], [], hp e24 I x)) 2 rfl ?_
          exact am_J.leaf (fun k => am_Ev.weak (L' := [some (.ref 1), some (.int (s9 + 1)), none, none]) (am_Lle.k (am_Lle.k (am_Lle.o (am_Lle.o am_Lle.nil)))) k)
    · rintro e25
      refine (?_ : am_J (am_ro xs) 0 mc_X6_measure r (120, [none, none, none, none], [], hp e25 I x) _ _)
      exact am_J.ret rfl (fun k => k)

def f_X6_turnOn_l1 (A : Nat → List Int32) (I : Nat → Int32) (a1 : Int32) (a2 : Int32) : (Int32 × Int32) → Option ((Int32 × Int32) ⊕ (Int32)) := fun q => match q with
    | (s1, s2) =>
    (if (I 69) ≤ s2 then
      some (.inr s1)
    else
      ((am_at (A 20) s2).bind fun v3 =>
      (((if v3 = a1 then
          ((am_at (A 21) s2).bind fun v4 =>
          (if a2 < v4 then
            some 0
          else
            some 1))
        else
          some 0) : Option (Int32)).bind (fun j5 =>
      (((if j5 = 0 then
          some s1
        else
          (if s1 = (-1) then
            some s2
          else
            ((am_at (A 21) s2).bind fun v6 =>
            ((am_at (A 21) s1).bind fun v7 =>
            (if v6 < v7 then
              some s1
            else
              some s2))))) : Option (Int32)).bind (fun j8 =>
      some (.inl (j8, (s2 + 1)))))))))
def f_X6_turnOn (A : Nat → List Int32) (I : Nat → Int32) (a1 : Int32) (a2 : Int32) : Option (Int32) :=
  ((wl (f_X6_turnOn_l1 A I a1 a2) 100000 ((-1), 0)).bind (fun e9 =>
  some e9))
set_option maxRecDepth 100000 in
set_option maxHeartbeats 4000000 in
theorem t_X6_turnOn {xs : List Int32} (A : Nat → List Int32) (I : Nat → Int32) (x : am_X) (a1 : Int32) (a2 : Int32) {z : Int32} (hz : f_X6_turnOn A I a1 a2 = some z) : am_Rt (am_ro xs) 1 ix_X6_turnOn [.ref 1, .int a1, .int a2] (hp A I x) (some (.int z), hp A I x) := by
  refine am_Rt.J (k := ix_X6_turnOn) (M := mc_X6_turnOn) (nL := 6) (d := 0) (as := [.ref 1, .int a1, .int a2]) (res := fun z => (some (.int z), hp A I x)) rfl (Nat.le_of_ble_eq_true rfl) (fun r => ?_) hz
  unfold f_X6_turnOn
  refine am_J.go (cf' := (5, [some (.ref 1), some (.int a1), some (.int a2), some (.int (-1)), some (.int 0), none], [], hp A I x)) 4 rfl ?_
  refine am_J.weak (L' := [some (.ref 1), some (.int a1), some (.int a2), some (.int (-1)), some (.int 0), none]) (am_Lle.k (am_Lle.k (am_Lle.k (am_Lle.k (am_Lle.k (am_Lle.o am_Lle.nil)))))) ?_
  refine am_J.loop (cl := fun q => match q with | (s1, s2) => (5, [some (.ref 1), some (.int a1), some (.int a2), some (.int s1), some (.int s2), none], [], hp A I x)) (GX := fun e9 => am_Ev (am_ro xs) 0 mc_X6_turnOn (78, [none, none, none, some (.int e9), none, none], [], hp A I x) r) ?_ ?_
  · rintro ⟨s1, s2⟩
    unfold f_X6_turnOn_l1
    refine am_J.go 3 rfl ?_
    refine am_J.ge rfl ?_ ?_
    · refine am_J.go (cf' := (78, [some (.ref 1), some (.int a1), some (.int a2), some (.int s1), some (.int s2), none], [], hp A I x)) 0 rfl ?_
      exact am_J.leaf (fun k => am_Ev.weak (L' := [none, none, none, some (.int s1), none, none]) (am_Lle.o (am_Lle.o (am_Lle.o (am_Lle.k (am_Lle.o (am_Lle.o am_Lle.nil)))))) k)
    · refine am_J.go 3 rfl ?_
      refine am_J.ial (xs := (A 20)) rfl (Nat.le_of_ble_eq_true rfl) rfl (fun v3 => ?_)
      refine am_J.go 1 rfl ?_
      refine am_J.join (β := Int32) (cj := fun j5 => (41, [some (.ref 1), some (.int a1), some (.int a2), some (.int s1), some (.int s2), none], [.int j5], hp A I x)) ?_ ?_
      · refine am_J.ne rfl ?_ ?_
        · refine am_J.go 3 rfl ?_
          refine am_J.ial (xs := (A 21)) rfl (Nat.le_of_ble_eq_true rfl) rfl (fun v4 => ?_)
          refine am_J.go 1 rfl ?_
          refine am_J.gt rfl ?_ ?_
          · refine am_J.go (cf' := (41, [some (.ref 1), some (.int a1), some (.int a2), some (.int s1), some (.int s2), none], [.int 0], hp A I x)) 1 rfl ?_
            exact am_J.leaf (fun k => am_Ev.weak (L' := [some (.ref 1), some (.int a1), some (.int a2), some (.int s1), some (.int s2), none]) (am_Lle.k (am_Lle.k (am_Lle.k (am_Lle.k (am_Lle.k (am_Lle.o am_Lle.nil)))))) k)
          · refine am_J.go (cf' := (41, [some (.ref 1), some (.int a1), some (.int a2), some (.int s1), some (.int s2), none], [.int 1], hp A I x)) 2 rfl ?_
            exact am_J.leaf (fun k => am_Ev.weak (L' := [some (.ref 1), some (.int a1), some (.int a2), some (.int s1), some (.int s2), none]) (am_Lle.k (am_Lle.k (am_Lle.k (am_Lle.k (am_Lle.k (am_Lle.o am_Lle.nil)))))) k)
        · refine am_J.go (cf' := (41, [some (.ref 1), some (.int a1), some (.int a2), some (.int s1), some (.int s2), none], [.int 0], hp A I x)) 1 rfl ?_
          exact am_J.leaf (fun k => am_Ev.weak (L' := [some (.ref 1), some (.int a1), some (.int a2), some (.int s1), some (.int s2), none]) (am_Lle.k (am_Lle.k (am_Lle.k (am_Lle.k (am_Lle.k (am_Lle.o am_Lle.nil)))))) k)
      · rintro j5
        refine am_J.go 2 rfl ?_
        refine am_J.join (β := Int32) (cj := fun j8 => (72, [some (.ref 1), some (.int a1), some (.int a2), some (.int j8), some (.int s2), none], [], hp A I x)) ?_ ?_
        · refine am_J.eq rfl ?_ ?_
          · refine am_J.go (cf' := (72, [some (.ref 1), some (.int a1), some (.int a2), some (.int s1), some (.int s2), some (.int j5)], [], hp A I x)) 0 rfl ?_
            exact am_J.leaf (fun k => am_Ev.weak (L' := [some (.ref 1), some (.int a1), some (.int a2), some (.int s1), some (.int s2), none]) (am_Lle.k (am_Lle.k (am_Lle.k (am_Lle.k (am_Lle.k (am_Lle.o am_Lle.nil)))))) k)
          · refine am_J.go 2 rfl ?_
            refine am_J.eq rfl ?_ ?_
            · refine am_J.go (cf' := (72, [some (.ref 1), some (.int a1), some (.int a2), some (.int s2), some (.int s2), some (.int j5)], [], hp A I x)) 2 rfl ?_
              exact am_J.leaf (fun k => am_Ev.weak (L' := [some (.ref 1), some (.int a1), some (.int a2), some (.int s2), some (.int s2), none]) (am_Lle.k (am_Lle.k (am_Lle.k (am_Lle.k (am_Lle.k (am_Lle.o am_Lle.nil)))))) k)
            · refine am_J.go 3 rfl ?_
              refine am_J.ial (xs := (A 21)) rfl (Nat.le_of_ble_eq_true rfl) rfl (fun v6 => ?_)
              refine am_J.go 3 rfl ?_
              refine am_J.ial (xs := (A 21)) rfl (Nat.le_of_ble_eq_true rfl) rfl (fun v7 => ?_)
              refine am_J.lt rfl ?_ ?_
              · refine am_J.go (cf' := (72, [some (.ref 1), some (.int a1), some (.int a2), some (.int s1), some (.int s2), some (.int j5)], [], hp A I x)) 0 rfl ?_
                exact am_J.leaf (fun k => am_Ev.weak (L' := [some (.ref 1), some (.int a1), some (.int a2), some (.int s1), some (.int s2), none]) (am_Lle.k (am_Lle.k (am_Lle.k (am_Lle.k (am_Lle.k (am_Lle.o am_Lle.nil)))))) k)
              · refine am_J.go (cf' := (72, [some (.ref 1), some (.int a1), some (.int a2), some (.int s2), some (.int s2), some (.int j5)], [], hp A I x)) 2 rfl ?_
                exact am_J.leaf (fun k => am_Ev.weak (L' := [some (.ref 1), some (.int a1), some (.int a2), some (.int s2), some (.int s2), none]) (am_Lle.k (am_Lle.k (am_Lle.k (am_Lle.k (am_Lle.k (am_Lle.o am_Lle.nil)))))) k)
        · rintro j8
          refine am_J.go (cf' := (5, [some (.ref 1), some (.int a1), some (.int a2), some (.int j8), some (.int (s2 + 1)), none], [], hp A I x)) 2 rfl ?_
          exact am_J.leaf (fun k => am_Ev.weak (L' := [some (.ref 1), some (.int a1), some (.int a2), some (.int j8), some (.int (s2 + 1)), none]) (am_Lle.k (am_Lle.k (am_Lle.k (am_Lle.k (am_Lle.k (am_Lle.o am_Lle.nil)))))) k)
  · rintro e9
    refine (?_ : am_J (am_ro xs) 0 mc_X6_turnOn r (78, [none, none, none, some (.int e9), none, none], [], hp A I x) _ _)
    refine am_J.go 1 rfl ?_
    exact am_J.ret rfl (fun k => k)

def f_X6_within_l1 (A : Nat → List Int32) (I : Nat → Int32) (a1 : Int32) (a2 : Int32) : (Int32 × Int32) → Option ((Int32 × Int32) ⊕ (Int32)) := fun q => match q with
    | (s1, s2) =>
    (if 8 ≤ s2 then
      some (.inr s1)
    else
      ((am_row 12 s2).bind fun w3 =>
      ((am_at (A w3) a1).bind fun v4 =>
      (((if v4 = 999 then
          some 0
        else
          (if a2 < v4 then
            some 0
          else
            some (1 <<< (s2 &&& 31)))) : Option (Int32)).bind (fun j5 =>
      some (.inl ((s1 ||| j5), (s2 + 1))))))))
def f_X6_within (A : Nat → List Int32) (I : Nat → Int32) (a1 : Int32) (a2 : Int32) : Option (Int32) :=
  ((wl (f_X6_within_l1 A I a1 a2) 100000 (0, 0)).bind (fun e6 =>
  some e6))
set_option maxRecDepth 100000 in
set_option maxHeartbeats 4000000 in
theorem t_X6_within {xs : List Int32} (A : Nat → List Int32) (I : Nat → Int32) (x : am_X) (a1 : Int32) (a2 : Int32) {z : Int32} (hz : f_X6_within A I a1 a2 = some z) : am_Rt (am_ro xs) 1 ix_X6_within [.ref 1, .int a1, .int a2] (hp A I x) (some (.int z), hp A I x) := by
  refine am_Rt.J (k := ix_X6_within) (M := mc_X6_within) (nL := 6) (d := 0) (as := [.ref 1, .int a1, .int a2]) (res := fun z => (some (.int z), hp A I x)) rfl (Nat.le_of_ble_eq_true rfl) (fun r => ?_) hz
  unfold f_X6_within
  refine am_J.go (cf' := (5, [some (.ref 1), some (.int a1), some (.int a2), some (.int 0), some (.int 0), none], [], hp A I x)) 4 rfl ?_
  refine am_J.weak (L' := [some (.ref 1), some (.int a1), some (.int a2), some (.int 0), some (.int 0), none]) (am_Lle.k (am_Lle.k (am_Lle.k (am_Lle.k (am_Lle.k (am_Lle.o am_Lle.nil)))))) ?_
  refine am_J.loop (cl := fun q => match q with | (s1, s2) => (5, [some (.ref 1), some (.int a1), some (.int a2), some (.int s1), some (.int s2), none], [], hp A I x)) (GX := fun e6 => am_Ev (am_ro xs) 0 mc_X6_within (54, [none, none, none, some (.int e6), none, none], [], hp A I x) r) ?_ ?_
  · rintro ⟨s1, s2⟩
    unfold f_X6_within_l1
    refine am_J.go 2 rfl ?_
    refine am_J.ge rfl ?_ ?_
    · refine am_J.go (cf' := (54, [some (.ref 1), some (.int a1), some (.int a2), some (.int s1), some (.int s2), none], [], hp A I x)) 0 rfl ?_
      exact am_J.leaf (fun k => am_Ev.weak (L' := [none, none, none, some (.int s1), none, none]) (am_Lle.o (am_Lle.o (am_Lle.o (am_Lle.k (am_Lle.o (am_Lle.o am_Lle.nil)))))) k)
    · refine am_J.go 3 rfl ?_
      refine am_J.row (base := 12) rfl rfl (by decide) (fun w3 hw3 => ?_)
      refine am_J.go 1 rfl ?_
      refine am_J.ial (xs := (A w3)) rfl (am_rlt hw3) (hp_row hw3) (fun v4 => ?_)
      refine am_J.go 4 rfl ?_
      refine am_J.join (β := Int32) (cj := fun j5 => (46, [some (.ref 1), some (.int a1), some (.int a2), none, some (.int s2), none], [.int j5, .int s1], hp A I x)) ?_ ?_
      · refine am_J.eq rfl ?_ ?_
        · refine am_J.go (cf' := (46, [some (.ref 1), some (.int a1), some (.int a2), some (.int s1), some (.int s2), some (.int v4)], [.int 0, .int s1], hp A I x)) 1 rfl ?_
          exact am_J.leaf (fun k => am_Ev.weak (L' := [some (.ref 1), some (.int a1), some (.int a2), none, some (.int s2), none]) (am_Lle.k (am_Lle.k (am_Lle.k (am_Lle.o (am_Lle.k (am_Lle.o am_Lle.nil)))))) k)
        · refine am_J.go 2 rfl ?_
          refine am_J.gt rfl ?_ ?_
          · refine am_J.go (cf' := (46, [some (.ref 1), some (.int a1), some (.int a2), some (.int s1), some (.int s2), some (.int v4)], [.int 0, .int s1], hp A I x)) 1 rfl ?_
            exact am_J.leaf (fun k => am_Ev.weak (L' := [some (.ref 1), some (.int a1), some (.int a2), none, some (.int s2), none]) (am_Lle.k (am_Lle.k (am_Lle.k (am_Lle.o (am_Lle.k (am_Lle.o am_Lle.nil)))))) k)
          · refine am_J.go (cf' := (46, [some (.ref 1), some (.int a1), some (.int a2), some (.int s1), some (.int s2), some (.int v4)], [.int (1 <<< (s2 &&& 31)), .int s1], hp A I x)) 4 rfl ?_
            exact am_J.leaf (fun k => am_Ev.weak (L' := [some (.ref 1), some (.int a1), some (.int a2), none, some (.int s2), none]) (am_Lle.k (am_Lle.k (am_Lle.k (am_Lle.o (am_Lle.k (am_Lle.o am_Lle.nil)))))) k)
      · rintro j5
        refine am_J.go (cf' := (5, [some (.ref 1), some (.int a1), some (.int a2), some (.int (s1 ||| j5)), some (.int (s2 + 1)), none], [], hp A I x)) 4 rfl ?_
        exact am_J.leaf (fun k => am_Ev.weak (L' := [some (.ref 1), some (.int a1), some (.int a2), some (.int (s1 ||| j5)), some (.int (s2 + 1)), none]) (am_Lle.k (am_Lle.k (am_Lle.k (am_Lle.k (am_Lle.k (am_Lle.o am_Lle.nil)))))) k)
  · rintro e6
    refine (?_ : am_J (am_ro xs) 0 mc_X6_within r (54, [none, none, none, some (.int e6), none, none], [], hp A I x) _ _)
    refine am_J.go 1 rfl ?_
    exact am_J.ret rfl (fun k => k)

def f_X8_advance (A : Nat → List Int32) (I : Nat → Int32) : Option (Int32 × Int32) :=
  (((if 160 ≤ (I 3336) then
      some (I 3336)
    else
      some ((I 3336) + 1)) : Option (Int32)).bind (fun j1 =>
  ((am_at (A 54) j1).bind fun v2 =>
  some (j1, v2))))
set_option maxRecDepth 100000 in
set_option maxHeartbeats 4000000 in
theorem t_X8_advance {xs : List Int32} (A : Nat → List Int32) (I : Nat → Int32) (x : am_X) {z : Int32 × Int32} (hz : f_X8_advance A I = some z) : am_Rt (am_ro xs) 1 ix_X8_advance [.ref 52] (hp A I x) (none, hp A (up (up I 3336 z.1) 3337 z.2) x) := by
  refine am_Rt.J (k := ix_X8_advance) (M := mc_X8_advance) (nL := 1) (d := 0) (as := [.ref 52]) (res := fun z => (none, hp A (up (up I 3336 z.1) 3337 z.2) x)) rfl (Nat.le_of_ble_eq_true rfl) (fun r => ?_) hz
  unfold f_X8_advance
  refine am_J.go 3 rfl ?_
  refine am_J.join (β := Int32) (cj := fun j1 => (20, [some (.ref 52)], [], hp A (up I 3336 j1) x)) ?_ ?_
  · refine am_J.ge rfl ?_ ?_
    · refine am_J.go (cf' := (20, [some (.ref 52)], [], hp A I x)) 0 rfl ?_
      exact am_J.leaf (fun k => am_Ev.weak (L' := [some (.ref 52)]) (am_Lle.k am_Lle.nil) k)
    · refine am_J.go (cf' := (20, [some (.ref 52)], [], hp A (up I 3336 ((I 3336) + 1)) x)) 6 rfl ?_
      exact am_J.leaf (fun k => am_Ev.weak (L' := [some (.ref 52)]) (am_Lle.k am_Lle.nil) k)
  · rintro j1
    refine am_J.go 5 rfl ?_
    refine am_J.ial (xs := (A 54)) rfl (Nat.le_of_ble_eq_true rfl) rfl (fun v2 => ?_)
    refine am_J.go 1 rfl ?_
    exact am_J.ret rfl (fun k => k)

def f_X8_append_l1 (A : Nat → List Int32) (I : Nat → Int32) (a1 : Int32) (a2 : Int64) : (Int32 × (List Int32) × Int32) → Option ((Int32 × (List Int32) × Int32) ⊕ ((List Int32) × Int32)) := fun q => match q with
    | (s1, s2, s3) =>
    (if a1 ≤ s1 then
      some (.inr (s2, s3))
    else
      (if 160 ≤ s3 then
        some (.inr (s2, s3))
      else
        ((am_up s2 s3 (am_nar 1 (Int8.toInt32 (Int32.toInt8 (Int64.toInt32 (a2 >>> (Int32.toInt64 (8 * s1) &&& 63))))))).bind fun y4 =>
        some (.inl ((s1 + 1), y4, (s3 + 1))))))
def f_X8_append (A : Nat → List Int32) (I : Nat → Int32) (a1 : Int32) (a2 : Int64) : Option ((List Int32) × Int32) :=
  ((wl (f_X8_append_l1 A I a1 a2) 100000 (0, (A 53), (I 3329))).bind (fun q => match q with
  | (e5, e6) =>
  some (e5, e6)))
set_option maxRecDepth 100000 in
set_option maxHeartbeats 4000000 in
theorem t_X8_append {xs : List Int32} (A : Nat → List Int32) (I : Nat → Int32) (x : am_X) (a1 : Int32) (a2 : Int64) {z : (List Int32) × Int32} (hz : f_X8_append A I a1 a2 = some z) : am_Rt (am_ro xs) 1 ix_X8_append [.ref 52, .int a1, .long a2] (hp A I x) (none, hp (up A 53 z.1) (up I 3329 z.2) x) := by
  refine am_Rt.J (k := ix_X8_append) (M := mc_X8_append) (nL := 5) (d := 0) (as := [.ref 52, .int a1, .long a2]) (res := fun z => (none, hp (up A 53 z.1) (up I 3329 z.2) x)) rfl (Nat.le_of_ble_eq_true rfl) (fun r => ?_) hz
  unfold f_X8_append
  refine am_J.go (cf' := (3, [some (.ref 52), some (.int a1), some (.long a2), none, some (.int 0)], [], hp A I x)) 2 rfl ?_
  refine am_J.weak (L' := [some (.ref 52), some (.int a1), some (.long a2), none, some (.int 0)]) (am_Lle.k (am_Lle.k (am_Lle.k (am_Lle.o (am_Lle.k am_Lle.nil))))) ?_
  refine am_J.loop (cl := fun q => match q with | (s1, s2, s3) => (3, [some (.ref 52), some (.int a1), some (.long a2), none, some (.int s1)], [], hp (up A 53 s2) (up I 3329 s3) x)) (GX := fun q => match q with | (e5, e6) => am_Ev (am_ro xs) 0 mc_X8_append (50, [none, none, none, none, none], [], hp (up A 53 e5) (up I 3329 e6) x) r) ?_ ?_
  · rintro ⟨s1, s2, s3⟩
    unfold f_X8_append_l1
    refine am_J.go 2 rfl ?_
    refine am_J.ge rfl ?_ ?_
    · refine am_J.go (cf' := (50, [some (.ref 52), some (.int a1), some (.long a2), none, some (.int s1)], [], hp (up A 53 s2) (up I 3329 s3) x)) 0 rfl ?_
      exact am_J.leaf (fun k => am_Ev.weak (L' := [none, none, none, none, none]) (am_Lle.o (am_Lle.o (am_Lle.o (am_Lle.o (am_Lle.o am_Lle.nil))))) k)
    · refine am_J.go 3 rfl ?_
      refine am_J.ge rfl ?_ ?_
      · refine am_J.go (cf' := (50, [some (.ref 52), some (.int a1), some (.long a2), none, some (.int s1)], [], hp (up A 53 s2) (up I 3329 s3) x)) 0 rfl ?_
        exact am_J.leaf (fun k => am_Ev.weak (L' := [none, none, none, none, none]) (am_Lle.o (am_Lle.o (am_Lle.o (am_Lle.o (am_Lle.o am_Lle.nil))))) k)
      · refine am_J.go 16 rfl ?_
        refine am_J.bas (xs := s2) (t := 1) (h' := fun y4 => hp (up A 53 y4) (up I 3329 (s3 + 1)) x) rfl (by decide) rfl (fun _ => rfl) (fun y4 => ?_)
        refine am_J.go (cf' := (3, [some (.ref 52), some (.int a1), some (.long a2), none, some (.int (s1 + 1))], [], hp (up A 53 y4) (up I 3329 (s3 + 1)) x)) 2 rfl ?_
        exact am_J.leaf (fun k => am_Ev.weak (L' := [some (.ref 52), some (.int a1), some (.long a2), none, some (.int (s1 + 1))]) (am_Lle.k (am_Lle.k (am_Lle.k (am_Lle.o (am_Lle.k am_Lle.nil))))) k)
  · rintro ⟨e5, e6⟩
    refine (?_ : am_J (am_ro xs) 0 mc_X8_append r (50, [none, none, none, none, none], [], hp (up A 53 e5) (up I 3329 e6) x) _ _)
    exact am_J.ret rfl (fun k => k)

def f_X8_fail (A : Nat → List Int32) (I : Nat → Int32) : Option (Int32 × Int32) :=
  (((if (I 3338) = (-1) then
      ((am_at (A 55) (I 3336)).bind fun v1 =>
      some v1)
    else
      some (I 3338)) : Option (Int32)).bind (fun j2 =>
  some (1, j2)))
set_option maxRecDepth 100000 in
set_option maxHeartbeats 4000000 in
theorem t_X8_fail {xs : List Int32} (A : Nat → List Int32) (I : Nat → Int32) (x : am_X) {z : Int32 × Int32} (hz : f_X8_fail A I = some z) : am_Rt (am_ro xs) 1 ix_X8_fail [.ref 52] (hp A I x) (none, hp A (up (up I 3337 z.1) 3338 z.2) x) := by
  refine am_Rt.J (k := ix_X8_fail) (M := mc_X8_fail) (nL := 1) (d := 0) (as := [.ref 52]) (res := fun z => (none, hp A (up (up I 3337 z.1) 3338 z.2) x)) rfl (Nat.le_of_ble_eq_true rfl) (fun r => ?_) hz
  unfold f_X8_fail
  refine am_J.go 3 rfl ?_
  refine am_J.join (β := Int32) (cj := fun j2 => (21, [some (.ref 52)], [], hp A (up I 3338 j2) x)) ?_ ?_
  · refine am_J.ne rfl ?_ ?_
    · refine am_J.go 5 rfl ?_
      refine am_J.ial (xs := (A 55)) rfl (Nat.le_of_ble_eq_true rfl) rfl (fun v1 => ?_)
      refine am_J.go (cf' := (21, [some (.ref 52)], [], hp A (up I 3338 v1) x)) 1 rfl ?_
      exact am_J.leaf (fun k => am_Ev.weak (L' := [some (.ref 52)]) (am_Lle.k am_Lle.nil) k)
    · refine am_J.go (cf' := (21, [some (.ref 52)], [], hp A I x)) 0 rfl ?_
      exact am_J.leaf (fun k => am_Ev.weak (L' := [some (.ref 52)]) (am_Lle.k am_Lle.nil) k)
  · rintro j2
    refine am_J.go 3 rfl ?_
    exact am_J.ret rfl (fun k => k)

def f_X8_isDigit (a1 : Int32) : Option (Int32) :=
  (if a1 < 48 then
    some 0
  else
    (if 57 < a1 then
      some 0
    else
      some 1))
set_option maxRecDepth 100000 in
set_option maxHeartbeats 4000000 in
theorem t_X8_isDigit {xs : List Int32} {h : am_H} (a1 : Int32) {z : Int32} (hz : f_X8_isDigit a1 = some z) : am_Rt (am_ro xs) 1 ix_X8_isDigit [.int a1] h (some (.int z), h) := by
  refine am_Rt.J (k := ix_X8_isDigit) (M := mc_X8_isDigit) (nL := 1) (d := 0) (as := [.int a1]) (res := fun z => (some (.int z), h)) rfl (Nat.le_of_ble_eq_true rfl) (fun r => ?_) hz
  unfold f_X8_isDigit
  refine am_J.go 2 rfl ?_
  refine am_J.lt rfl ?_ ?_
  · refine am_J.go 1 rfl ?_
    exact am_J.retz rfl (Or.inl rfl) (fun k => k)
  · refine am_J.go 2 rfl ?_
    refine am_J.gt rfl ?_ ?_
    · refine am_J.go 1 rfl ?_
      exact am_J.retz rfl (Or.inl rfl) (fun k => k)
    · refine am_J.go 2 rfl ?_
      exact am_J.retz rfl (Or.inr rfl) (fun k => k)

def f_X8_isLetter (a1 : Int32) : Option (Int32) :=
  (if a1 < 97 then
    some 0
  else
    (if 122 < a1 then
      some 0
    else
      some 1))
set_option maxRecDepth 100000 in
set_option maxHeartbeats 4000000 in
theorem t_X8_isLetter {xs : List Int32} {h : am_H} (a1 : Int32) {z : Int32} (hz : f_X8_isLetter a1 = some z) : am_Rt (am_ro xs) 1 ix_X8_isLetter [.int a1] h (some (.int z), h) := by
  refine am_Rt.J (k := ix_X8_isLetter) (M := mc_X8_isLetter) (nL := 1) (d := 0) (as := [.int a1]) (res := fun z => (some (.int z), h)) rfl (Nat.le_of_ble_eq_true rfl) (fun r => ?_) hz
  unfold f_X8_isLetter
  refine am_J.go 2 rfl ?_
  refine am_J.lt rfl ?_ ?_
  · refine am_J.go 1 rfl ?_
    exact am_J.retz rfl (Or.inl rfl) (fun k => k)
  · refine am_J.go 2 rfl ?_
    refine am_J.gt rfl ?_ ?_
    · refine am_J.go 1 rfl ?_
      exact am_J.retz rfl (Or.inl rfl) (fun k => k)
    · refine am_J.go 2 rfl ?_
      exact am_J.retz rfl (Or.inr rfl) (fun k => k)

def f_X8_isSign (a1 : Int32) : Option (Int32) :=
  (if a1 = 40 then
    some 1
  else
    (if a1 = 41 then
      some 1
    else
      (if a1 = 59 then
        some 1
      else
        (if a1 = 43 then
          some 1
        else
          (if a1 = 45 then
            some 1
          else
            (if a1 = 42 then
              some 1
            else
              (if a1 = 60 then
                some 1
              else
                (if a1 = 61 then
                  some 1
                else
                  some 0))))))))
set_option maxRecDepth 100000 in
set_option maxHeartbeats 4000000 in
theorem t_X8_isSign {xs : List Int32} {h : am_H} (a1 : Int32) {z : Int32} (hz : f_X8_isSign a1 = some z) : am_Rt (am_ro xs) 1 ix_X8_isSign [.int a1] h (some (.int z), h) := by
  refine am_Rt.J (k := ix_X8_isSign) (M := mc_X8_isSign) (nL := 1) (d := 0) (as := [.int a1]) (res := fun z => (some (.int z), h)) rfl (Nat.le_of_ble_eq_true rfl) (fun r => ?_) hz
  unfold f_X8_isSign
  refine am_J.go 2 rfl ?_
  refine am_J.eq rfl ?_ ?_
  · refine am_J.go 2 rfl ?_
    exact am_J.retz rfl (Or.inr rfl) (fun k => k)
  · refine am_J.go 2 rfl ?_
    refine am_J.eq rfl ?_ ?_
    · refine am_J.go 2 rfl ?_
      exact am_J.retz rfl (Or.inr rfl) (fun k => k)
    · refine am_J.go 2 rfl ?_
      refine am_J.eq rfl ?_ ?_
      · refine am_J.go 2 rfl ?_
        exact am_J.retz rfl (Or.inr rfl) (fun k => k)
      · refine am_J.go 2 rfl ?_
        refine am_J.eq rfl ?_ ?_
        · refine am_J.go 2 rfl ?_
          exact am_J.retz rfl (Or.inr rfl) (fun k => k)
        · refine am_J.go 2 rfl ?_
          refine am_J.eq rfl ?_ ?_
          · refine am_J.go 2 rfl ?_
            exact am_J.retz rfl (Or.inr rfl) (fun k => k)
          · refine am_J.go 2 rfl ?_
            refine am_J.eq rfl ?_ ?_
            · refine am_J.go 2 rfl ?_
              exact am_J.retz rfl (Or.inr rfl) (fun k => k)
            · refine am_J.go 2 rfl ?_
              refine am_J.eq rfl ?_ ?_
              · refine am_J.go 2 rfl ?_
                exact am_J.retz rfl (Or.inr rfl) (fun k => k)
              · refine am_J.go 2 rfl ?_
                refine am_J.ne rfl ?_ ?_
                · refine am_J.go 2 rfl ?_
                  exact am_J.retz rfl (Or.inr rfl) (fun k => k)
                · refine am_J.go 1 rfl ?_
                  exact am_J.retz rfl (Or.inl rfl) (fun k => k)

def f_X8_mayOpen (A : Nat → List Int32) (I : Nat → Int32) (a1 : Int32) : Option (Int32 × Int32 × Int32 × Int32) :=
  (if a1 < 5 then
    ((f_X8_advance A I).bind fun r1 =>
    some (1, r1.1, r1.2, (I 3338)))
  else
    ((f_X8_fail A I).bind fun r2 =>
    some (0, (I 3336), r2.1, r2.2)))
set_option maxRecDepth 100000 in
set_option maxHeartbeats 4000000 in
theorem t_X8_mayOpen {xs : List Int32} (A : Nat → List Int32) (I : Nat → Int32) (x : am_X) (a1 : Int32) {z : Int32 × Int32 × Int32 × Int32} (hz : f_X8_mayOpen A I a1 = some z) : am_Rt (am_ro xs) 2 ix_X8_mayOpen [.ref 52, .int a1] (hp A I x) (some (.int z.1), hp A (up (up (up I 3336 z.2.1) 3337 z.2.2.1) 3338 z.2.2.2) x) := by
  refine am_Rt.J (k := ix_X8_mayOpen) (M := mc_X8_mayOpen) (nL := 2) (d := 1) (as := [.ref 52, .int a1]) (res := fun z => (some (.int z.1), hp A (up (up (up I 3336 z.2.1) 3337 z.2.2.1) 3338 z.2.2.2) x)) rfl (Nat.le_of_ble_eq_true rfl) (fun r => ?_) hz
  unfold f_X8_mayOpen
  refine am_J.go 2 rfl ?_
  refine am_J.lt rfl ?_ ?_
  · refine am_J.go 1 rfl ?_
    refine am_J.calln (h' := fun r1 => hp A (up (up I 3336 r1.1) 3337 r1.2) x) rfl (fun r1 hw => (t_X8_advance A I x hw)) (fun r1 => ?_)
    refine am_J.go 1 rfl ?_
    exact am_J.retz rfl (Or.inr rfl) (fun k => k)
  · refine am_J.go 1 rfl ?_
    refine am_J.calln (h' := fun r2 => hp A (up (up I 3337 r2.1) 3338 r2.2) x) rfl (fun r2 hw => (t_X8_fail A I x hw)) (fun r2 => ?_)
    refine am_J.go 1 rfl ?_
    exact am_J.retz rfl (Or.inl rfl) (fun k => k)

def f_X8_skipBlanks_l1 (A : Nat → List Int32) (I : Nat → Int32) : (Int32) → Option ((Int32) ⊕ (Int32)) := fun s1 =>
    (if (I 3329) ≤ s1 then
      some (.inr s1)
    else
      ((am_at (A 53) s1).bind fun v2 =>
      (if v2 = 32 then
        some (.inl (s1 + 1))
      else
        ((am_at (A 53) s1).bind fun v3 =>
        (if v3 = 10 then
          some (.inl (s1 + 1))
        else
          some (.inr s1))))))
def f_X8_skipBlanks (A : Nat → List Int32) (I : Nat → Int32) : Option (Int32) :=
  ((wl (f_X8_skipBlanks_l1 A I) 100000 (I 3332)).bind (fun e4 =>
  some e4))
set_option maxRecDepth 100000 in
set_option maxHeartbeats 4000000 in
theorem t_X8_skipBlanks {xs : List Int32} (A : Nat → List Int32) (I : Nat → Int32) (x : am_X) {z : Int32} (hz : f_X8_skipBlanks A I = some z) : am_Rt (am_ro xs) 1 ix_X8_skipBlanks [.ref 52] (hp A I x) (none, hp A (up I 3332 z) x) := by
  refine am_Rt.J (k := ix_X8_skipBlanks) (M := mc_X8_skipBlanks) (nL := 1) (d := 0) (as := [.ref 52]) (res := fun z => (none, hp A (up I 3332 z) x)) rfl (Nat.le_of_ble_eq_true rfl) (fun r => ?_) hz
  unfold f_X8_skipBlanks
  refine am_J.go (cf' := (0, [some (.ref 52)], [], hp A I x)) 0 rfl ?_
  refine am_J.weak (L' := [some (.ref 52)]) (am_Lle.k am_Lle.nil) ?_
  refine am_J.loop (cl := fun s1 => (0, [some (.ref 52)], [], hp A (up I 3332 s1) x)) (GX := fun e4 => am_Ev (am_ro xs) 0 mc_X8_skipBlanks (52, [none], [], hp A (up I 3332 e4) x) r) ?_ ?_
  · rintro s1
    unfold f_X8_skipBlanks_l1
    refine am_J.go 4 rfl ?_
    refine am_J.ge rfl ?_ ?_
    · refine am_J.go (cf' := (52, [some (.ref 52)], [], hp A (up I 3332 s1) x)) 0 rfl ?_
      exact am_J.leaf (fun k => am_Ev.weak (L' := [none]) (am_Lle.o am_Lle.nil) k)
    · refine am_J.go 4 rfl ?_
      refine am_J.bal (xs := (A 53)) (t := 1) rfl (by decide) rfl (fun v2 => ?_)
      refine am_J.go 1 rfl ?_
      refine am_J.eq rfl ?_ ?_
      · refine am_J.go (cf' := (0, [some (.ref 52)], [], hp A (up I 3332 (s1 + 1)) x)) 7 rfl ?_
        exact am_J.leaf (fun k => am_Ev.weak (L' := [some (.ref 52)]) (am_Lle.k am_Lle.nil) k)
      · refine am_J.go 4 rfl ?_
        refine am_J.bal (xs := (A 53)) (t := 1) rfl (by decide) rfl (fun v3 => ?_)
        refine am_J.go 1 rfl ?_
        refine am_J.ne rfl ?_ ?_
        · refine am_J.go (cf' := (0, [some (.ref 52)], [], hp A (up I 3332 (s1 + 1)) x)) 7 rfl ?_
          exact am_J.leaf (fun k => am_Ev.weak (L' := [some (.ref 52)]) (am_Lle.k am_Lle.nil) k)
        · refine am_J.go (cf' := (52, [some (.ref 52)], [], hp A (up I 3332 s1) x)) 0 rfl ?_
          exact am_J.leaf (fun k => am_Ev.weak (L' := [none]) (am_Lle.o am_Lle.nil) k)
  · rintro e4
    refine (?_ : am_J (am_ro xs) 0 mc_X8_skipBlanks r (52, [none], [], hp A (up I 3332 e4) x) _ _)
    exact am_J.ret rfl (fun k => k)

def f_X8_write (A : Nat → List Int32) (I : Nat → Int32) (a1 : Int32) : Option ((List Int32) × Int32) :=
  (if 160 ≤ (I 3340) then
    some ((A 57), (I 3340))
  else
    ((am_up (A 57) (I 3340) a1).bind fun y1 =>
    some (y1, ((I 3340) + 1))))
set_option maxRecDepth 100000 in
set_option maxHeartbeats 4000000 in
theorem t_X8_write {xs : List Int32} (A : Nat → List Int32) (I : Nat → Int32) (x : am_X) (a1 : Int32) {z : (List Int32) × Int32} (hz : f_X8_write A I a1 = some z) : am_Rt (am_ro xs) 1 ix_X8_write [.ref 52, .int a1] (hp A I x) (none, hp (up A 57 z.1) (up I 3340 z.2) x) := by
  refine am_Rt.J (k := ix_X8_write) (M := mc_X8_write) (nL := 2) (d := 0) (as := [.ref 52, .int a1]) (res := fun z => (none, hp (up A 57 z.1) (up I 3340 z.2) x)) rfl (Nat.le_of_ble_eq_true rfl) (fun r => ?_) hz
  unfold f_X8_write
  refine am_J.go 3 rfl ?_
  refine am_J.ge rfl ?_ ?_
  · exact am_J.ret rfl (fun k => k)
  · refine am_J.go 10 rfl ?_
    refine am_J.ias (xs := (A 57)) (h' := fun y1 => hp (up A 57 y1) (up I 3340 ((I 3340) + 1)) x) rfl rfl (fun _ => rfl) (fun y1 => ?_)
    exact am_J.ret rfl (fun k => k)

def f_X9_add (A : Nat → List Int32) (I : Nat → Int32) (a1 : Int32) (a2 : Int32) (a3 : Int32) (a4 : Int32) : Option (Int32 × (List Int32) × (List Int32) × (List Int32) × (List Int32) × Int32) :=
  ((am_up (A 48) (I 3012) a1).bind fun y1 =>
  ((am_up (A 49) (I 3012) a2).bind fun y2 =>
  ((am_up (A 50) (I 3012) a3).bind fun y3 =>
  ((am_up (A 51) (I 3012) a4).bind fun y4 =>
  some ((I 3012), y1, y2, y3, y4, ((I 3012) + 1))))))
set_option maxRecDepth 100000 in
set_option maxHeartbeats 4000000 in
theorem t_X9_add {xs : List Int32} (A : Nat → List Int32) (I : Nat → Int32) (x : am_X) (a1 : Int32) (a2 : Int32) (a3 : Int32) (a4 : Int32) {z : Int32 × (List Int32) × (List Int32) × (List Int32) × (List Int32) × Int32} (hz : f_X9_add A I a1 a2 a3 a4 = some z) : am_Rt (am_ro xs) 1 ix_X9_add [.ref 47, .int a1, .int a2, .int a3, .int a4] (hp A I x) (some (.int z.1), hp (up (up (up (up A 48 z.2.1) 49 z.2.2.1) 50 z.2.2.2.1) 51 z.2.2.2.2.1) (up I 3012 z.2.2.2.2.2) x) := by
  refine am_Rt.J (k := ix_X9_add) (M := mc_X9_add) (nL := 5) (d := 0) (as := [.ref 47, .int a1, .int a2, .int a3, .int a4]) (res := fun z => (some (.int z.1), hp (up (up (up (up A 48 z.2.1) 49 z.2.2.1) 50 z.2.2.2.1) 51 z.2.2.2.2.1) (up I 3012 z.2.2.2.2.2) x)) rfl (Nat.le_of_ble_eq_true rfl) (fun r => ?_) hz
  unfold f_X9_add
  refine am_J.go 5 rfl ?_
  refine am_J.ias (xs := (A 48)) (h' := fun y1 => hp (up A 48 y1) I x) rfl rfl (fun _ => rfl) (fun y1 => ?_)
  refine am_J.go 5 rfl ?_
  refine am_J.ias (xs := (A 49)) (h' := fun y2 => hp (up (up A 48 y1) 49 y2) I x) rfl rfl (fun _ => rfl) (fun y2 => ?_)
  refine am_J.go 5 rfl ?_
  refine am_J.ias (xs := (A 50)) (h' := fun y3 => hp (up (up (up A 48 y1) 49 y2) 50 y3) I x) rfl rfl (fun _ => rfl) (fun y3 => ?_)
  refine am_J.go 5 rfl ?_
  refine am_J.ias (xs := (A 51)) (h' := fun y4 => hp (up (up (up (up A 48 y1) 49 y2) 50 y3) 51 y4) I x) rfl rfl (fun _ => rfl) (fun y4 => ?_)
  refine am_J.go 7 rfl ?_
  exact am_J.ret rfl (fun k => k)

def f_X0_takersOf_l1 (A : Nat → List Int32) (I : Nat → Int32) (a1 : Int32) : (Int32 × Int32) → Option ((Int32 × Int32) ⊕ (Int32)) := fun q => match q with
    | (s1, s2) =>
    (if 8 ≤ s2 then
      some (.inr s1)
    else
      ((am_row 65 s2).bind fun w3 =>
      ((f_X11_sumOver (A w3) a1).bind fun r4 =>
      (((if r4 < 0 then
          some 0
        else
          some (1 <<< (s2 &&& 31))) : Option (Int32)).bind (fun j5 =>
      some (.inl ((s1 ||| j5), (s2 + 1))))))))
def f_X0_takersOf (A : Nat → List Int32) (I : Nat → Int32) (a1 : Int32) : Option (Int32) :=
  ((wl (f_X0_takersOf_l1 A I a1) 100000 (0, 0)).bind (fun e6 =>
  some e6))
set_option maxRecDepth 100000 in
set_option maxHeartbeats 4000000 in
theorem t_X0_takersOf {xs : List Int32} (A : Nat → List Int32) (I : Nat → Int32) (x : am_X) (a1 : Int32) {z : Int32} (hz : f_X0_takersOf A I a1 = some z) : am_Rt (am_ro xs) 3 ix_X0_takersOf [.ref 61, .int a1] (hp A I x) (some (.int z), hp A I x) := by
  refine am_Rt.J (k := ix_X0_takersOf) (M := mc_X0_takersOf) (nL := 4) (d := 2) (as := [.ref 61, .int a1]) (res := fun z => (some (.int z), hp A I x)) rfl (Nat.le_of_ble_eq_true rfl) (fun r => ?_) hz
  unfold f_X0_takersOf
  refine am_J.go (cf' := (4, [some (.ref 61), some (.int a1), some (.int 0), some (.int 0)], [], hp A I x)) 4 rfl ?_
  refine am_J.weak (L' := [some (.ref 61), some (.int a1), some (.int 0), some (.int 0)]) (am_Lle.k (am_Lle.k (am_Lle.k (am_Lle.k am_Lle.nil)))) ?_
  refine am_J.loop (cl := fun q => match q with | (s1, s2) => (4, [some (.ref 61), some (.int a1), some (.int s1), some (.int s2)], [], hp A I x)) (GX := fun e6 => am_Ev (am_ro xs) 2 mc_X0_takersOf (39, [none, none, some (.int e6), none], [], hp A I x) r) ?_ ?_
  · rintro ⟨s1, s2⟩
    unfold f_X0_takersOf_l1
    refine am_J.go 2 rfl ?_
    refine am_J.ge rfl ?_ ?_
    · refine am_J.go (cf' := (39, [some (.ref 61), some (.int a1), some (.int s1), some (.int s2)], [], hp A I x)) 0 rfl ?_
      exact am_J.leaf (fun k => am_Ev.weak (L' := [none, none, some (.int s1), none]) (am_Lle.o (am_Lle.o (am_Lle.k (am_Lle.o am_Lle.nil)))) k)
    · refine am_J.go 4 rfl ?_
      refine am_J.row (base := 65) rfl rfl (by decide) (fun w3 hw3 => ?_)
      refine am_J.go 1 rfl ?_
      refine am_J.call (v := fun r4 => .int r4) (h' := fun r4 => hp A I x) rfl (fun r4 hw => (t_X11_sumOver (h := hp A I x) (a := w3) (ys := (A w3)) a1 (am_rlt hw3) (hp_row hw3) hw)) (fun r4 => ?_)
      refine am_J.join (β := Int32) (cj := fun j5 => (31, [some (.ref 61), some (.int a1), none, some (.int s2)], [.int j5, .int s1], hp A I x)) ?_ ?_
      · refine am_J.lt rfl ?_ ?_
        · refine am_J.go (cf' := (31, [some (.ref 61), some (.int a1), some (.int s1), some (.int s2)], [.int 0, .int s1], hp A I x)) 1 rfl ?_
          exact am_J.leaf (fun k => am_Ev.weak (L' := [some (.ref 61), some (.int a1), none, some (.int s2)]) (am_Lle.k (am_Lle.k (am_Lle.o (am_Lle.k am_Lle.nil)))) k)
        · refine am_J.go (cf' := (31, [some (.ref 61), some (.int a1), some (.int s1), some (.int s2)], [.int (1 <<< (s2 &&& 31)), .int s1], hp A I x)) 4 rfl ?_
          exact am_J.leaf (fun k => am_Ev.weak (L' := [some (.ref 61), some (.int a1), none, some (.int s2)]) (am_Lle.k (am_Lle.k (am_Lle.o (am_Lle.k am_Lle.nil)))) k)
      · rintro j5
        refine am_J.go (cf' := (4, [some (.ref 61), some (.int a1), some (.int (s1 ||| j5)), some (.int (s2 + 1))], [], hp A I x)) 4 rfl ?_
        exact am_J.leaf (fun k => am_Ev.weak (L' := [some (.ref 61), some (.int a1), some (.int (s1 ||| j5)), some (.int (s2 + 1))]) (am_Lle.k (am_Lle.k (am_Lle.k (am_Lle.k am_Lle.nil)))) k)
  · rintro e6
    refine (?_ : am_J (am_ro xs) 2 mc_X0_takersOf r (39, [none, none, some (.int e6), none], [], hp A I x) _ _)
    refine am_J.go 1 rfl ?_
    exact am_J.ret rfl (fun k => k)

def f_X0_undoneBy_l1 (A : Nat → List Int32) (I : Nat → Int32) (a1 : Int32) (a2 : Int32) : (Int32 × Int32) → Option ((Int32 × Int32) ⊕ (Int32)) := fun q => match q with
    | (s1, s2) =>
    (if (I 3907) ≤ s2 then
      some (.inr s1)
    else
      ((f_X11_has a1 s2).bind fun r3 =>
      (((if r3 = 0 then
          some 0
        else
          ((am_at (A 62) s2).bind fun v4 =>
          some v4)) : Option (Int32)).bind (fun j5 =>
      some (.inl ((s1 ||| j5), (s2 + 1)))))))
def f_X0_undoneBy (A : Nat → List Int32) (I : Nat → Int32) (a1 : Int32) (a2 : Int32) : Option (Int32) :=
  ((wl (f_X0_undoneBy_l1 A I a1 a2) 100000 (0, 0)).bind (fun e6 =>
  ((f_J6_bitCount_0f7a4 (e6 &&& a2)).bind fun r7 =>
  some r7)))
set_option maxRecDepth 100000 in
set_option maxHeartbeats 4000000 in
theorem t_X0_undoneBy {xs : List Int32} (A : Nat → List Int32) (I : Nat → Int32) (x : am_X) (a1 : Int32) (a2 : Int32) {z : Int32} (hz : f_X0_undoneBy A I a1 a2 = some z) : am_Rt (am_ro xs) 2 ix_X0_undoneBy [.ref 61, .int a1, .int a2] (hp A I x) (some (.int z), hp A I x) := by
  refine am_Rt.J (k := ix_X0_undoneBy) (M := mc_X0_undoneBy) (nL := 5) (d := 1) (as := [.ref 61, .int a1, .int a2]) (res := fun z => (some (.int z), hp A I x)) rfl (Nat.le_of_ble_eq_true rfl) (fun r => ?_) hz
  unfold f_X0_undoneBy
  refine am_J.go (cf' := (5, [some (.ref 61), some (.int a1), some (.int a2), some (.int 0), some (.int 0)], [], hp A I x)) 4 rfl ?_
  refine am_J.weak (L' := [some (.ref 61), some (.int a1), some (.int a2), some (.int 0), some (.int 0)]) (am_Lle.k (am_Lle.k (am_Lle.k (am_Lle.k (am_Lle.k am_Lle.nil))))) ?_
  refine am_J.loop (cl := fun q => match q with | (s1, s2) => (5, [some (.ref 61), some (.int a1), some (.int a2), some (.int s1), some (.int s2)], [], hp A I x)) (GX := fun e6 => am_Ev (am_ro xs) 1 mc_X0_undoneBy (43, [none, none, some (.int a2), some (.int e6), none], [], hp A I x) r) ?_ ?_
  · rintro ⟨s1, s2⟩
    unfold f_X0_undoneBy_l1
    refine am_J.go 3 rfl ?_
    refine am_J.ge rfl ?_ ?_
    · refine am_J.go (cf' := (43, [some (.ref 61), some (.int a1), some (.int a2), some (.int s1), some (.int s2)], [], hp A I x)) 0 rfl ?_
      exact am_J.leaf (fun k => am_Ev.weak (L' := [none, none, some (.int a2), some (.int s1), none]) (am_Lle.o (am_Lle.o (am_Lle.k (am_Lle.k (am_Lle.o am_Lle.nil))))) k)
    · refine am_J.go 3 rfl ?_
      refine am_J.callz (v := fun r3 => r3) (h' := fun r3 => hp A I x) rfl rfl rfl (fun r3 hw => (t_X11_has (h := hp A I x) a1 s2 hw)) (fun r3 hr3 => ?_)
      refine am_J.join (β := Int32) (cj := fun j5 => (35, [some (.ref 61), some (.int a1), some (.int a2), none, some (.int s2)], [.int j5, .int s1], hp A I x)) ?_ ?_
      · refine am_J.eq rfl ?_ ?_
        · refine am_J.go (cf' := (35, [some (.ref 61), some (.int a1), some (.int a2), some (.int s1), some (.int s2)], [.int 0, .int s1], hp A I x)) 1 rfl ?_
          exact am_J.leaf (fun k => am_Ev.weak (L' := [some (.ref 61), some (.int a1), some (.int a2), none, some (.int s2)]) (am_Lle.k (am_Lle.k (am_Lle.k (am_Lle.o (am_Lle.k am_Lle.nil))))) k)
        · refine am_J.go 3 rfl ?_
          refine am_J.ial (xs := (A 62)) rfl (Nat.le_of_ble_eq_true rfl) rfl (fun v4 => ?_)
          refine am_J.go (cf' := (35, [some (.ref 61), some (.int a1), some (.int a2), some (.int s1), some (.int s2)], [.int v4, .int s1], hp A I x)) 1 rfl ?_
          exact am_J.leaf (fun k => am_Ev.weak (L' := [some (.ref 61), some (.int a1), some (.int a2), none, some (.int s2)]) (am_Lle.k (am_Lle.k (am_Lle.k (am_Lle.o (am_Lle.k am_Lle.nil))))) k)
      · rintro j5
        refine am_J.go (cf' := (5, [some (.ref 61), some (.int a1), some (.int a2), some (.int (s1 ||| j5)), some (.int (s2 + 1))], [], hp A I x)) 4 rfl ?_
        exact am_J.leaf (fun k => am_Ev.weak (L' := [some (.ref 61), some (.int a1), some (.int a2), some (.int (s1 ||| j5)), some (.int (s2 + 1))]) (am_Lle.k (am_Lle.k (am_Lle.k (am_Lle.k (am_Lle.k am_Lle.nil))))) k)
  · rintro e6
    refine (?_ : am_J (am_ro xs) 1 mc_X0_undoneBy r (43, [none, none, some (.int a2), some (.int e6), none], [], hp A I x) _ _)
    refine am_J.go 3 rfl ?_
    refine am_J.call (v := fun r7 => .int r7) (h' := fun r7 => hp A I x) rfl (fun r7 hw => (t_J6_bitCount_0f7a4 (h := hp A I x) (e6 &&& a2) hw)) (fun r7 => ?_)
    exact am_J.ret rfl (fun k => k)

def f_X11_clause (A : Nat → List Int32) (I : Nat → Int32) (a1 : Int32) : Option (Int32 × (List Int32) × Int32) :=
  ((f_X11_isWithin a1 0 16777215).bind fun r1 =>
  (if r1 = 0 then
    some ((-2), (A 62), (I 3907))
  else
    (if (I 3907) < 8 then
      ((f_X0_add A I a1).bind fun r2 =>
      some (r2.1, r2.2.1, r2.2.2))
    else
      some ((-4), (A 62), (I 3907)))))
set_option maxRecDepth 100000 in
set_option maxHeartbeats 4000000 in
theorem t_X11_clause {xs : List Int32} (A : Nat → List Int32) (I : Nat → Int32) (x : am_X) (a1 : Int32) {z : Int32 × (List Int32) × Int32} (hz : f_X11_clause A I a1 = some z) : am_Rt (am_ro xs) 2 ix_X11_clause [.ref 0, .int a1] (hp A I x) (some (.int z.1), hp (up A 62 z.2.1) (up I 3907 z.2.2) x) := by
  refine am_Rt.J (k := ix_X11_clause) (M := mc_X11_clause) (nL := 2) (d := 1) (as := [.ref 0, .int a1]) (res := fun z => (some (.int z.1), hp (up A 62 z.2.1) (up I 3907 z.2.2) x)) rfl (Nat.le_of_ble_eq_true rfl) (fun r => ?_) hz
  unfold f_X11_clause
  refine am_J.go 3 rfl ?_
  refine am_J.callz (v := fun r1 => r1) (h' := fun r1 => hp A I x) rfl rfl rfl (fun r1 hw => (t_X11_isWithin (h := hp A I x) a1 0 16777215 hw)) (fun r1 hr1 => ?_)
  refine am_J.ne rfl ?_ ?_
  · refine am_J.go 1 rfl ?_
    exact am_J.ret rfl (fun k => k)
  · refine am_J.go 4 rfl ?_
    refine am_J.lt rfl ?_ ?_
    · refine am_J.go 3 rfl ?_
      refine am_J.call (v := fun r2 => .int r2.1) (h' := fun r2 => hp (up A 62 r2.2.1) (up I 3907 r2.2.2) x) rfl (fun r2 hw => (t_X0_add A I x a1 hw)) (fun r2 => ?_)
      exact am_J.ret rfl (fun k => k)
    · refine am_J.go 2 rfl ?_
      exact am_J.ret rfl (fun k => k)

def f_X11_elector (A : Nat → List Int32) (I : Nat → Int32) (a1 : Int32) (a2 : Int32) : Option (Int32 × (List Int32) × Int32 × Int32) :=
  ((f_X11_isWithin a1 0 999).bind fun r1 =>
  (if r1 = 0 then
    some ((-2), (A 59), (I 3714), (I 3715))
  else
    ((f_X11_isWithin a2 0 1).bind fun r2 =>
    (if r2 = 0 then
      some ((-2), (A 59), (I 3714), (I 3715))
    else
      (if (I 3715) < 10 then
        ((f_X3_add A I a1 a2).bind fun r3 =>
        some (r3.1, r3.2.1, r3.2.2.1, r3.2.2.2))
      else
        some ((-4), (A 59), (I 3714), (I 3715)))))))
set_option maxRecDepth 100000 in
set_option maxHeartbeats 4000000 in
theorem t_X11_elector {xs : List Int32} (A : Nat → List Int32) (I : Nat → Int32) (x : am_X) (a1 : Int32) (a2 : Int32) {z : Int32 × (List Int32) × Int32 × Int32} (hz : f_X11_elector A I a1 a2 = some z) : am_Rt (am_ro xs) 2 ix_X11_elector [.ref 0, .int a1, .int a2] (hp A I x) (some (.int z.1), hp (up A 59 z.2.1) (up (up I 3714 z.2.2.1) 3715 z.2.2.2) x) := by
  refine am_Rt.J (k := ix_X11_elector) (M := mc_X11_elector) (nL := 3) (d := 1) (as := [.ref 0, .int a1, .int a2]) (res := fun z => (some (.int z.1), hp (up A 59 z.2.1) (up (up I 3714 z.2.2.1) 3715 z.2.2.2) x)) rfl (Nat.le_of_ble_eq_true rfl) (fun r => ?_) hz
  unfold f_X11_elector
  refine am_J.go 3 rfl ?_
  refine am_J.callz (v := fun r1 => r1) (h' := fun r1 => hp A I x) rfl rfl rfl (fun r1 hw => (t_X11_isWithin (h := hp A I x) a1 0 999 hw)) (fun r1 hr1 => ?_)
  refine am_J.eq rfl ?_ ?_
  · refine am_J.go 1 rfl ?_
    exact am_J.ret rfl (fun k => k)
  · refine am_J.go 3 rfl ?_
    refine am_J.callz (v := fun r2 => r2) (h' := fun r2 => hp A I x) rfl rfl rfl (fun r2 hw => (t_X11_isWithin (h := hp A I x) a2 0 1 hw)) (fun r2 hr2 => ?_)
    refine am_J.ne rfl ?_ ?_
    · refine am_J.go 1 rfl ?_
      exact am_J.ret rfl (fun k => k)
    · refine am_J.go 4 rfl ?_
      refine am_J.lt rfl ?_ ?_
      · refine am_J.go 4 rfl ?_
        refine am_J.call (v := fun r3 => .int r3.1) (h' := fun r3 => hp (up A 59 r3.2.1) (up (up I 3714 r3.2.2.1) 3715 r3.2.2.2) x) rfl (fun r3 hw => (t_X3_add A I x a1 a2 hw)) (fun r3 => ?_)
        exact am_J.ret rfl (fun k => k)
      · refine am_J.go 2 rfl ?_
        exact am_J.ret rfl (fun k => k)

def f_X11_feed (A : Nat → List Int32) (I : Nat → Int32) (a1 : Int32) (a2 : Int64) : Option (Int32 × (List Int32) × Int32) :=
  ((f_X11_isWithin a1 1 8).bind fun r1 =>
  (if r1 = 0 then
    some ((-2), (A 53), (I 3329))
  else
    (if ((I 3329) + a1) ≤ 160 then
      ((f_X8_append A I a1 a2).bind fun r2 =>
      some (r2.2, r2.1, r2.2))
    else
      some ((-4), (A 53), (I 3329)))))
set_option maxRecDepth 100000 in
set_option maxHeartbeats 4000000 in
theorem t_X11_feed {xs : List Int32} (A : Nat → List Int32) (I : Nat → Int32) (x : am_X) (a1 : Int32) (a2 : Int64) {z : Int32 × (List Int32) × Int32} (hz : f_X11_feed A I a1 a2 = some z) : am_Rt (am_ro xs) 2 ix_X11_feed [.ref 0, .int a1, .long a2] (hp A I x) (some (.int z.1), hp (up A 53 z.2.1) (up I 3329 z.2.2) x) := by
  refine am_Rt.J (k := ix_X11_feed) (M := mc_X11_feed) (nL := 4) (d := 1) (as := [.ref 0, .int a1, .long a2]) (res := fun z => (some (.int z.1), hp (up A 53 z.2.1) (up I 3329 z.2.2) x)) rfl (Nat.le_of_ble_eq_true rfl) (fun r => ?_) hz
  unfold f_X11_feed
  refine am_J.go 3 rfl ?_
  refine am_J.callz (v := fun r1 => r1) (h' := fun r1 => hp A I x) rfl rfl rfl (fun r1 hw => (t_X11_isWithin (h := hp A I x) a1 1 8 hw)) (fun r1 hr1 => ?_)
  refine am_J.ne rfl ?_ ?_
  · refine am_J.go 1 rfl ?_
    exact am_J.ret rfl (fun k => k)
  · refine am_J.go 6 rfl ?_
    refine am_J.le rfl ?_ ?_
    · refine am_J.go 4 rfl ?_
      refine am_J.calln (h' := fun r2 => hp (up A 53 r2.1) (up I 3329 r2.2) x) rfl (fun r2 hw => (t_X8_append A I x a1 a2 hw)) (fun r2 => ?_)
      refine am_J.go 3 rfl ?_
      exact am_J.ret rfl (fun k => k)
    · refine am_J.go 1 rfl ?_
      exact am_J.ret rfl (fun k => k)

def f_X11_goTogether_l1 (ys : List Int32) (a2 : Int32) : (Int32) → Option ((Int32) ⊕ ((Unit) ⊕ (Int32))) := fun s1 =>
    (if (Int32.ofNat ys.length) ≤ s1 then
      some (.inr (.inl ()))
    else
      ((f_X11_has a2 s1).bind fun r2 =>
      (if r2 = 0 then
        some (.inl (s1 + 1))
      else
        ((am_at ys s1).bind fun v3 =>
        (if (v3 &&& a2) = 0 then
          some (.inl (s1 + 1))
        else
          some (.inr (.inr 0)))))))
def f_X11_goTogether (ys : List Int32) (a2 : Int32) : Option (Int32) :=
  ((wl (f_X11_goTogether_l1 ys a2) 100000 0).bind (fun q => match q with
  | .inl _ =>
  some 1
  | .inr v => some v))
set_option maxRecDepth 100000 in
set_option maxHeartbeats 4000000 in
theorem t_X11_goTogether {xs : List Int32} {h : am_H} {a : Nat} {ys : List Int32} (a2 : Int32) (ha : a < am_RO) (hh : h[a]? = some (.inl (0, ys))) {z : Int32} (hz : f_X11_goTogether ys a2 = some z) : am_Rt (am_ro xs) 2 ix_X11_goTogether [.ref a, .int a2] h (some (.int z), h) := by
  refine am_Rt.J (k := ix_X11_goTogether) (M := mc_X11_goTogether) (nL := 3) (d := 1) (as := [.ref a, .int a2]) (res := fun z => (some (.int z), h)) rfl (Nat.le_of_ble_eq_true rfl) (fun r => ?_) hz
  unfold f_X11_goTogether
  refine am_J.go (cf' := (2, [some (.ref a), some (.int a2), some (.int 0)], [], h)) 2 rfl ?_
  refine am_J.weak (L' := [some (.ref a), some (.int a2), some (.int 0)]) (am_Lle.k (am_Lle.k (am_Lle.k am_Lle.nil))) ?_
  refine am_J.loop (cl := fun s1 => (2, [some (.ref a), some (.int a2), some (.int s1)], [], h)) (GX := fun q => Sum.elim (fun _ => am_Ev (am_ro xs) 1 mc_X11_goTogether (32, [none, none, none], [], h) r) (fun (z : Int32) => r = (some (.int z), h)) q) ?_ ?_
  · rintro s1
    unfold f_X11_goTogether_l1
    refine am_J.go 2 rfl ?_
    refine am_J.len (xs := ys) rfl ha hh ?_
    refine am_J.ge rfl ?_ ?_
    · refine am_J.go (cf' := (32, [some (.ref a), some (.int a2), some (.int s1)], [], h)) 0 rfl ?_
      exact am_J.leaf (fun k => am_Ev.weak (L' := [none, none, none]) (am_Lle.o (am_Lle.o (am_Lle.o am_Lle.nil))) k)
    · refine am_J.go 2 rfl ?_
      refine am_J.callz (v := fun r2 => r2) (h' := fun r2 => h) rfl rfl rfl (fun r2 hw => (t_X11_has (h := h) a2 s1 hw)) (fun r2 hr2 => ?_)
      refine am_J.eq rfl ?_ ?_
      · refine am_J.go (cf' := (2, [some (.ref a), some (.int a2), some (.int (s1 + 1))], [], h)) 2 rfl ?_
        exact am_J.leaf (fun k => am_Ev.weak (L' := [some (.ref a), some (.int a2), some (.int (s1 + 1))]) (am_Lle.k (am_Lle.k (am_Lle.k am_Lle.nil))) k)
      · refine am_J.go 2 rfl ?_
        refine am_J.ial (xs := ys) rfl ha hh (fun v3 => ?_)
        refine am_J.go 2 rfl ?_
        refine am_J.eq rfl ?_ ?_
        · refine am_J.go (cf' := (2, [some (.ref a), some (.int a2), some (.int (s1 + 1))], [], h)) 2 rfl ?_
          exact am_J.leaf (fun k => am_Ev.weak (L' := [some (.ref a), some (.int a2), some (.int (s1 + 1))]) (am_Lle.k (am_Lle.k (am_Lle.k am_Lle.nil))) k)
        · refine am_J.go 1 rfl ?_
          exact am_J.retz rfl (Or.inl rfl) (fun k => k)
  · intro q
    rcases q with ⟨⟩ | v
    · refine (?_ : am_J (am_ro xs) 1 mc_X11_goTogether r (32, [none, none, none], [], h) _ _)
      refine am_J.go 1 rfl ?_
      exact am_J.retz rfl (Or.inr rfl) (fun k => k)
    · intro z hz hk
      cases hz
      exact hk

def f_X11_isAct (A : Nat → List Int32) (I : Nat → Int32) (a1 : Int32) : Option (Int32) :=
  ((f_X11_isWithin a1 0 ((I 1863) - 1)).bind fun r1 =>
  some r1)
set_option maxRecDepth 100000 in
set_option maxHeartbeats 4000000 in
theorem t_X11_isAct {xs : List Int32} (A : Nat → List Int32) (I : Nat → Int32) (x : am_X) (a1 : Int32) {z : Int32} (hz : f_X11_isAct A I a1 = some z) : am_Rt (am_ro xs) 2 ix_X11_isAct [.ref 0, .int a1] (hp A I x) (some (.int z), hp A I x) := by
  refine am_Rt.J (k := ix_X11_isAct) (M := mc_X11_isAct) (nL := 2) (d := 1) (as := [.ref 0, .int a1]) (res := fun z => (some (.int z), hp A I x)) rfl (Nat.le_of_ble_eq_true rfl) (fun r => ?_) hz
  unfold f_X11_isAct
  refine am_J.go 7 rfl ?_
  refine am_J.callz (v := fun r1 => r1) (h' := fun r1 => hp A I x) rfl rfl rfl (fun r1 hw => (t_X11_isWithin (h := hp A I x) a1 0 ((I 1863) - 1) hw)) (fun r1 hr1 => ?_)
  exact am_J.retz rfl hr1 (fun k => k)

def f_X11_isClause (A : Nat → List Int32) (I : Nat → Int32) (a1 : Int32) : Option (Int32) :=
  ((f_X11_isWithin a1 0 ((I 3907) - 1)).bind fun r1 =>
  some r1)
set_option maxRecDepth 100000 in
set_option maxHeartbeats 4000000 in
theorem t_X11_isClause {xs : List Int32} (A : Nat → List Int32) (I : Nat → Int32) (x : am_X) (a1 : Int32) {z : Int32} (hz : f_X11_isClause A I a1 = some z) : am_Rt (am_ro xs) 2 ix_X11_isClause [.ref 0, .int a1] (hp A I x) (some (.int z), hp A I x) := by
  refine am_Rt.J (k := ix_X11_isClause) (M := mc_X11_isClause) (nL := 2) (d := 1) (as := [.ref 0, .int a1]) (res := fun z => (some (.int z), hp A I x)) rfl (Nat.le_of_ble_eq_true rfl) (fun r => ?_) hz
  unfold f_X11_isClause
  refine am_J.go 7 rfl ?_
  refine am_J.callz (v := fun r1 => r1) (h' := fun r1 => hp A I x) rfl rfl rfl (fun r1 hw => (t_X11_isWithin (h := hp A I x) a1 0 ((I 3907) - 1) hw)) (fun r1 hr1 => ?_)
  exact am_J.retz rfl hr1 (fun k => k)

def f_X11_isDay (a1 : Int32) : Option (Int32) :=
  ((f_X11_isWithin a1 0 9999).bind fun r1 =>
  some r1)
set_option maxRecDepth 100000 in
set_option maxHeartbeats 4000000 in
theorem t_X11_isDay {xs : List Int32} {h : am_H} (a1 : Int32) {z : Int32} (hz : f_X11_isDay a1 = some z) : am_Rt (am_ro xs) 2 ix_X11_isDay [.int a1] h (some (.int z), h) := by
  refine am_Rt.J (k := ix_X11_isDay) (M := mc_X11_isDay) (nL := 1) (d := 1) (as := [.int a1]) (res := fun z => (some (.int z), h)) rfl (Nat.le_of_ble_eq_true rfl) (fun r => ?_) hz
  unfold f_X11_isDay
  refine am_J.go 3 rfl ?_
  refine am_J.callz (v := fun r1 => r1) (h' := fun r1 => h) rfl rfl rfl (fun r1 hw => (t_X11_isWithin (h := h) a1 0 9999 hw)) (fun r1 hr1 => ?_)
  exact am_J.retz rfl hr1 (fun k => k)

def f_X11_isLand (a1 : Int32) : Option (Int32) :=
  ((f_X11_isWithin a1 0 7).bind fun r1 =>
  some r1)
set_option maxRecDepth 100000 in
set_option maxHeartbeats 4000000 in
theorem t_X11_isLand {xs : List Int32} {h : am_H} (a1 : Int32) {z : Int32} (hz : f_X11_isLand a1 = some z) : am_Rt (am_ro xs) 2 ix_X11_isLand [.int a1] h (some (.int z), h) := by
  refine am_Rt.J (k := ix_X11_isLand) (M := mc_X11_isLand) (nL := 1) (d := 1) (as := [.int a1]) (res := fun z => (some (.int z), h)) rfl (Nat.le_of_ble_eq_true rfl) (fun r => ?_) hz
  unfold f_X11_isLand
  refine am_J.go 3 rfl ?_
  refine am_J.callz (v := fun r1 => r1) (h' := fun r1 => h) rfl rfl rfl (fun r1 hw => (t_X11_isWithin (h := h) a1 0 7 hw)) (fun r1 hr1 => ?_)
  exact am_J.retz rfl hr1 (fun k => k)

def f_X11_isOffice (a1 : Int32) : Option (Int32) :=
  ((f_X11_isWithin a1 0 5).bind fun r1 =>
  some r1)
set_option maxRecDepth 100000 in
set_option maxHeartbeats 4000000 in
theorem t_X11_isOffice {xs : List Int32} {h : am_H} (a1 : Int32) {z : Int32} (hz : f_X11_isOffice a1 = some z) : am_Rt (am_ro xs) 2 ix_X11_isOffice [.int a1] h (some (.int z), h) := by
  refine am_Rt.J (k := ix_X11_isOffice) (M := mc_X11_isOffice) (nL := 1) (d := 1) (as := [.int a1]) (res := fun z => (some (.int z), h)) rfl (Nat.le_of_ble_eq_true rfl) (fun r => ?_) hz
  unfold f_X11_isOffice
  refine am_J.go 3 rfl ?_
  refine am_J.callz (v := fun r1 => r1) (h' := fun r1 => h) rfl rfl rfl (fun r1 hw => (t_X11_isWithin (h := h) a1 0 5 hw)) (fun r1 hr1 => ?_)
  exact am_J.retz rfl hr1 (fun k => k)

def f_X11_isPerson (A : Nat → List Int32) (I : Nat → Int32) (a1 : Int32) : Option (Int32) :=
  ((f_X11_isWithin a1 0 ((I 1601) - 1)).bind fun r1 =>
  some r1)
set_option maxRecDepth 100000 in
set_option maxHeartbeats 4000000 in
theorem t_X11_isPerson {xs : List Int32} (A : Nat → List Int32) (I : Nat → Int32) (x : am_X) (a1 : Int32) {z : Int32} (hz : f_X11_isPerson A I a1 = some z) : am_Rt (am_ro xs) 2 ix_X11_isPerson [.ref 0, .int a1] (hp A I x) (some (.int z), hp A I x) := by
  refine am_Rt.J (k := ix_X11_isPerson) (M := mc_X11_isPerson) (nL := 2) (d := 1) (as := [.ref 0, .int a1]) (res := fun z => (some (.int z), hp A I x)) rfl (Nat.le_of_ble_eq_true rfl) (fun r => ?_) hz
  unfold f_X11_isPerson
  refine am_J.go 7 rfl ?_
  refine am_J.callz (v := fun r1 => r1) (h' := fun r1 => hp A I x) rfl rfl rfl (fun r1 hw => (t_X11_isWithin (h := hp A I x) a1 0 ((I 1601) - 1) hw)) (fun r1 hr1 => ?_)
  exact am_J.retz rfl hr1 (fun k => k)

def f_X11_isSheet (a1 : Int32) : Option (Int32) :=
  ((f_X11_isWithin a1 0 3).bind fun r1 =>
  some r1)
set_option maxRecDepth 100000 in
set_option maxHeartbeats 4000000 in
theorem t_X11_isSheet {xs : List Int32} {h : am_H} (a1 : Int32) {z : Int32} (hz : f_X11_isSheet a1 = some z) : am_Rt (am_ro xs) 2 ix_X11_isSheet [.int a1] h (some (.int z), h) := by
  refine am_Rt.J (k := ix_X11_isSheet) (M := mc_X11_isSheet) (nL := 1) (d := 1) (as := [.int a1]) (res := fun z => (some (.int z), h)) rfl (Nat.le_of_ble_eq_true rfl) (fun r => ?_) hz
  unfold f_X11_isSheet
  refine am_J.go 3 rfl ?_
  refine am_J.callz (v := fun r1 => r1) (h' := fun r1 => h) rfl rfl rfl (fun r1 hw => (t_X11_isWithin (h := h) a1 0 3 hw)) (fun r1 hr1 => ?_)
  exact am_J.retz rfl hr1 (fun k => k)

def f_X11_isSide (a1 : Int32) : Option (Int32) :=
  ((f_X11_isWithin a1 0 2).bind fun r1 =>
  some r1)
set_option maxRecDepth 100000 in
set_option maxHeartbeats 4000000 in
theorem t_X11_isSide {xs : List Int32} {h : am_H} (a1 : Int32) {z : Int32} (hz : f_X11_isSide a1 = some z) : am_Rt (am_ro xs) 2 ix_X11_isSide [.int a1] h (some (.int z), h) := by
  refine am_Rt.J (k := ix_X11_isSide) (M := mc_X11_isSide) (nL := 1) (d := 1) (as := [.int a1]) (res := fun z => (some (.int z), h)) rfl (Nat.le_of_ble_eq_true rfl) (fun r => ?_) hz
  unfold f_X11_isSide
  refine am_J.go 3 rfl ?_
  refine am_J.callz (v := fun r1 => r1) (h' := fun r1 => h) rfl rfl rfl (fun r1 hw => (t_X11_isWithin (h := h) a1 0 2 hw)) (fun r1 hr1 => ?_)
  exact am_J.retz rfl hr1 (fun k => k)

def f_X11_lift (A : Nat → List Int32) (I : Nat → Int32) (a1 : Int32) (a2 : Int32) : Option (Int32 × (List Int32)) :=
  ((f_X11_isAct A I a1).bind fun r1 =>
  (if r1 = 0 then
    some ((-2), (A 36))
  else
    ((f_X11_isDay a2).bind fun r2 =>
    (if r2 = 0 then
      some ((-2), (A 36))
    else
      ((am_at (A 33) a1).bind fun v3 =>
      (if v3 ≤ a2 then
        ((am_at (A 30) a1).bind fun v4 =>
        (if v4 = 4 then
          ((am_at (A 36) a1).bind fun v5 =>
          (if v5 = (-1) then
            ((am_up (A 36) a1 a2).bind fun y6 =>
            ((f_X2_lastsFor (up A 36 y6) I a1).bind fun r7 =>
            some (r7, y6)))
          else
            some ((-3), (A 36))))
        else
          some ((-13), (A 36))))
      else
        some ((-2), (A 36))))))))
set_option maxRecDepth 100000 in
set_option maxHeartbeats 4000000 in
theorem t_X11_lift {xs : List Int32} (A : Nat → List Int32) (I : Nat → Int32) (x : am_X) (a1 : Int32) (a2 : Int32) {z : Int32 × (List Int32)} (hz : f_X11_lift A I a1 a2 = some z) : am_Rt (am_ro xs) 3 ix_X11_lift [.ref 0, .int a1, .int a2] (hp A I x) (some (.int z.1), hp (up A 36 z.2) I x) := by
  refine am_Rt.J (k := ix_X11_lift) (M := mc_X11_lift) (nL := 3) (d := 2) (as := [.ref 0, .int a1, .int a2]) (res := fun z => (some (.int z.1), hp (up A 36 z.2) I x)) rfl (Nat.le_of_ble_eq_true rfl) (fun r => ?_) hz
  unfold f_X11_lift
  refine am_J.go 2 rfl ?_
  refine am_J.callz (v := fun r1 => r1) (h' := fun r1 => hp A I x) rfl rfl rfl (fun r1 hw => (t_X11_isAct A I x a1 hw)) (fun r1 hr1 => ?_)
  refine am_J.eq rfl ?_ ?_
  · refine am_J.go 1 rfl ?_
    exact am_J.ret rfl (fun k => k)
  · refine am_J.go 1 rfl ?_
    refine am_J.callz (v := fun r2 => r2) (h' := fun r2 => hp A I x) rfl rfl rfl (fun r2 hw => (t_X11_isDay (h := hp A I x) a2 hw)) (fun r2 hr2 => ?_)
    refine am_J.eq rfl ?_ ?_
    · refine am_J.go 1 rfl ?_
      exact am_J.ret rfl (fun k => k)
    · refine am_J.go 5 rfl ?_
      refine am_J.ial (xs := (A 33)) rfl (Nat.le_of_ble_eq_true rfl) rfl (fun v3 => ?_)
      refine am_J.ge rfl ?_ ?_
      · refine am_J.go 4 rfl ?_
        refine am_J.ial (xs := (A 30)) rfl (Nat.le_of_ble_eq_true rfl) rfl (fun v4 => ?_)
        refine am_J.go 1 rfl ?_
        refine am_J.eq rfl ?_ ?_
        · refine am_J.go 4 rfl ?_
          refine am_J.ial (xs := (A 36)) rfl (Nat.le_of_ble_eq_true rfl) rfl (fun v5 => ?_)
          refine am_J.go 1 rfl ?_
          refine am_J.eq rfl ?_ ?_
          · refine am_J.go 5 rfl ?_
            refine am_J.ias (xs := (A 36)) (h' := fun y6 => hp (up A 36 y6) I x) rfl rfl (fun _ => rfl) (fun y6 => ?_)
            refine am_J.go 3 rfl ?_
            refine am_J.call (v := fun r7 => .int r7) (h' := fun r7 => hp (up A 36 y6) I x) rfl (fun r7 hw => (t_X2_lastsFor (up A 36 y6) I x a1 hw).mono (Nat.le_of_ble_eq_true rfl)) (fun r7 => ?_)
            exact am_J.ret rfl (fun k => k)
          · refine am_J.go 1 rfl ?_
            exact am_J.ret rfl (fun k => k)
        · refine am_J.go 1 rfl ?_
          exact am_J.ret rfl (fun k => k)
      · refine am_J.go 1 rfl ?_
        exact am_J.ret rfl (fun k => k)

def f_X11_office (A : Nat → List Int32) (I : Nat → Int32) (a1 : Int32) (a2 : Int32) : Option (Int32 × (List Int32)) :=
  ((f_X11_isOffice a1).bind fun r1 =>
  (if r1 = 0 then
    some ((-2), (A 27))
  else
    ((f_X11_isLand a2).bind fun r2 =>
    (if r2 = 0 then
      some ((-2), (A 27))
    else
      ((am_at (A 27) a1).bind fun v3 =>
      ((am_up (A 27) a1 a2).bind fun y4 =>
      some (v3, y4)))))))
set_option maxRecDepth 100000 in
set_option maxHeartbeats 4000000 in
theorem t_X11_office {xs : List Int32} (A : Nat → List Int32) (I : Nat → Int32) (x : am_X) (a1 : Int32) (a2 : Int32) {z : Int32 × (List Int32)} (hz : f_X11_office A I a1 a2 = some z) : am_Rt (am_ro xs) 3 ix_X11_office [.ref 0, .int a1, .int a2] (hp A I x) (some (.int z.1), hp (up A 27 z.2) I x) := by
  refine am_Rt.J (k := ix_X11_office) (M := mc_X11_office) (nL := 4) (d := 2) (as := [.ref 0, .int a1, .int a2]) (res := fun z => (some (.int z.1), hp (up A 27 z.2) I x)) rfl (Nat.le_of_ble_eq_true rfl) (fun r => ?_) hz
  unfold f_X11_office
  refine am_J.go 1 rfl ?_
  refine am_J.callz (v := fun r1 => r1) (h' := fun r1 => hp A I x) rfl rfl rfl (fun r1 hw => (t_X11_isOffice (h := hp A I x) a1 hw)) (fun r1 hr1 => ?_)
  refine am_J.eq rfl ?_ ?_
  · refine am_J.go 1 rfl ?_
    exact am_J.ret rfl (fun k => k)
  · refine am_J.go 1 rfl ?_
    refine am_J.callz (v := fun r2 => r2) (h' := fun r2 => hp A I x) rfl rfl rfl (fun r2 hw => (t_X11_isLand (h := hp A I x) a2 hw)) (fun r2 hr2 => ?_)
    refine am_J.ne rfl ?_ ?_
    · refine am_J.go 1 rfl ?_
      exact am_J.ret rfl (fun k => k)
    · refine am_J.go 4 rfl ?_
      refine am_J.ial (xs := (A 27)) rfl (Nat.le_of_ble_eq_true rfl) rfl (fun v3 => ?_)
      refine am_J.go 6 rfl ?_
      refine am_J.ias (xs := (A 27)) (h' := fun y4 => hp (up A 27 y4) I x) rfl rfl (fun _ => rfl) (fun y4 => ?_)
      refine am_J.go 1 rfl ?_
      exact am_J.ret rfl (fun k => k)

def f_X11_officeTold (A : Nat → List Int32) (I : Nat → Int32) (a1 : Int32) (a2 : Int32) : Option (Int32) :=
  ((f_X11_isOffice a1).bind fun r1 =>
  (if r1 = 0 then
    some (-2)
  else
    ((f_X11_isWithin a2 0 1).bind fun r2 =>
    (if r2 = 0 then
      some (-2)
    else
      (if a2 = 0 then
        ((am_at (A 27) a1).bind fun v4 =>
        some v4)
      else
        ((am_at (A 28) a1).bind fun v3 =>
        some v3))))))
set_option maxRecDepth 100000 in
set_option maxHeartbeats 4000000 in
theorem t_X11_officeTold {xs : List Int32} (A : Nat → List Int32) (I : Nat → Int32) (x : am_X) (a1 : Int32) (a2 : Int32) {z : Int32} (hz : f_X11_officeTold A I a1 a2 = some z) : am_Rt (am_ro xs) 3 ix_X11_officeTold [.ref 0, .int a1, .int a2] (hp A I x) (some (.int z), hp A I x) := by
  refine am_Rt.J (k := ix_X11_officeTold) (M := mc_X11_officeTold) (nL := 3) (d := 2) (as := [.ref 0, .int a1, .int a2]) (res := fun z => (some (.int z), hp A I x)) rfl (Nat.le_of_ble_eq_true rfl) (fun r => ?_) hz
  unfold f_X11_officeTold
  refine am_J.go 1 rfl ?_
  refine am_J.callz (v := fun r1 => r1) (h' := fun r1 => hp A I x) rfl rfl rfl (fun r1 hw => (t_X11_isOffice (h := hp A I x) a1 hw)) (fun r1 hr1 => ?_)
  refine am_J.eq rfl ?_ ?_
  · refine am_J.go 1 rfl ?_
    exact am_J.ret rfl (fun k => k)
  · refine am_J.go 3 rfl ?_
    refine am_J.callz (v := fun r2 => r2) (h' := fun r2 => hp A I x) rfl rfl rfl (fun r2 hw => (t_X11_isWithin (h := hp A I x) a2 0 1 hw).mono (Nat.le_of_ble_eq_true rfl)) (fun r2 hr2 => ?_)
    refine am_J.ne rfl ?_ ?_
    · refine am_J.go 1 rfl ?_
      exact am_J.ret rfl (fun k => k)
    · refine am_J.go 1 rfl ?_
      refine am_J.ne rfl ?_ ?_
      · refine am_J.go 4 rfl ?_
        refine am_J.ial (xs := (A 27)) rfl (Nat.le_of_ble_eq_true rfl) rfl (fun v4 => ?_)
        refine am_J.go 1 rfl ?_
        exact am_J.ret rfl (fun k => k)
      · refine am_J.go 4 rfl ?_
        refine am_J.ial (xs := (A 28)) rfl (Nat.le_of_ble_eq_true rfl) rfl (fun v3 => ?_)
        exact am_J.ret rfl (fun k => k)

def f_X11_pay (A : Nat → List Int32) (I : Nat → Int32) (a1 : Int32) (a2 : Int32) (a3 : Int32) (a4 : Int32) : Option (Int32 × (List Int32) × (List Int32) × (List Int32) × (List Int32) × Int32) :=
  ((f_X11_isOffice a1).bind fun r1 =>
  (if r1 = 0 then
    some ((-2), (A 48), (A 49), (A 50), (A 51), (I 3012))
  else
    ((f_X11_isPerson A I a2).bind fun r2 =>
    (if r2 = 0 then
      some ((-2), (A 48), (A 49), (A 50), (A 51), (I 3012))
    else
      ((f_X11_isWithin a3 1 9999).bind fun r3 =>
      (if r3 = 0 then
        some ((-2), (A 48), (A 49), (A 50), (A 51), (I 3012))
      else
        ((f_X11_isDay a4).bind fun r4 =>
        (if r4 = 0 then
          some ((-2), (A 48), (A 49), (A 50), (A 51), (I 3012))
        else
          (if (I 3012) < 30 then
            ((f_X9_add A I a1 a2 a3 a4).bind fun r5 =>
            some (r5.1, r5.2.1, r5.2.2.1, r5.2.2.2.1, r5.2.2.2.2.1, r5.2.2.2.2.2))
          else
            some ((-4), (A 48), (A 49), (A 50), (A 51), (I 3012)))))))))))
set_option maxRecDepth 100000 in
set_option maxHeartbeats 4000000 in
theorem t_X11_pay {xs : List Int32} (A : Nat → List Int32) (I : Nat → Int32) (x : am_X) (a1 : Int32) (a2 : Int32) (a3 : Int32) (a4 : Int32) {z : Int32 × (List Int32) × (List Int32) × (List Int32) × (List Int32) × Int32} (hz : f_X11_pay A I a1 a2 a3 a4 = some z) : am_Rt (am_ro xs) 3 ix_X11_pay [.ref 0, .int a1, .int a2, .int a3, .int a4] (hp A I x) (some (.int z.1), hp (up (up (up (up A 48 z.2.1) 49 z.2.2.1) 50 z.2.2.2.1) 51 z.2.2.2.2.1) (up I 3012 z.2.2.2.2.2) x) := by
  refine am_Rt.J (k := ix_X11_pay) (M := mc_X11_pay) (nL := 5) (d := 2) (as := [.ref 0, .int a1, .int a2, .int a3, .int a4]) (res := fun z => (some (.int z.1), hp (up (up (up (up A 48 z.2.1) 49 z.2.2.1) 50 z.2.2.2.1) 51 z.2.2.2.2.1) (up I 3012 z.2.2.2.2.2) x)) rfl (Nat.le_of_ble_eq_true rfl) (fun r => ?_) hz
  unfold f_X11_pay
  refine am_J.go 1 rfl ?_
  refine am_J.callz (v := fun r1 => r1) (h' := fun r1 => hp A I x) rfl rfl rfl (fun r1 hw => (t_X11_isOffice (h := hp A I x) a1 hw)) (fun r1 hr1 => ?_)
  refine am_J.eq rfl ?_ ?_
  · refine am_J.go 1 rfl ?_
    exact am_J.ret rfl (fun k => k)
  · refine am_J.go 2 rfl ?_
    refine am_J.callz (v := fun r2 => r2) (h' := fun r2 => hp A I x) rfl rfl rfl (fun r2 hw => (t_X11_isPerson A I x a2 hw)) (fun r2 hr2 => ?_)
    refine am_J.ne rfl ?_ ?_
    · refine am_J.go 1 rfl ?_
      exact am_J.ret rfl (fun k => k)
    · refine am_J.go 3 rfl ?_
      refine am_J.callz (v := fun r3 => r3) (h' := fun r3 => hp A I x) rfl rfl rfl (fun r3 hw => (t_X11_isWithin (h := hp A I x) a3 1 9999 hw).mono (Nat.le_of_ble_eq_true rfl)) (fun r3 hr3 => ?_)
      refine am_J.eq rfl ?_ ?_
      · refine am_J.go 1 rfl ?_
        exact am_J.ret rfl (fun k => k)
      · refine am_J.go 1 rfl ?_
        refine am_J.callz (v := fun r4 => r4) (h' := fun r4 => hp A I x) rfl rfl rfl (fun r4 hw => (t_X11_isDay (h := hp A I x) a4 hw)) (fun r4 hr4 => ?_)
        refine am_J.ne rfl ?_ ?_
        · refine am_J.go 1 rfl ?_
          exact am_J.ret rfl (fun k => k)
        · refine am_J.go 4 rfl ?_
          refine am_J.lt rfl ?_ ?_
          · refine am_J.go 6 rfl ?_
            refine am_J.call (v := fun r5 => .int r5.1) (h' := fun r5 => hp (up (up (up (up A 48 r5.2.1) 49 r5.2.2.1) 50 r5.2.2.2.1) 51 r5.2.2.2.2.1) (up I 3012 r5.2.2.2.2.2) x) rfl (fun r5 hw => (t_X9_add A I x a1 a2 a3 a4 hw).mono (Nat.le_of_ble_eq_true rfl)) (fun r5 => ?_)
            exact am_J.ret rfl (fun k => k)
          · refine am_J.go 2 rfl ?_
            exact am_J.ret rfl (fun k => k)

def f_X11_person (A : Nat → List Int32) (I : Nat → Int32) (a1 : Int32) : Option (Int32 × (List Int32) × Int32) :=
  ((f_X11_isLand a1).bind fun r1 =>
  (if r1 = 0 then
    some ((-2), (A 26), (I 1601))
  else
    (if (I 1601) < 12 then
      ((am_up (A 26) (I 1601) a1).bind fun y2 =>
      some ((I 1601), y2, ((I 1601) + 1)))
    else
      some ((-4), (A 26), (I 1601)))))
set_option maxRecDepth 100000 in
set_option maxHeartbeats 4000000 in
theorem t_X11_person {xs : List Int32} (A : Nat → List Int32) (I : Nat → Int32) (x : am_X) (a1 : Int32) {z : Int32 × (List Int32) × Int32} (hz : f_X11_person A I a1 = some z) : am_Rt (am_ro xs) 3 ix_X11_person [.ref 0, .int a1] (hp A I x) (some (.int z.1), hp (up A 26 z.2.1) (up I 1601 z.2.2) x) := by
  refine am_Rt.J (k := ix_X11_person) (M := mc_X11_person) (nL := 2) (d := 2) (as := [.ref 0, .int a1]) (res := fun z => (some (.int z.1), hp (up A 26 z.2.1) (up I 1601 z.2.2) x)) rfl (Nat.le_of_ble_eq_true rfl) (fun r => ?_) hz
  unfold f_X11_person
  refine am_J.go 1 rfl ?_
  refine am_J.callz (v := fun r1 => r1) (h' := fun r1 => hp A I x) rfl rfl rfl (fun r1 hw => (t_X11_isLand (h := hp A I x) a1 hw)) (fun r1 hr1 => ?_)
  refine am_J.ne rfl ?_ ?_
  · refine am_J.go 1 rfl ?_
    exact am_J.ret rfl (fun k => k)
  · refine am_J.go 4 rfl ?_
    refine am_J.lt rfl ?_ ?_
    · refine am_J.go 7 rfl ?_
      refine am_J.ias (xs := (A 26)) (h' := fun y2 => hp (up A 26 y2) I x) rfl rfl (fun _ => rfl) (fun y2 => ?_)
      refine am_J.go 8 rfl ?_
      exact am_J.ret rfl (fun k => k)
    · refine am_J.go 1 rfl ?_
      exact am_J.ret rfl (fun k => k)

def f_X11_rule (A : Nat → List Int32) (I : Nat → Int32) (a1 : Int32) (a2 : Int32) : Option (Int32 × (List Int32)) :=
  ((f_X11_isSide a1).bind fun r1 =>
  (if r1 = 0 then
    some ((-2), (A 40))
  else
    ((f_X11_isWithin a2 0 ((I 2373) - 1)).bind fun r2 =>
    (if r2 = 0 then
      some ((-2), (A 40))
    else
      ((am_at (A 40) a1).bind fun v3 =>
      ((am_up (A 40) a1 a2).bind fun y4 =>
      some (v3, y4)))))))
set_option maxRecDepth 100000 in
set_option maxHeartbeats 4000000 in
theorem t_X11_rule {xs : List Int32} (A : Nat → List Int32) (I : Nat → Int32) (x : am_X) (a1 : Int32) (a2 : Int32) {z : Int32 × (List Int32)} (hz : f_X11_rule A I a1 a2 = some z) : am_Rt (am_ro xs) 3 ix_X11_rule [.ref 0, .int a1, .int a2] (hp A I x) (some (.int z.1), hp (up A 40 z.2) I x) := by
  refine am_Rt.J (k := ix_X11_rule) (M := mc_X11_rule) (nL := 4) (d := 2) (as := [.ref 0, .int a1, .int a2]) (res := fun z => (some (.int z.1), hp (up A 40 z.2) I x)) rfl (Nat.le_of_ble_eq_true rfl) (fun r => ?_) hz
  unfold f_X11_rule
  refine am_J.go 1 rfl ?_
  refine am_J.callz (v := fun r1 => r1) (h' := fun r1 => hp A I x) rfl rfl rfl (fun r1 hw => (t_X11_isSide (h := hp A I x) a1 hw)) (fun r1 hr1 => ?_)
  refine am_J.eq rfl ?_ ?_
  · refine am_J.go 1 rfl ?_
    exact am_J.ret rfl (fun k => k)
  · refine am_J.go 7 rfl ?_
    refine am_J.callz (v := fun r2 => r2) (h' := fun r2 => hp A I x) rfl rfl rfl (fun r2 hw => (t_X11_isWithin (h := hp A I x) a2 0 ((I 2373) - 1) hw).mono (Nat.le_of_ble_eq_true rfl)) (fun r2 hr2 => ?_)
    refine am_J.ne rfl ?_ ?_
    · refine am_J.go 1 rfl ?_
      exact am_J.ret rfl (fun k => k)
    · refine am_J.go 4 rfl ?_
      refine am_J.ial (xs := (A 40)) rfl (Nat.le_of_ble_eq_true rfl) rfl (fun v3 => ?_)
      refine am_J.go 6 rfl ?_
      refine am_J.ias (xs := (A 40)) (h' := fun y4 => hp (up A 40 y4) I x) rfl rfl (fun _ => rfl) (fun y4 => ?_)
      refine am_J.go 1 rfl ?_
      exact am_J.ret rfl (fun k => k)

def f_X11_seat (A : Nat → List Int32) (I : Nat → Int32) (a1 : Int32) (a2 : Int32) : Option (Int32 × (List Int32)) :=
  ((f_X11_isOffice a1).bind fun r1 =>
  (if r1 = 0 then
    some ((-5), (A 28))
  else
    (if a2 = (-1) then
      ((am_at (A 28) a1).bind fun v2 =>
      ((am_up (A 28) a1 a2).bind fun y3 =>
      some (v2, y3)))
    else
      ((f_X11_isPerson A I a2).bind fun r4 =>
      (if r4 = 0 then
        some ((-5), (A 28))
      else
        ((am_at (A 28) a1).bind fun v5 =>
        ((am_up (A 28) a1 a2).bind fun y6 =>
        some (v5, y6))))))))
set_option maxRecDepth 100000 in
set_option maxHeartbeats 4000000 in
theorem t_X11_seat {xs : List Int32} (A : Nat → List Int32) (I : Nat → Int32) (x : am_X) (a1 : Int32) (a2 : Int32) {z : Int32 × (List Int32)} (hz : f_X11_seat A I a1 a2 = some z) : am_Rt (am_ro xs) 3 ix_X11_seat [.ref 0, .int a1, .int a2] (hp A I x) (some (.int z.1), hp (up A 28 z.2) I x) := by
  refine am_Rt.J (k := ix_X11_seat) (M := mc_X11_seat) (nL := 4) (d := 2) (as := [.ref 0, .int a1, .int a2]) (res := fun z => (some (.int z.1), hp (up A 28 z.2) I x)) rfl (Nat.le_of_ble_eq_true rfl) (fun r => ?_) hz
  unfold f_X11_seat
  refine am_J.go 1 rfl ?_
  refine am_J.callz (v := fun r1 => r1) (h' := fun r1 => hp A I x) rfl rfl rfl (fun r1 hw => (t_X11_isOffice (h := hp A I x) a1 hw)) (fun r1 hr1 => ?_)
  refine am_J.eq rfl ?_ ?_
  · refine am_J.go 1 rfl ?_
    exact am_J.ret rfl (fun k => k)
  · refine am_J.go 2 rfl ?_
    refine am_J.eq rfl ?_ ?_
    · refine am_J.go 4 rfl ?_
      refine am_J.ial (xs := (A 28)) rfl (Nat.le_of_ble_eq_true rfl) rfl (fun v2 => ?_)
      refine am_J.go 6 rfl ?_
      refine am_J.ias (xs := (A 28)) (h' := fun y3 => hp (up A 28 y3) I x) rfl rfl (fun _ => rfl) (fun y3 => ?_)
      refine am_J.go 1 rfl ?_
      exact am_J.ret rfl (fun k => k)
    · refine am_J.go 2 rfl ?_
      refine am_J.callz (v := fun r4 => r4) (h' := fun r4 => hp A I x) rfl rfl rfl (fun r4 hw => (t_X11_isPerson A I x a2 hw)) (fun r4 hr4 => ?_)
      refine am_J.ne rfl ?_ ?_
      · refine am_J.go 1 rfl ?_
        exact am_J.ret rfl (fun k => k)
      · refine am_J.go 4 rfl ?_
        refine am_J.ial (xs := (A 28)) rfl (Nat.le_of_ble_eq_true rfl) rfl (fun v5 => ?_)
        refine am_J.go 6 rfl ?_
        refine am_J.ias (xs := (A 28)) (h' := fun y6 => hp (up A 28 y6) I x) rfl rfl (fun _ => rfl) (fun y6 => ?_)
        refine am_J.go 1 rfl ?_
        exact am_J.ret rfl (fun k => k)

def f_X11_seats (A : Nat → List Int32) (I : Nat → Int32) (a1 : Int32) (a2 : Int32) : Option (Int32 × (List Int32)) :=
  ((f_X11_isLand a1).bind fun r1 =>
  (if r1 = 0 then
    some ((-2), (A 23))
  else
    ((f_X11_isWithin a2 0 99).bind fun r2 =>
    (if r2 = 0 then
      some ((-2), (A 23))
    else
      ((am_at (A 23) a1).bind fun v3 =>
      ((am_up (A 23) a1 a2).bind fun y4 =>
      some (v3, y4)))))))
set_option maxRecDepth 100000 in
set_option maxHeartbeats 4000000 in
theorem t_X11_seats {xs : List Int32} (A : Nat → List Int32) (I : Nat → Int32) (x : am_X) (a1 : Int32) (a2 : Int32) {z : Int32 × (List Int32)} (hz : f_X11_seats A I a1 a2 = some z) : am_Rt (am_ro xs) 3 ix_X11_seats [.ref 0, .int a1, .int a2] (hp A I x) (some (.int z.1), hp (up A 23 z.2) I x) := by
  refine am_Rt.J (k := ix_X11_seats) (M := mc_X11_seats) (nL := 4) (d := 2) (as := [.ref 0, .int a1, .int a2]) (res := fun z => (some (.int z.1), hp (up A 23 z.2) I x)) rfl (Nat.le_of_ble_eq_true rfl) (fun r => ?_) hz
  unfold f_X11_seats
  refine am_J.go 1 rfl ?_
  refine am_J.callz (v := fun r1 => r1) (h' := fun r1 => hp A I x) rfl rfl rfl (fun r1 hw => (t_X11_isLand (h := hp A I x) a1 hw)) (fun r1 hr1 => ?_)
  refine am_J.eq rfl ?_ ?_
  · refine am_J.go 1 rfl ?_
    exact am_J.ret rfl (fun k => k)
  · refine am_J.go 3 rfl ?_
    refine am_J.callz (v := fun r2 => r2) (h' := fun r2 => hp A I x) rfl rfl rfl (fun r2 hw => (t_X11_isWithin (h := hp A I x) a2 0 99 hw).mono (Nat.le_of_ble_eq_true rfl)) (fun r2 hr2 => ?_)
    refine am_J.ne rfl ?_ ?_
    · refine am_J.go 1 rfl ?_
      exact am_J.ret rfl (fun k => k)
    · refine am_J.go 4 rfl ?_
      refine am_J.ial (xs := (A 23)) rfl (Nat.le_of_ble_eq_true rfl) rfl (fun v3 => ?_)
      refine am_J.go 6 rfl ?_
      refine am_J.ias (xs := (A 23)) (h' := fun y4 => hp (up A 23 y4) I x) rfl rfl (fun _ => rfl) (fun y4 => ?_)
      refine am_J.go 1 rfl ?_
      exact am_J.ret rfl (fun k => k)

def f_X11_taken (A : Nat → List Int32) (I : Nat → Int32) (a1 : Int32) (a2 : Int32) : Option (Int32) :=
  ((f_X11_isWithin a2 0 5).bind fun r1 =>
  (if r1 = 0 then
    some (-2)
  else
    ((f_X11_isAct A I a1).bind fun r2 =>
    (if r2 = 0 then
      some (-11)
    else
      ((am_at (A 30) a1).bind fun v3 =>
      ((f_X11_isUnder v3 a2).bind fun r4 =>
      (if r4 = 0 then
        some (-13)
      else
        ((am_at (am_sta 1) v3).bind fun v5 =>
        some v5))))))))
set_option maxRecDepth 100000 in
set_option maxHeartbeats 4000000 in
theorem t_X11_taken {xs : List Int32} (A : Nat → List Int32) (I : Nat → Int32) (x : am_X) (a1 : Int32) (a2 : Int32) {z : Int32} (hz : f_X11_taken A I a1 a2 = some z) : am_Rt (am_ro xs) 3 ix_X11_taken [.ref 0, .int a1, .int a2] (hp A I x) (some (.int z), hp A I x) := by
  refine am_Rt.J (k := ix_X11_taken) (M := mc_X11_taken) (nL := 4) (d := 2) (as := [.ref 0, .int a1, .int a2]) (res := fun z => (some (.int z), hp A I x)) rfl (Nat.le_of_ble_eq_true rfl) (fun r => ?_) hz
  unfold f_X11_taken
  refine am_J.go 3 rfl ?_
  refine am_J.callz (v := fun r1 => r1) (h' := fun r1 => hp A I x) rfl rfl rfl (fun r1 hw => (t_X11_isWithin (h := hp A I x) a2 0 5 hw).mono (Nat.le_of_ble_eq_true rfl)) (fun r1 hr1 => ?_)
  refine am_J.ne rfl ?_ ?_
  · refine am_J.go 1 rfl ?_
    exact am_J.ret rfl (fun k => k)
  · refine am_J.go 2 rfl ?_
    refine am_J.callz (v := fun r2 => r2) (h' := fun r2 => hp A I x) rfl rfl rfl (fun r2 hw => (t_X11_isAct A I x a1 hw)) (fun r2 hr2 => ?_)
    refine am_J.ne rfl ?_ ?_
    · refine am_J.go 1 rfl ?_
      exact am_J.ret rfl (fun k => k)
    · refine am_J.go 4 rfl ?_
      refine am_J.ial (xs := (A 30)) rfl (Nat.le_of_ble_eq_true rfl) rfl (fun v3 => ?_)
      refine am_J.go 3 rfl ?_
      refine am_J.callz (v := fun r4 => r4) (h' := fun r4 => hp A I x) rfl rfl rfl (fun r4 hw => (t_X11_isUnder (h := hp A I x) v3 a2 hw).mono (Nat.le_of_ble_eq_true rfl)) (fun r4 hr4 => ?_)
      refine am_J.eq rfl ?_ ?_
      · refine am_J.go 1 rfl ?_
        exact am_J.ret rfl (fun k => k)
      · refine am_J.go 2 rfl ?_
        refine am_J.iar (xs := (am_sta 1)) rfl (Nat.not_lt.mpr (Nat.le_add_right _ _)) rfl (fun v5 => ?_)
        refine am_J.go 1 rfl ?_
        exact am_J.ret rfl (fun k => k)
