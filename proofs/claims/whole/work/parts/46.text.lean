/-! ===== the reading of a TEXT: what it allocates ===== -/
def f_X8_lev : Nat → am_OrX × am_OrX × am_OrX
  | 0 => (fun _ _ _ => none, fun _ _ _ => none, fun _ _ _ => none)
  | n + 1 => (f_X8_readNot (f_X8_lev n).1 (f_X8_lev n).2.1 (f_X8_lev n).2.2, f_X8_readOne (f_X8_lev n).1 (f_X8_lev n).2.1 (f_X8_lev n).2.2, f_X8_readEither (f_X8_lev n).1 (f_X8_lev n).2.1 (f_X8_lev n).2.2)
theorem t_X8_lev (xs : List Int32) : ∀ n : Nat, am_OrXh xs (8 * n) ix_X8_readNot (f_X8_lev n).1 ∧ am_OrXh xs (8 * n) ix_X8_readOne (f_X8_lev n).2.1 ∧ am_OrXh xs (8 * n) ix_X8_readEither (f_X8_lev n).2.2
  | 0 => ⟨fun A I x a z hz => (by cases hz), fun A I x a z hz => (by cases hz), fun A I x a z hz => (by cases hz)⟩
  | n + 1 => by
    obtain ⟨h1, h2, h3⟩ := t_X8_lev xs n
    exact ⟨fun A I x a z hz => (t_X8_readNot h1 h2 h3 A I x a hz).mono (by omega), fun A I x a z hz => (t_X8_readOne h1 h2 h3 A I x a hz).mono (by omega), fun A I x a z hz => (t_X8_readEither h1 h2 h3 A I x a hz).mono (by omega)⟩
def xt (x : am_X) (t : am_H) : am_X := (x.1, x.2.1, x.2.2.1, x.2.2.2.1, t)
theorem hp_at0 {A : Nat → List Int32} {I : Nat → Int32} {x : am_X} {t u : am_H} {c : am_C} {n : Nat} (hn : n = 128 + t.length) : (hp A I (xt x (t ++ c :: u)))[n]? = some c := by
  subst hn
  rw [hp_tail (by omega), Nat.add_sub_cancel_left]
  show (t ++ c :: u)[t.length]? = some c
  rw [List.getElem?_append_right (Nat.le_refl _), Nat.sub_self]
  rfl
theorem hp_set0 {A : Nat → List Int32} {I : Nat → Int32} {x : am_X} {t u : am_H} {c c' : am_C} {n : Nat} (hn : n = 128 + t.length) : (hp A I (xt x (t ++ c :: u))).set n c' = hp A I (xt x (t ++ c' :: u)) := by
  subst hn
  rw [hp_app, hp_app A I (xt x (t ++ c' :: u)), List.set_append_right _ _ (by show 128 ≤ _; omega)]
  show _ ++ (t ++ c :: u).set (128 + t.length - 128) c' = _ ++ (t ++ c' :: u)
  rw [Nat.add_sub_cancel_left, List.set_append_right _ _ (Nat.le_refl _), Nat.sub_self]
  rfl
set_option maxRecDepth 10000 in
theorem hp_add {A : Nat → List Int32} {I : Nat → Int32} {x : am_X} {t : am_H} {c : am_C} : hp A I (xt x t) ++ [c] = hp A I (xt x (t ++ [c])) := rfl
section AmJ4
variable {ro : Nat → Option (List Int32)} {d : Nat} {M : am_M} {r : am_An} {α : Type} {pc pc' : Nat} {L : am_L} {st st' : List Value} {o : Option α} {K : α → Prop} {A : Nat → List Int32} {I : Nat → Int32} {x : am_X} {t : am_H} {c : am_C}
theorem am_J.alc (h1 : am_one ro M (pc, L, st, hp A I (xt x t)) = some (.inl (pc', L, .ref (hp A I (xt x t)).length :: st', hp A I (xt x t) ++ [c]))) (k : am_J ro d M r (pc', L, .ref (128 + t.length) :: st', hp A I (xt x (t ++ [c]))) o K) : am_J ro d M r (pc, L, st, hp A I (xt x t)) o K := fun z hz hk => by
  refine am_Ev.step h1 ?_
  rw [hp_len, hp_add]
  exact k z hz hk
end AmJ4
def f_cpo (ys : List Int32) (n : Int32) : Option (List Int32) := if n = Int32.ofNat ys.length then some ys else if n < 0 ∨ 65536 < n.toNatClampNeg then none else (am_acq ys (List.replicate n.toNatClampNeg 0) 0 0 (if n < Int32.ofNat ys.length then n else Int32.ofNat ys.length)).bind some
set_option maxRecDepth 100000 in
set_option maxHeartbeats 4000000 in
theorem t_J7_copyOf {xs : List Int32} (A : Nat → List Int32) (I : Nat → Int32) (x : am_X) (t : am_H) (a1 : Int32) {z : List Int32} (hz : f_cpo (A 57) a1 = some z) : am_Rt (am_ro xs) 1 ix_J7_copyOf_59c91 [.ref 57, .int a1] (hp A I (xt x t)) (some (.ref (128 + t.length)), hp A I (xt x (t ++ [.inl (0, z)]))) := by
  refine am_Rt.J (k := ix_J7_copyOf_59c91) (M := mc_J7_copyOf_59c91) (nL := 3) (d := 0) (as := [.ref 57, .int a1]) (res := fun z => (some (.ref (128 + t.length)), hp A I (xt x (t ++ [.inl (0, z)])))) rfl (Nat.le_of_ble_eq_true rfl) (fun r => ?_) hz
  unfold f_cpo
  refine am_J.go 3 rfl ?_
  refine am_J.ne rfl ?_ ?_
  · refine am_J.go (cf' := (7, [some (.ref 57), some (.int a1), none], [.ref 57], hp A I (xt x t))) 1 rfl ?_
    refine am_J.alc (c := .inl (0, A 57)) (pc' := 10) (st' := []) rfl ?_
    intro w hw hk
    cases hw
    refine am_Ev.step (cf' := (13, [some (.ref 57), some (.int a1), none], [.ref (128 + t.length)], hp A I (xt x (t ++ [.inl (0, A 57)])))) ?_ ?_
    · show am_onx _ mc_J7_copyOf_59c91 10 _ _ _ = _
      have hf : am_fi mc_J7_copyOf_59c91 10 = some (.checkcast 0, 3) := rfl
      simp only [am_onx, hf, am_kind, am_heap, hp_at0 (x := x) (t := t) (u := []) (c := .inl (0, A 57)) rfl]
    · exact (am_J.ret (ro := am_ro xs) (d := 0) (M := mc_J7_copyOf_59c91) (pc := 13) (L := [some (.ref 57), some (.int a1), none]) (st := [.ref (128 + t.length)]) (h := hp A I (xt x (t ++ [.inl (0, A 57)]))) (K := fun w => r = (some (.ref (128 + t.length)), hp A I (xt x (t ++ [.inl (0, w)])))) (z := A 57) rfl (fun k => k)) _ rfl hk
  · by_cases c : a1 < 0 ∨ 65536 < a1.toNatClampNeg
    · rw [if_pos c]; intro w hw; cases hw
    · rw [if_neg c]
      refine am_J.go (cf' := (15, [some (.ref 57), some (.int a1), none], [.int a1], hp A I (xt x t))) 1 rfl ?_
      refine am_J.alc (c := .inl (0, List.replicate a1.toNatClampNeg 0)) (pc' := 17) (st' := []) ?_ ?_
      · show am_onx _ mc_J7_copyOf_59c91 15 _ _ _ = _
        have hf : am_fi mc_J7_copyOf_59c91 15 = some (.newarray .int, 2) := rfl
        simp only [am_onx, hf, am_kind, am_heap, am_newa, am_nt, if_neg c]
      · refine am_J.go (cf' := (28, [some (.ref 57), some (.int a1), some (.ref (128 + t.length))], [.int (if a1 < Int32.ofNat (A 57).length then a1 else Int32.ofNat (A 57).length), .int 0, .ref (128 + t.length), .int 0, .ref 57], hp A I (xt x (t ++ [.inl (0, List.replicate a1.toNatClampNeg 0)])))) 9 rfl ?_
        refine am_J.acp (xs := A 57) (ys := List.replicate a1.toNatClampNeg 0) (h' := fun zs => hp A I (xt x (t ++ [.inl (0, zs)]))) rfl rfl (hp_at0 rfl) (Nat.le_of_ble_eq_true rfl) (fun zs => hp_set0 rfl) (fun zs => ?_)
        refine am_J.go 1 rfl ?_
        exact am_J.ret rfl (fun k => k)

def fo_v (q : Option (List Int32)) (n : Nat) : Value := match q with
  | none => .null
  | some _ => .ref n
def fo_t (q : Option (List Int32)) (t : am_H) : am_H := match q with
  | none => t
  | some ys => t ++ [.inr (.inr (5, [.ref (128 + t.length + 1)])), .inl (0, ys)]
theorem t_objinit {xs : List Int32} {h : am_H} {n : Nat} : am_Rt (am_ro xs) 1 0 [.ref n] h (none, h) := am_Rt.of (M := mc_objinit) (nL := 1) rfl (Nat.le_of_ble_eq_true rfl) (am_Ev.ret rfl)
set_option maxRecDepth 100000 in
set_option maxHeartbeats 4000000 in
theorem t_X5_init {xs : List Int32} {A : Nat → List Int32} {I : Nat → Int32} {x : am_X} {t u : am_H} {v : Value} {n c : Nat} (hn : n = 128 + t.length) : am_Rt (am_ro xs) 2 ix_X5_init [.ref n, .ref c] (hp A I (xt x (t ++ .inr (.inr (5, [v])) :: u))) (none, hp A I (xt x (t ++ .inr (.inr (5, [.ref c])) :: u))) := by
  refine am_Rt.of (M := mc_X5_init) (nL := 2) rfl (Nat.le_of_ble_eq_true rfl) ?_
  refine am_Ev.go (cf' := (1, [some (.ref n), some (.ref c)], [.ref n], _)) 1 rfl ?_
  refine am_Ev.calln rfl t_objinit ?_
  refine am_Ev.go (cf' := (6, [some (.ref n), some (.ref c)], [.ref c, .ref n], _)) 2 rfl ?_
  refine am_Ev.step (cf' := (9, [some (.ref n), some (.ref c)], [], hp A I (xt x (t ++ .inr (.inr (5, [.ref c])) :: u)))) ?_ (am_Ev.ret rfl)
  show am_onx _ mc_X5_init 6 _ _ _ = _
  have hf : am_fi mc_X5_init 6 = some (.putfield 320, 3) := rfl
  simp only [am_onx, hf, am_kind, am_heap, am_putf, hp_at0 hn, hp_set0 hn]
  rfl
def f_X8_readPart (A : Nat → List Int32) (I : Nat → Int32) (a1 : Int32) : Option ((List Int32) × Int32 × Int32 × Int32 × Int32 × Option (List Int32)) :=
  (f_X8_expect A (up I 3340 0) a1).bind fun r1 =>
  ((f_X8_lev 7).2.2 A (up (up (up (up I 3336 r1.1) 3337 r1.2.1) 3338 r1.2.2) 3340 0) 0).bind fun r2 =>
  (f_X8_expect (up A 57 r2.1) (up (up (up (up I 3336 r2.2.1) 3337 r2.2.2.1) 3338 r2.2.2.2.1) 3340 r2.2.2.2.2) 59).bind fun r3 =>
  if r3.2.2 = -1 then
    (f_cpo r2.1 r2.2.2.2.2).bind fun ys =>
    some (r2.1, r3.1, r3.2.1, r3.2.2, r2.2.2.2.2, some ys)
  else
    some (r2.1, r3.1, r3.2.1, r3.2.2, r2.2.2.2.2, none)
set_option maxRecDepth 100000 in
set_option maxHeartbeats 4000000 in
theorem t_X8_readPart {xs : List Int32} (A : Nat → List Int32) (I : Nat → Int32) (x : am_X) (t : am_H) (a1 : Int32) {z : (List Int32) × Int32 × Int32 × Int32 × Int32 × Option (List Int32)} (hz : f_X8_readPart A I a1 = some z) : am_Rt (am_ro xs) 60 ix_X8_readPart [.ref 52, .int a1] (hp A I (xt x t)) (some (fo_v z.2.2.2.2.2 (128 + t.length)), hp (up A 57 z.1) (up (up (up (up I 3336 z.2.1) 3337 z.2.2.1) 3338 z.2.2.2.1) 3340 z.2.2.2.2.1) (xt x (fo_t z.2.2.2.2.2 t))) := by
  refine am_Rt.J (k := ix_X8_readPart) (M := mc_X8_readPart) (nL := 2) (d := 59) (as := [.ref 52, .int a1]) (res := fun z => (some (fo_v z.2.2.2.2.2 (128 + t.length)), hp (up A 57 z.1) (up (up (up (up I 3336 z.2.1) 3337 z.2.2.1) 3338 z.2.2.2.1) 3340 z.2.2.2.2.1) (xt x (fo_t z.2.2.2.2.2 t)))) rfl (Nat.le_of_ble_eq_true rfl) (fun r => ?_) hz
  unfold f_X8_readPart
  refine am_J.go (cf' := (7, [some (.ref 52), some (.int a1)], [.int a1, .ref 52], hp A (up I 3340 0) (xt x t))) 5 rfl ?_
  refine am_J.calln (h' := fun r1 => hp A (up (up (up (up I 3336 r1.1) 3337 r1.2.1) 3338 r1.2.2) 3340 0) (xt x t)) rfl (fun r1 hw => (t_X8_expect A (up I 3340 0) (xt x t) a1 hw).mono (Nat.le_of_ble_eq_true rfl)) (fun r1 => ?_)
  refine am_J.go (cf' := (12, [some (.ref 52), some (.int a1)], [.int 0, .ref 52], hp A (up (up (up (up I 3336 r1.1) 3337 r1.2.1) 3338 r1.2.2) 3340 0) (xt x t))) 2 rfl ?_
  refine am_J.calln (h' := fun r2 => hp (up A 57 r2.1) (up (up (up (up I 3336 r2.2.1) 3337 r2.2.2.1) 3338 r2.2.2.2.1) 3340 r2.2.2.2.2) (xt x t)) rfl (fun r2 hw => ((t_X8_lev xs 7).2.2 A (up (up (up (up I 3336 r1.1) 3337 r1.2.1) 3338 r1.2.2) 3340 0) (xt x t) 0 hw).mono (Nat.le_of_ble_eq_true rfl)) (fun r2 => ?_)
  refine am_J.go (cf' := (18, [some (.ref 52), some (.int a1)], [.int 59, .ref 52], hp (up A 57 r2.1) (up (up (up (up I 3336 r2.2.1) 3337 r2.2.2.1) 3338 r2.2.2.2.1) 3340 r2.2.2.2.2) (xt x t))) 2 rfl ?_
  refine am_J.calln (h' := fun r3 => hp (up A 57 r2.1) (up (up (up (up I 3336 r3.1) 3337 r3.2.1) 3338 r3.2.2) 3340 r2.2.2.2.2) (xt x t)) rfl (fun r3 hw => (t_X8_expect (up A 57 r2.1) (up (up (up (up I 3336 r2.2.1) 3337 r2.2.2.1) 3338 r2.2.2.2.1) 3340 r2.2.2.2.2) (xt x t) 59 hw).mono (Nat.le_of_ble_eq_true rfl)) (fun r3 => ?_)
  refine am_J.go (cf' := (26, [some (.ref 52), some (.int a1)], [.int (-1), .int r3.2.2], hp (up A 57 r2.1) (up (up (up (up I 3336 r3.1) 3337 r3.2.1) 3338 r3.2.2) 3340 r2.2.2.2.2) (xt x t))) 3 rfl ?_
  refine am_J.ne rfl ?_ ?_
  · refine am_J.alc (c := .inr (.inr (5, [.null]))) (pc' := 32) (st' := []) rfl ?_
    refine am_J.go (cf' := (41, [some (.ref 52), some (.int a1)], [.int r2.2.2.2.2, .ref 57, .ref (128 + t.length), .ref (128 + t.length)], hp (up A 57 r2.1) (up (up (up (up I 3336 r3.1) 3337 r3.2.1) 3338 r3.2.2) 3340 r2.2.2.2.2) (xt x (t ++ [.inr (.inr (5, [.null]))])))) 5 rfl ?_
    refine am_J.call (v := fun ys => .ref (128 + (t ++ [(.inr (.inr (5, [.null])) : am_C)]).length)) (h' := fun ys => hp (up A 57 r2.1) (up (up (up (up I 3336 r3.1) 3337 r3.2.1) 3338 r3.2.2) 3340 r2.2.2.2.2) (xt x ((t ++ [.inr (.inr (5, [.null]))]) ++ [.inl (0, ys)]))) rfl (fun ys hw => (t_J7_copyOf (up A 57 r2.1) (up (up (up (up I 3336 r3.1) 3337 r3.2.1) 3338 r3.2.2) 3340 r2.2.2.2.2) x (t ++ [.inr (.inr (5, [.null]))]) r2.2.2.2.2 hw).mono (Nat.le_of_ble_eq_true rfl)) (fun ys => ?_)
    have e1 : 128 + (t ++ [(.inr (.inr (5, [.null])) : am_C)]).length = 128 + t.length + 1 := by rw [List.length_append]; rfl
    have e2 : ((t ++ [(.inr (.inr (5, [.null])) : am_C)]) ++ [.inl (0, ys)]) = t ++ (.inr (.inr (5, [.null]))) :: [.inl (0, ys)] := by rw [List.append_assoc]; rfl
    rw [e1, e2]
    intro w hw hk
    refine am_Ev.calln (k := ix_X5_init) (as := [.ref (128 + t.length), .ref (128 + t.length + 1)]) (pc := 47) (L := [some (.ref 52), some (.int a1)]) (st := [.ref (128 + t.length)]) rfl ((t_X5_init rfl).mono (Nat.le_of_ble_eq_true rfl)) ?_
    cases hw
    refine am_Ev.go (cf' := (51, [some (.ref 52), some (.int a1)], [.ref (128 + t.length)], _)) 1 rfl ?_
    rw [hk]
    exact am_Ev.ret rfl
  · refine am_J.go 1 rfl ?_
    exact am_J.ret rfl (fun k => k)

def f_X8_readTape (A : Nat → List Int32) (I : Nat → Int32) : Option (Int32 × Int32 × ((List Int32) × (List Int32) × (List Int32) × Int32) × ((List Int32) × Int32 × Int32 × Int32 × Int32 × Option (List Int32)) × ((List Int32) × Int32 × Int32 × Int32 × Int32 × Option (List Int32))) :=
  (f_X8_findTokens A I).bind fun q =>
  (am_at q.1 0).bind fun v =>
  (f_X8_readPart (up (up (up A 54 q.1) 55 q.2.1) 56 q.2.2.1) (up (up (up (up (up I 3329 0) 3332 q.2.2.2) 3336 0) 3337 v) 3338 (-1)) 4).bind fun p1 =>
  (f_X8_readPart (up (up (up (up A 54 q.1) 55 q.2.1) 56 q.2.2.1) 57 p1.1) (up (up (up (up (up (up I 3329 0) 3332 q.2.2.2) 3336 p1.2.1) 3337 p1.2.2.1) 3338 p1.2.2.2.1) 3340 p1.2.2.2.2.1) 5).bind fun p2 =>
  if p2.2.2.1 = 0 then some (p2.2.2.2.1, p2.2.2.1, q, p1, p2) else
  (f_X8_fail (up (up (up (up A 54 q.1) 55 q.2.1) 56 q.2.2.1) 57 p2.1) (up (up (up (up (up (up I 3329 0) 3332 q.2.2.2) 3336 p2.2.1) 3337 p2.2.2.1) 3338 p2.2.2.2.1) 3340 p2.2.2.2.2.1)).bind fun f =>
  some (f.2, f.1, q, p1, p2)
def ft_A (A : Nat → List Int32) (z : Int32 × Int32 × ((List Int32) × (List Int32) × (List Int32) × Int32) × ((List Int32) × Int32 × Int32 × Int32 × Int32 × Option (List Int32)) × ((List Int32) × Int32 × Int32 × Int32 × Int32 × Option (List Int32))) : Nat → List Int32 := (up (up (up (up A 54 z.2.2.1.1) 55 z.2.2.1.2.1) 56 z.2.2.1.2.2.1) 57 z.2.2.2.2.1)
def ft_I (I : Nat → Int32) (z : Int32 × Int32 × ((List Int32) × (List Int32) × (List Int32) × Int32) × ((List Int32) × Int32 × Int32 × Int32 × Int32 × Option (List Int32)) × ((List Int32) × Int32 × Int32 × Int32 × Int32 × Option (List Int32))) : Nat → Int32 := (up (up (up (up (up (up I 3329 0) 3332 z.2.2.1.2.2.2) 3336 z.2.2.2.2.2.1) 3337 z.2.1) 3338 z.1) 3340 z.2.2.2.2.2.2.2.2.1)
def ft_x (x : am_X) (t : am_H) (z : Int32 × Int32 × ((List Int32) × (List Int32) × (List Int32) × Int32) × ((List Int32) × Int32 × Int32 × Int32 × Int32 × Option (List Int32)) × ((List Int32) × Int32 × Int32 × Int32 × Int32 × Option (List Int32))) : am_X := (x.1, x.2.1, (fo_v z.2.2.2.1.2.2.2.2.2 (128 + t.length)), (fo_v z.2.2.2.2.2.2.2.2.2 (128 + (fo_t z.2.2.2.1.2.2.2.2.2 t).length)), (fo_t z.2.2.2.2.2.2.2.2.2 (fo_t z.2.2.2.1.2.2.2.2.2 t)))
set_option maxRecDepth 100000 in
set_option maxHeartbeats 4000000 in
theorem t_X8_readTape {xs : List Int32} (A : Nat → List Int32) (I : Nat → Int32) (x : am_X) (t : am_H) {z : Int32 × Int32 × ((List Int32) × (List Int32) × (List Int32) × Int32) × ((List Int32) × Int32 × Int32 × Int32 × Int32 × Option (List Int32)) × ((List Int32) × Int32 × Int32 × Int32 × Int32 × Option (List Int32))} (hz : f_X8_readTape A I = some z) : am_Rt (am_ro xs) 61 ix_X8_readTape [.ref 52] (hp A I (xt x t)) (some (.int z.1), hp (ft_A A z) (ft_I I z) (ft_x x t z)) := by
  refine am_Rt.J (k := ix_X8_readTape) (M := mc_X8_readTape) (nL := 1) (d := 60) (as := [.ref 52]) (res := fun z => (some (.int z.1), hp (ft_A A z) (ft_I I z) (ft_x x t z))) rfl (Nat.le_of_ble_eq_true rfl) (fun r => ?_) hz
  unfold f_X8_readTape
  refine am_J.go (cf' := (1, [some (.ref 52)], [.ref 52], hp A I (xt x t))) 1 rfl ?_
  refine am_J.calln (h' := fun q => hp (up (up (up A 54 q.1) 55 q.2.1) 56 q.2.2.1) (up I 3332 q.2.2.2) (xt x t)) rfl (fun q hw => (t_X8_findTokens A I (xt x t) hw).mono (Nat.le_of_ble_eq_true rfl)) (fun q => ?_)
  refine am_J.go (cf' := (25, [some (.ref 52)], [.int 0, .ref 54, .ref 52], hp (up (up (up A 54 q.1) 55 q.2.1) 56 q.2.2.1) (up (up (up (up I 3329 0) 3332 q.2.2.2) 3336 0) 3338 (-1)) (xt x t))) 13 rfl ?_
  refine am_J.ial (xs := q.1) rfl (Nat.le_of_ble_eq_true rfl) rfl (fun v => ?_)
  refine am_J.go (cf' := (32, [some (.ref 52)], [.int 4, .ref 52, .ref 52], hp (up (up (up A 54 q.1) 55 q.2.1) 56 q.2.2.1) (up (up (up (up (up I 3329 0) 3332 q.2.2.2) 3336 0) 3337 v) 3338 (-1)) (xt x t))) 4 rfl ?_
  refine am_J.call (v := fun p1 => (fo_v p1.2.2.2.2.2 (128 + t.length))) (h' := fun p1 => hp (up (up (up (up A 54 q.1) 55 q.2.1) 56 q.2.2.1) 57 p1.1) (up (up (up (up (up (up I 3329 0) 3332 q.2.2.2) 3336 p1.2.1) 3337 p1.2.2.1) 3338 p1.2.2.2.1) 3340 p1.2.2.2.2.1) (xt x (fo_t p1.2.2.2.2.2 t))) rfl (fun p1 hw => (t_X8_readPart (up (up (up A 54 q.1) 55 q.2.1) 56 q.2.2.1) (up (up (up (up (up I 3329 0) 3332 q.2.2.2) 3336 0) 3337 v) 3338 (-1)) x t 4 hw)) (fun p1 => ?_)
  refine am_J.go (cf' := (41, [some (.ref 52)], [.int 5, .ref 52, .ref 52], hp (up (up (up (up A 54 q.1) 55 q.2.1) 56 q.2.2.1) 57 p1.1) (up (up (up (up (up (up I 3329 0) 3332 q.2.2.2) 3336 p1.2.1) 3337 p1.2.2.1) 3338 p1.2.2.2.1) 3340 p1.2.2.2.2.1) (x.1, x.2.1, (fo_v p1.2.2.2.2.2 (128 + t.length)), x.2.2.2.1, (fo_t p1.2.2.2.2.2 t)))) 4 ?_ ?_
  · rcases p1.2.2.2.2.2 with _ | ys <;> rfl
  refine am_J.call (v := fun p2 => (fo_v p2.2.2.2.2.2 (128 + (fo_t p1.2.2.2.2.2 t).length))) (h' := fun p2 => hp (up (up (up (up A 54 q.1) 55 q.2.1) 56 q.2.2.1) 57 p2.1) (up (up (up (up (up (up I 3329 0) 3332 q.2.2.2) 3336 p2.2.1) 3337 p2.2.2.1) 3338 p2.2.2.2.1) 3340 p2.2.2.2.2.1) (x.1, x.2.1, (fo_v p1.2.2.2.2.2 (128 + t.length)), x.2.2.2.1, (fo_t p2.2.2.2.2.2 (fo_t p1.2.2.2.2.2 t)))) rfl (fun p2 hw => (t_X8_readPart (up (up (up (up A 54 q.1) 55 q.2.1) 56 q.2.2.1) 57 p1.1) (up (up (up (up (up (up I 3329 0) 3332 q.2.2.2) 3336 p1.2.1) 3337 p1.2.2.1) 3338 p1.2.2.2.1) 3340 p1.2.2.2.2.1) (x.1, x.2.1, (fo_v p1.2.2.2.2.2 (128 + t.length)), x.2.2.2.1, []) (fo_t p1.2.2.2.2.2 t) 5 hw)) (fun p2 => ?_)
  refine am_J.go (cf' := (51, [some (.ref 52)], [.int p2.2.2.1], hp (up (up (up (up A 54 q.1) 55 q.2.1) 56 q.2.2.1) 57 p2.1) (up (up (up (up (up (up I 3329 0) 3332 q.2.2.2) 3336 p2.2.1) 3337 p2.2.2.1) 3338 p2.2.2.2.1) 3340 p2.2.2.2.2.1) (x.1, x.2.1, (fo_v p1.2.2.2.2.2 (128 + t.length)), (fo_v p2.2.2.2.2.2 (128 + (fo_t p1.2.2.2.2.2 t).length)), (fo_t p2.2.2.2.2.2 (fo_t p1.2.2.2.2.2 t))))) 3 ?_ ?_
  · rcases p2.2.2.2.2.2 with _ | ys <;> rfl
  refine am_J.eq rfl ?_ ?_
  · refine am_J.go 2 rfl ?_
    exact am_J.ret rfl (fun k => k)
  · refine am_J.go 1 rfl ?_
    refine am_J.calln (h' := fun f => hp (up (up (up (up A 54 q.1) 55 q.2.1) 56 q.2.2.1) 57 p2.1) (up (up (up (up (up (up (up (up I 3329 0) 3332 q.2.2.2) 3336 p2.2.1) 3337 p2.2.2.1) 3338 p2.2.2.2.1) 3340 p2.2.2.2.2.1) 3337 f.1) 3338 f.2) (x.1, x.2.1, (fo_v p1.2.2.2.2.2 (128 + t.length)), (fo_v p2.2.2.2.2.2 (128 + (fo_t p1.2.2.2.2.2 t).length)), (fo_t p2.2.2.2.2.2 (fo_t p1.2.2.2.2.2 t)))) rfl (fun f hw => (t_X8_fail (up (up (up (up A 54 q.1) 55 q.2.1) 56 q.2.2.1) 57 p2.1) (up (up (up (up (up (up I 3329 0) 3332 q.2.2.2) 3336 p2.2.1) 3337 p2.2.2.1) 3338 p2.2.2.2.1) 3340 p2.2.2.2.2.1) (x.1, x.2.1, (fo_v p1.2.2.2.2.2 (128 + t.length)), (fo_v p2.2.2.2.2.2 (128 + (fo_t p1.2.2.2.2.2 t).length)), (fo_t p2.2.2.2.2.2 (fo_t p1.2.2.2.2.2 t))) hw).mono (Nat.le_of_ble_eq_true rfl)) (fun f => ?_)
    refine am_J.go 2 rfl ?_
    exact am_J.ret rfl (fun k => k)
def f_X1_addText (I : Nat → Int32) (x : am_X) (w1 w2 : Nat) : Option (List (Option Nat) × List (Option Nat)) :=
  (am_upr x.1 (I 2373) (some w1)).bind fun b => (am_upr x.2.1 (I 2373) (some w2)).bind fun c => some (b, c)
set_option maxRecDepth 100000 in
set_option maxHeartbeats 4000000 in
theorem t_X1_addText {xs : List Int32} (A : Nat → List Int32) (I : Nat → Int32) (x : am_X) (w1 w2 : Nat) {f1 f2 : List Value} (h1 : x.2.2.2.2[w1]? = some (.inr (.inr (5, f1)))) (h2 : x.2.2.2.2[w2]? = some (.inr (.inr (5, f2)))) {z : List (Option Nat) × List (Option Nat)} (hz : f_X1_addText I x (128 + w1) (128 + w2) = some z) : am_Rt (am_ro xs) 1 ix_X1_addText [.ref 37, .ref (128 + w1), .ref (128 + w2)] (hp A I x) (some (.int (I 2373)), hp A (up I 2373 (I 2373 + 1)) (z.1, z.2, x.2.2.1, x.2.2.2.1, x.2.2.2.2)) := by
  unfold f_X1_addText at hz
  cases ha : am_upr x.1 (I 2373) (some (128 + w1)) with
  | none => rw [ha] at hz; cases hz
  | some b =>
    cases hb : am_upr x.2.1 (I 2373) (some (128 + w2)) with
    | none => rw [ha, hb] at hz; cases hz
    | some c =>
      rw [ha, hb] at hz
      cases hz
      refine am_Rt.of (M := mc_X1_addText) (nL := 3) rfl (Nat.le_of_ble_eq_true rfl) ?_
      refine am_Ev.go (cf' := (9, [some (.ref 37), some (.ref (128 + w1)), some (.ref (128 + w2))], [.ref (128 + w1), .int (I 2373), .ref 38], hp A I x)) 5 rfl ?_
      refine am_Ev.step (cf' := (10, [some (.ref 37), some (.ref (128 + w1)), some (.ref (128 + w2))], [], hp A I (b, x.2.1, x.2.2.1, x.2.2.2.1, x.2.2.2.2))) ?_ ?_
      · show am_onx _ mc_X1_addText 9 _ _ _ = _
        have hf : am_fi mc_X1_addText 9 = some (.aastore, 1) := rfl
        have e1 : (hp A I x)[128 + w1]? = some (.inr (.inr (5, f1))) := by rw [hp_tail (by omega), Nat.add_sub_cancel_left]; exact h1
        have e2 : (hp A I x)[38]? = some (.inr (.inl (4, x.1))) := rfl
        simp only [am_onx, hf, am_kind, am_heap, am_aas, e1, e2, ha]
        rfl
      refine am_Ev.go (cf' := (19, [some (.ref 37), some (.ref (128 + w1)), some (.ref (128 + w2))], [.ref (128 + w2), .int (I 2373), .ref 39], hp A I (b, x.2.1, x.2.2.1, x.2.2.2.1, x.2.2.2.2))) 5 rfl ?_
      refine am_Ev.step (cf' := (20, [some (.ref 37), some (.ref (128 + w1)), some (.ref (128 + w2))], [], hp A I (b, c, x.2.2.1, x.2.2.2.1, x.2.2.2.2))) ?_ ?_
      · show am_onx _ mc_X1_addText 19 _ _ _ = _
        have hf : am_fi mc_X1_addText 19 = some (.aastore, 1) := rfl
        have e1 : (hp A I (b, x.2.1, x.2.2.1, x.2.2.2.1, x.2.2.2.2))[128 + w2]? = some (.inr (.inr (5, f2))) := by rw [hp_tail (by omega), Nat.add_sub_cancel_left]; exact h2
        have e2 : (hp A I (b, x.2.1, x.2.2.1, x.2.2.2.1, x.2.2.2.2))[39]? = some (.inr (.inl (4, x.2.1))) := rfl
        simp only [am_onx, hf, am_kind, am_heap, am_aas, e1, e2, hb]
        rfl
      refine am_Ev.go (cf' := (31, [some (.ref 37), some (.ref (128 + w1)), some (.ref (128 + w2))], [.int (I 2373)], hp A (up I 2373 (I 2373 + 1)) (b, c, x.2.2.1, x.2.2.2.1, x.2.2.2.2))) 7 rfl ?_
      exact am_Ev.ret rfl
