/-! ===== text, whole ===== -/
def f_X11_text (A : Nat → List Int32) (I : Nat → Int32) (x : am_X) : Option (Int32 × (Nat → List Int32) × (Nat → Int32) × am_X) :=
  if 6 ≤ I 2373 then some (-4, A, I, x) else
  (f_X8_readTape A I).bind fun z =>
  if z.1 = -1 then
    (match z.2.2.2.1.2.2.2.2.2, z.2.2.2.2.2.2.2.2.2 with
    | some _, some _ => (f_X1_addText (ft_I I z) (ft_x x x.2.2.2.2 z) (128 + x.2.2.2.2.length) (128 + (fo_t z.2.2.2.1.2.2.2.2.2 x.2.2.2.2).length)).bind fun bc =>
      some (I 2373, ft_A A z, up (ft_I I z) 2373 (I 2373 + 1), (bc.1, bc.2, (ft_x x x.2.2.2.2 z).2.2.1, (ft_x x x.2.2.2.2 z).2.2.2.1, (ft_x x x.2.2.2.2 z).2.2.2.2))
    | _, _ => none)
  else some (-100 - z.1, ft_A A z, ft_I I z, ft_x x x.2.2.2.2 z)
theorem am_J.lt2 {ro : Nat → Option (List Int32)} {d : Nat} {M : am_M} {r : am_An} {α : Type} {L : am_L} {st : List Value} {h : am_H} {cf : am_Cf} {o1 o2 : Option α} {K : α → Prop} {x y : Int32} {a b : Nat} (h1 : am_one ro M cf = some (.inl (am_cc .lt x y a b, L, st, h))) (kf : am_J ro d M r (b, L, st, h) o1 K) (kt : am_J ro d M r (a, L, st, h) o2 K) : am_J ro d M r cf (if y ≤ x then o1 else o2) K := fun z hz hk => by
  by_cases c : x < y
  · rw [if_neg (Int32.not_le.mpr c)] at hz; exact am_Ev.step (by rw [h1]; simp only [am_cc]; rw [if_pos c]) (kt z hz hk)
  · rw [if_pos (Int32.not_lt.mp c)] at hz; exact am_Ev.step (by rw [h1]; simp only [am_cc]; rw [if_neg c]) (kf z hz hk)
set_option maxRecDepth 100000 in
set_option maxHeartbeats 4000000 in
theorem t_X11_text {xs : List Int32} (A : Nat → List Int32) (I : Nat → Int32) (x : am_X) {z : Int32 × (Nat → List Int32) × (Nat → Int32) × am_X} (hz : f_X11_text A I x = some z) : am_Rt (am_ro xs) 62 ix_X11_text [.ref 0] (hp A I x) (some (.int z.1), hp z.2.1 z.2.2.1 z.2.2.2) := by
  refine am_Rt.J (k := ix_X11_text) (M := mc_X11_text) (nL := 2) (d := 61) (as := [.ref 0]) (res := fun z => (some (.int z.1), hp z.2.1 z.2.2.1 z.2.2.2)) rfl (Nat.le_of_ble_eq_true rfl) (fun r => ?_) hz
  unfold f_X11_text
  refine am_J.go (cf' := (9, [some (.ref 0), none], [.int 6, .int (I 2373)], hp A I x)) 4 rfl ?_
  refine am_J.lt2 rfl ?_ ?_
  · refine am_J.go 1 rfl ?_
    exact am_J.ret rfl (fun k => k)
  · refine am_J.go (cf' := (19, [some (.ref 0), none], [.ref 52], hp A I (xt x x.2.2.2.2))) 2 rfl ?_
    refine am_J.call (v := fun z => .int z.1) (h' := fun z => hp (ft_A A z) (ft_I I z) (ft_x x x.2.2.2.2 z)) rfl (fun z hw => t_X8_readTape A I x x.2.2.2.2 hw) (fun z => ?_)
    refine am_J.go (cf' := (25, [some (.ref 0), some (.int z.1)], [.int (-1), .int z.1], hp (ft_A A z) (ft_I I z) (ft_x x x.2.2.2.2 z))) 3 rfl ?_
    refine am_J.ne rfl ?_ ?_
    · obtain ⟨z1, z2, q, ⟨p1, p2, p3, p4, p5, o1⟩, ⟨q1, q2, q3, q4, q5, o2⟩⟩ := z
      rcases o1 with _ | y1
      · intro w hw; cases hw
      rcases o2 with _ | y2
      · intro w hw; cases hw
      refine am_J.go (cf' := (46, [some (.ref 0), some (.int z1)], [.ref (128 + (fo_t (some y1) x.2.2.2.2).length), .ref (128 + x.2.2.2.2.length), .ref 37], hp (ft_A A (z1, z2, q, (p1, p2, p3, p4, p5, some y1), (q1, q2, q3, q4, q5, some y2))) (ft_I I (z1, z2, q, (p1, p2, p3, p4, p5, some y1), (q1, q2, q3, q4, q5, some y2))) (ft_x x x.2.2.2.2 (z1, z2, q, (p1, p2, p3, p4, p5, some y1), (q1, q2, q3, q4, q5, some y2))))) 8 rfl ?_
      refine am_J.call (v := fun _ => .int (I 2373)) (h' := fun bc => hp (ft_A A (z1, z2, q, (p1, p2, p3, p4, p5, some y1), (q1, q2, q3, q4, q5, some y2))) (up (ft_I I (z1, z2, q, (p1, p2, p3, p4, p5, some y1), (q1, q2, q3, q4, q5, some y2))) 2373 (I 2373 + 1)) (bc.1, bc.2, (ft_x x x.2.2.2.2 (z1, z2, q, (p1, p2, p3, p4, p5, some y1), (q1, q2, q3, q4, q5, some y2))).2.2.1, (ft_x x x.2.2.2.2 (z1, z2, q, (p1, p2, p3, p4, p5, some y1), (q1, q2, q3, q4, q5, some y2))).2.2.2.1, (ft_x x x.2.2.2.2 (z1, z2, q, (p1, p2, p3, p4, p5, some y1), (q1, q2, q3, q4, q5, some y2))).2.2.2.2)) rfl (fun bc hw => (t_X1_addText _ _ _ _ _ (f1 := [.ref (128 + x.2.2.2.2.length + 1)]) (f2 := [.ref (128 + (fo_t (some y1) x.2.2.2.2).length + 1)]) ?_ ?_ hw).mono (Nat.le_of_ble_eq_true rfl)) (fun bc => ?_)
      · show (fo_t (some y2) (fo_t (some y1) x.2.2.2.2))[x.2.2.2.2.length]? = _
        unfold fo_t
        rw [List.getElem?_append_left (by rw [List.length_append]; show _ < _ + 2; omega), List.getElem?_append_right (Nat.le_refl _), Nat.sub_self]
        rfl
      · show (fo_t (some y2) (fo_t (some y1) x.2.2.2.2))[(fo_t (some y1) x.2.2.2.2).length]? = _
        rw [fo_t, List.getElem?_append_right (Nat.le_refl _), Nat.sub_self]
        rfl
      refine am_J.go 1 rfl ?_
      exact am_J.ret rfl (fun k => k)
    · refine am_J.go 3 rfl ?_
      exact am_J.ret rfl (fun k => k)
