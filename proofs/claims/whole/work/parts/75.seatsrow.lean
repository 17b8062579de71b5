/-! ===== calls: seatsRow (by wip/whole/gen_ops9.py) ===== -/
/-- one step, whichever the sheet -/
def srG (it : List Int32) (sz a3 a4 : Int32) : (Int32 × Int32 × (List Int32)) → Option ((Int32 × Int32 × (List Int32)) ⊕ ((Int32 × (List Int32)) ⊕ (Int32 × (List Int32)))) := fun q => match q with
    | (s5, s6, s7) =>
    (if a4 ≤ s6 then
      some (.inr (.inl (s5, s7)))
    else
      ((hld sz a3 (s6 + 1)).bind fun r8 =>
      (if r8 = 0 then
        some (.inr (.inr ((-12), s7)))
      else
        ((am_at it (a3 + s6)).bind fun v9 =>
        ((f_X11_isWithin v9 0 99).bind fun r10 =>
        (((if r10 = 0 then
            some (s5, s7)
          else
            ((am_up s7 s6 v9).bind fun y11 =>
            some ((s5 + 1), y11))) : Option (Int32 × (List Int32))).bind (fun q => match q with
        | (j12, j13) =>
        some (.inl (j12, (s6 + 1), j13)))))))))
def seO (q : List Int32) : Prop := q.length = 8 ∧ ∀ k, k < 8 → ∃ s, s < 100 ∧ g q k = Int32.ofNat s
theorem srow_1 {B : Nat → List Int32} {I : Nat → Int32} {it : List Int32} {s m N : Nat} (a3 : Int32) (hs : s < 4) (h5 : (B 125).length = 4) (h6 : (B 126).length = 160) (hit : it.length = 40) (hi : ∀ k, k < 40 → g it k = g (B 126) (40 * s + k)) (hm : m ≤ 40) (hsz : Int32.ofNat m = g (B 125) s) (hN : N ≤ 8) {q : List Int32} (hq : seO q) : ∃ r, seO r.2 ∧ ((wl (srG it (Int32.ofNat m) a3 (Int32.ofNat N)) 100000 (0, 0, q)).bind (fun q => match q with
              | .inl (e14, e15) =>
              some (e14, e15)
              | .inr v => some v)) = some r ∧ ((wl (f_X12_seatsRow_l2 B I (Int32.ofNat s) a3 (Int32.ofNat N)) 100000 (0, 0, q)).bind (fun q => match q with
              | .inl (e14, e15) =>
              some (e14, e15)
              | .inr v => some v)) = some r := by
  obtain ⟨r1, r2, e1, e2, Q1, Q2⟩ := wl_two (s1 := srG it (Int32.ofNat m) a3 (Int32.ofNat N)) (s2 := f_X12_seatsRow_l2 B I (Int32.ofNat s) a3 (Int32.ofNat N)) (fun n x y => x = y ∧ ∃ k c M, x = (c, Int32.ofNat k, M) ∧ n + k = N ∧ seO M) (fun r r' => r = r' ∧ ((∃ c M, r = .inl (c, M) ∧ seO M) ∨ (∃ c M, r = .inr (c, M) ∧ seO M))) (fun n x y => by
    rintro ⟨rfl, k, c, M, rfl, hn, hM⟩
    by_cases h : N ≤ k
    · right
      have hg : Int32.ofNat N ≤ Int32.ofNat k := (i_le (by omega) (by omega)).mpr h
      refine ⟨.inl (c, M), .inl (c, M), ?_, ?_, rfl, Or.inl ⟨c, M, rfl, hM⟩⟩
      · unfold srG
        dsimp only
        rw [if_pos hg]
      · unfold f_X12_seatsRow_l2
        dsimp only
        rw [if_pos hg]
    · have hg : ¬ Int32.ofNat N ≤ Int32.ofNat k := nge (by omega) (by omega)
      have h1 : Int32.ofNat k + 1 = Int32.ofNat (k + 1) := i_addr (n := 1)
      have hv : am_at (B 125) (Int32.ofNat s) = some (Int32.ofNat m) := by rw [am_at_g (by omega) (by omega), hsz]
      have hsub : Int32.ofNat m - Int32.ofNat k - 1 = Int32.ofNat m - Int32.ofNat (k + 1) := by
        rw [← h1, Int32.sub_eq_add_neg, Int32.sub_eq_add_neg, Int32.sub_eq_add_neg, Int32.neg_add, Int32.sub_eq_add_neg, Int32.add_assoc]
      rcases hld_1 hm a3 (Int32.ofNat (k + 1)) with ⟨i, n', rfl, hn', hin, d1⟩ | ⟨d1, d2⟩
      · left
        have hn' : k + 1 = n' := (i_eq (by omega) (by omega)).mp hn'
        subst hn'
        have hix : (40 : Int32) * Int32.ofNat s + Int32.ofNat i + Int32.ofNat k = Int32.ofNat (40 * s + i + k) := by rw [show (40 : Int32) * Int32.ofNat s = Int32.ofNat (40 * s) from i_mull (m := 40), i_add, i_add]
        have hle : Int32.ofNat i ≤ Int32.ofNat m - Int32.ofNat k - 1 := by
          rw [hsub, i_sub (by omega), i_le (by omega) (by omega)]; omega
        have hval : g it (i + k) = g (B 126) (40 * s + i + k) := by rw [hi (i + k) (by omega), Nat.add_assoc]
        have hM8 := hM.1
        obtain ⟨w, hw, hgw⟩ := hM.2 k (by omega)
        have hk7 : f_X11_isWithin (Int32.ofNat k) 0 7 = some 1 := by
          unfold f_X11_isWithin
          rw [if_neg (i_nn (by omega)), if_neg]
          intro z
          have := (i_lt (m := 7) (by decide) (by omega)).mp z
          omega
        rcases wi_l 99 (by decide) (g it (i + k)) with w2 | ⟨v, hv', hgv, w2⟩
        · have w2 : f_X11_isWithin (g it (i + k)) 0 99 = some 0 := w2
          refine ⟨_, _, ?_, ?_, n - 1, by omega, rfl, k + 1, c, M, rfl, by omega, hM⟩
          · unfold srG
            dsimp only
            rw [if_neg hg, h1, d1, Option.bind_some, if_neg (show ¬ (1 : Int32) = 0 by decide), i_add, am_at_g (by omega) (by omega), Option.bind_some, w2, Option.bind_some, if_pos rfl]
            rfl
          · unfold f_X12_seatsRow_l2 f_X12_seats f_X12_isLand
            dsimp only
            rw [if_neg hg, if_neg (i_nn (by omega)), hv, Option.bind_some, if_pos hle, hix, am_at_g (by omega) (by omega), Option.bind_some, in_X, hk7, Option.bind_some, Option.bind_some, if_neg (show ¬ (1 : Int32) = 0 by decide), in_X, ← hval, w2, Option.bind_some, if_pos rfl, h1]
            show (some (Sum.inl (c + 0, Int32.ofNat (k + 1), M)) : Option _) = _
            rw [Int32.add_zero]
        · have w2 : f_X11_isWithin (g it (i + k)) 0 99 = some 1 := w2
          refine ⟨(c + 1, Int32.ofNat (k + 1), M.set k (g it (i + k))), (c + 1, Int32.ofNat (k + 1), M.set k (g it (i + k))), ?_, ?_, n - 1, by omega, rfl, k + 1, c + 1, M.set k (g it (i + k)), rfl, by omega, by rw [List.length_set]; exact hM.1, fun j hj => ?_⟩
          · unfold srG
            dsimp only
            rw [if_neg hg, h1, d1, Option.bind_some, if_neg (show ¬ (1 : Int32) = 0 by decide), i_add, am_at_g (by omega) (by omega), Option.bind_some, w2, Option.bind_some, if_neg (show ¬ (1 : Int32) = 0 by decide), am_up_g (by omega) (by omega)]
            rfl
          · unfold f_X12_seatsRow_l2 f_X12_seats f_X12_isLand
            dsimp only
            rw [if_neg hg, if_neg (i_nn (by omega)), hv, Option.bind_some, if_pos hle, hix, am_at_g (by omega) (by omega), Option.bind_some, in_X, hk7, Option.bind_some, Option.bind_some, if_neg (show ¬ (1 : Int32) = 0 by decide), in_X, ← hval, w2, Option.bind_some, if_neg (show ¬ (1 : Int32) = 0 by decide)]
            show (((am_at M (Int32.ofNat k)).bind fun v3 => (am_up M (Int32.ofNat k) (g it (i + k))).bind fun y4 => some (v3, y4)).bind fun r11 => ((if r11.1 < 0 then some 0 else some 1) : Option Int32).bind (fun j12 => some (Sum.inl (c + j12, Int32.ofNat k + 1, r11.2)))) = _
            rw [am_at_g (by omega) (by omega), Option.bind_some, am_up_g (by omega) (by omega), Option.bind_some, Option.bind_some, hgw, if_neg (i_nn (by omega)), Option.bind_some, h1]
          · rw [g_set (by omega)]
            by_cases e : j = k
            · rw [if_pos e]; exact ⟨v, by omega, hgv⟩
            · rw [if_neg e]; exact hM.2 j hj
      · right
        refine ⟨.inr (-12, M), .inr (-12, M), ?_, ?_, rfl, Or.inr ⟨-12, M, rfl, hM⟩⟩
        · unfold srG
          dsimp only
          rw [if_neg hg, h1, d1]
          rfl
        · unfold f_X12_seatsRow_l2
          dsimp only
          rw [if_neg hg]
          by_cases c1 : a3 < 0
          · rw [if_pos c1]
          · rw [if_neg c1, hv, Option.bind_some, if_neg]
            intro z
            rw [hsub] at z
            rcases d2 with d2 | d2 | d2
            · exact c1 d2
            · exact i_nn (by omega) d2
            · exact Int32.not_lt.mpr z d2) N 100000 100000 (0, 0, q) (0, 0, q) ⟨rfl, 0, 0, q, rfl, rfl, hq⟩ (by omega) (by omega)
  subst Q1
  rw [e1, e2]
  rcases Q2 with ⟨c, M, rfl, hM⟩ | ⟨c, M, rfl, hM⟩
  · exact ⟨(c, M), hM, rfl, rfl⟩
  · exact ⟨(c, M), hM, rfl, rfl⟩
theorem srG_0 (A : Nat → List Int32) (I : Nat → Int32) (a3 a4 : Int32) : f_X11_seatsRow_l1 A I a3 a4 = srG (A 78) (I 4929) a3 a4 := rfl
theorem srb_0 (A : Nat → List Int32) (I : Nat → Int32) (a2 a3 a4 : Int32) (h2 : f_X11_isWithin a2 0 2 = some 1) (h4 : f_X11_isWithin a4 0 8 = some 1) : f_X11_seatsRow A I (Int32.ofNat 0) a2 a3 a4 = ((f_X10_isMissing_77 A I).bind fun r4 => (if r4 = 0 then (if (I 4928) = a2 then ((wl (f_X11_seatsRow_l1 A I a3 a4) 100000 (0, 0, (A 23))).bind (fun q => match q with | .inl (e14, e15) => some (e14, e15) | .inr v => some v)) else some ((-13), (A 23))) else some ((-11), (A 23)))) := by
  unfold f_X11_seatsRow
  rw [h2, h4]
  rfl
theorem srG_1 (A : Nat → List Int32) (I : Nat → Int32) (a3 a4 : Int32) : f_X11_seatsRow_l2 A I a3 a4 = srG (A 80) (I 5057) a3 a4 := rfl
theorem srb_1 (A : Nat → List Int32) (I : Nat → Int32) (a2 a3 a4 : Int32) (h2 : f_X11_isWithin a2 0 2 = some 1) (h4 : f_X11_isWithin a4 0 8 = some 1) : f_X11_seatsRow A I (Int32.ofNat 1) a2 a3 a4 = ((f_X10_isMissing_79 A I).bind fun r4 => (if r4 = 0 then (if (I 5056) = a2 then ((wl (f_X11_seatsRow_l2 A I a3 a4) 100000 (0, 0, (A 23))).bind (fun q => match q with | .inl (e14, e15) => some (e14, e15) | .inr v => some v)) else some ((-13), (A 23))) else some ((-11), (A 23)))) := by
  unfold f_X11_seatsRow
  rw [h2, h4]
  rfl
theorem srG_2 (A : Nat → List Int32) (I : Nat → Int32) (a3 a4 : Int32) : f_X11_seatsRow_l3 A I a3 a4 = srG (A 82) (I 5185) a3 a4 := rfl
theorem srb_2 (A : Nat → List Int32) (I : Nat → Int32) (a2 a3 a4 : Int32) (h2 : f_X11_isWithin a2 0 2 = some 1) (h4 : f_X11_isWithin a4 0 8 = some 1) : f_X11_seatsRow A I (Int32.ofNat 2) a2 a3 a4 = ((f_X10_isMissing_81 A I).bind fun r4 => (if r4 = 0 then (if (I 5184) = a2 then ((wl (f_X11_seatsRow_l3 A I a3 a4) 100000 (0, 0, (A 23))).bind (fun q => match q with | .inl (e14, e15) => some (e14, e15) | .inr v => some v)) else some ((-13), (A 23))) else some ((-11), (A 23)))) := by
  unfold f_X11_seatsRow
  rw [h2, h4]
  rfl
theorem srG_3 (A : Nat → List Int32) (I : Nat → Int32) (a3 a4 : Int32) : f_X11_seatsRow_l4 A I a3 a4 = srG (A 84) (I 5313) a3 a4 := rfl
theorem srb_3 (A : Nat → List Int32) (I : Nat → Int32) (a2 a3 a4 : Int32) (h2 : f_X11_isWithin a2 0 2 = some 1) (h4 : f_X11_isWithin a4 0 8 = some 1) : f_X11_seatsRow A I (Int32.ofNat 3) a2 a3 a4 = ((f_X10_isMissing_83 A I).bind fun r4 => (if r4 = 0 then (if (I 5312) = a2 then ((wl (f_X11_seatsRow_l4 A I a3 a4) 100000 (0, 0, (A 23))).bind (fun q => match q with | .inl (e14, e15) => some (e14, e15) | .inr v => some v)) else some ((-13), (A 23))) else some ((-11), (A 23)))) := by
  unfold f_X11_seatsRow
  rw [h2, h4]
  rfl
theorem op_seatsRow (xs : List Int32) {n : Nat} {A : Nat → List Int32} {I : Nat → Int32} {x : am_X} (h : Iv0 n A I x) (a1 : Int32) (a2 : Int32) (a3 : Int32) (a4 : Int32) : am_op xs n ix_X11_seatsRow ix_X12_seatsRow [.int a1, .int a2, .int a3, .int a4] A I x := by
  obtain ⟨⟨P, N, T, R, E, C, X, Z, hI⟩, hx⟩ := h
  obtain ⟨⟨l4, l5, l6⟩, v0, v1, v2, v3⟩ := id hI.2.2.2.2.2.2.2.2.2.2.1
  have hS := hI.2.2.2.2.2.2.2.1
  obtain ⟨z1, z2, z3, z4, z5⟩ := hS
  have hq : seO (A 23) := ⟨by rw [z1]; exact z3, fun k hk => by rw [z1]; exact (z5 k hk).1⟩
  have fin : ∀ (z : Int32) (q : List Int32) (hq : seO q) (e1 : f_X11_seatsRow A I a1 a2 a3 a4 = some (z, q)) (e2 : f_X12_seatsRow (up A 23 q) I a1 a2 a3 a4 = some (z, q)), am_op xs n ix_X11_seatsRow ix_X12_seatsRow [.int a1, .int a2, .int a3, .int a4] A I x := fun z q hq e1 e2 => by
    have c1 := t_X11_seatsRow (xs := xs) A I x a1 a2 a3 a4 e1
    have c2 := t_X12_seatsRow (xs := xs) (up A 23 q) I x a1 a2 a3 a4 e2
    have hv : v_sea q q (A 24) (A 120) := ⟨rfl, z2, hq.1, z4, fun k hk => ⟨hq.2 k hk, (z5 k hk).2⟩⟩
    exact am_op.mk hx c1 (by decide) c2 (by decide) ⟨P, N, T, R, E, C, X, Z, ⟨hI.1, hI.2.1, hI.2.2.1, hI.2.2.2.1, hI.2.2.2.2.1, hI.2.2.2.2.2.1, hI.2.2.2.2.2.2.1, hv, hI.2.2.2.2.2.2.2.2.1, hI.2.2.2.2.2.2.2.2.2.1, hI.2.2.2.2.2.2.2.2.2.2.1, hI.2.2.2.2.2.2.2.2.2.2.2.1, hI.2.2.2.2.2.2.2.2.2.2.2.2⟩⟩
  have no : ∀ (z : Int32) (e1 : f_X11_seatsRow A I a1 a2 a3 a4 = some (z, A 23)) (e2 : f_X12_seatsRow (up A 23 (A 23)) I a1 a2 a3 a4 = some (z, A 116)), am_op xs n ix_X11_seatsRow ix_X12_seatsRow [.int a1, .int a2, .int a3, .int a4] A I x := fun z e1 e2 => fin z (A 23) hq e1 (by rw [e2, z1])
  rcases wi_l 3 (by decide) a1 with w | ⟨s, hs, rfl, w⟩
  · have w : f_X11_isWithin a1 0 3 = some 0 := w
    refine no (-2) ?_ ?_
    · unfold f_X11_seatsRow f_X11_isSheet; rw [w]; rfl
    · unfold f_X12_seatsRow f_X12_isSheet; rw [in_X, w]; rfl
  have w : f_X11_isWithin (Int32.ofNat s) 0 3 = some 1 := w
  rcases wi_l 2 (by decide) a2 with w2 | ⟨h, hh, rfl, w2⟩
  · have w2 : f_X11_isWithin a2 0 2 = some 0 := w2
    refine no (-2) ?_ ?_
    · unfold f_X11_seatsRow f_X11_isSheet; rw [w, Option.bind_some, Option.bind_some, if_neg (show ¬ (1 : Int32) = 0 by decide), w2]; rfl
    · unfold f_X12_seatsRow f_X12_isSheet; rw [in_X, w, Option.bind_some, Option.bind_some, if_neg (show ¬ (1 : Int32) = 0 by decide), in_X, w2]; rfl
  have w2 : f_X11_isWithin (Int32.ofNat h) 0 2 = some 1 := w2
  rcases wi_l 8 (by decide) a4 with w3 | ⟨N', hN, rfl, w3⟩
  · have w3 : f_X11_isWithin a4 0 8 = some 0 := w3
    refine no (-2) ?_ ?_
    · unfold f_X11_seatsRow f_X11_isSheet; rw [w, Option.bind_some, Option.bind_some, if_neg (show ¬ (1 : Int32) = 0 by decide), w2, Option.bind_some, if_neg (show ¬ (1 : Int32) = 0 by decide), w3]; rfl
    · unfold f_X12_seatsRow f_X12_isSheet; rw [in_X, w, Option.bind_some, Option.bind_some, if_neg (show ¬ (1 : Int32) = 0 by decide), in_X, w2, Option.bind_some, if_neg (show ¬ (1 : Int32) = 0 by decide), in_X, w3]; rfl
  have w3 : f_X11_isWithin (Int32.ofNat N') 0 8 = some 1 := w3
  have mo : ∀ (B : Nat → List Int32) (so : Int32), so = g (A 124) s → B 124 = A 124 → f_X12_seatsRow B I (Int32.ofNat s) (Int32.ofNat h) a3 (Int32.ofNat N') = if so < 0 then (if 0 ≤ so then ((wl (f_X12_seatsRow_l1 B I (Int32.ofNat s) a3 (Int32.ofNat N')) 100000 (0, 0, (B 116))).bind (fun q => match q with | .inl (e13, e14) => some (e13, e14) | .inr v => some v)) else some ((-11), (B 116))) else (if so = Int32.ofNat h then (if 0 ≤ so then ((wl (f_X12_seatsRow_l2 B I (Int32.ofNat s) a3 (Int32.ofNat N')) 100000 (0, 0, (B 116))).bind (fun q => match q with | .inl (e13, e14) => some (e13, e14) | .inr v => some v)) else some ((-11), (B 116))) else some ((-13), (B 116))) := fun B so h1 h2 => by
    unfold f_X12_seatsRow
    rw [isS (by omega), Option.bind_some, if_neg (show ¬ (1 : Int32) = 0 by decide), in_X, w2, Option.bind_some, if_neg (show ¬ (1 : Int32) = 0 by decide), in_X, w3, Option.bind_some, if_neg (show ¬ (1 : Int32) = 0 by decide), h2, am_at_g (k := s) (by omega) (by omega), ← h1]
    rfl
  have hcs : s = 0 ∨ s = 1 ∨ s = 2 ∨ s = 3 := by omega
  rcases hcs with rfl | rfl | rfl | rfl
  · obtain ⟨u1, u2, u3, u4, u5, m, hm, u6⟩ := id v0
    have hsn : I 4928 < 0 ↔ I 4928 = -1 := by
      rcases u5 with u5 | ⟨q, hq, u5⟩
      · rw [u5]; exact ⟨fun _ => rfl, fun _ => by decide⟩
      · rw [u5]; exact ⟨fun z => absurd z (i_nn (by omega)), fun z => absurd z (i_nm1 (by omega))⟩
    by_cases c1 : I 4928 = -1
    · refine no (-11) ?_ ?_
      · rw [srb_0 A I _ _ _ w2 w3]
        unfold f_X10_isMissing_77
        rw [if_pos c1]; rfl
      · rw [mo (up A 23 (A 23)) (I 4928) u2 rfl, if_pos (hsn.mpr c1), if_neg (Int32.not_le.mpr (hsn.mpr c1))]; rfl
    have m1 : f_X10_isMissing_77 A I = some 0 := by unfold f_X10_isMissing_77; rw [if_neg c1]
    by_cases c2 : I 4928 = Int32.ofNat h
    case neg =>
      refine no (-13) ?_ ?_
      · rw [srb_0 A I _ _ _ w2 w3, m1, Option.bind_some, if_pos rfl, if_neg c2]
      · rw [mo (up A 23 (A 23)) (I 4928) u2 rfl, if_neg (fun z => c1 (hsn.mp z)), if_neg c2]; rfl
    obtain ⟨r, hr, k1, -⟩ := srow_1 (B := A) (I := I) (it := A 78) (s := 0) (m := m) (N := N') a3 (by decide) l5 l6 u1 u4 hm (by rw [← u6]; exact u3) hN hq
    obtain ⟨r2, hr2, k3, k2⟩ := srow_1 (B := up A 23 r.2) (I := I) (it := A 78) (s := 0) (m := m) (N := N') a3 (by decide) l5 l6 u1 u4 hm (by rw [← u6]; exact u3) hN (q := A 116) (by rw [← z1]; exact hq)
    rw [← z1] at k3
    have hrr : r2 = r := Option.some.inj (k3.symm.trans k1)
    subst hrr
    refine fin r2.1 r2.2 hr ?_ ?_
    · rw [srb_0 A I _ _ _ w2 w3, m1, Option.bind_some, if_pos rfl, if_pos c2, srG_0, u6]
      exact k1
    · rw [mo (up A 23 r2.2) (I 4928) u2 rfl, if_neg (fun z => c1 (hsn.mp z)), if_pos c2, if_pos (Int32.not_lt.mp (fun z => c1 (hsn.mp z)))]
      exact k2
  · obtain ⟨u1, u2, u3, u4, u5, m, hm, u6⟩ := id v1
    have hsn : I 5056 < 0 ↔ I 5056 = -1 := by
      rcases u5 with u5 | ⟨q, hq, u5⟩
      · rw [u5]; exact ⟨fun _ => rfl, fun _ => by decide⟩
      · rw [u5]; exact ⟨fun z => absurd z (i_nn (by omega)), fun z => absurd z (i_nm1 (by omega))⟩
    by_cases c1 : I 5056 = -1
    · refine no (-11) ?_ ?_
      · rw [srb_1 A I _ _ _ w2 w3]
        unfold f_X10_isMissing_79
        rw [if_pos c1]; rfl
      · rw [mo (up A 23 (A 23)) (I 5056) u2 rfl, if_pos (hsn.mpr c1), if_neg (Int32.not_le.mpr (hsn.mpr c1))]; rfl
    have m1 : f_X10_isMissing_79 A I = some 0 := by unfold f_X10_isMissing_79; rw [if_neg c1]
    by_cases c2 : I 5056 = Int32.ofNat h
    case neg =>
      refine no (-13) ?_ ?_
      · rw [srb_1 A I _ _ _ w2 w3, m1, Option.bind_some, if_pos rfl, if_neg c2]
      · rw [mo (up A 23 (A 23)) (I 5056) u2 rfl, if_neg (fun z => c1 (hsn.mp z)), if_neg c2]; rfl
    obtain ⟨r, hr, k1, -⟩ := srow_1 (B := A) (I := I) (it := A 80) (s := 1) (m := m) (N := N') a3 (by decide) l5 l6 u1 u4 hm (by rw [← u6]; exact u3) hN hq
    obtain ⟨r2, hr2, k3, k2⟩ := srow_1 (B := up A 23 r.2) (I := I) (it := A 80) (s := 1) (m := m) (N := N') a3 (by decide) l5 l6 u1 u4 hm (by rw [← u6]; exact u3) hN (q := A 116) (by rw [← z1]; exact hq)
    rw [← z1] at k3
    have hrr : r2 = r := Option.some.inj (k3.symm.trans k1)
    subst hrr
    refine fin r2.1 r2.2 hr ?_ ?_
    · rw [srb_1 A I _ _ _ w2 w3, m1, Option.bind_some, if_pos rfl, if_pos c2, srG_1, u6]
      exact k1
    · rw [mo (up A 23 r2.2) (I 5056) u2 rfl, if_neg (fun z => c1 (hsn.mp z)), if_pos c2, if_pos (Int32.not_lt.mp (fun z => c1 (hsn.mp z)))]
      exact k2
  · obtain ⟨u1, u2, u3, u4, u5, m, hm, u6⟩ := id v2
    have hsn : I 5184 < 0 ↔ I 5184 = -1 := by
      rcases u5 with u5 | ⟨q, hq, u5⟩
      · rw [u5]; exact ⟨fun _ => rfl, fun _ => by decide⟩
      · rw [u5]; exact ⟨fun z => absurd z (i_nn (by omega)), fun z => absurd z (i_nm1 (by omega))⟩
    by_cases c1 : I 5184 = -1
    · refine no (-11) ?_ ?_
      · rw [srb_2 A I _ _ _ w2 w3]
        unfold f_X10_isMissing_81
        rw [if_pos c1]; rfl
      · rw [mo (up A 23 (A 23)) (I 5184) u2 rfl, if_pos (hsn.mpr c1), if_neg (Int32.not_le.mpr (hsn.mpr c1))]; rfl
    have m1 : f_X10_isMissing_81 A I = some 0 := by unfold f_X10_isMissing_81; rw [if_neg c1]
    by_cases c2 : I 5184 = Int32.ofNat h
    case neg =>
      refine no (-13) ?_ ?_
      · rw [srb_2 A I _ _ _ w2 w3, m1, Option.bind_some, if_pos rfl, if_neg c2]
      · rw [mo (up A 23 (A 23)) (I 5184) u2 rfl, if_neg (fun z => c1 (hsn.mp z)), if_neg c2]; rfl
    obtain ⟨r, hr, k1, -⟩ := srow_1 (B := A) (I := I) (it := A 82) (s := 2) (m := m) (N := N') a3 (by decide) l5 l6 u1 u4 hm (by rw [← u6]; exact u3) hN hq
    obtain ⟨r2, hr2, k3, k2⟩ := srow_1 (B := up A 23 r.2) (I := I) (it := A 82) (s := 2) (m := m) (N := N') a3 (by decide) l5 l6 u1 u4 hm (by rw [← u6]; exact u3) hN (q := A 116) (by rw [← z1]; exact hq)
    rw [← z1] at k3
    have hrr : r2 = r := Option.some.inj (k3.symm.trans k1)
    subst hrr
    refine fin r2.1 r2.2 hr ?_ ?_
    · rw [srb_2 A I _ _ _ w2 w3, m1, Option.bind_some, if_pos rfl, if_pos c2, srG_2, u6]
      exact k1
    · rw [mo (up A 23 r2.2) (I 5184) u2 rfl, if_neg (fun z => c1 (hsn.mp z)), if_pos c2, if_pos (Int32.not_lt.mp (fun z => c1 (hsn.mp z)))]
      exact k2
  · obtain ⟨u1, u2, u3, u4, u5, m, hm, u6⟩ := id v3
    have hsn : I 5312 < 0 ↔ I 5312 = -1 := by
      rcases u5 with u5 | ⟨q, hq, u5⟩
      · rw [u5]; exact ⟨fun _ => rfl, fun _ => by decide⟩
      · rw [u5]; exact ⟨fun z => absurd z (i_nn (by omega)), fun z => absurd z (i_nm1 (by omega))⟩
    by_cases c1 : I 5312 = -1
    · refine no (-11) ?_ ?_
      · rw [srb_3 A I _ _ _ w2 w3]
        unfold f_X10_isMissing_83
        rw [if_pos c1]; rfl
      · rw [mo (up A 23 (A 23)) (I 5312) u2 rfl, if_pos (hsn.mpr c1), if_neg (Int32.not_le.mpr (hsn.mpr c1))]; rfl
    have m1 : f_X10_isMissing_83 A I = some 0 := by unfold f_X10_isMissing_83; rw [if_neg c1]
    by_cases c2 : I 5312 = Int32.ofNat h
    case neg =>
      refine no (-13) ?_ ?_
      · rw [srb_3 A I _ _ _ w2 w3, m1, Option.bind_some, if_pos rfl, if_neg c2]
      · rw [mo (up A 23 (A 23)) (I 5312) u2 rfl, if_neg (fun z => c1 (hsn.mp z)), if_neg c2]; rfl
    obtain ⟨r, hr, k1, -⟩ := srow_1 (B := A) (I := I) (it := A 84) (s := 3) (m := m) (N := N') a3 (by decide) l5 l6 u1 u4 hm (by rw [← u6]; exact u3) hN hq
    obtain ⟨r2, hr2, k3, k2⟩ := srow_1 (B := up A 23 r.2) (I := I) (it := A 84) (s := 3) (m := m) (N := N') a3 (by decide) l5 l6 u1 u4 hm (by rw [← u6]; exact u3) hN (q := A 116) (by rw [← z1]; exact hq)
    rw [← z1] at k3
    have hrr : r2 = r := Option.some.inj (k3.symm.trans k1)
    subst hrr
    refine fin r2.1 r2.2 hr ?_ ?_
    · rw [srb_3 A I _ _ _ w2 w3, m1, Option.bind_some, if_pos rfl, if_pos c2, srG_3, u6]
      exact k1
    · rw [mo (up A 23 r2.2) (I 5312) u2 rfl, if_neg (fun z => c1 (hsn.mp z)), if_pos c2, if_pos (Int32.not_lt.mp (fun z => c1 (hsn.mp z)))]
      exact k2
