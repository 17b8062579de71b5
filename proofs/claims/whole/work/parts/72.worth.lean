/-! ===== worth ===== -/
theorem op_worth (xs : List Int32) {n : Nat} {A : Nat → List Int32} {I : Nat → Int32} {x : am_X} (h : Iv0 n A I x) (a1 : Int32) (a2 : Int32) (a3 : Int32) : am_op xs n ix_X11_worth ix_X12_worth [.int a1, .int a2, .int a3] A I x := by
  obtain ⟨⟨P, N, T, R, E, C, X, Z, hI⟩, hx⟩ := h
  obtain ⟨⟨e1', e2'⟩, ⟨l1, l2, l3⟩, hC, i1, i2, hw, hk, sy⟩ := id hI.2.2.2.2.2.2.2.2.1
  have hw := cls_row (fun l w => w.length = 8 ∧ ∀ c, c < 8 → g w c = g (A 118) (8 * c + l)) hw
  have no : ∀ {e1 : f_X11_worth A I a1 a2 a3 = some (-1000, A)} {e2 : f_X12_worth A I a1 a2 a3 = some (-1000, A 118)}, am_op xs n ix_X11_worth ix_X12_worth [.int a1, .int a2, .int a3] A I x := fun {e1} {e2} => by
    have c1 := t_X11_worth (xs := xs) A I x a1 a2 a3 e1
    have c2 := t_X12_worth (xs := xs) A I x a1 a2 a3 e2
    exact am_op.mk hx c1 (by decide) c2 (by decide) ⟨P, N, T, R, E, C, X, Z, hI⟩
  rcases c_Clause C (by omega) a1 with ⟨w, v⟩ | ⟨c, hc, rfl, w, v⟩
  · apply no
    · unfold f_X11_worth; rw [w A I i1]; rfl
    · unfold f_X12_worth; rw [v A I i2]; rfl
  have w := w A I i1
  have w' := fun (y : Nat × List Int32) => v (up A y.1 y.2) I i2
  rcases wi_l 7 (by decide) a2 with w2 | ⟨l, hl, rfl, w2⟩
  · have w2 : f_X11_isWithin a2 0 7 = some 0 := w2
    apply no
    · unfold f_X11_worth f_X11_isLand; rw [w, Option.bind_some, if_neg (show ¬ (1 : Int32) = 0 by decide), w2]; rfl
    · unfold f_X12_worth f_X12_isLand; rw [v A I i2, Option.bind_some, if_neg (show ¬ (1 : Int32) = 0 by decide), in_X, w2]; rfl
  have w2 : f_X11_isWithin (Int32.ofNat l) 0 7 = some 1 := w2
  have hz : f_X11_isWithin a3 (-99) 99 = some 0 ∨ f_X11_isWithin a3 (-99) 99 = some 1 := by
    unfold f_X11_isWithin
    split
    · exact Or.inl rfl
    · split
      · exact Or.inl rfl
      · exact Or.inr rfl
  rcases hz with w3 | w3
  · apply no
    · unfold f_X11_worth f_X11_isLand; rw [w, Option.bind_some, if_neg (show ¬ (1 : Int32) = 0 by decide), w2, Option.bind_some, Option.bind_some, if_neg (show ¬ (1 : Int32) = 0 by decide), w3]; rfl
    · unfold f_X12_worth f_X12_isLand; rw [v A I i2, Option.bind_some, if_neg (show ¬ (1 : Int32) = 0 by decide), in_X, w2, Option.bind_some, Option.bind_some, if_neg (show ¬ (1 : Int32) = 0 by decide), in_X, w3]; rfl
  clear no
  obtain ⟨r1, r2⟩ := hw l (by omega)
  have hix : (8 : Int32) * Int32.ofNat c + Int32.ofNat l = Int32.ofNat (8 * c + l) := by rw [show (8 : Int32) * Int32.ofNat c = Int32.ofNat (8 * c) from i_mull (m := 8), i_add]
  have e1 : f_X11_worth A I (Int32.ofNat c) (Int32.ofNat l) a3 = some (g (A 118) (8 * c + l), up A (65 + l) ((A (65 + l)).set c a3)) := by
    unfold f_X11_worth f_X11_isLand
    rw [w, Option.bind_some, if_neg (show ¬ (1 : Int32) = 0 by decide), w2, Option.bind_some, Option.bind_some, if_neg (show ¬ (1 : Int32) = 0 by decide), w3, Option.bind_some, if_neg (show ¬ (1 : Int32) = 0 by decide), am_row_g 65 (by omega), Option.bind_some, am_at_g (by omega) (by omega), Option.bind_some, Option.bind_some, am_up_g (by omega) (by omega), Option.bind_some, r2 c (by omega)]
  have h118 : up A (65 + l) ((A (65 + l)).set c a3) 118 = A 118 := up_ne _ _ (by omega)
  have e2 : f_X12_worth (up A (65 + l) ((A (65 + l)).set c a3)) I (Int32.ofNat c) (Int32.ofNat l) a3 = some (g (A 118) (8 * c + l), (A 118).set (8 * c + l) a3) := by
    unfold f_X12_worth f_X12_isLand
    rw [w' (65 + l, (A (65 + l)).set c a3), Option.bind_some, if_neg (show ¬ (1 : Int32) = 0 by decide), in_X, w2, Option.bind_some, Option.bind_some, if_neg (show ¬ (1 : Int32) = 0 by decide), in_X, w3, Option.bind_some, if_neg (show ¬ (1 : Int32) = 0 by decide), h118, hix, am_at_g (by omega) (by omega), Option.bind_some, am_up_g (by omega) (by omega), Option.bind_some]
  have c1 := t_X11_worth (xs := xs) A I x (Int32.ofNat c) (Int32.ofNat l) a3 e1
  have c2 := t_X12_worth (xs := xs) (up A (65 + l) ((A (65 + l)).set c a3)) I x (Int32.ofNat c) (Int32.ofNat l) a3 e2
  obtain ⟨B, hB⟩ : ∃ B, B = up (up A (65 + l) ((A (65 + l)).set c a3)) 118 ((A 118).set (8 * c + l) a3) := ⟨_, rfl⟩
  have hBn : ∀ j, ¬ j = 118 → ¬ j = 65 + l → B j = A j := fun j h1 h2 => by rw [hB, up_ne _ _ h1, up_ne _ _ h2]
  have hB8 : B 118 = (A 118).set (8 * c + l) a3 := by rw [hB, up_eq]
  have hBl : B (65 + l) = (A (65 + l)).set c a3 := by rw [hB, up_ne _ _ (by omega), up_eq]
  have q : v_cls C (B 62) (B 63) [B 65, B 66, B 67, B 68, B 69, B 70, B 71, B 72] (I 3907) (B 117) (B 118) (B 119) (I 5486) := by
    rw [hBn 62 (by omega) (by omega), hBn 63 (by omega) (by omega), hBn 117 (by omega) (by omega), hBn 119 (by omega) (by omega)]
    refine ⟨⟨e1', e2'⟩, ⟨l1, by rw [hB8, List.length_set]; exact l2, l3⟩, hC, i1, i2, cls_wor (fun l w => w.length = 8 ∧ ∀ c, c < 8 → g w c = g (B 118) (8 * c + l)) (fun j hj => ?_), hk, sy⟩
    obtain ⟨s1, s2⟩ := hw j hj
    by_cases e : j = l
    · subst e
      rw [hBl, hB8]
      refine ⟨by rw [List.length_set]; exact s1, fun d hd => ?_⟩
      rw [g_set (by omega), g_set (by omega)]
      by_cases e : d = c
      · rw [if_pos e, if_pos (by omega)]
      · rw [if_neg e, if_neg (by omega)]; exact s2 d hd
    · rw [hBn (65 + j) (by omega) (by omega), hB8]
      refine ⟨s1, fun d hd => ?_⟩
      rw [g_set (by omega), if_neg (by omega)]
      exact s2 d hd
  rw [← hB] at c2
  refine am_op.mk hx c1 (by decide) c2 (by decide) ⟨P, N, T, R, E, C, X, Z, ?_⟩
  subst hB
  have hl : l = 0 ∨ l = 1 ∨ l = 2 ∨ l = 3 ∨ l = 4 ∨ l = 5 ∨ l = 6 ∨ l = 7 := by omega
  clear c1 c2 e1 e2
  rcases hl with rfl | rfl | rfl | rfl | rfl | rfl | rfl | rfl <;> exact ⟨hI.1, hI.2.1, hI.2.2.1, hI.2.2.2.1, hI.2.2.2.2.1, hI.2.2.2.2.2.1, hI.2.2.2.2.2.2.1, hI.2.2.2.2.2.2.2.1, q, hI.2.2.2.2.2.2.2.2.2.1, hI.2.2.2.2.2.2.2.2.2.2.1, hI.2.2.2.2.2.2.2.2.2.2.2.1, hI.2.2.2.2.2.2.2.2.2.2.2.2⟩
