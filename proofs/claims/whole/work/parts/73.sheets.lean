/-! ===== calls: sheets (by wip/whole/gen_ops7.py) ===== -/
theorem fill_1 {L : List Int32} (hL : L.length = 40) (A : Nat → List Int32) (I : Nat → Int32) : ∃ Z, wl (f_J7_fill_53178_78_l1 A I 0 (Int32.ofNat L.length)) 100000 (0, L) = some Z ∧ Z.length = 40 ∧ ∀ k, k < 40 → g Z k = 0 := by
  obtain ⟨r, e, Q⟩ := wl_inv (s1 := f_J7_fill_53178_78_l1 A I 0 (Int32.ofNat L.length)) (fun n y => ∃ k M, y = (Int32.ofNat k, M) ∧ n + k = 40 ∧ M.length = 40 ∧ ∀ j, j < k → g M j = 0) (fun Z => Z.length = 40 ∧ ∀ k, k < 40 → g Z k = 0) (fun n y => by
    rintro ⟨k, M, rfl, hn, hl, hk⟩
    unfold f_J7_fill_53178_78_l1
    dsimp only
    by_cases h : 40 ≤ k
    · right
      rw [if_pos (by rw [i_le (by omega) (by omega)]; omega)]
      exact ⟨M, rfl, hl, fun j hj => hk j (by omega)⟩
    · left
      rw [if_neg (by rw [i_le (by omega) (by omega)]; omega), am_up_g (by omega) (by omega), Option.bind_some, i_addr]
      refine ⟨_, rfl, n - 1, by omega, k + 1, _, rfl, by omega, by rw [List.length_set]; exact hl, fun j hj => ?_⟩
      rw [g_set (by omega)]
      by_cases e : j = k
      · rw [if_pos e]
      · rw [if_neg e]; exact hk j (by omega)) 40 100000 (0, L) ⟨0, L, rfl, rfl, hL, fun j hj => absurd hj (Nat.not_lt_zero j)⟩ (by omega)
  exact ⟨r, e, Q⟩
theorem fill_2 {L : List Int32} {s : Nat} (hL : L.length = 160) (hs : s < 4) (A : Nat → List Int32) (I : Nat → Int32) : ∃ Z, wl (f_X12_sheet_l4 A I (Int32.ofNat s)) 100000 (0, L) = some Z ∧ Z.length = 160 ∧ ∀ j, j < 160 → g Z j = if 40 * s ≤ j ∧ j < 40 * s + 40 then 0 else g L j := by
  obtain ⟨r, e, Q⟩ := wl_inv (s1 := f_X12_sheet_l4 A I (Int32.ofNat s)) (fun n y => ∃ k M, y = (Int32.ofNat k, M) ∧ n + k = 40 ∧ M.length = 160 ∧ ∀ j, j < 160 → g M j = if 40 * s ≤ j ∧ j < 40 * s + k then 0 else g L j) (fun Z => Z.length = 160 ∧ ∀ j, j < 160 → g Z j = if 40 * s ≤ j ∧ j < 40 * s + 40 then 0 else g L j) (fun n y => by
    rintro ⟨k, M, rfl, hn, hl, hk⟩
    unfold f_X12_sheet_l4
    dsimp only
    by_cases h : 40 ≤ k
    · right
      have e : k = 40 := by omega
      subst e
      rw [if_pos (show (40 : Int32) ≤ Int32.ofNat 40 from Int32.le_refl _)]
      exact ⟨M, rfl, hl, hk⟩
    · left
      have hix : (40 : Int32) * Int32.ofNat s + Int32.ofNat k = Int32.ofNat (40 * s + k) := by rw [show (40 : Int32) * Int32.ofNat s = Int32.ofNat (40 * s) from i_mull (m := 40), i_add]
      rw [if_neg (show ¬ (40 : Int32) ≤ Int32.ofNat k from nge (n := 40) (by decide) (by omega)), hix, am_up_g (by omega) (by omega), Option.bind_some, i_addr]
      refine ⟨_, rfl, n - 1, by omega, k + 1, _, rfl, by omega, by rw [List.length_set]; exact hl, fun j hj => ?_⟩
      rw [g_set (by omega)]
      by_cases e : j = 40 * s + k
      · rw [if_pos e, if_pos (by omega)]
      · rw [if_neg e, hk j hj]
        by_cases c : 40 * s ≤ j ∧ j < 40 * s + k
        · rw [if_pos c, if_pos (by omega)]
        · rw [if_neg c, if_neg (by omega)]) 40 100000 (0, L) ⟨0, L, rfl, rfl, hL, fun j hj => by rw [if_neg (by omega)]⟩ (by omega)
  exact ⟨r, e, Q⟩
theorem sh1_oth {s t : Nat} {so sz : Int32} {it a b m a' b' M : List Int32} (h : v_sh1 t so sz it a b m) (ne : ¬ t = s) (ht : t < 4) (ha : g a' t = g a t) (hb : g b' t = g b t) (hM : ∀ j, j < 160 → ¬ (40 * s ≤ j ∧ j < 40 * s + 40) → g M j = g m j) : v_sh1 t so sz it a' b' M := by
  obtain ⟨h1, h2, h3, h4, h5, h6⟩ := h
  exact ⟨h1, by rw [h2, ha], by rw [h3, hb], fun k hk => by rw [h4 k hk, hM (40 * t + k) (by omega) (by omega)], h5, h6⟩
theorem sh1_cel {it m : List Int32} {v : Int32} {s k d : Nat} (h1 : k < it.length) (h2 : 40 * s + k < m.length) (h : g it d = g m (40 * s + d)) : g (it.set k v) d = g (m.set (40 * s + k) v) (40 * s + d) := by
  rw [g_set h1, g_set h2, h]
  by_cases e : d = k
  · rw [if_pos e, if_pos (by omega)]
  · rw [if_neg e, if_neg (by omega)]
theorem sh1_new {s : Nat} {so sz : Int32} {it a b M : List Int32} (h1 : it.length = 40) (h2 : g a s = so) (h3 : g b s = sz) (h4 : ∀ k, k < 40 → g it k = g M (40 * s + k)) (h5 : so = -1 ∨ ∃ q, q < 3 ∧ so = Int32.ofNat q) (h6 : ∃ n, n ≤ 40 ∧ sz = Int32.ofNat n) : v_sh1 s so sz it a b M := ⟨h1, h2.symm, h3.symm, h4, h5, h6⟩
theorem bec_77 {A : Nat → List Int32} {I : Nat → Int32} (h : (A 78).length = 40) (k n : Int32) : ∃ Z, f_X10_become_77 A I k n = some (Z, k, n) ∧ Z.length = 40 ∧ ∀ j, j < 40 → g Z j = 0 := by
  obtain ⟨Z, e, h1, h2⟩ := fill_1 h A (up (up I 4928 k) 4929 n)
  refine ⟨Z, ?_, h1, h2⟩
  have e : wl (f_J7_fill_53178_78_l1 A (up (up I 4928 k) 4929 n) 0 (Int32.ofNat (A 78).length)) 100000 (0, (A 78)) = some Z := e
  unfold f_X10_become_77 f_J7_fill_53178_78
  rw [e]
  rfl
theorem bec_79 {A : Nat → List Int32} {I : Nat → Int32} (h : (A 80).length = 40) (k n : Int32) : ∃ Z, f_X10_become_79 A I k n = some (Z, k, n) ∧ Z.length = 40 ∧ ∀ j, j < 40 → g Z j = 0 := by
  obtain ⟨Z, e, h1, h2⟩ := fill_1 h A (up (up I 5056 k) 5057 n)
  refine ⟨Z, ?_, h1, h2⟩
  have e : wl (f_J7_fill_53178_80_l1 A (up (up I 5056 k) 5057 n) 0 (Int32.ofNat (A 80).length)) 100000 (0, (A 80)) = some Z := e
  unfold f_X10_become_79 f_J7_fill_53178_80
  rw [e]
  rfl
theorem bec_81 {A : Nat → List Int32} {I : Nat → Int32} (h : (A 82).length = 40) (k n : Int32) : ∃ Z, f_X10_become_81 A I k n = some (Z, k, n) ∧ Z.length = 40 ∧ ∀ j, j < 40 → g Z j = 0 := by
  obtain ⟨Z, e, h1, h2⟩ := fill_1 h A (up (up I 5184 k) 5185 n)
  refine ⟨Z, ?_, h1, h2⟩
  have e : wl (f_J7_fill_53178_82_l1 A (up (up I 5184 k) 5185 n) 0 (Int32.ofNat (A 82).length)) 100000 (0, (A 82)) = some Z := e
  unfold f_X10_become_81 f_J7_fill_53178_82
  rw [e]
  rfl
theorem bec_83 {A : Nat → List Int32} {I : Nat → Int32} (h : (A 84).length = 40) (k n : Int32) : ∃ Z, f_X10_become_83 A I k n = some (Z, k, n) ∧ Z.length = 40 ∧ ∀ j, j < 40 → g Z j = 0 := by
  obtain ⟨Z, e, h1, h2⟩ := fill_1 h A (up (up I 5312 k) 5313 n)
  refine ⟨Z, ?_, h1, h2⟩
  have e : wl (f_J7_fill_53178_84_l1 A (up (up I 5312 k) 5313 n) 0 (Int32.ofNat (A 84).length)) 100000 (0, (A 84)) = some Z := e
  unfold f_X10_become_83 f_J7_fill_53178_84
  rw [e]
  rfl
theorem op_sheet (xs : List Int32) {n : Nat} {A : Nat → List Int32} {I : Nat → Int32} {x : am_X} (h : Iv0 n A I x) (a1 : Int32) (a2 : Int32) (a3 : Int32) : am_op xs n ix_X11_sheet ix_X12_sheet [.int a1, .int a2, .int a3] A I x := by
  obtain ⟨⟨P, N, T, R, E, C, X, Z, hI⟩, hx⟩ := h
  obtain ⟨⟨l4, l5, l6⟩, v0, v1, v2, v3⟩ := id hI.2.2.2.2.2.2.2.2.2.2.1
  have no : ∀ (z : Int32) (e1 : f_X11_sheet A I a1 a2 a3 = some (z, (A 78), (A 80), (A 82), (A 84), (I 4928), (I 4929), (I 5056), (I 5057), (I 5184), (I 5185), (I 5312), (I 5313))) (e2 : f_X12_sheet (up (up (up (up A 78 (A 78)) 80 (A 80)) 82 (A 82)) 84 (A 84)) (up (up (up (up (up (up (up (up I 4928 (I 4928)) 4929 (I 4929)) 5056 (I 5056)) 5057 (I 5057)) 5184 (I 5184)) 5185 (I 5185)) 5312 (I 5312)) 5313 (I 5313)) a1 a2 a3 = some (z, A 124, A 125, A 126)), am_op xs n ix_X11_sheet ix_X12_sheet [.int a1, .int a2, .int a3] A I x := fun z e1 e2 => by
    have c1 := t_X11_sheet (xs := xs) A I x a1 a2 a3 e1
    have c2 := t_X12_sheet (xs := xs) (up (up (up (up A 78 (A 78)) 80 (A 80)) 82 (A 82)) 84 (A 84)) (up (up (up (up (up (up (up (up I 4928 (I 4928)) 4929 (I 4929)) 5056 (I 5056)) 5057 (I 5057)) 5184 (I 5184)) 5185 (I 5185)) 5312 (I 5312)) 5313 (I 5313)) x a1 a2 a3 e2
    exact am_op.mk hx c1 (by decide) c2 (by decide) ⟨P, N, T, R, E, C, X, Z, ⟨hI.1, hI.2.1, hI.2.2.1, hI.2.2.2.1, hI.2.2.2.2.1, hI.2.2.2.2.2.1, hI.2.2.2.2.2.2.1, hI.2.2.2.2.2.2.2.1, hI.2.2.2.2.2.2.2.2.1, hI.2.2.2.2.2.2.2.2.2.1, hI.2.2.2.2.2.2.2.2.2.2.1, hI.2.2.2.2.2.2.2.2.2.2.2.1, hI.2.2.2.2.2.2.2.2.2.2.2.2⟩⟩
  rcases wi_l 3 (by decide) a1 with w | ⟨s, hs, rfl, w⟩
  · have w : f_X11_isWithin a1 0 3 = some 0 := w
    refine no (-2) ?_ ?_
    · unfold f_X11_sheet f_X11_isSheet; rw [w]; rfl
    · unfold f_X12_sheet f_X12_isSheet; rw [in_X, w]; rfl
  have w : f_X11_isWithin (Int32.ofNat s) 0 3 = some 1 := w
  have hz : f_X11_isWithin a2 (-1) 2 = some 0 ∨ (f_X11_isWithin a2 (-1) 2 = some 1 ∧ (a2 = -1 ∨ ∃ q, q < 3 ∧ a2 = Int32.ofNat q)) := by
    by_cases h0 : a2 = -1
    · subst h0; exact Or.inr ⟨rfl, Or.inl rfl⟩
    · rcases wi_l 2 (by decide) a2 with w | ⟨q, hq, rfl, w⟩
      · left
        have w : f_X11_isWithin a2 0 2 = some 0 := w
        unfold f_X11_isWithin at w ⊢
        by_cases h1 : a2 < 0
        · rw [if_pos]
          rw [Int32.lt_iff_toInt_lt] at h1 ⊢
          have : a2.toInt ≠ (-1 : Int32).toInt := fun q => h0 (Int32.toInt_inj.mp q)
          rw [show (-1 : Int32).toInt = -1 from rfl] at *
          rw [show (0 : Int32).toInt = 0 from rfl] at *
          omega
        · rw [if_neg h1] at w
          by_cases h2 : 2 < a2
          · rw [if_pos h2]; split <;> rfl
          · rw [if_neg h2] at w; cases w
      · right
        refine ⟨?_, Or.inr ⟨q, by omega, rfl⟩⟩
        have : q = 0 ∨ q = 1 ∨ q = 2 := by omega
        rcases this with rfl | rfl | rfl <;> rfl
  rcases hz with w2 | ⟨w2, hq⟩
  · refine no (-2) ?_ ?_
    · unfold f_X11_sheet f_X11_isSheet; rw [w, Option.bind_some, Option.bind_some, if_neg (show ¬ (1 : Int32) = 0 by decide), w2]; rfl
    · unfold f_X12_sheet f_X12_isSheet; rw [in_X, w, Option.bind_some, Option.bind_some, if_neg (show ¬ (1 : Int32) = 0 by decide), in_X, w2]; rfl
  have f1 : f_X11_isSheet (Int32.ofNat s) = some 1 := by unfold f_X11_isSheet; rw [w]; rfl
  have f2 : ∀ A I, f_X12_isSheet A I (Int32.ofNat s) = some 1 := fun A I => by unfold f_X12_isSheet; rw [in_X, w]; rfl
  have hneg : a2 < 0 ↔ a2 = -1 := by
    rcases hq with rfl | ⟨q, hq, rfl⟩
    · exact ⟨fun _ => rfl, fun _ => by decide⟩
    · exact ⟨fun z => absurd z (i_nn (by omega)), fun z => absurd z (i_nm1 (by omega))⟩
  have key : (a3 ≤ 40 ∧ 0 ≤ a3) ∨ a2 = -1 ∨ (¬ a2 = -1 ∧ ¬ (a3 ≤ 40 ∧ 0 ≤ a3)) := by
    by_cases c1 : a2 = -1
    · exact Or.inr (Or.inl c1)
    · by_cases c2 : a3 ≤ 40 ∧ 0 ≤ a3
      · exact Or.inl c2
      · exact Or.inr (Or.inr ⟨c1, c2⟩)
  by_cases c1 : a2 = -1
  · subst c1
    have hsd : s < 4 := by omega
    obtain ⟨M, m1, m2, m3⟩ := fill_2 (L := A 126) (s := s) l6 hsd (up (up A 124 ((A 124).set s (-1))) 125 ((A 125).set s 0)) I
    have m3i : ∀ k, k < 40 → (0 : Int32) = g M (40 * s + k) := fun k hk => by rw [m3 (40 * s + k) (by omega), if_pos (by omega)]
    have m3o : ∀ j, j < 160 → ¬ (40 * s ≤ j ∧ j < 40 * s + 40) → g M j = g (A 126) j := fun j hj hn => by rw [m3 j hj, if_neg hn]
    have hcs : s = 0 ∨ s = 1 ∨ s = 2 ∨ s = 3 := by omega
    rcases hcs with rfl | rfl | rfl | rfl
    · obtain ⟨Y, y1, y2, y3⟩ := bec_77 (A := A) (I := I) v0.1 (-1) 0
      have e1 : f_X11_sheet A I (Int32.ofNat 0) (-1) a3 = some (1, Y, (A 80), (A 82), (A 84), (-1), 0, (I 5056), (I 5057), (I 5184), (I 5185), (I 5312), (I 5313)) := by
        unfold f_X11_sheet
        rw [f1, Option.bind_some, if_neg (show ¬ (1 : Int32) = 0 by decide), w2, Option.bind_some, if_neg (show ¬ (1 : Int32) = 0 by decide), if_pos rfl]
        show (f_X10_become_77 A I (-1) 0).bind _ = _
        rw [y1]
        rfl
      have e2 : f_X12_sheet (up (up (up (up A 78 Y) 80 (A 80)) 82 (A 82)) 84 (A 84)) (up (up (up (up (up (up (up (up I 4928 (-1)) 4929 0) 5056 (I 5056)) 5057 (I 5057)) 5184 (I 5184)) 5185 (I 5185)) 5312 (I 5312)) 5313 (I 5313)) (Int32.ofNat 0) (-1) a3 = some (1, (A 124).set 0 (-1), (A 125).set 0 0, M) := by
        unfold f_X12_sheet
        have g4 : ∀ v, am_up (A 124) (Int32.ofNat 0) v = some ((A 124).set 0 v) := fun v => am_up_g (by omega) (by omega)
        have g5 : ∀ v, am_up (A 125) (Int32.ofNat 0) v = some ((A 125).set 0 v) := fun v => am_up_g (by omega) (by omega)
        rw [f2, Option.bind_some, if_neg (show ¬ (1 : Int32) = 0 by decide), in_X, w2, Option.bind_some, if_neg (show ¬ (1 : Int32) = 0 by decide), if_pos (show (-1 : Int32) < 0 by decide), if_pos (show (-1 : Int32) < 0 by decide)]
        show (am_up (A 124) (Int32.ofNat 0) (-1)).bind _ = _
        rw [g4, Option.bind_some, if_neg (show ¬ (0 : Int32) ≤ -1 by decide), Option.bind_some]
        show (am_up (A 125) (Int32.ofNat 0) 0).bind _ = _
        rw [g5, Option.bind_some]
        have m1 : wl (f_X12_sheet_l1 (up (up (up (up (up (up A 78 Y) 80 (A 80)) 82 (A 82)) 84 (A 84)) 124 ((A 124).set 0 (-1))) 125 ((A 125).set 0 0)) (up (up (up (up (up (up (up (up I 4928 (-1)) 4929 0) 5056 (I 5056)) 5057 (I 5057)) 5184 (I 5184)) 5185 (I 5185)) 5312 (I 5312)) 5313 (I 5313)) (Int32.ofNat 0)) 100000 (0, (A 126)) = some M := m1
        show (wl (f_X12_sheet_l1 (up (up (up (up (up (up A 78 Y) 80 (A 80)) 82 (A 82)) 84 (A 84)) 124 ((A 124).set 0 (-1))) 125 ((A 125).set 0 0)) (up (up (up (up (up (up (up (up I 4928 (-1)) 4929 0) 5056 (I 5056)) 5057 (I 5057)) 5184 (I 5184)) 5185 (I 5185)) 5312 (I 5312)) 5313 (I 5313)) (Int32.ofNat 0)) 100000 (0, (A 126))).bind _ = _
        rw [m1]
        rfl
      have c1 := t_X11_sheet (xs := xs) A I x (Int32.ofNat 0) (-1) a3 e1
      have c2 := t_X12_sheet (xs := xs) (up (up (up (up A 78 Y) 80 (A 80)) 82 (A 82)) 84 (A 84)) (up (up (up (up (up (up (up (up I 4928 (-1)) 4929 0) 5056 (I 5056)) 5057 (I 5057)) 5184 (I 5184)) 5185 (I 5185)) 5312 (I 5312)) 5313 (I 5313)) x (Int32.ofNat 0) (-1) a3 e2
      have q : v_sht (-1) 0 (I 5056) (I 5057) (I 5184) (I 5185) (I 5312) (I 5313) Y (A 80) (A 82) (A 84) ((A 124).set 0 (-1)) ((A 125).set 0 0) M := ⟨⟨by rw [List.length_set]; exact l4, by rw [List.length_set]; exact l5, m2⟩, sh1_new y2 (g_set_eq (by omega)) (g_set_eq (by omega)) (fun k hk => by rw [y3 k hk]; exact m3i k hk) hq ⟨0, by decide, rfl⟩, sh1_oth v1 (s := 0) (by decide) (by decide) (g_set_ne (by decide)) (g_set_ne (by decide)) m3o, sh1_oth v2 (s := 0) (by decide) (by decide) (g_set_ne (by decide)) (g_set_ne (by decide)) m3o, sh1_oth v3 (s := 0) (by decide) (by decide) (g_set_ne (by decide)) (g_set_ne (by decide)) m3o⟩
      exact am_op.mk hx c1 (by decide) c2 (by decide) ⟨P, N, T, R, E, C, X, Z, ⟨hI.1, hI.2.1, hI.2.2.1, hI.2.2.2.1, hI.2.2.2.2.1, hI.2.2.2.2.2.1, hI.2.2.2.2.2.2.1, hI.2.2.2.2.2.2.2.1, hI.2.2.2.2.2.2.2.2.1, hI.2.2.2.2.2.2.2.2.2.1, q, hI.2.2.2.2.2.2.2.2.2.2.2.1, hI.2.2.2.2.2.2.2.2.2.2.2.2⟩⟩
    · obtain ⟨Y, y1, y2, y3⟩ := bec_79 (A := A) (I := I) v1.1 (-1) 0
      have e1 : f_X11_sheet A I (Int32.ofNat 1) (-1) a3 = some (1, (A 78), Y, (A 82), (A 84), (I 4928), (I 4929), (-1), 0, (I 5184), (I 5185), (I 5312), (I 5313)) := by
        unfold f_X11_sheet
        rw [f1, Option.bind_some, if_neg (show ¬ (1 : Int32) = 0 by decide), w2, Option.bind_some, if_neg (show ¬ (1 : Int32) = 0 by decide), if_pos rfl]
        show (f_X10_become_79 A I (-1) 0).bind _ = _
        rw [y1]
        rfl
      have e2 : f_X12_sheet (up (up (up (up A 78 (A 78)) 80 Y) 82 (A 82)) 84 (A 84)) (up (up (up (up (up (up (up (up I 4928 (I 4928)) 4929 (I 4929)) 5056 (-1)) 5057 0) 5184 (I 5184)) 5185 (I 5185)) 5312 (I 5312)) 5313 (I 5313)) (Int32.ofNat 1) (-1) a3 = some (1, (A 124).set 1 (-1), (A 125).set 1 0, M) := by
        unfold f_X12_sheet
        have g4 : ∀ v, am_up (A 124) (Int32.ofNat 1) v = some ((A 124).set 1 v) := fun v => am_up_g (by omega) (by omega)
        have g5 : ∀ v, am_up (A 125) (Int32.ofNat 1) v = some ((A 125).set 1 v) := fun v => am_up_g (by omega) (by omega)
        rw [f2, Option.bind_some, if_neg (show ¬ (1 : Int32) = 0 by decide), in_X, w2, Option.bind_some, if_neg (show ¬ (1 : Int32) = 0 by decide), if_pos (show (-1 : Int32) < 0 by decide), if_pos (show (-1 : Int32) < 0 by decide)]
        show (am_up (A 124) (Int32.ofNat 1) (-1)).bind _ = _
        rw [g4, Option.bind_some, if_neg (show ¬ (0 : Int32) ≤ -1 by decide), Option.bind_some]
        show (am_up (A 125) (Int32.ofNat 1) 0).bind _ = _
        rw [g5, Option.bind_some]
        have m1 : wl (f_X12_sheet_l1 (up (up (up (up (up (up A 78 (A 78)) 80 Y) 82 (A 82)) 84 (A 84)) 124 ((A 124).set 1 (-1))) 125 ((A 125).set 1 0)) (up (up (up (up (up (up (up (up I 4928 (I 4928)) 4929 (I 4929)) 5056 (-1)) 5057 0) 5184 (I 5184)) 5185 (I 5185)) 5312 (I 5312)) 5313 (I 5313)) (Int32.ofNat 1)) 100000 (0, (A 126)) = some M := m1
        show (wl (f_X12_sheet_l1 (up (up (up (up (up (up A 78 (A 78)) 80 Y) 82 (A 82)) 84 (A 84)) 124 ((A 124).set 1 (-1))) 125 ((A 125).set 1 0)) (up (up (up (up (up (up (up (up I 4928 (I 4928)) 4929 (I 4929)) 5056 (-1)) 5057 0) 5184 (I 5184)) 5185 (I 5185)) 5312 (I 5312)) 5313 (I 5313)) (Int32.ofNat 1)) 100000 (0, (A 126))).bind _ = _
        rw [m1]
        rfl
      have c1 := t_X11_sheet (xs := xs) A I x (Int32.ofNat 1) (-1) a3 e1
      have c2 := t_X12_sheet (xs := xs) (up (up (up (up A 78 (A 78)) 80 Y) 82 (A 82)) 84 (A 84)) (up (up (up (up (up (up (up (up I 4928 (I 4928)) 4929 (I 4929)) 5056 (-1)) 5057 0) 5184 (I 5184)) 5185 (I 5185)) 5312 (I 5312)) 5313 (I 5313)) x (Int32.ofNat 1) (-1) a3 e2
      have q : v_sht (I 4928) (I 4929) (-1) 0 (I 5184) (I 5185) (I 5312) (I 5313) (A 78) Y (A 82) (A 84) ((A 124).set 1 (-1)) ((A 125).set 1 0) M := ⟨⟨by rw [List.length_set]; exact l4, by rw [List.length_set]; exact l5, m2⟩, sh1_oth v0 (s := 1) (by decide) (by decide) (g_set_ne (by decide)) (g_set_ne (by decide)) m3o, sh1_new y2 (g_set_eq (by omega)) (g_set_eq (by omega)) (fun k hk => by rw [y3 k hk]; exact m3i k hk) hq ⟨0, by decide, rfl⟩, sh1_oth v2 (s := 1) (by decide) (by decide) (g_set_ne (by decide)) (g_set_ne (by decide)) m3o, sh1_oth v3 (s := 1) (by decide) (by decide) (g_set_ne (by decide)) (g_set_ne (by decide)) m3o⟩
      exact am_op.mk hx c1 (by decide) c2 (by decide) ⟨P, N, T, R, E, C, X, Z, ⟨hI.1, hI.2.1, hI.2.2.1, hI.2.2.2.1, hI.2.2.2.2.1, hI.2.2.2.2.2.1, hI.2.2.2.2.2.2.1, hI.2.2.2.2.2.2.2.1, hI.2.2.2.2.2.2.2.2.1, hI.2.2.2.2.2.2.2.2.2.1, q, hI.2.2.2.2.2.2.2.2.2.2.2.1, hI.2.2.2.2.2.2.2.2.2.2.2.2⟩⟩
    · obtain ⟨Y, y1, y2, y3⟩ := bec_81 (A := A) (I := I) v2.1 (-1) 0
      have e1 : f_X11_sheet A I (Int32.ofNat 2) (-1) a3 = some (1, (A 78), (A 80), Y, (A 84), (I 4928), (I 4929), (I 5056), (I 5057), (-1), 0, (I 5312), (I 5313)) := by
        unfold f_X11_sheet
        rw [f1, Option.bind_some, if_neg (show ¬ (1 : Int32) = 0 by decide), w2, Option.bind_some, if_neg (show ¬ (1 : Int32) = 0 by decide), if_pos rfl]
        show (f_X10_become_81 A I (-1) 0).bind _ = _
        rw [y1]
        rfl
      have e2 : f_X12_sheet (up (up (up (up A 78 (A 78)) 80 (A 80)) 82 Y) 84 (A 84)) (up (up (up (up (up (up (up (up I 4928 (I 4928)) 4929 (I 4929)) 5056 (I 5056)) 5057 (I 5057)) 5184 (-1)) 5185 0) 5312 (I 5312)) 5313 (I 5313)) (Int32.ofNat 2) (-1) a3 = some (1, (A 124).set 2 (-1), (A 125).set 2 0, M) := by
        unfold f_X12_sheet
        have g4 : ∀ v, am_up (A 124) (Int32.ofNat 2) v = some ((A 124).set 2 v) := fun v => am_up_g (by omega) (by omega)
        have g5 : ∀ v, am_up (A 125) (Int32.ofNat 2) v = some ((A 125).set 2 v) := fun v => am_up_g (by omega) (by omega)
        rw [f2, Option.bind_some, if_neg (show ¬ (1 : Int32) = 0 by decide), in_X, w2, Option.bind_some, if_neg (show ¬ (1 : Int32) = 0 by decide), if_pos (show (-1 : Int32) < 0 by decide), if_pos (show (-1 : Int32) < 0 by decide)]
        show (am_up (A 124) (Int32.ofNat 2) (-1)).bind _ = _
        rw [g4, Option.bind_some, if_neg (show ¬ (0 : Int32) ≤ -1 by decide), Option.bind_some]
        show (am_up (A 125) (Int32.ofNat 2) 0).bind _ = _
        rw [g5, Option.bind_some]
        have m1 : wl (f_X12_sheet_l1 (up (up (up (up (up (up A 78 (A 78)) 80 (A 80)) 82 Y) 84 (A 84)) 124 ((A 124).set 2 (-1))) 125 ((A 125).set 2 0)) (up (up (up (up (up (up (up (up I 4928 (I 4928)) 4929 (I 4929)) 5056 (I 5056)) 5057 (I 5057)) 5184 (-1)) 5185 0) 5312 (I 5312)) 5313 (I 5313)) (Int32.ofNat 2)) 100000 (0, (A 126)) = some M := m1
        show (wl (f_X12_sheet_l1 (up (up (up (up (up (up A 78 (A 78)) 80 (A 80)) 82 Y) 84 (A 84)) 124 ((A 124).set 2 (-1))) 125 ((A 125).set 2 0)) (up (up (up (up (up (up (up (up I 4928 (I 4928)) 4929 (I 4929)) 5056 (I 5056)) 5057 (I 5057)) 5184 (-1)) 5185 0) 5312 (I 5312)) 5313 (I 5313)) (Int32.ofNat 2)) 100000 (0, (A 126))).bind _ = _
        rw [m1]
        rfl
      have c1 := t_X11_sheet (xs := xs) A I x (Int32.ofNat 2) (-1) a3 e1
      have c2 := t_X12_sheet (xs := xs) (up (up (up (up A 78 (A 78)) 80 (A 80)) 82 Y) 84 (A 84)) (up (up (up (up (up (up (up (up I 4928 (I 4928)) 4929 (I 4929)) 5056 (I 5056)) 5057 (I 5057)) 5184 (-1)) 5185 0) 5312 (I 5312)) 5313 (I 5313)) x (Int32.ofNat 2) (-1) a3 e2
      have q : v_sht (I 4928) (I 4929) (I 5056) (I 5057) (-1) 0 (I 5312) (I 5313) (A 78) (A 80) Y (A 84) ((A 124).set 2 (-1)) ((A 125).set 2 0) M := ⟨⟨by rw [List.length_set]; exact l4, by rw [List.length_set]; exact l5, m2⟩, sh1_oth v0 (s := 2) (by decide) (by decide) (g_set_ne (by decide)) (g_set_ne (by decide)) m3o, sh1_oth v1 (s := 2) (by decide) (by decide) (g_set_ne (by decide)) (g_set_ne (by decide)) m3o, sh1_new y2 (g_set_eq (by omega)) (g_set_eq (by omega)) (fun k hk => by rw [y3 k hk]; exact m3i k hk) hq ⟨0, by decide, rfl⟩, sh1_oth v3 (s := 2) (by decide) (by decide) (g_set_ne (by decide)) (g_set_ne (by decide)) m3o⟩
      exact am_op.mk hx c1 (by decide) c2 (by decide) ⟨P, N, T, R, E, C, X, Z, ⟨hI.1, hI.2.1, hI.2.2.1, hI.2.2.2.1, hI.2.2.2.2.1, hI.2.2.2.2.2.1, hI.2.2.2.2.2.2.1, hI.2.2.2.2.2.2.2.1, hI.2.2.2.2.2.2.2.2.1, hI.2.2.2.2.2.2.2.2.2.1, q, hI.2.2.2.2.2.2.2.2.2.2.2.1, hI.2.2.2.2.2.2.2.2.2.2.2.2⟩⟩
    · obtain ⟨Y, y1, y2, y3⟩ := bec_83 (A := A) (I := I) v3.1 (-1) 0
      have e1 : f_X11_sheet A I (Int32.ofNat 3) (-1) a3 = some (1, (A 78), (A 80), (A 82), Y, (I 4928), (I 4929), (I 5056), (I 5057), (I 5184), (I 5185), (-1), 0) := by
        unfold f_X11_sheet
        rw [f1, Option.bind_some, if_neg (show ¬ (1 : Int32) = 0 by decide), w2, Option.bind_some, if_neg (show ¬ (1 : Int32) = 0 by decide), if_pos rfl]
        show (f_X10_become_83 A I (-1) 0).bind _ = _
        rw [y1]
        rfl
      have e2 : f_X12_sheet (up (up (up (up A 78 (A 78)) 80 (A 80)) 82 (A 82)) 84 Y) (up (up (up (up (up (up (up (up I 4928 (I 4928)) 4929 (I 4929)) 5056 (I 5056)) 5057 (I 5057)) 5184 (I 5184)) 5185 (I 5185)) 5312 (-1)) 5313 0) (Int32.ofNat 3) (-1) a3 = some (1, (A 124).set 3 (-1), (A 125).set 3 0, M) := by
        unfold f_X12_sheet
        have g4 : ∀ v, am_up (A 124) (Int32.ofNat 3) v = some ((A 124).set 3 v) := fun v => am_up_g (by omega) (by omega)
        have g5 : ∀ v, am_up (A 125) (Int32.ofNat 3) v = some ((A 125).set 3 v) := fun v => am_up_g (by omega) (by omega)
        rw [f2, Option.bind_some, if_neg (show ¬ (1 : Int32) = 0 by decide), in_X, w2, Option.bind_some, if_neg (show ¬ (1 : Int32) = 0 by decide), if_pos (show (-1 : Int32) < 0 by decide), if_pos (show (-1 : Int32) < 0 by decide)]
        show (am_up (A 124) (Int32.ofNat 3) (-1)).bind _ = _
        rw [g4, Option.bind_some, if_neg (show ¬ (0 : Int32) ≤ -1 by decide), Option.bind_some]
        show (am_up (A 125) (Int32.ofNat 3) 0).bind _ = _
        rw [g5, Option.bind_some]
        have m1 : wl (f_X12_sheet_l1 (up (up (up (up (up (up A 78 (A 78)) 80 (A 80)) 82 (A 82)) 84 Y) 124 ((A 124).set 3 (-1))) 125 ((A 125).set 3 0)) (up (up (up (up (up (up (up (up I 4928 (I 4928)) 4929 (I 4929)) 5056 (I 5056)) 5057 (I 5057)) 5184 (I 5184)) 5185 (I 5185)) 5312 (-1)) 5313 0) (Int32.ofNat 3)) 100000 (0, (A 126)) = some M := m1
        show (wl (f_X12_sheet_l1 (up (up (up (up (up (up A 78 (A 78)) 80 (A 80)) 82 (A 82)) 84 Y) 124 ((A 124).set 3 (-1))) 125 ((A 125).set 3 0)) (up (up (up (up (up (up (up (up I 4928 (I 4928)) 4929 (I 4929)) 5056 (I 5056)) 5057 (I 5057)) 5184 (I 5184)) 5185 (I 5185)) 5312 (-1)) 5313 0) (Int32.ofNat 3)) 100000 (0, (A 126))).bind _ = _
        rw [m1]
        rfl
      have c1 := t_X11_sheet (xs := xs) A I x (Int32.ofNat 3) (-1) a3 e1
      have c2 := t_X12_sheet (xs := xs) (up (up (up (up A 78 (A 78)) 80 (A 80)) 82 (A 82)) 84 Y) (up (up (up (up (up (up (up (up I 4928 (I 4928)) 4929 (I 4929)) 5056 (I 5056)) 5057 (I 5057)) 5184 (I 5184)) 5185 (I 5185)) 5312 (-1)) 5313 0) x (Int32.ofNat 3) (-1) a3 e2
      have q : v_sht (I 4928) (I 4929) (I 5056) (I 5057) (I 5184) (I 5185) (-1) 0 (A 78) (A 80) (A 82) Y ((A 124).set 3 (-1)) ((A 125).set 3 0) M := ⟨⟨by rw [List.length_set]; exact l4, by rw [List.length_set]; exact l5, m2⟩, sh1_oth v0 (s := 3) (by decide) (by decide) (g_set_ne (by decide)) (g_set_ne (by decide)) m3o, sh1_oth v1 (s := 3) (by decide) (by decide) (g_set_ne (by decide)) (g_set_ne (by decide)) m3o, sh1_oth v2 (s := 3) (by decide) (by decide) (g_set_ne (by decide)) (g_set_ne (by decide)) m3o, sh1_new y2 (g_set_eq (by omega)) (g_set_eq (by omega)) (fun k hk => by rw [y3 k hk]; exact m3i k hk) hq ⟨0, by decide, rfl⟩⟩
      exact am_op.mk hx c1 (by decide) c2 (by decide) ⟨P, N, T, R, E, C, X, Z, ⟨hI.1, hI.2.1, hI.2.2.1, hI.2.2.2.1, hI.2.2.2.2.1, hI.2.2.2.2.2.1, hI.2.2.2.2.2.2.1, hI.2.2.2.2.2.2.2.1, hI.2.2.2.2.2.2.2.2.1, hI.2.2.2.2.2.2.2.2.2.1, q, hI.2.2.2.2.2.2.2.2.2.2.2.1, hI.2.2.2.2.2.2.2.2.2.2.2.2⟩⟩
  by_cases c2 : a3 ≤ 40 ∧ 0 ≤ a3
  · have hsd : s < 4 := by omega
    have hn3 : ∃ n, n ≤ 40 ∧ a3 = Int32.ofNat n := by
      obtain ⟨n, hn, rfl⟩ := i_of c2.2
      exact ⟨n, (i_ler (n := 40) hn (by decide)).mp c2.1, rfl⟩
    obtain ⟨M, m1, m2, m3⟩ := fill_2 (L := A 126) (s := s) l6 hsd A I
    have m3i : ∀ k, k < 40 → (0 : Int32) = g M (40 * s + k) := fun k hk => by rw [m3 (40 * s + k) (by omega), if_pos (by omega)]
    have m3o : ∀ j, j < 160 → ¬ (40 * s ≤ j ∧ j < 40 * s + 40) → g M j = g (A 126) j := fun j hj hn => by rw [m3 j hj, if_neg hn]
    have hcs : s = 0 ∨ s = 1 ∨ s = 2 ∨ s = 3 := by omega
    rcases hcs with rfl | rfl | rfl | rfl
    · obtain ⟨Y, y1, y2, y3⟩ := bec_77 (A := A) (I := I) v0.1 a2 a3
      have e1 : f_X11_sheet A I (Int32.ofNat 0) a2 a3 = some (1, Y, (A 80), (A 82), (A 84), a2, a3, (I 5056), (I 5057), (I 5184), (I 5185), (I 5312), (I 5313)) := by
        unfold f_X11_sheet
        rw [f1, Option.bind_some, if_neg (show ¬ (1 : Int32) = 0 by decide), w2, Option.bind_some, if_neg (show ¬ (1 : Int32) = 0 by decide), if_neg c1, if_pos c2.1, if_pos c2.2]
        show (f_X10_become_77 A I a2 a3).bind _ = _
        rw [y1]
        rfl
      have e2 : f_X12_sheet (up (up (up (up A 78 Y) 80 (A 80)) 82 (A 82)) 84 (A 84)) (up (up (up (up (up (up (up (up I 4928 a2) 4929 a3) 5056 (I 5056)) 5057 (I 5057)) 5184 (I 5184)) 5185 (I 5185)) 5312 (I 5312)) 5313 (I 5313)) (Int32.ofNat 0) a2 a3 = some (1, (A 124).set 0 a2, (A 125).set 0 a3, M) := by
        unfold f_X12_sheet
        have g4 : ∀ v, am_up (A 124) (Int32.ofNat 0) v = some ((A 124).set 0 v) := fun v => am_up_g (by omega) (by omega)
        have g5 : ∀ v, am_up (A 125) (Int32.ofNat 0) v = some ((A 125).set 0 v) := fun v => am_up_g (by omega) (by omega)
        rw [f2, Option.bind_some, if_neg (show ¬ (1 : Int32) = 0 by decide), in_X, w2, Option.bind_some, if_neg (show ¬ (1 : Int32) = 0 by decide), if_neg (fun z => c1 (hneg.mp z)), if_pos c2.1, if_neg (fun z => c1 (hneg.mp z)), if_pos c2.2]
        show (am_up (A 124) (Int32.ofNat 0) a2).bind _ = _
        rw [g4, Option.bind_some, if_pos (Int32.not_lt.mp (fun z => c1 (hneg.mp z))), Option.bind_some]
        show (am_up (A 125) (Int32.ofNat 0) a3).bind _ = _
        rw [g5, Option.bind_some]
        have m1 : wl (f_X12_sheet_l4 (up (up (up (up (up (up A 78 Y) 80 (A 80)) 82 (A 82)) 84 (A 84)) 124 ((A 124).set 0 a2)) 125 ((A 125).set 0 a3)) (up (up (up (up (up (up (up (up I 4928 a2) 4929 a3) 5056 (I 5056)) 5057 (I 5057)) 5184 (I 5184)) 5185 (I 5185)) 5312 (I 5312)) 5313 (I 5313)) (Int32.ofNat 0)) 100000 (0, (A 126)) = some M := m1
        show (wl (f_X12_sheet_l4 (up (up (up (up (up (up A 78 Y) 80 (A 80)) 82 (A 82)) 84 (A 84)) 124 ((A 124).set 0 a2)) 125 ((A 125).set 0 a3)) (up (up (up (up (up (up (up (up I 4928 a2) 4929 a3) 5056 (I 5056)) 5057 (I 5057)) 5184 (I 5184)) 5185 (I 5185)) 5312 (I 5312)) 5313 (I 5313)) (Int32.ofNat 0)) 100000 (0, (A 126))).bind _ = _
        rw [m1]
        rfl
      have c1 := t_X11_sheet (xs := xs) A I x (Int32.ofNat 0) a2 a3 e1
      have c2 := t_X12_sheet (xs := xs) (up (up (up (up A 78 Y) 80 (A 80)) 82 (A 82)) 84 (A 84)) (up (up (up (up (up (up (up (up I 4928 a2) 4929 a3) 5056 (I 5056)) 5057 (I 5057)) 5184 (I 5184)) 5185 (I 5185)) 5312 (I 5312)) 5313 (I 5313)) x (Int32.ofNat 0) a2 a3 e2
      have q : v_sht a2 a3 (I 5056) (I 5057) (I 5184) (I 5185) (I 5312) (I 5313) Y (A 80) (A 82) (A 84) ((A 124).set 0 a2) ((A 125).set 0 a3) M := ⟨⟨by rw [List.length_set]; exact l4, by rw [List.length_set]; exact l5, m2⟩, sh1_new y2 (g_set_eq (by omega)) (g_set_eq (by omega)) (fun k hk => by rw [y3 k hk]; exact m3i k hk) hq hn3, sh1_oth v1 (s := 0) (by decide) (by decide) (g_set_ne (by decide)) (g_set_ne (by decide)) m3o, sh1_oth v2 (s := 0) (by decide) (by decide) (g_set_ne (by decide)) (g_set_ne (by decide)) m3o, sh1_oth v3 (s := 0) (by decide) (by decide) (g_set_ne (by decide)) (g_set_ne (by decide)) m3o⟩
      exact am_op.mk hx c1 (by decide) c2 (by decide) ⟨P, N, T, R, E, C, X, Z, ⟨hI.1, hI.2.1, hI.2.2.1, hI.2.2.2.1, hI.2.2.2.2.1, hI.2.2.2.2.2.1, hI.2.2.2.2.2.2.1, hI.2.2.2.2.2.2.2.1, hI.2.2.2.2.2.2.2.2.1, hI.2.2.2.2.2.2.2.2.2.1, q, hI.2.2.2.2.2.2.2.2.2.2.2.1, hI.2.2.2.2.2.2.2.2.2.2.2.2⟩⟩
    · obtain ⟨Y, y1, y2, y3⟩ := bec_79 (A := A) (I := I) v1.1 a2 a3
      have e1 : f_X11_sheet A I (Int32.ofNat 1) a2 a3 = some (1, (A 78), Y, (A 82), (A 84), (I 4928), (I 4929), a2, a3, (I 5184), (I 5185), (I 5312), (I 5313)) := by
        unfold f_X11_sheet
        rw [f1, Option.bind_some, if_neg (show ¬ (1 : Int32) = 0 by decide), w2, Option.bind_some, if_neg (show ¬ (1 : Int32) = 0 by decide), if_neg c1, if_pos c2.1, if_pos c2.2]
        show (f_X10_become_79 A I a2 a3).bind _ = _
        rw [y1]
        rfl
      have e2 : f_X12_sheet (up (up (up (up A 78 (A 78)) 80 Y) 82 (A 82)) 84 (A 84)) (up (up (up (up (up (up (up (up I 4928 (I 4928)) 4929 (I 4929)) 5056 a2) 5057 a3) 5184 (I 5184)) 5185 (I 5185)) 5312 (I 5312)) 5313 (I 5313)) (Int32.ofNat 1) a2 a3 = some (1, (A 124).set 1 a2, (A 125).set 1 a3, M) := by
        unfold f_X12_sheet
        have g4 : ∀ v, am_up (A 124) (Int32.ofNat 1) v = some ((A 124).set 1 v) := fun v => am_up_g (by omega) (by omega)
        have g5 : ∀ v, am_up (A 125) (Int32.ofNat 1) v = some ((A 125).set 1 v) := fun v => am_up_g (by omega) (by omega)
        rw [f2, Option.bind_some, if_neg (show ¬ (1 : Int32) = 0 by decide), in_X, w2, Option.bind_some, if_neg (show ¬ (1 : Int32) = 0 by decide), if_neg (fun z => c1 (hneg.mp z)), if_pos c2.1, if_neg (fun z => c1 (hneg.mp z)), if_pos c2.2]
        show (am_up (A 124) (Int32.ofNat 1) a2).bind _ = _
        rw [g4, Option.bind_some, if_pos (Int32.not_lt.mp (fun z => c1 (hneg.mp z))), Option.bind_some]
        show (am_up (A 125) (Int32.ofNat 1) a3).bind _ = _
        rw [g5, Option.bind_some]
        have m1 : wl (f_X12_sheet_l4 (up (up (up (up (up (up A 78 (A 78)) 80 Y) 82 (A 82)) 84 (A 84)) 124 ((A 124).set 1 a2)) 125 ((A 125).set 1 a3)) (up (up (up (up (up (up (up (up I 4928 (I 4928)) 4929 (I 4929)) 5056 a2) 5057 a3) 5184 (I 5184)) 5185 (I 5185)) 5312 (I 5312)) 5313 (I 5313)) (Int32.ofNat 1)) 100000 (0, (A 126)) = some M := m1
        show (wl (f_X12_sheet_l4 (up (up (up (up (up (up A 78 (A 78)) 80 Y) 82 (A 82)) 84 (A 84)) 124 ((A 124).set 1 a2)) 125 ((A 125).set 1 a3)) (up (up (up (up (up (up (up (up I 4928 (I 4928)) 4929 (I 4929)) 5056 a2) 5057 a3) 5184 (I 5184)) 5185 (I 5185)) 5312 (I 5312)) 5313 (I 5313)) (Int32.ofNat 1)) 100000 (0, (A 126))).bind _ = _
        rw [m1]
        rfl
      have c1 := t_X11_sheet (xs := xs) A I x (Int32.ofNat 1) a2 a3 e1
      have c2 := t_X12_sheet (xs := xs) (up (up (up (up A 78 (A 78)) 80 Y) 82 (A 82)) 84 (A 84)) (up (up (up (up (up (up (up (up I 4928 (I 4928)) 4929 (I 4929)) 5056 a2) 5057 a3) 5184 (I 5184)) 5185 (I 5185)) 5312 (I 5312)) 5313 (I 5313)) x (Int32.ofNat 1) a2 a3 e2
      have q : v_sht (I 4928) (I 4929) a2 a3 (I 5184) (I 5185) (I 5312) (I 5313) (A 78) Y (A 82) (A 84) ((A 124).set 1 a2) ((A 125).set 1 a3) M := ⟨⟨by rw [List.length_set]; exact l4, by rw [List.length_set]; exact l5, m2⟩, sh1_oth v0 (s := 1) (by decide) (by decide) (g_set_ne (by decide)) (g_set_ne (by decide)) m3o, sh1_new y2 (g_set_eq (by omega)) (g_set_eq (by omega)) (fun k hk => by rw [y3 k hk]; exact m3i k hk) hq hn3, sh1_oth v2 (s := 1) (by decide) (by decide) (g_set_ne (by decide)) (g_set_ne (by decide)) m3o, sh1_oth v3 (s := 1) (by decide) (by decide) (g_set_ne (by decide)) (g_set_ne (by decide)) m3o⟩
      exact am_op.mk hx c1 (by decide) c2 (by decide) ⟨P, N, T, R, E, C, X, Z, ⟨hI.1, hI.2.1, hI.2.2.1, hI.2.2.2.1, hI.2.2.2.2.1, hI.2.2.2.2.2.1, hI.2.2.2.2.2.2.1, hI.2.2.2.2.2.2.2.1, hI.2.2.2.2.2.2.2.2.1, hI.2.2.2.2.2.2.2.2.2.1, q, hI.2.2.2.2.2.2.2.2.2.2.2.1, hI.2.2.2.2.2.2.2.2.2.2.2.2⟩⟩
    · obtain ⟨Y, y1, y2, y3⟩ := bec_81 (A := A) (I := I) v2.1 a2 a3
      have e1 : f_X11_sheet A I (Int32.ofNat 2) a2 a3 = some (1, (A 78), (A 80), Y, (A 84), (I 4928), (I 4929), (I 5056), (I 5057), a2, a3, (I 5312), (I 5313)) := by
        unfold f_X11_sheet
        rw [f1, Option.bind_some, if_neg (show ¬ (1 : Int32) = 0 by decide), w2, Option.bind_some, if_neg (show ¬ (1 : Int32) = 0 by decide), if_neg c1, if_pos c2.1, if_pos c2.2]
        show (f_X10_become_81 A I a2 a3).bind _ = _
        rw [y1]
        rfl
      have e2 : f_X12_sheet (up (up (up (up A 78 (A 78)) 80 (A 80)) 82 Y) 84 (A 84)) (up (up (up (up (up (up (up (up I 4928 (I 4928)) 4929 (I 4929)) 5056 (I 5056)) 5057 (I 5057)) 5184 a2) 5185 a3) 5312 (I 5312)) 5313 (I 5313)) (Int32.ofNat 2) a2 a3 = some (1, (A 124).set 2 a2, (A 125).set 2 a3, M) := by
        unfold f_X12_sheet
        have g4 : ∀ v, am_up (A 124) (Int32.ofNat 2) v = some ((A 124).set 2 v) := fun v => am_up_g (by omega) (by omega)
        have g5 : ∀ v, am_up (A 125) (Int32.ofNat 2) v = some ((A 125).set 2 v) := fun v => am_up_g (by omega) (by omega)
        rw [f2, Option.bind_some, if_neg (show ¬ (1 : Int32) = 0 by decide), in_X, w2, Option.bind_some, if_neg (show ¬ (1 : Int32) = 0 by decide), if_neg (fun z => c1 (hneg.mp z)), if_pos c2.1, if_neg (fun z => c1 (hneg.mp z)), if_pos c2.2]
        show (am_up (A 124) (Int32.ofNat 2) a2).bind _ = _
        rw [g4, Option.bind_some, if_pos (Int32.not_lt.mp (fun z => c1 (hneg.mp z))), Option.bind_some]
        show (am_up (A 125) (Int32.ofNat 2) a3).bind _ = _
        rw [g5, Option.bind_some]
        have m1 : wl (f_X12_sheet_l4 (up (up (up (up (up (up A 78 (A 78)) 80 (A 80)) 82 Y) 84 (A 84)) 124 ((A 124).set 2 a2)) 125 ((A 125).set 2 a3)) (up (up (up (up (up (up (up (up I 4928 (I 4928)) 4929 (I 4929)) 5056 (I 5056)) 5057 (I 5057)) 5184 a2) 5185 a3) 5312 (I 5312)) 5313 (I 5313)) (Int32.ofNat 2)) 100000 (0, (A 126)) = some M := m1
        show (wl (f_X12_sheet_l4 (up (up (up (up (up (up A 78 (A 78)) 80 (A 80)) 82 Y) 84 (A 84)) 124 ((A 124).set 2 a2)) 125 ((A 125).set 2 a3)) (up (up (up (up (up (up (up (up I 4928 (I 4928)) 4929 (I 4929)) 5056 (I 5056)) 5057 (I 5057)) 5184 a2) 5185 a3) 5312 (I 5312)) 5313 (I 5313)) (Int32.ofNat 2)) 100000 (0, (A 126))).bind _ = _
        rw [m1]
        rfl
      have c1 := t_X11_sheet (xs := xs) A I x (Int32.ofNat 2) a2 a3 e1
      have c2 := t_X12_sheet (xs := xs) (up (up (up (up A 78 (A 78)) 80 (A 80)) 82 Y) 84 (A 84)) (up (up (up (up (up (up (up (up I 4928 (I 4928)) 4929 (I 4929)) 5056 (I 5056)) 5057 (I 5057)) 5184 a2) 5185 a3) 5312 (I 5312)) 5313 (I 5313)) x (Int32.ofNat 2) a2 a3 e2
      have q : v_sht (I 4928) (I 4929) (I 5056) (I 5057) a2 a3 (I 5312) (I 5313) (A 78) (A 80) Y (A 84) ((A 124).set 2 a2) ((A 125).set 2 a3) M := ⟨⟨by rw [List.length_set]; exact l4, by rw [List.length_set]; exact l5, m2⟩, sh1_oth v0 (s := 2) (by decide) (by decide) (g_set_ne (by decide)) (g_set_ne (by decide)) m3o, sh1_oth v1 (s := 2) (by decide) (by decide) (g_set_ne (by decide)) (g_set_ne (by decide)) m3o, sh1_new y2 (g_set_eq (by omega)) (g_set_eq (by omega)) (fun k hk => by rw [y3 k hk]; exact m3i k hk) hq hn3, sh1_oth v3 (s := 2) (by decide) (by decide) (g_set_ne (by decide)) (g_set_ne (by decide)) m3o⟩
      exact am_op.mk hx c1 (by decide) c2 (by decide) ⟨P, N, T, R, E, C, X, Z, ⟨hI.1, hI.2.1, hI.2.2.1, hI.2.2.2.1, hI.2.2.2.2.1, hI.2.2.2.2.2.1, hI.2.2.2.2.2.2.1, hI.2.2.2.2.2.2.2.1, hI.2.2.2.2.2.2.2.2.1, hI.2.2.2.2.2.2.2.2.2.1, q, hI.2.2.2.2.2.2.2.2.2.2.2.1, hI.2.2.2.2.2.2.2.2.2.2.2.2⟩⟩
    · obtain ⟨Y, y1, y2, y3⟩ := bec_83 (A := A) (I := I) v3.1 a2 a3
      have e1 : f_X11_sheet A I (Int32.ofNat 3) a2 a3 = some (1, (A 78), (A 80), (A 82), Y, (I 4928), (I 4929), (I 5056), (I 5057), (I 5184), (I 5185), a2, a3) := by
        unfold f_X11_sheet
        rw [f1, Option.bind_some, if_neg (show ¬ (1 : Int32) = 0 by decide), w2, Option.bind_some, if_neg (show ¬ (1 : Int32) = 0 by decide), if_neg c1, if_pos c2.1, if_pos c2.2]
        show (f_X10_become_83 A I a2 a3).bind _ = _
        rw [y1]
        rfl
      have e2 : f_X12_sheet (up (up (up (up A 78 (A 78)) 80 (A 80)) 82 (A 82)) 84 Y) (up (up (up (up (up (up (up (up I 4928 (I 4928)) 4929 (I 4929)) 5056 (I 5056)) 5057 (I 5057)) 5184 (I 5184)) 5185 (I 5185)) 5312 a2) 5313 a3) (Int32.ofNat 3) a2 a3 = some (1, (A 124).set 3 a2, (A 125).set 3 a3, M) := by
        unfold f_X12_sheet
        have g4 : ∀ v, am_up (A 124) (Int32.ofNat 3) v = some ((A 124).set 3 v) := fun v => am_up_g (by omega) (by omega)
        have g5 : ∀ v, am_up (A 125) (Int32.ofNat 3) v = some ((A 125).set 3 v) := fun v => am_up_g (by omega) (by omega)
        rw [f2, Option.bind_some, if_neg (show ¬ (1 : Int32) = 0 by decide), in_X, w2, Option.bind_some, if_neg (show ¬ (1 : Int32) = 0 by decide), if_neg (fun z => c1 (hneg.mp z)), if_pos c2.1, if_neg (fun z => c1 (hneg.mp z)), if_pos c2.2]
        show (am_up (A 124) (Int32.ofNat 3) a2).bind _ = _
        rw [g4, Option.bind_some, if_pos (Int32.not_lt.mp (fun z => c1 (hneg.mp z))), Option.bind_some]
        show (am_up (A 125) (Int32.ofNat 3) a3).bind _ = _
        rw [g5, Option.bind_some]
        have m1 : wl (f_X12_sheet_l4 (up (up (up (up (up (up A 78 (A 78)) 80 (A 80)) 82 (A 82)) 84 Y) 124 ((A 124).set 3 a2)) 125 ((A 125).set 3 a3)) (up (up (up (up (up (up (up (up I 4928 (I 4928)) 4929 (I 4929)) 5056 (I 5056)) 5057 (I 5057)) 5184 (I 5184)) 5185 (I 5185)) 5312 a2) 5313 a3) (Int32.ofNat 3)) 100000 (0, (A 126)) = some M := m1
        show (wl (f_X12_sheet_l4 (up (up (up (up (up (up A 78 (A 78)) 80 (A 80)) 82 (A 82)) 84 Y) 124 ((A 124).set 3 a2)) 125 ((A 125).set 3 a3)) (up (up (up (up (up (up (up (up I 4928 (I 4928)) 4929 (I 4929)) 5056 (I 5056)) 5057 (I 5057)) 5184 (I 5184)) 5185 (I 5185)) 5312 a2) 5313 a3) (Int32.ofNat 3)) 100000 (0, (A 126))).bind _ = _
        rw [m1]
        rfl
      have c1 := t_X11_sheet (xs := xs) A I x (Int32.ofNat 3) a2 a3 e1
      have c2 := t_X12_sheet (xs := xs) (up (up (up (up A 78 (A 78)) 80 (A 80)) 82 (A 82)) 84 Y) (up (up (up (up (up (up (up (up I 4928 (I 4928)) 4929 (I 4929)) 5056 (I 5056)) 5057 (I 5057)) 5184 (I 5184)) 5185 (I 5185)) 5312 a2) 5313 a3) x (Int32.ofNat 3) a2 a3 e2
      have q : v_sht (I 4928) (I 4929) (I 5056) (I 5057) (I 5184) (I 5185) a2 a3 (A 78) (A 80) (A 82) Y ((A 124).set 3 a2) ((A 125).set 3 a3) M := ⟨⟨by rw [List.length_set]; exact l4, by rw [List.length_set]; exact l5, m2⟩, sh1_oth v0 (s := 3) (by decide) (by decide) (g_set_ne (by decide)) (g_set_ne (by decide)) m3o, sh1_oth v1 (s := 3) (by decide) (by decide) (g_set_ne (by decide)) (g_set_ne (by decide)) m3o, sh1_oth v2 (s := 3) (by decide) (by decide) (g_set_ne (by decide)) (g_set_ne (by decide)) m3o, sh1_new y2 (g_set_eq (by omega)) (g_set_eq (by omega)) (fun k hk => by rw [y3 k hk]; exact m3i k hk) hq hn3⟩
      exact am_op.mk hx c1 (by decide) c2 (by decide) ⟨P, N, T, R, E, C, X, Z, ⟨hI.1, hI.2.1, hI.2.2.1, hI.2.2.2.1, hI.2.2.2.2.1, hI.2.2.2.2.2.1, hI.2.2.2.2.2.2.1, hI.2.2.2.2.2.2.2.1, hI.2.2.2.2.2.2.2.2.1, hI.2.2.2.2.2.2.2.2.2.1, q, hI.2.2.2.2.2.2.2.2.2.2.2.1, hI.2.2.2.2.2.2.2.2.2.2.2.2⟩⟩
  · by_cases c3 : a3 ≤ 40
    · have c4 : ¬ 0 ≤ a3 := fun z => c2 ⟨c3, z⟩
      refine no (-14) ?_ ?_
      · unfold f_X11_sheet
        rw [f1, Option.bind_some, if_neg (show ¬ (1 : Int32) = 0 by decide), w2, Option.bind_some, if_neg (show ¬ (1 : Int32) = 0 by decide), if_neg c1, if_pos c3, if_neg c4]
      · unfold f_X12_sheet
        rw [f2, Option.bind_some, if_neg (show ¬ (1 : Int32) = 0 by decide), in_X, w2, Option.bind_some, if_neg (show ¬ (1 : Int32) = 0 by decide), if_neg (fun z => c1 (hneg.mp z)), if_pos c3, if_neg (fun z => c1 (hneg.mp z)), if_neg c4]
        rfl
    · refine no (-2) ?_ ?_
      · unfold f_X11_sheet
        rw [f1, Option.bind_some, if_neg (show ¬ (1 : Int32) = 0 by decide), w2, Option.bind_some, if_neg (show ¬ (1 : Int32) = 0 by decide), if_neg c1, if_neg c3]
      · unfold f_X12_sheet
        rw [f2, Option.bind_some, if_neg (show ¬ (1 : Int32) = 0 by decide), in_X, w2, Option.bind_some, if_neg (show ¬ (1 : Int32) = 0 by decide), if_neg (fun z => c1 (hneg.mp z)), if_neg c3]
        rfl
theorem op_cell (xs : List Int32) {n : Nat} {A : Nat → List Int32} {I : Nat → Int32} {x : am_X} (h : Iv0 n A I x) (a1 : Int32) (a2 : Int32) (a3 : Int32) : am_op xs n ix_X11_cell ix_X12_cell [.int a1, .int a2, .int a3] A I x := by
  obtain ⟨⟨P, N, T, R, E, C, X, Z, hI⟩, hx⟩ := h
  obtain ⟨⟨l4, l5, l6⟩, v0, v1, v2, v3⟩ := id hI.2.2.2.2.2.2.2.2.2.2.1
  have no : ∀ (z : Int32) (e1 : f_X11_cell A I a1 a2 a3 = some (z, (A 78), (A 80), (A 82), (A 84))) (e2 : f_X12_cell (up (up (up (up A 78 (A 78)) 80 (A 80)) 82 (A 82)) 84 (A 84)) I a1 a2 a3 = some (z, A 126)), am_op xs n ix_X11_cell ix_X12_cell [.int a1, .int a2, .int a3] A I x := fun z e1 e2 => by
    have c1 := t_X11_cell (xs := xs) A I x a1 a2 a3 e1
    have c2 := t_X12_cell (xs := xs) (up (up (up (up A 78 (A 78)) 80 (A 80)) 82 (A 82)) 84 (A 84)) I x a1 a2 a3 e2
    exact am_op.mk hx c1 (by decide) c2 (by decide) ⟨P, N, T, R, E, C, X, Z, ⟨hI.1, hI.2.1, hI.2.2.1, hI.2.2.2.1, hI.2.2.2.2.1, hI.2.2.2.2.2.1, hI.2.2.2.2.2.2.1, hI.2.2.2.2.2.2.2.1, hI.2.2.2.2.2.2.2.2.1, hI.2.2.2.2.2.2.2.2.2.1, hI.2.2.2.2.2.2.2.2.2.2.1, hI.2.2.2.2.2.2.2.2.2.2.2.1, hI.2.2.2.2.2.2.2.2.2.2.2.2⟩⟩
  rcases wi_l 3 (by decide) a1 with w | ⟨s, hs, rfl, w⟩
  · have w : f_X11_isWithin a1 0 3 = some 0 := w
    refine no (-2) ?_ ?_
    · unfold f_X11_cell f_X11_isSheet; rw [w]; rfl
    · unfold f_X12_cell f_X12_isSheet; rw [in_X, w]; rfl
  have w : f_X11_isWithin (Int32.ofNat s) 0 3 = some 1 := w
  have f1 : f_X11_isSheet (Int32.ofNat s) = some 1 := by unfold f_X11_isSheet; rw [w]; rfl
  have f2 : ∀ A I, f_X12_isSheet A I (Int32.ofNat s) = some 1 := fun A I => by unfold f_X12_isSheet; rw [in_X, w]; rfl
  have hcs : s = 0 ∨ s = 1 ∨ s = 2 ∨ s = 3 := by omega
  rcases hcs with rfl | rfl | rfl | rfl
  · obtain ⟨u1, u2, u3, u4, u5, m, hm, u6⟩ := id v0
    have g4 : am_at (A 124) (Int32.ofNat 0) = some (I 4928) := by rw [am_at_g (by omega) (by omega), u2]
    have g5 : am_at (A 125) (Int32.ofNat 0) = some (I 4929) := by rw [am_at_g (by omega) (by omega), u3]
    by_cases hms : I 4928 = -1
    · refine no (-11) ?_ ?_
      · unfold f_X11_cell
        rw [f1, Option.bind_some, if_neg (show ¬ (1 : Int32) = 0 by decide)]
        show (f_X10_isMissing_77 A I).bind _ = _
        unfold f_X10_isMissing_77
        rw [if_pos hms]; rfl
      · unfold f_X12_cell
        rw [f2, Option.bind_some, if_neg (show ¬ (1 : Int32) = 0 by decide)]
        show (am_at (A 124) (Int32.ofNat 0)).bind _ = _
        rw [g4, Option.bind_some, hms, if_neg (show ¬ (0 : Int32) ≤ -1 by decide)]; rfl
    have hpos : 0 ≤ I 4928 := by
      rcases u5 with u5 | ⟨q, hq, u5⟩
      · exact absurd u5 hms
      · rw [u5]; exact Int32.not_lt.mp (i_nn (by omega))
    rcases wi_p m (by omega) a2 with w2 | ⟨k, hk, rfl, w2⟩
    · refine no (-12) ?_ ?_
      · unfold f_X11_cell
        rw [f1, Option.bind_some, if_neg (show ¬ (1 : Int32) = 0 by decide)]
        show (f_X10_isMissing_77 A I).bind _ = _
        unfold f_X10_isMissing_77
        rw [if_neg hms, Option.bind_some, if_pos rfl, u6, w2]; rfl
      · unfold f_X12_cell
        rw [f2, Option.bind_some, if_neg (show ¬ (1 : Int32) = 0 by decide)]
        show (am_at (A 124) (Int32.ofNat 0)).bind _ = _
        rw [g4, Option.bind_some, if_pos hpos]
        show (am_at (A 125) (Int32.ofNat 0)).bind _ = _
        rw [g5, Option.bind_some, in_X, u6, w2]; rfl
    obtain ⟨j7, hj7⟩ : ∃ j7, (if I 4928 = 0 then some (Int8.toInt32 (Int32.toInt8 a3)) else (if I 4928 = 1 then some (Int16.toInt32 (Int32.toInt16 a3)) else some a3) : Option Int32) = some j7 := by
      split
      · exact ⟨_, rfl⟩
      · split
        · exact ⟨_, rfl⟩
        · exact ⟨_, rfl⟩
    have e1 : f_X11_cell A I (Int32.ofNat 0) (Int32.ofNat k) a3 = some (1, ((A 78).set k j7), (A 80), (A 82), (A 84)) := by
      unfold f_X11_cell
      rw [f1, Option.bind_some, if_neg (show ¬ (1 : Int32) = 0 by decide)]
      show (f_X10_isMissing_77 A I).bind _ = _
      unfold f_X10_isMissing_77 f_X10_put_77
      rw [if_neg hms, Option.bind_some, if_pos rfl, u6, w2, Option.bind_some, if_neg (show ¬ (1 : Int32) = 0 by decide), hj7, Option.bind_some, am_up_g (by omega) (by omega)]; rfl
    have e2 : f_X12_cell (up (up (up (up A 78 ((A 78).set k j7)) 80 (A 80)) 82 (A 82)) 84 (A 84)) I (Int32.ofNat 0) (Int32.ofNat k) a3 = some (1, (A 126).set (40 * 0 + k) j7) := by
      have hix : (40 : Int32) * Int32.ofNat 0 + Int32.ofNat k = Int32.ofNat (40 * 0 + k) := by rw [show (40 : Int32) * Int32.ofNat 0 = Int32.ofNat (40 * 0) from i_mull (m := 40), i_add]
      unfold f_X12_cell
      rw [f2, Option.bind_some, if_neg (show ¬ (1 : Int32) = 0 by decide)]
      show (am_at (A 124) (Int32.ofNat 0)).bind _ = _
      rw [g4, Option.bind_some, if_pos hpos]
      show (am_at (A 125) (Int32.ofNat 0)).bind _ = _
      rw [g5, Option.bind_some, in_X, u6, w2, Option.bind_some, if_neg (show ¬ (1 : Int32) = 0 by decide)]
      show (am_at (A 124) (Int32.ofNat 0)).bind (fun v5 => ((if v5 = 0 then some (Int8.toInt32 (Int32.toInt8 a3)) else (am_at (A 124) (Int32.ofNat 0)).bind fun v6 => (if v6 = 1 then some (Int16.toInt32 (Int32.toInt16 a3)) else some a3) : Option Int32)).bind fun j7 => (am_up (A 126) (40 * Int32.ofNat 0 + Int32.ofNat k) j7).bind fun y8 => some (1, y8)) = _
      rw [g4, Option.bind_some, Option.bind_some, hj7, Option.bind_some, hix, am_up_g (by omega) (by omega), Option.bind_some]
    have c1 := t_X11_cell (xs := xs) A I x (Int32.ofNat 0) (Int32.ofNat k) a3 e1
    have c2 := t_X12_cell (xs := xs) (up (up (up (up A 78 ((A 78).set k j7)) 80 (A 80)) 82 (A 82)) 84 (A 84)) I x (Int32.ofNat 0) (Int32.ofNat k) a3 e2
    have q : v_sht (I 4928) (I 4929) (I 5056) (I 5057) (I 5184) (I 5185) (I 5312) (I 5313) ((A 78).set k j7) (A 80) (A 82) (A 84) (A 124) (A 125) ((A 126).set (40 * 0 + k) j7) := ⟨⟨l4, l5, by rw [List.length_set]; exact l6⟩, sh1_new (by rw [List.length_set]; exact u1) u2.symm u3.symm (fun d hd => sh1_cel (by omega) (by omega) (u4 d hd)) u5 ⟨m, hm, u6⟩, sh1_oth v1 (s := 0) (by decide) (by decide) rfl rfl (fun j hj hn => by rw [g_set (by omega), if_neg (by omega)]), sh1_oth v2 (s := 0) (by decide) (by decide) rfl rfl (fun j hj hn => by rw [g_set (by omega), if_neg (by omega)]), sh1_oth v3 (s := 0) (by decide) (by decide) rfl rfl (fun j hj hn => by rw [g_set (by omega), if_neg (by omega)])⟩
    exact am_op.mk hx c1 (by decide) c2 (by decide) ⟨P, N, T, R, E, C, X, Z, ⟨hI.1, hI.2.1, hI.2.2.1, hI.2.2.2.1, hI.2.2.2.2.1, hI.2.2.2.2.2.1, hI.2.2.2.2.2.2.1, hI.2.2.2.2.2.2.2.1, hI.2.2.2.2.2.2.2.2.1, hI.2.2.2.2.2.2.2.2.2.1, q, hI.2.2.2.2.2.2.2.2.2.2.2.1, hI.2.2.2.2.2.2.2.2.2.2.2.2⟩⟩
  · obtain ⟨u1, u2, u3, u4, u5, m, hm, u6⟩ := id v1
    have g4 : am_at (A 124) (Int32.ofNat 1) = some (I 5056) := by rw [am_at_g (by omega) (by omega), u2]
    have g5 : am_at (A 125) (Int32.ofNat 1) = some (I 5057) := by rw [am_at_g (by omega) (by omega), u3]
    by_cases hms : I 5056 = -1
    · refine no (-11) ?_ ?_
      · unfold f_X11_cell
        rw [f1, Option.bind_some, if_neg (show ¬ (1 : Int32) = 0 by decide)]
        show (f_X10_isMissing_79 A I).bind _ = _
        unfold f_X10_isMissing_79
        rw [if_pos hms]; rfl
      · unfold f_X12_cell
        rw [f2, Option.bind_some, if_neg (show ¬ (1 : Int32) = 0 by decide)]
        show (am_at (A 124) (Int32.ofNat 1)).bind _ = _
        rw [g4, Option.bind_some, hms, if_neg (show ¬ (0 : Int32) ≤ -1 by decide)]; rfl
    have hpos : 0 ≤ I 5056 := by
      rcases u5 with u5 | ⟨q, hq, u5⟩
      · exact absurd u5 hms
      · rw [u5]; exact Int32.not_lt.mp (i_nn (by omega))
    rcases wi_p m (by omega) a2 with w2 | ⟨k, hk, rfl, w2⟩
    · refine no (-12) ?_ ?_
      · unfold f_X11_cell
        rw [f1, Option.bind_some, if_neg (show ¬ (1 : Int32) = 0 by decide)]
        show (f_X10_isMissing_79 A I).bind _ = _
        unfold f_X10_isMissing_79
        rw [if_neg hms, Option.bind_some, if_pos rfl, u6, w2]; rfl
      · unfold f_X12_cell
        rw [f2, Option.bind_some, if_neg (show ¬ (1 : Int32) = 0 by decide)]
        show (am_at (A 124) (Int32.ofNat 1)).bind _ = _
        rw [g4, Option.bind_some, if_pos hpos]
        show (am_at (A 125) (Int32.ofNat 1)).bind _ = _
        rw [g5, Option.bind_some, in_X, u6, w2]; rfl
    obtain ⟨j7, hj7⟩ : ∃ j7, (if I 5056 = 0 then some (Int8.toInt32 (Int32.toInt8 a3)) else (if I 5056 = 1 then some (Int16.toInt32 (Int32.toInt16 a3)) else some a3) : Option Int32) = some j7 := by
      split
      · exact ⟨_, rfl⟩
      · split
        · exact ⟨_, rfl⟩
        · exact ⟨_, rfl⟩
    have e1 : f_X11_cell A I (Int32.ofNat 1) (Int32.ofNat k) a3 = some (1, (A 78), ((A 80).set k j7), (A 82), (A 84)) := by
      unfold f_X11_cell
      rw [f1, Option.bind_some, if_neg (show ¬ (1 : Int32) = 0 by decide)]
      show (f_X10_isMissing_79 A I).bind _ = _
      unfold f_X10_isMissing_79 f_X10_put_79
      rw [if_neg hms, Option.bind_some, if_pos rfl, u6, w2, Option.bind_some, if_neg (show ¬ (1 : Int32) = 0 by decide), hj7, Option.bind_some, am_up_g (by omega) (by omega)]; rfl
    have e2 : f_X12_cell (up (up (up (up A 78 (A 78)) 80 ((A 80).set k j7)) 82 (A 82)) 84 (A 84)) I (Int32.ofNat 1) (Int32.ofNat k) a3 = some (1, (A 126).set (40 * 1 + k) j7) := by
      have hix : (40 : Int32) * Int32.ofNat 1 + Int32.ofNat k = Int32.ofNat (40 * 1 + k) := by rw [show (40 : Int32) * Int32.ofNat 1 = Int32.ofNat (40 * 1) from i_mull (m := 40), i_add]
      unfold f_X12_cell
      rw [f2, Option.bind_some, if_neg (show ¬ (1 : Int32) = 0 by decide)]
      show (am_at (A 124) (Int32.ofNat 1)).bind _ = _
      rw [g4, Option.bind_some, if_pos hpos]
      show (am_at (A 125) (Int32.ofNat 1)).bind _ = _
      rw [g5, Option.bind_some, in_X, u6, w2, Option.bind_some, if_neg (show ¬ (1 : Int32) = 0 by decide)]
      show (am_at (A 124) (Int32.ofNat 1)).bind (fun v5 => ((if v5 = 0 then some (Int8.toInt32 (Int32.toInt8 a3)) else (am_at (A 124) (Int32.ofNat 1)).bind fun v6 => (if v6 = 1 then some (Int16.toInt32 (Int32.toInt16 a3)) else some a3) : Option Int32)).bind fun j7 => (am_up (A 126) (40 * Int32.ofNat 1 + Int32.ofNat k) j7).bind fun y8 => some (1, y8)) = _
      rw [g4, Option.bind_some, Option.bind_some, hj7, Option.bind_some, hix, am_up_g (by omega) (by omega), Option.bind_some]
    have c1 := t_X11_cell (xs := xs) A I x (Int32.ofNat 1) (Int32.ofNat k) a3 e1
    have c2 := t_X12_cell (xs := xs) (up (up (up (up A 78 (A 78)) 80 ((A 80).set k j7)) 82 (A 82)) 84 (A 84)) I x (Int32.ofNat 1) (Int32.ofNat k) a3 e2
    have q : v_sht (I 4928) (I 4929) (I 5056) (I 5057) (I 5184) (I 5185) (I 5312) (I 5313) (A 78) ((A 80).set k j7) (A 82) (A 84) (A 124) (A 125) ((A 126).set (40 * 1 + k) j7) := ⟨⟨l4, l5, by rw [List.length_set]; exact l6⟩, sh1_oth v0 (s := 1) (by decide) (by decide) rfl rfl (fun j hj hn => by rw [g_set (by omega), if_neg (by omega)]), sh1_new (by rw [List.length_set]; exact u1) u2.symm u3.symm (fun d hd => sh1_cel (by omega) (by omega) (u4 d hd)) u5 ⟨m, hm, u6⟩, sh1_oth v2 (s := 1) (by decide) (by decide) rfl rfl (fun j hj hn => by rw [g_set (by omega), if_neg (by omega)]), sh1_oth v3 (s := 1) (by decide) (by decide) rfl rfl (fun j hj hn => by rw [g_set (by omega), if_neg (by omega)])⟩
    exact am_op.mk hx c1 (by decide) c2 (by decide) ⟨P, N, T, R, E, C, X, Z, ⟨hI.1, hI.2.1, hI.2.2.1, hI.2.2.2.1, hI.2.2.2.2.1, hI.2.2.2.2.2.1, hI.2.2.2.2.2.2.1, hI.2.2.2.2.2.2.2.1, hI.2.2.2.2.2.2.2.2.1, hI.2.2.2.2.2.2.2.2.2.1, q, hI.2.2.2.2.2.2.2.2.2.2.2.1, hI.2.2.2.2.2.2.2.2.2.2.2.2⟩⟩
  · obtain ⟨u1, u2, u3, u4, u5, m, hm, u6⟩ := id v2
    have g4 : am_at (A 124) (Int32.ofNat 2) = some (I 5184) := by rw [am_at_g (by omega) (by omega), u2]
    have g5 : am_at (A 125) (Int32.ofNat 2) = some (I 5185) := by rw [am_at_g (by omega) (by omega), u3]
    by_cases hms : I 5184 = -1
    · refine no (-11) ?_ ?_
      · unfold f_X11_cell
        rw [f1, Option.bind_some, if_neg (show ¬ (1 : Int32) = 0 by decide)]
        show (f_X10_isMissing_81 A I).bind _ = _
        unfold f_X10_isMissing_81
        rw [if_pos hms]; rfl
      · unfold f_X12_cell
        rw [f2, Option.bind_some, if_neg (show ¬ (1 : Int32) = 0 by decide)]
        show (am_at (A 124) (Int32.ofNat 2)).bind _ = _
        rw [g4, Option.bind_some, hms, if_neg (show ¬ (0 : Int32) ≤ -1 by decide)]; rfl
    have hpos : 0 ≤ I 5184 := by
      rcases u5 with u5 | ⟨q, hq, u5⟩
      · exact absurd u5 hms
      · rw [u5]; exact Int32.not_lt.mp (i_nn (by omega))
    rcases wi_p m (by omega) a2 with w2 | ⟨k, hk, rfl, w2⟩
    · refine no (-12) ?_ ?_
      · unfold f_X11_cell
        rw [f1, Option.bind_some, if_neg (show ¬ (1 : Int32) = 0 by decide)]
        show (f_X10_isMissing_81 A I).bind _ = _
        unfold f_X10_isMissing_81
        rw [if_neg hms, Option.bind_some, if_pos rfl, u6, w2]; rfl
      · unfold f_X12_cell
        rw [f2, Option.bind_some, if_neg (show ¬ (1 : Int32) = 0 by decide)]
        show (am_at (A 124) (Int32.ofNat 2)).bind _ = _
        rw [g4, Option.bind_some, if_pos hpos]
        show (am_at (A 125) (Int32.ofNat 2)).bind _ = _
        rw [g5, Option.bind_some, in_X, u6, w2]; rfl
    obtain ⟨j7, hj7⟩ : ∃ j7, (if I 5184 = 0 then some (Int8.toInt32 (Int32.toInt8 a3)) else (if I 5184 = 1 then some (Int16.toInt32 (Int32.toInt16 a3)) else some a3) : Option Int32) = some j7 := by
      split
      · exact ⟨_, rfl⟩
      · split
        · exact ⟨_, rfl⟩
        · exact ⟨_, rfl⟩
    have e1 : f_X11_cell A I (Int32.ofNat 2) (Int32.ofNat k) a3 = some (1, (A 78), (A 80), ((A 82).set k j7), (A 84)) := by
      unfold f_X11_cell
      rw [f1, Option.bind_some, if_neg (show ¬ (1 : Int32) = 0 by decide)]
      show (f_X10_isMissing_81 A I).bind _ = _
      unfold f_X10_isMissing_81 f_X10_put_81
      rw [if_neg hms, Option.bind_some, if_pos rfl, u6, w2, Option.bind_some, if_neg (show ¬ (1 : Int32) = 0 by decide), hj7, Option.bind_some, am_up_g (by omega) (by omega)]; rfl
    have e2 : f_X12_cell (up (up (up (up A 78 (A 78)) 80 (A 80)) 82 ((A 82).set k j7)) 84 (A 84)) I (Int32.ofNat 2) (Int32.ofNat k) a3 = some (1, (A 126).set (40 * 2 + k) j7) := by
      have hix : (40 : Int32) * Int32.ofNat 2 + Int32.ofNat k = Int32.ofNat (40 * 2 + k) := by rw [show (40 : Int32) * Int32.ofNat 2 = Int32.ofNat (40 * 2) from i_mull (m := 40), i_add]
      unfold f_X12_cell
      rw [f2, Option.bind_some, if_neg (show ¬ (1 : Int32) = 0 by decide)]
      show (am_at (A 124) (Int32.ofNat 2)).bind _ = _
      rw [g4, Option.bind_some, if_pos hpos]
      show (am_at (A 125) (Int32.ofNat 2)).bind _ = _
      rw [g5, Option.bind_some, in_X, u6, w2, Option.bind_some, if_neg (show ¬ (1 : Int32) = 0 by decide)]
      show (am_at (A 124) (Int32.ofNat 2)).bind (fun v5 => ((if v5 = 0 then some (Int8.toInt32 (Int32.toInt8 a3)) else (am_at (A 124) (Int32.ofNat 2)).bind fun v6 => (if v6 = 1 then some (Int16.toInt32 (Int32.toInt16 a3)) else some a3) : Option Int32)).bind fun j7 => (am_up (A 126) (40 * Int32.ofNat 2 + Int32.ofNat k) j7).bind fun y8 => some (1, y8)) = _
      rw [g4, Option.bind_some, Option.bind_some, hj7, Option.bind_some, hix, am_up_g (by omega) (by omega), Option.bind_some]
    have c1 := t_X11_cell (xs := xs) A I x (Int32.ofNat 2) (Int32.ofNat k) a3 e1
    have c2 := t_X12_cell (xs := xs) (up (up (up (up A 78 (A 78)) 80 (A 80)) 82 ((A 82).set k j7)) 84 (A 84)) I x (Int32.ofNat 2) (Int32.ofNat k) a3 e2
    have q : v_sht (I 4928) (I 4929) (I 5056) (I 5057) (I 5184) (I 5185) (I 5312) (I 5313) (A 78) (A 80) ((A 82).set k j7) (A 84) (A 124) (A 125) ((A 126).set (40 * 2 + k) j7) := ⟨⟨l4, l5, by rw [List.length_set]; exact l6⟩, sh1_oth v0 (s := 2) (by decide) (by decide) rfl rfl (fun j hj hn => by rw [g_set (by omega), if_neg (by omega)]), sh1_oth v1 (s := 2) (by decide) (by decide) rfl rfl (fun j hj hn => by rw [g_set (by omega), if_neg (by omega)]), sh1_new (by rw [List.length_set]; exact u1) u2.symm u3.symm (fun d hd => sh1_cel (by omega) (by omega) (u4 d hd)) u5 ⟨m, hm, u6⟩, sh1_oth v3 (s := 2) (by decide) (by decide) rfl rfl (fun j hj hn => by rw [g_set (by omega), if_neg (by omega)])⟩
    exact am_op.mk hx c1 (by decide) c2 (by decide) ⟨P, N, T, R, E, C, X, Z, ⟨hI.1, hI.2.1, hI.2.2.1, hI.2.2.2.1, hI.2.2.2.2.1, hI.2.2.2.2.2.1, hI.2.2.2.2.2.2.1, hI.2.2.2.2.2.2.2.1, hI.2.2.2.2.2.2.2.2.1, hI.2.2.2.2.2.2.2.2.2.1, q, hI.2.2.2.2.2.2.2.2.2.2.2.1, hI.2.2.2.2.2.2.2.2.2.2.2.2⟩⟩
  · obtain ⟨u1, u2, u3, u4, u5, m, hm, u6⟩ := id v3
    have g4 : am_at (A 124) (Int32.ofNat 3) = some (I 5312) := by rw [am_at_g (by omega) (by omega), u2]
    have g5 : am_at (A 125) (Int32.ofNat 3) = some (I 5313) := by rw [am_at_g (by omega) (by omega), u3]
    by_cases hms : I 5312 = -1
    · refine no (-11) ?_ ?_
      · unfold f_X11_cell
        rw [f1, Option.bind_some, if_neg (show ¬ (1 : Int32) = 0 by decide)]
        show (f_X10_isMissing_83 A I).bind _ = _
        unfold f_X10_isMissing_83
        rw [if_pos hms]; rfl
      · unfold f_X12_cell
        rw [f2, Option.bind_some, if_neg (show ¬ (1 : Int32) = 0 by decide)]
        show (am_at (A 124) (Int32.ofNat 3)).bind _ = _
        rw [g4, Option.bind_some, hms, if_neg (show ¬ (0 : Int32) ≤ -1 by decide)]; rfl
    have hpos : 0 ≤ I 5312 := by
      rcases u5 with u5 | ⟨q, hq, u5⟩
      · exact absurd u5 hms
      · rw [u5]; exact Int32.not_lt.mp (i_nn (by omega))
    rcases wi_p m (by omega) a2 with w2 | ⟨k, hk, rfl, w2⟩
    · refine no (-12) ?_ ?_
      · unfold f_X11_cell
        rw [f1, Option.bind_some, if_neg (show ¬ (1 : Int32) = 0 by decide)]
        show (f_X10_isMissing_83 A I).bind _ = _
        unfold f_X10_isMissing_83
        rw [if_neg hms, Option.bind_some, if_pos rfl, u6, w2]; rfl
      · unfold f_X12_cell
        rw [f2, Option.bind_some, if_neg (show ¬ (1 : Int32) = 0 by decide)]
        show (am_at (A 124) (Int32.ofNat 3)).bind _ = _
        rw [g4, Option.bind_some, if_pos hpos]
        show (am_at (A 125) (Int32.ofNat 3)).bind _ = _
        rw [g5, Option.bind_some, in_X, u6, w2]; rfl
    obtain ⟨j7, hj7⟩ : ∃ j7, (if I 5312 = 0 then some (Int8.toInt32 (Int32.toInt8 a3)) else (if I 5312 = 1 then some (Int16.toInt32 (Int32.toInt16 a3)) else some a3) : Option Int32) = some j7 := by
      split
      · exact ⟨_, rfl⟩
      · split
        · exact ⟨_, rfl⟩
        · exact ⟨_, rfl⟩
    have e1 : f_X11_cell A I (Int32.ofNat 3) (Int32.ofNat k) a3 = some (1, (A 78), (A 80), (A 82), ((A 84).set k j7)) := by
      unfold f_X11_cell
      rw [f1, Option.bind_some, if_neg (show ¬ (1 : Int32) = 0 by decide)]
      show (f_X10_isMissing_83 A I).bind _ = _
      unfold f_X10_isMissing_83 f_X10_put_83
      rw [if_neg hms, Option.bind_some, if_pos rfl, u6, w2, Option.bind_some, if_neg (show ¬ (1 : Int32) = 0 by decide), hj7, Option.bind_some, am_up_g (by omega) (by omega)]; rfl
    have e2 : f_X12_cell (up (up (up (up A 78 (A 78)) 80 (A 80)) 82 (A 82)) 84 ((A 84).set k j7)) I (Int32.ofNat 3) (Int32.ofNat k) a3 = some (1, (A 126).set (40 * 3 + k) j7) := by
      have hix : (40 : Int32) * Int32.ofNat 3 + Int32.ofNat k = Int32.ofNat (40 * 3 + k) := by rw [show (40 : Int32) * Int32.ofNat 3 = Int32.ofNat (40 * 3) from i_mull (m := 40), i_add]
      unfold f_X12_cell
      rw [f2, Option.bind_some, if_neg (show ¬ (1 : Int32) = 0 by decide)]
      show (am_at (A 124) (Int32.ofNat 3)).bind _ = _
      rw [g4, Option.bind_some, if_pos hpos]
      show (am_at (A 125) (Int32.ofNat 3)).bind _ = _
      rw [g5, Option.bind_some, in_X, u6, w2, Option.bind_some, if_neg (show ¬ (1 : Int32) = 0 by decide)]
      show (am_at (A 124) (Int32.ofNat 3)).bind (fun v5 => ((if v5 = 0 then some (Int8.toInt32 (Int32.toInt8 a3)) else (am_at (A 124) (Int32.ofNat 3)).bind fun v6 => (if v6 = 1 then some (Int16.toInt32 (Int32.toInt16 a3)) else some a3) : Option Int32)).bind fun j7 => (am_up (A 126) (40 * Int32.ofNat 3 + Int32.ofNat k) j7).bind fun y8 => some (1, y8)) = _
      rw [g4, Option.bind_some, Option.bind_some, hj7, Option.bind_some, hix, am_up_g (by omega) (by omega), Option.bind_some]
    have c1 := t_X11_cell (xs := xs) A I x (Int32.ofNat 3) (Int32.ofNat k) a3 e1
    have c2 := t_X12_cell (xs := xs) (up (up (up (up A 78 (A 78)) 80 (A 80)) 82 (A 82)) 84 ((A 84).set k j7)) I x (Int32.ofNat 3) (Int32.ofNat k) a3 e2
    have q : v_sht (I 4928) (I 4929) (I 5056) (I 5057) (I 5184) (I 5185) (I 5312) (I 5313) (A 78) (A 80) (A 82) ((A 84).set k j7) (A 124) (A 125) ((A 126).set (40 * 3 + k) j7) := ⟨⟨l4, l5, by rw [List.length_set]; exact l6⟩, sh1_oth v0 (s := 3) (by decide) (by decide) rfl rfl (fun j hj hn => by rw [g_set (by omega), if_neg (by omega)]), sh1_oth v1 (s := 3) (by decide) (by decide) rfl rfl (fun j hj hn => by rw [g_set (by omega), if_neg (by omega)]), sh1_oth v2 (s := 3) (by decide) (by decide) rfl rfl (fun j hj hn => by rw [g_set (by omega), if_neg (by omega)]), sh1_new (by rw [List.length_set]; exact u1) u2.symm u3.symm (fun d hd => sh1_cel (by omega) (by omega) (u4 d hd)) u5 ⟨m, hm, u6⟩⟩
    exact am_op.mk hx c1 (by decide) c2 (by decide) ⟨P, N, T, R, E, C, X, Z, ⟨hI.1, hI.2.1, hI.2.2.1, hI.2.2.2.1, hI.2.2.2.2.1, hI.2.2.2.2.2.1, hI.2.2.2.2.2.2.1, hI.2.2.2.2.2.2.2.1, hI.2.2.2.2.2.2.2.2.1, hI.2.2.2.2.2.2.2.2.2.1, q, hI.2.2.2.2.2.2.2.2.2.2.2.1, hI.2.2.2.2.2.2.2.2.2.2.2.2⟩⟩
