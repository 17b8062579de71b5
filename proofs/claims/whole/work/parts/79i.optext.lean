/-! ===== the call text ===== -/
theorem fcode_inv {A : Nat → List Int32} {x : am_X} {w : Nat} {ys : List Int32} (h : am_fcode A x w = some ys) : (w = 43 ∧ ys = A 44) ∨ (w = 45 ∧ ys = A 46) ∨ (128 ≤ w ∧ ∃ c, x.2.2.2.2[w - 128]? = some (.inr (.inr (5, [.ref c]))) ∧ 128 ≤ c ∧ c < am_RO ∧ x.2.2.2.2[c - 128]? = some (.inl (0, ys))) := by
  unfold am_fcode at h
  split at h
  · next e =>
    cases h
    exact Or.inl ⟨e, rfl⟩
  · split at h
    · next e =>
      cases h
      exact Or.inr (Or.inl ⟨e, rfl⟩)
    · split at h
      · cases h
      · next hw =>
        split at h
        · next c hc =>
          by_cases h1 : c < 128
          · rw [if_pos h1] at h; cases h
          · have h3 : 128 ≤ c := Nat.le_of_not_lt h1
            rw [if_neg h1] at h
            by_cases h2 : am_RO ≤ c
            · rw [if_pos h2] at h; cases h
            · have h4 : c < am_RO := Nat.lt_of_not_le h2
              rw [if_neg h2] at h
              split at h
              · next ys2 hy =>
                cases h
                exact Or.inr (Or.inr ⟨by omega, c, hc, h3, h4, hy⟩)
              · cases h
        · cases h
theorem fcode_mk {A : Nat → List Int32} {x : am_X} {w c : Nat} {ys : List Int32} (hw : 128 ≤ w) (h1 : x.2.2.2.2[w - 128]? = some (.inr (.inr (5, [.ref c])))) (h2 : 128 ≤ c) (h3 : c < am_RO) (h4 : x.2.2.2.2[c - 128]? = some (.inl (0, ys))) : am_fcode A x w = some ys := by
  unfold am_fcode
  rw [if_neg (by omega), if_neg (by omega), if_neg (by omega), h1]
  show (if c < 128 then none else if am_RO ≤ c then none else (match x.2.2.2.2[c - 128]? with
    | some (.inl (0, ys)) => some ys
    | _ => none)) = some ys
  rw [if_neg (Nat.not_lt.mpr h2), if_neg (Nat.not_le.mpr h3), h4]
  rfl
theorem get_app {s u : am_H} {i : Nat} {c : am_C} (h : s[i]? = some c) : (s ++ u)[i]? = some c := by
  obtain ⟨hi, -⟩ := List.getElem?_eq_some_iff.mp h
  rw [List.getElem?_append_left hi]
  exact h
theorem fm_old {a44 a46 : List Int32} {x x' : am_X} {l l' : List (Option Nat)} {t p : Nat} {M L M' L' : List Int32} (h : v_fm a44 a46 x l t p M L) (hl : l'[t]? = l[t]?) {u : am_H} (hu : x'.2.2.2.2 = x.2.2.2.2 ++ u) (hM : g M' p = g M p) (hL : ∀ i, i < 160 * p + 160 → g L' i = g L i) : v_fm a44 a46 x' l' t p M' L' := by
  obtain ⟨w, ms, f1, f2, f3, f4, f5, f6⟩ := h
  refine ⟨w, ms, by rw [hl]; exact f1, ?_, f3, by rw [hM]; exact f4, fun k hk => by rw [hL _ (by omega)]; exact f5 k hk, f6⟩
  rcases fcode_inv f2 with ⟨rfl, e⟩ | ⟨rfl, e⟩ | ⟨h1, c, h2, h3, h4, h5⟩
  · rw [e]; rfl
  · rw [e]; rfl
  · exact fcode_mk h1 (by rw [hu]; exact get_app h2) h3 h4 (by rw [hu]; exact get_app h5)
theorem fm_new {a44 a46 : List Int32} {x' : am_X} {l' : List (Option Nat)} {t p : Nat} {M' L' R : List Int32} {s u : am_H} (hl : l'[t]? = some (some (128 + s.length))) (hx : x'.2.2.2.2 = s ++ [.inr (.inr (5, [.ref (128 + s.length + 1)])), .inl (0, R.map cm)] ++ u) (hs : s.length < 100000) (hM : g M' p = Int32.ofNat R.length) (hL : ∀ i, i < R.length → g L' (160 * p + i) = g R i) (hR : R.length ≤ 160) (hr : rp R 0 = some 1) : v_fm a44 a46 x' l' t p M' L' := by
  refine ⟨128 + s.length, R, hl, ?_, hR, hM, hL, hr⟩
  refine fcode_mk (c := 128 + s.length + 1) (by omega) ?_ (by omega) (Nat.lt_trans (show 128 + s.length + 1 < 200000 by omega) (by decide)) ?_
  · rw [hx, List.append_assoc, Nat.add_sub_cancel_left, List.getElem?_append_right (Nat.le_refl _), Nat.sub_self]
    rfl
  · rw [hx, List.append_assoc, show 128 + s.length + 1 - 128 = s.length + 1 from by omega, List.getElem?_append_right (by omega), Nat.add_sub_cancel_left]
    rfl
theorem fo_len (o : Option (List Int32)) (s : am_H) : (fo_t o s).length ≤ s.length + 2 := by
  cases o with
  | none => exact Nat.le_add_right _ _
  | some ys => unfold fo_t; rw [List.length_append]; exact Nat.le_refl _
theorem fo_sl {o : Option (List Int32)} (h : fo_ok o) (s : am_H) : am_sl0 (fo_t o s) ≤ am_sl0 s + 161 := by
  cases o with
  | none => exact Nat.le_add_right _ _
  | some ys =>
    unfold fo_t
    rw [am_sl0_app]
    have := h ys rfl
    show am_sl0 s + (1 + (ys.length + 0)) ≤ _
    omega
theorem fo_app (o : Option (List Int32)) (s : am_H) : ∃ u, fo_t o s = s ++ u := by
  cases o with
  | none => exact ⟨[], (List.append_nil _).symm⟩
  | some ys => exact ⟨_, rfl⟩
theorem scr_t {A : Nat → List Int32} (h : v_scr (v_scs A)) {p q r c Y D : List Int32} (h1 : p.length = 161) (h2 : q.length = 161) (h3 : r.length = 161) (h4 : c.length = 160) (h5 : Y.length = 161) (h6 : D.length = 7) {M L : List Int32} : v_scr (v_scs (up (up (up (up (up (up (up (up A 54 p) 55 q) 56 r) 57 c) 103 M) 104 L) 105 Y) 106 D)) := by
  obtain ⟨k1, k2, k3, k4, k5, k6, k7, k8, k9, k10, k11, k12, k13, k14, k15, k16, k17⟩ := scr_get h
  exact scr_mk ⟨k1, k2, h1, h2, h3, h4, k7, k8, k9, h5, h6, k12, k13, k14, k15, k16, k17⟩
set_option maxRecDepth 10000 in
theorem op_text (xs : List Int32) {n : Nat} {A : Nat → List Int32} {I : Nat → Int32} {x : am_X} (hn : n ≤ 512) (h : Iv0 n A I x) : am_op xs n ix_X11_text ix_X12_text [] A I x := by
  obtain ⟨⟨P, N, T, R, E, C, X, Z, hI⟩, hx⟩ := h
  have hI2 := hI
  obtain ⟨g1, g2, g3, g4, g5, g6, g7, g8, g9, g10, g11, g12, g13⟩ := hI2
  have g5' := g5
  have g12' := g12
  obtain ⟨y1, y2, y3, y4, y5⟩ := g5'
  obtain ⟨⟨x1, x2, x3, x4, x5, x6, x7, x8⟩, x9, x10, x11, x12, x13, x14⟩ := g12'
  obtain ⟨k1, k2, k3, k4, k5, k6, k7, k8, k9, k10, k11, k12, k13, k14, k15, k16, k17⟩ := scr_get g13
  by_cases hX : X = 6
  · have hX1 : (6 : Int32) ≤ I 2373 := by rw [x11, hX]; decide
    have hX2 : I 5460 = 6 := by rw [x12, hX]; rfl
    have e1 : f_X11_text A I x = some (-4, A, I, x) := by
      unfold f_X11_text
      rw [if_pos hX1]
    have e2 : f_X12_text A I = some (-4, A 103, A 104, A 105, A 106, I 5459, I 5460, I 5464, I 5465, I 5466, I 5467, I 5470, I 5471, I 5472, I 5473) := by
      unfold f_X12_text
      rw [if_pos hX2]
    exact am_op.mk hx (t_X11_text (xs := xs) A I x e1) (by decide) (t_X12_text (xs := xs) A I x e2) (by decide) ⟨P, N, T, R, E, C, X, Z, ⟨g1, g2, g3, g4, g5, g6, g7, g8, g9, g10, g11, g12, g13⟩⟩
  have hX6 : X < 6 := by omega
  have hX1 : ¬ (6 : Int32) ≤ I 2373 := by rw [x11]; exact nge (n := 6) (by decide) hX6
  have hX2 : ¬ I 5460 = 6 := by rw [x12]; exact fun z => absurd ((i_eqr (n := 6) (by omega) (by decide)).mp z) hX
  obtain ⟨z1, z2, ⟨q1, q2, q3, q4⟩, ⟨p1, p2, p3, p4, p5, o1⟩, ⟨s1, s2, s3, s4, s5, o2⟩, r0, M0, L0, Y0, D0, a0, t0, v0, bg0, h0, br0, od0, fo0, er, -, ⟨w1, w2, w3, w4, w5, w6⟩, -, hres⟩ := tape_both (A := A) (I := I) (A2 := A) (I2 := I) (B := A 101) (Z := Z) (X := X) y2 y3 y1 y4 k3 k4 k5 k6 rfl y5 x12 hX6 x5 x6 k10 k11
  have hl1 := fo_len o1 x.2.2.2.2
  have hl2 := fo_len o2 (fo_t o1 x.2.2.2.2)
  have hs1 : am_sl0 (fo_t o1 x.2.2.2.2) ≤ am_sl0 x.2.2.2.2 + 161 := fo_sl w5 x.2.2.2.2
  have hs2 : am_sl0 (fo_t o2 (fo_t o1 x.2.2.2.2)) ≤ am_sl0 (fo_t o1 x.2.2.2.2) + 161 := fo_sl w6 (fo_t o1 x.2.2.2.2)
  obtain ⟨u1, hu1⟩ := fo_app o1 x.2.2.2.2
  obtain ⟨u2, hu2⟩ := fo_app o2 (fo_t o1 x.2.2.2.2)
  have hu : fo_t o2 (fo_t o1 x.2.2.2.2) = x.2.2.2.2 ++ (u1 ++ u2) := by rw [hu2, hu1, List.append_assoc]
  rcases hres with ⟨j, ez, -, -⟩ | ⟨ez, -, R1, R2, ef1, ef2, -⟩
  · have hkj := kB_le (B := A 101) (k := j) y3
    have nz : ¬ z1 = -1 := by rw [ez]; exact i_nm1 (by omega)
    have e1 : f_X11_text A I x = some (-100 - z1, ft_A A (z1, z2, (q1, q2, q3, q4), (p1, p2, p3, p4, p5, o1), (s1, s2, s3, s4, s5, o2)), ft_I I (z1, z2, (q1, q2, q3, q4), (p1, p2, p3, p4, p5, o1), (s1, s2, s3, s4, s5, o2)), ft_x x x.2.2.2.2 (z1, z2, (q1, q2, q3, q4), (p1, p2, p3, p4, p5, o1), (s1, s2, s3, s4, s5, o2))) := by
      unfold f_X11_text
      rw [if_neg hX1, er, Option.bind_some]
      dsimp only
      rw [if_neg nz]
    obtain ⟨z1', z2', qq, PP1, PP2, r0', M, L, Y, D, a, t, v, bg, hh, br, od, fo, er', ei, -, ⟨m1, m2, m3, m4, m5, m6⟩, hres'⟩ := tape_both (A := A) (I := I) (A2 := ft_A A (z1, z2, (q1, q2, q3, q4), (p1, p2, p3, p4, p5, o1), (s1, s2, s3, s4, s5, o2))) (I2 := ft_I I (z1, z2, (q1, q2, q3, q4), (p1, p2, p3, p4, p5, o1), (s1, s2, s3, s4, s5, o2))) (B := A 101) (Z := Z) (X := X) y2 y3 y1 y4 k3 k4 k5 k6 rfl y5 x12 hX6 x5 x6 k10 k11
    rw [er] at er'
    cases er'
    rcases hres' with ⟨j', ez', er0, ebg⟩ | ⟨ez', -⟩
    · have e2 : f_X12_text (ft_A A (z1, z2, (q1, q2, q3, q4), (p1, p2, p3, p4, p5, o1), (s1, s2, s3, s4, s5, o2))) (ft_I I (z1, z2, (q1, q2, q3, q4), (p1, p2, p3, p4, p5, o1), (s1, s2, s3, s4, s5, o2))) = some (-100 - z1, M, L, Y, D, 0, I 5460, a, t, v, bg, hh, br, od, fo) := by
        unfold f_X12_text
        rw [if_neg (show ¬ (ft_I I (z1, z2, (q1, q2, q3, q4), (p1, p2, p3, p4, p5, o1), (s1, s2, s3, s4, s5, o2))) 5460 = 6 from hX2), ei, Option.bind_some]
        dsimp only
        rw [if_pos er0, ez', ← ebg]
        rfl
      refine ⟨-100 - z1, _, _, _, _, _, _, (t_X11_text (xs := xs) A I x e1).mono (by decide), (t_X12_text (xs := xs) _ _ _ e2).mono (by decide), ⟨P, N, T, R, E, C, X, 0, ⟨g1, g2, g3, g4, ⟨y1, y2, Nat.zero_le _, rfl, rfl⟩, g6, g7, g8, g9, g10, g11, ⟨⟨x1, x2, x3, x4, m1, m2, x7, x8⟩, x9, x10, x11, x12, x13, fun t ht => ?_⟩, scr_t g13 w1 w2 w3 w4 m3 m4⟩⟩, ?_, ?_⟩
      · obtain ⟨f1, f2⟩ := x14 t ht
        exact ⟨fm_old f1 rfl hu (m5 _ (by omega)) (fun i hi => m6 i (by omega)), fm_old f2 rfl hu (m5 _ (by omega)) (fun i hi => m6 i (by omega))⟩
      · show (fo_t o2 (fo_t o1 x.2.2.2.2)).length ≤ _
        omega
      · show am_sl0 (fo_t o2 (fo_t o1 x.2.2.2.2)) ≤ _
        omega
    · exact absurd ez' nz
  · have ef1 : o1 = some (R1.map cm) := ef1
    have ef2 : o2 = some (R2.map cm) := ef2
    subst ef1 ef2 ez
    have ha1 : am_upr x.1 (I 2373) (some (128 + x.2.2.2.2.length)) = some (x.1.set X (some (128 + x.2.2.2.2.length))) := by
      unfold am_upr
      rw [x11, if_neg (i_nn (by omega)), i_tn (by omega), if_pos (by omega)]
    have ha2 : am_upr x.2.1 (I 2373) (some (128 + (fo_t (some (R1.map cm)) x.2.2.2.2).length)) = some (x.2.1.set X (some (128 + (fo_t (some (R1.map cm)) x.2.2.2.2).length))) := by
      unfold am_upr
      rw [x11, if_neg (i_nn (by omega)), i_tn (by omega), if_pos (by omega)]
    have e1 : f_X11_text A I x = some (I 2373, ft_A A (-1, z2, (q1, q2, q3, q4), (p1, p2, p3, p4, p5, some (R1.map cm)), (s1, s2, s3, s4, s5, some (R2.map cm))), up (ft_I I (-1, z2, (q1, q2, q3, q4), (p1, p2, p3, p4, p5, some (R1.map cm)), (s1, s2, s3, s4, s5, some (R2.map cm)))) 2373 (I 2373 + 1), (x.1.set X (some (128 + x.2.2.2.2.length)), x.2.1.set X (some (128 + (fo_t (some (R1.map cm)) x.2.2.2.2).length)), (ft_x x x.2.2.2.2 (-1, z2, (q1, q2, q3, q4), (p1, p2, p3, p4, p5, some (R1.map cm)), (s1, s2, s3, s4, s5, some (R2.map cm)))).2.2.1, (ft_x x x.2.2.2.2 (-1, z2, (q1, q2, q3, q4), (p1, p2, p3, p4, p5, some (R1.map cm)), (s1, s2, s3, s4, s5, some (R2.map cm)))).2.2.2.1, (ft_x x x.2.2.2.2 (-1, z2, (q1, q2, q3, q4), (p1, p2, p3, p4, p5, some (R1.map cm)), (s1, s2, s3, s4, s5, some (R2.map cm)))).2.2.2.2)) := by
      unfold f_X11_text
      rw [if_neg hX1, er, Option.bind_some]
      dsimp only
      rw [if_pos rfl]
      have hadd : f_X1_addText (ft_I I (-1, z2, (q1, q2, q3, q4), (p1, p2, p3, p4, p5, some (R1.map cm)), (s1, s2, s3, s4, s5, some (R2.map cm)))) (ft_x x x.2.2.2.2 (-1, z2, (q1, q2, q3, q4), (p1, p2, p3, p4, p5, some (R1.map cm)), (s1, s2, s3, s4, s5, some (R2.map cm)))) (128 + x.2.2.2.2.length) (128 + (fo_t (some (R1.map cm)) x.2.2.2.2).length) = some (x.1.set X (some (128 + x.2.2.2.2.length)), x.2.1.set X (some (128 + (fo_t (some (R1.map cm)) x.2.2.2.2).length))) := by
        show (am_upr x.1 (I 2373) (some (128 + x.2.2.2.2.length))).bind (fun b => (am_upr x.2.1 (I 2373) (some (128 + (fo_t (some (R1.map cm)) x.2.2.2.2).length))).bind fun c => some (b, c)) = _
        rw [ha1, Option.bind_some, ha2, Option.bind_some]
      rw [hadd, Option.bind_some]
    obtain ⟨z1', z2', qq, PP1, PP2, r0', M, L, Y, D, a, t, v, bg, hh, br, od, fo, er', ei, -, ⟨m1, m2, m3, m4, m5, m6⟩, hres'⟩ := tape_both (A := A) (I := I) (A2 := ft_A A (-1, z2, (q1, q2, q3, q4), (p1, p2, p3, p4, p5, some (R1.map cm)), (s1, s2, s3, s4, s5, some (R2.map cm)))) (I2 := up (ft_I I (-1, z2, (q1, q2, q3, q4), (p1, p2, p3, p4, p5, some (R1.map cm)), (s1, s2, s3, s4, s5, some (R2.map cm)))) 2373 (I 2373 + 1)) (B := A 101) (Z := Z) (X := X) y2 y3 y1 y4 k3 k4 k5 k6 rfl y5 x12 hX6 x5 x6 k10 k11
    rw [er] at er'
    cases er'
    rcases hres' with ⟨j', ez', -, -⟩ | ⟨-, er0, Q1, Q2, eq1, eq2, n1, n2, n3, n4, n5, n6, n7, n8⟩
    · have hkj := kB_le (B := A 101) (k := j') y3
      exact absurd ez'.symm (i_nm1 (by omega))
    · have eq1 : some (R1.map cm) = some (Q1.map cm) := eq1
      have eq2 : some (R2.map cm) = some (Q2.map cm) := eq2
      have e2 : f_X12_text (ft_A A (-1, z2, (q1, q2, q3, q4), (p1, p2, p3, p4, p5, some (R1.map cm)), (s1, s2, s3, s4, s5, some (R2.map cm)))) (up (ft_I I (-1, z2, (q1, q2, q3, q4), (p1, p2, p3, p4, p5, some (R1.map cm)), (s1, s2, s3, s4, s5, some (R2.map cm)))) 2373 (I 2373 + 1)) = some (I 2373, M, L, Y, D, 0, I 5460 + 1, a, t, v, bg, hh, br, od, fo) := by
        unfold f_X12_text
        rw [if_neg (show ¬ (up (ft_I I (-1, z2, (q1, q2, q3, q4), (p1, p2, p3, p4, p5, some (R1.map cm)), (s1, s2, s3, s4, s5, some (R2.map cm)))) 2373 (I 2373 + 1)) 5460 = 6 from hX2), ei, Option.bind_some]
        dsimp only
        rw [if_neg (show ¬ r0' = 0 from by rw [er0]; decide), show (up (ft_I I (-1, z2, (q1, q2, q3, q4), (p1, p2, p3, p4, p5, some (R1.map cm)), (s1, s2, s3, s4, s5, some (R2.map cm)))) 2373 (I 2373 + 1)) 5460 = I 5460 from rfl, show I 5460 + 1 - 1 = I 2373 from by rw [x12, x11, show Int32.ofNat X + 1 = Int32.ofNat (X + 1) from i_addr (n := 1), i_sub1]]
      have hi1 : I 2373 + 1 = Int32.ofNat (X + 1) := by rw [x11]; exact i_addr (n := 1)
      have hi2 : I 5460 + 1 = Int32.ofNat (X + 1) := by rw [x12]; exact i_addr (n := 1)
      have hx1 := hx.1
      have hx2 := hx.2
      refine ⟨I 2373, _, _, _, _, _, _, (t_X11_text (xs := xs) A I x e1).mono (by decide), (t_X12_text (xs := xs) _ _ _ e2).mono (by decide), ⟨P, N, T, R, E, C, X + 1, 0, ⟨g1, g2, g3, g4, ⟨y1, y2, Nat.zero_le _, rfl, rfl⟩, g6, g7, g8, g9, g10, g11, ⟨⟨x1, x2, x3, x4, m1, m2, by show (x.1.set _ _).length = 6; rw [List.length_set]; exact x7, by show (x.2.1.set _ _).length = 6; rw [List.length_set]; exact x8⟩, by omega, by omega, hi1, hi2, fun k hk => ?_, fun t ht => ?_⟩, scr_t g13 w1 w2 w3 w4 m3 m4⟩⟩, ?_, ?_⟩
      · obtain ⟨t, ht, et⟩ := x13 k hk
        exact ⟨t, by omega, et⟩
      · by_cases c : t = X
        · subst c
          refine ⟨?_, ?_⟩
          · refine fm_new (s := x.2.2.2.2) (R := Q1) (u := [.inr (.inr (5, [.ref (128 + (fo_t (some (R1.map cm)) x.2.2.2.2).length + 1)])), .inl (0, R2.map cm)]) ?_ ?_ (by omega) n5 n7 n1 n3
            · show (x.1.set t _)[t]? = _
              rw [List.getElem?_set_self (by omega)]
            · show fo_t (some (R2.map cm)) (fo_t (some (R1.map cm)) x.2.2.2.2) = _
              rw [show R1.map cm = Q1.map cm from Option.some.inj eq1]
              rfl
          · refine fm_new (s := fo_t (some (R1.map cm)) x.2.2.2.2) (R := Q2) (u := []) ?_ ?_ (by omega) n6 n8 n2 n4
            · show (x.2.1.set t _)[t]? = _
              rw [List.getElem?_set_self (by omega)]
            · show fo_t (some (R2.map cm)) (fo_t (some (R1.map cm)) x.2.2.2.2) = _
              rw [List.append_nil, show R2.map cm = Q2.map cm from Option.some.inj eq2]
              rfl
        · obtain ⟨f1, f2⟩ := x14 t (by omega)
          exact ⟨fm_old f1 (by show (x.1.set X _)[t]? = _; rw [List.getElem?_set_ne (by omega)]) hu (m5 _ (by omega)) (fun i hi => m6 i (by omega)), fm_old f2 (by show (x.2.1.set X _)[t]? = _; rw [List.getElem?_set_ne (by omega)]) hu (m5 _ (by omega)) (fun i hi => m6 i (by omega))⟩
      · show (fo_t (some (R2.map cm)) (fo_t (some (R1.map cm)) x.2.2.2.2)).length ≤ _
        omega
      · show am_sl0 (fo_t (some (R2.map cm)) (fo_t (some (R1.map cm)) x.2.2.2.2)) ≤ _
        omega
