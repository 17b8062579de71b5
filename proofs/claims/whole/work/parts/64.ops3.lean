/-! ===== owed, quarrels, changed (by wip/whole/gen_ops3.py) ===== -/
theorem owed_l2 : f_X12_owed_l2 = f_X12_owed_l1 := rfl
theorem op_owed (xs : List Int32) {n : Nat} {A : Nat → List Int32} {I : Nat → Int32} {x : am_X} (h : Iv0 n A I x) (a1 : Int32) (a2 : Int32) : am_opl xs n ix_X11_owed ix_X12_owed [.int a1, .int a2] A I x := by
  obtain ⟨⟨P, N, T, R, E, C, X, Z, hI⟩, hx⟩ := h
  obtain ⟨h41, h42, -, -, -, -, -, -, -, -, -, h107, h108, -⟩ := scr_get hI.2.2.2.2.2.2.2.2.2.2.2.2
  have hP := hI.1
  have hT := hI.2.2.1
  have hA := hI.2.2.2.1
  have hR := hI.2.2.2.2.2.1
  have hX := hI.2.2.2.2.2.2.2.2.2.2.2.1
  have hN : N ≤ 24 := hA.2.2.1
  rcases wi_l 2 (by decide) a1 with w | ⟨s, hs, rfl, w⟩
  · skip
    have e1 : f_X11_owed A I x a1 a2 = some ((-4611686018427387904), (A 41), (A 42)) := by
      simp (disch := first | omega | decide | assumption | (simp [up_app]; assumption)) [-Int32.xor_neg_one, -Int32.ofNat_add, -Int32.ofNat_mul, -Int32.ofNat_sub, i_lel, i_ler, i_ltl, i_ltr, i_eql, i_eqr, i_le, i_lt, i_eq, i_addl, i_addr, i_add, i_mull, i_mulr, i_mul, i_subr, i_sub, am_at_g, am_at_gl, am_up_g, am_up_gl, up_app, in_X, i_sub1, f_X11_owed, f_X11_isSide, w]
    have e2 : f_X12_owed (up (up A 41 (A 41)) 42 (A 42)) I a1 a2 = some ((-4611686018427387904), (A 107), (A 108)) := by
      simp (disch := first | omega | decide | assumption | (simp [up_app]; assumption)) [-Int32.xor_neg_one, -Int32.ofNat_add, -Int32.ofNat_mul, -Int32.ofNat_sub, i_lel, i_ler, i_ltl, i_ltr, i_eql, i_eqr, i_le, i_lt, i_eq, i_addl, i_addr, i_add, i_mull, i_mulr, i_mul, i_subr, i_sub, am_at_g, am_at_gl, am_up_g, am_up_gl, up_app, in_X, i_sub1, f_X12_owed, f_X12_isSide, w]
    have c1 := t_X11_owed (xs := xs) A I x a1 a2 e1
    have c2 := t_X12_owed (xs := xs) (up (up A 41 (A 41)) 42 (A 42)) I x a1 a2 e2
    exact am_opl.mk hx c1 (by decide) c2 (by decide) ⟨P, N, T, R, E, C, X, Z, ⟨hI.1, hI.2.1, hI.2.2.1, hI.2.2.2.1, hI.2.2.2.2.1, hI.2.2.2.2.2.1, hI.2.2.2.2.2.2.1, hI.2.2.2.2.2.2.2.1, hI.2.2.2.2.2.2.2.2.1, hI.2.2.2.2.2.2.2.2.2.1, hI.2.2.2.2.2.2.2.2.2.2.1, hI.2.2.2.2.2.2.2.2.2.2.2.1, hI.2.2.2.2.2.2.2.2.2.2.2.2⟩⟩
  · by_cases hn : a2 = -1
    · subst hn
      obtain ⟨F1, S1, x1, l1, l2⟩ := gd_c hP hT hA hX h41 h42 (show s < 3 by omega)
      obtain ⟨F2, S2, y1, l3, l4⟩ := gd_m (A := up (up A 41 F1) 42 S1) (I := I) (x := x) hP hT hA hX h107 h108 (show s < 3 by omega)
      have y1 : f_X12_goodBy (up (up A 41 F1) 42 S1) I (Int32.ofNat s) = some (Int32.ofNat (gd N T A s), F2, S2) := y1
      have hG : gd N T A s < 16777216 := gd_lt hA
      obtain ⟨v, z1, z2⟩ := owed_2 (F1 := F1) (S1 := S1) (F2 := F2) (S2 := S2) hA hR hG (-1)
      have q9 := scr_4 hI.2.2.2.2.2.2.2.2.2.2.2.2 l1 l2 l3 l4
      have e1 : f_X11_owed A I x (Int32.ofNat s) (-1) = some (v, F1, S1) := by
        simp (disch := first | omega | decide | assumption | (simp [up_app]; assumption)) [-Int32.xor_neg_one, -Int32.ofNat_add, -Int32.ofNat_mul, -Int32.ofNat_sub, i_lel, i_ler, i_ltl, i_ltr, i_eql, i_eqr, i_le, i_lt, i_eq, i_addl, i_addr, i_add, i_mull, i_mulr, i_mul, i_subr, i_sub, am_at_g, am_at_gl, am_up_g, am_up_gl, up_app, in_X, i_sub1, f_X11_owed, f_X11_isSide, w, x1, z1]
      have e2 : f_X12_owed (up (up A 41 F1) 42 S1) I (Int32.ofNat s) (-1) = some (v, F2, S2) := by
        simp (disch := first | omega | decide | assumption | (simp [up_app]; assumption)) [-Int32.xor_neg_one, -Int32.ofNat_add, -Int32.ofNat_mul, -Int32.ofNat_sub, i_lel, i_ler, i_ltl, i_ltr, i_eql, i_eqr, i_le, i_lt, i_eq, i_addl, i_addr, i_add, i_mull, i_mulr, i_mul, i_subr, i_sub, am_at_g, am_at_gl, am_up_g, am_up_gl, up_app, in_X, i_sub1, f_X12_owed, f_X12_isSide, w, y1, z2]
      have c1 := t_X11_owed (xs := xs) A I x (Int32.ofNat s) (-1) e1
      have c2 := t_X12_owed (xs := xs) (up (up A 41 F1) 42 S1) I x (Int32.ofNat s) (-1) e2
      exact am_opl.mk hx c1 (by decide) c2 (by decide) ⟨P, N, T, R, E, C, X, Z, ⟨hI.1, hI.2.1, hI.2.2.1, hI.2.2.2.1, hI.2.2.2.2.1, hI.2.2.2.2.2.1, hI.2.2.2.2.2.2.1, hI.2.2.2.2.2.2.2.1, hI.2.2.2.2.2.2.2.2.1, hI.2.2.2.2.2.2.2.2.2.1, hI.2.2.2.2.2.2.2.2.2.2.1, hI.2.2.2.2.2.2.2.2.2.2.2.1, q9⟩⟩
    · rcases c_Person P (by have := hP.2.2.1; omega) a2 with ⟨w2, w3⟩ | ⟨p, hp, rfl, w2, w3⟩
      · have w2 := w2 A I hP.2.2.2.1
        have w3 := w3 (up (up A 41 (A 41)) 42 (A 42)) I hP.2.2.2.2.1
        have e1 : f_X11_owed A I x (Int32.ofNat s) a2 = some ((-4611686018427387904), (A 41), (A 42)) := by
          simp (disch := first | omega | decide | assumption | (simp [up_app]; assumption)) [-Int32.xor_neg_one, -Int32.ofNat_add, -Int32.ofNat_mul, -Int32.ofNat_sub, i_lel, i_ler, i_ltl, i_ltr, i_eql, i_eqr, i_le, i_lt, i_eq, i_addl, i_addr, i_add, i_mull, i_mulr, i_mul, i_subr, i_sub, am_at_g, am_at_gl, am_up_g, am_up_gl, up_app, in_X, i_sub1, f_X11_owed, f_X11_isSide, w, hn, w2]
        have e2 : f_X12_owed (up (up A 41 (A 41)) 42 (A 42)) I (Int32.ofNat s) a2 = some ((-4611686018427387904), (A 107), (A 108)) := by
          simp (disch := first | omega | decide | assumption | (simp [up_app]; assumption)) [-Int32.xor_neg_one, -Int32.ofNat_add, -Int32.ofNat_mul, -Int32.ofNat_sub, i_lel, i_ler, i_ltl, i_ltr, i_eql, i_eqr, i_le, i_lt, i_eq, i_addl, i_addr, i_add, i_mull, i_mulr, i_mul, i_subr, i_sub, am_at_g, am_at_gl, am_up_g, am_up_gl, up_app, in_X, i_sub1, f_X12_owed, f_X12_isSide, w, hn, w3]
        have c1 := t_X11_owed (xs := xs) A I x (Int32.ofNat s) a2 e1
        have c2 := t_X12_owed (xs := xs) (up (up A 41 (A 41)) 42 (A 42)) I x (Int32.ofNat s) a2 e2
        exact am_opl.mk hx c1 (by decide) c2 (by decide) ⟨P, N, T, R, E, C, X, Z, ⟨hI.1, hI.2.1, hI.2.2.1, hI.2.2.2.1, hI.2.2.2.2.1, hI.2.2.2.2.2.1, hI.2.2.2.2.2.2.1, hI.2.2.2.2.2.2.2.1, hI.2.2.2.2.2.2.2.2.1, hI.2.2.2.2.2.2.2.2.2.1, hI.2.2.2.2.2.2.2.2.2.2.1, hI.2.2.2.2.2.2.2.2.2.2.2.1, hI.2.2.2.2.2.2.2.2.2.2.2.2⟩⟩
      · have w2 := w2 A I hP.2.2.2.1
        obtain ⟨F1, S1, x1, l1, l2⟩ := gd_c hP hT hA hX h41 h42 (show s < 3 by omega)
        obtain ⟨F2, S2, y1, l3, l4⟩ := gd_m (A := up (up A 41 F1) 42 S1) (I := I) (x := x) hP hT hA hX h107 h108 (show s < 3 by omega)
        have y1 : f_X12_goodBy (up (up A 41 F1) 42 S1) I (Int32.ofNat s) = some (Int32.ofNat (gd N T A s), F2, S2) := y1
        have hG : gd N T A s < 16777216 := gd_lt hA
        have w3 := w3 (up (up A 41 F1) 42 S1) I hP.2.2.2.2.1
        obtain ⟨v, z1, z2⟩ := owed_2 (F1 := F1) (S1 := S1) (F2 := F2) (S2 := S2) hA hR hG (Int32.ofNat p)
        have q9 := scr_4 hI.2.2.2.2.2.2.2.2.2.2.2.2 l1 l2 l3 l4
        have e1 : f_X11_owed A I x (Int32.ofNat s) (Int32.ofNat p) = some (v, F1, S1) := by
          simp (disch := first | omega | decide | assumption | (simp [up_app]; assumption)) [-Int32.xor_neg_one, -Int32.ofNat_add, -Int32.ofNat_mul, -Int32.ofNat_sub, i_lel, i_ler, i_ltl, i_ltr, i_eql, i_eqr, i_le, i_lt, i_eq, i_addl, i_addr, i_add, i_mull, i_mulr, i_mul, i_subr, i_sub, am_at_g, am_at_gl, am_up_g, am_up_gl, up_app, in_X, i_sub1, f_X11_owed, f_X11_isSide, w, hn, w2, x1, z1]
        have e2 : f_X12_owed (up (up A 41 F1) 42 S1) I (Int32.ofNat s) (Int32.ofNat p) = some (v, F2, S2) := by
          simp (disch := first | omega | decide | assumption | (simp [up_app]; assumption)) [-Int32.xor_neg_one, -Int32.ofNat_add, -Int32.ofNat_mul, -Int32.ofNat_sub, i_lel, i_ler, i_ltl, i_ltr, i_eql, i_eqr, i_le, i_lt, i_eq, i_addl, i_addr, i_add, i_mull, i_mulr, i_mul, i_subr, i_sub, am_at_g, am_at_gl, am_up_g, am_up_gl, up_app, in_X, i_sub1, f_X12_owed, f_X12_isSide, w, hn, w3, y1, owed_l2, z2]
        have c1 := t_X11_owed (xs := xs) A I x (Int32.ofNat s) (Int32.ofNat p) e1
        have c2 := t_X12_owed (xs := xs) (up (up A 41 F1) 42 S1) I x (Int32.ofNat s) (Int32.ofNat p) e2
        exact am_opl.mk hx c1 (by decide) c2 (by decide) ⟨P, N, T, R, E, C, X, Z, ⟨hI.1, hI.2.1, hI.2.2.1, hI.2.2.2.1, hI.2.2.2.2.1, hI.2.2.2.2.2.1, hI.2.2.2.2.2.2.1, hI.2.2.2.2.2.2.2.1, hI.2.2.2.2.2.2.2.2.1, hI.2.2.2.2.2.2.2.2.2.1, hI.2.2.2.2.2.2.2.2.2.2.1, hI.2.2.2.2.2.2.2.2.2.2.2.1, q9⟩⟩

theorem op_quarrels (xs : List Int32) {n : Nat} {A : Nat → List Int32} {I : Nat → Int32} {x : am_X} (h : Iv0 n A I x) (a1 : Int32) : am_op xs n ix_X11_quarrels ix_X12_quarrels [.int a1] A I x := by
  obtain ⟨⟨P, N, T, R, E, C, X, Z, hI⟩, hx⟩ := h
  obtain ⟨h41, h42, -, -, -, -, -, -, -, -, -, h107, h108, -⟩ := scr_get hI.2.2.2.2.2.2.2.2.2.2.2.2
  have hP := hI.1
  have hT := hI.2.2.1
  have hA := hI.2.2.2.1
  have hR := hI.2.2.2.2.2.1
  have hX := hI.2.2.2.2.2.2.2.2.2.2.2.1
  have hN : N ≤ 24 := hA.2.2.1
  rcases wi_l 9999 (by decide) a1 with w | ⟨d, hd, rfl, w⟩
  · skip
    have e1 : f_X11_quarrels A I x a1 = some (-2, (A 41), (A 42)) := by
      simp (disch := first | omega | decide | assumption | (simp [up_app]; assumption)) [-Int32.xor_neg_one, -Int32.ofNat_add, -Int32.ofNat_mul, -Int32.ofNat_sub, i_lel, i_ler, i_ltl, i_ltr, i_eql, i_eqr, i_le, i_lt, i_eq, i_addl, i_addr, i_add, i_mull, i_mulr, i_mul, i_subr, i_sub, am_at_g, am_at_gl, am_up_g, am_up_gl, up_app, in_X, i_sub1, f_X11_quarrels, f_X11_isDay, w]
    have e2 : f_X12_quarrels (up (up A 41 (A 41)) 42 (A 42)) I a1 = some (-2, (A 107), (A 108)) := by
      simp (disch := first | omega | decide | assumption | (simp [up_app]; assumption)) [-Int32.xor_neg_one, -Int32.ofNat_add, -Int32.ofNat_mul, -Int32.ofNat_sub, i_lel, i_ler, i_ltl, i_ltr, i_eql, i_eqr, i_le, i_lt, i_eq, i_addl, i_addr, i_add, i_mull, i_mulr, i_mul, i_subr, i_sub, am_at_g, am_at_gl, am_up_g, am_up_gl, up_app, in_X, i_sub1, f_X12_quarrels, f_X12_isDay, w]
    have c1 := t_X11_quarrels (xs := xs) A I x a1 e1
    have c2 := t_X12_quarrels (xs := xs) (up (up A 41 (A 41)) 42 (A 42)) I x a1 e2
    exact am_op.mk hx c1 (by decide) c2 (by decide) ⟨P, N, T, R, E, C, X, Z, ⟨hI.1, hI.2.1, hI.2.2.1, hI.2.2.2.1, hI.2.2.2.2.1, hI.2.2.2.2.2.1, hI.2.2.2.2.2.2.1, hI.2.2.2.2.2.2.2.1, hI.2.2.2.2.2.2.2.2.1, hI.2.2.2.2.2.2.2.2.2.1, hI.2.2.2.2.2.2.2.2.2.2.1, hI.2.2.2.2.2.2.2.2.2.2.2.1, hI.2.2.2.2.2.2.2.2.2.2.2.2⟩⟩
  · obtain ⟨F0, S0, x1, m1, m2⟩ := gd_c (s := 0) hP hT hA hX h41 h42 (by decide)
    obtain ⟨F1, S1, x2, l1, l2⟩ := gd_c (s := 1) (A := up (up A 41 F0) 42 S0) (I := I) (x := x) hP hT hA hX m1 m2 (by decide)
    obtain ⟨G0, T0, y1, m3, m4⟩ := gd_m (s := 0) (A := up (up A 41 F1) 42 S1) (I := I) (x := x) hP hT hA hX h107 h108 (by decide)
    obtain ⟨F2, S2, y2, l3, l4⟩ := gd_m (s := 1) (A := up (up (up (up A 41 F1) 42 S1) 107 G0) 108 T0) (I := I) (x := x) hP hT hA hX m3 m4 (by decide)
    have x1 : f_X1_goodUnder A I x 0 = some (Int32.ofNat (gd N T A 0), F0, S0) := x1
    have x2 : f_X1_goodUnder (up (up A 41 F0) 42 S0) I x 1 = some (Int32.ofNat (gd N T A 1), F1, S1) := x2
    have y1 : f_X12_goodBy (up (up A 41 F1) 42 S1) I 0 = some (Int32.ofNat (gd N T A 0), G0, T0) := y1
    have y2 : f_X12_goodBy (up (up (up (up A 41 F1) 42 S1) 107 G0) 108 T0) I 1 = some (Int32.ofNat (gd N T A 1), F2, S2) := y2
    have hG0 : gd N T A 0 < 16777216 := gd_lt hA
    have hG1 : gd N T A 1 < 16777216 := gd_lt hA
    obtain ⟨v, z1, z2⟩ := quar_2 (x := x) (F1 := F1) (S1 := S1) (F2 := F2) (S2 := S2) hA hG0 hG1 hd
    have q9 := scr_4 hI.2.2.2.2.2.2.2.2.2.2.2.2 l1 l2 l3 l4
    have e1 : f_X11_quarrels A I x (Int32.ofNat d) = some (v, F1, S1) := by
      simp (disch := first | omega | decide | assumption | (simp [up_app]; assumption)) [-Int32.xor_neg_one, -Int32.ofNat_add, -Int32.ofNat_mul, -Int32.ofNat_sub, i_lel, i_ler, i_ltl, i_ltr, i_eql, i_eqr, i_le, i_lt, i_eq, i_addl, i_addr, i_add, i_mull, i_mulr, i_mul, i_subr, i_sub, am_at_g, am_at_gl, am_up_g, am_up_gl, up_app, in_X, i_sub1, f_X11_quarrels, f_X11_isDay, w, x1, x2, z1]
    have e2 : f_X12_quarrels (up (up A 41 F1) 42 S1) I (Int32.ofNat d) = some (v, F2, S2) := by
      simp (disch := first | omega | decide | assumption | (simp [up_app]; assumption)) [-Int32.xor_neg_one, -Int32.ofNat_add, -Int32.ofNat_mul, -Int32.ofNat_sub, i_lel, i_ler, i_ltl, i_ltr, i_eql, i_eqr, i_le, i_lt, i_eq, i_addl, i_addr, i_add, i_mull, i_mulr, i_mul, i_subr, i_sub, am_at_g, am_at_gl, am_up_g, am_up_gl, up_app, in_X, i_sub1, f_X12_quarrels, f_X12_isDay, w, y1, y2, z2]
    have c1 := t_X11_quarrels (xs := xs) A I x (Int32.ofNat d) e1
    have c2 := t_X12_quarrels (xs := xs) (up (up A 41 F1) 42 S1) I x (Int32.ofNat d) e2
    exact am_op.mk hx c1 (by decide) c2 (by decide) ⟨P, N, T, R, E, C, X, Z, ⟨hI.1, hI.2.1, hI.2.2.1, hI.2.2.2.1, hI.2.2.2.2.1, hI.2.2.2.2.2.1, hI.2.2.2.2.2.2.1, hI.2.2.2.2.2.2.2.1, hI.2.2.2.2.2.2.2.2.1, hI.2.2.2.2.2.2.2.2.2.1, hI.2.2.2.2.2.2.2.2.2.2.1, hI.2.2.2.2.2.2.2.2.2.2.2.1, q9⟩⟩

/-! changed -/
theorem i_xor {a b : Nat} : Int32.ofNat a ^^^ Int32.ofNat b = Int32.ofNat (a ^^^ b) := by
  apply Int32.toBitVec_inj.mp
  show BitVec.ofNat 32 a ^^^ BitVec.ofNat 32 b = BitVec.ofNat 32 (a ^^^ b)
  apply BitVec.eq_of_getLsbD_eq
  intro i hi
  rw [BitVec.getLsbD_xor, BitVec.getLsbD_ofNat, BitVec.getLsbD_ofNat, BitVec.getLsbD_ofNat, Nat.testBit_xor, decide_eq_true hi]
  rfl
/-- what the model's cells are with one TURN more -/
def nt (T : Nat) (A : Nat → List Int32) (l f s : Int32) : Nat → List Int32 := up (up (up A 91 ((A 91).set T l)) 92 ((A 92).set T f)) 93 ((A 93).set T s)
/-- binds under SIDE s for ACT k, if its LAND held to h -/
def vs (A : Nat → List Int32) (s k : Nat) (h : Int32) : Int32 := val A (fl A k (if s = 2 then 1 else if Int32.ofNat s = h then 1 else 0)) (2 * tx A s + 0)
theorem vl_vs (T : Nat) (A : Nat → List Int32) (s k : Nat) : vl T A s k 0 = vs A s k (sd T A (lnd A k) (g (A 97) k)) := rfl
theorem sd_nt {T : Nat} {A : Nat → List Int32} {I : Nat → Int32} (hT : hTrn T A I) (l f s a d : Int32) : sd (T + 1) (nt T A l f s) a d = if l = a ∧ f ≤ d ∧ (∀ b, bsf (tc (A 91) (A 92) a d) (g (A 92)) T = some b → g (A 92) b ≤ f) then s else sd T A a d := by
  obtain ⟨⟨t1, t2, t3, t4, t5, t6⟩, t7, t8, t9, t10⟩ := hT
  have hc : bsf (tc ((A 91).set T l) ((A 92).set T f) a d) (g ((A 92).set T f)) T = bsf (tc (A 91) (A 92) a d) (g (A 92)) T := bsf_congr (fun k hk => by
    unfold tc
    rw [g_set_ne (by omega), g_set_ne (by omega)]
    exact ⟨rfl, rfl⟩)
  have e1 : g ((A 91).set T l) T = l := g_set_eq (by omega)
  have e2 : g ((A 92).set T f) T = f := g_set_eq (by omega)
  have e3 : g ((A 93).set T s) T = s := g_set_eq (by omega)
  have old : ∀ b, b < T → g ((A 93).set T s) b = g (A 93) b := fun b hb => g_set_ne (by omega)
  show (match bsf (tc ((A 91).set T l) ((A 92).set T f) a d) (g ((A 92).set T f)) (T + 1) with | none => 0 | some b => g ((A 93).set T s) b) = _
  have same : bsf (tc ((A 91).set T l) ((A 92).set T f) a d) (g ((A 92).set T f)) (T + 1) = bsf (tc (A 91) (A 92) a d) (g (A 92)) T → (match bsf (tc ((A 91).set T l) ((A 92).set T f) a d) (g ((A 92).set T f)) (T + 1) with | none => 0 | some b => g ((A 93).set T s) b) = sd T A a d := fun q => by
    rw [q]
    unfold sd
    cases hb : bsf (tc (A 91) (A 92) a d) (g (A 92)) T with
    | none => rfl
    | some b => exact old b (bsf_lt hb).1
  by_cases h1 : l = a
  · by_cases h2 : f ≤ d
    · have ht : tc ((A 91).set T l) ((A 92).set T f) a d T = true := tc_t (by rw [e1, h1]) (by rw [e2]; exact h2)
      cases hb : bsf (tc (A 91) (A 92) a d) (g (A 92)) T with
      | none =>
        rw [bsf_new ht (by rw [hc, hb]), if_pos ⟨h1, h2, fun b q => by cases q⟩]
        exact e3
      | some b =>
        have hb1 := (bsf_lt hb).1
        have e4 : g ((A 92).set T f) b = g (A 92) b := g_set_ne (by omega)
        by_cases h3 : g (A 92) b ≤ f
        · rw [bsf_ge ht (by rw [hc, hb]) (by rw [e4, e2]; exact h3), if_pos ⟨h1, h2, fun b' q => by cases q; exact h3⟩]
          exact e3
        · rw [if_neg (fun q => h3 (q.2.2 b rfl))]
          apply same
          rw [bsf_ol ht (by rw [hc, hb]) (by rw [e4, e2]; exact h3), hb]
    · rw [if_neg (fun q => h2 q.2.1)]
      apply same
      rw [bsf_no (tc_f2 (by rw [e2]; exact h2)), hc]
  · rw [if_neg (fun q => h1 q.1)]
    apply same
    rw [bsf_no (tc_f1 (by rw [e1]; exact h1)), hc]
theorem ifturned_1 {T : Nat} {A : Nat → List Int32} {I : Nat → Int32} (hT : hTrn T A I) (l f s d : Int32) : f_X6_sideIfTurned A I l d f s = some (sd (T + 1) (nt T A l f s) l d) := by
  rw [sd_nt hT]
  have hs := side_c hT l d
  obtain ⟨⟨t1, t2, t3, t4, t5, t6⟩, t7, t8, t9, t10⟩ := hT
  have hc : bsf (tc (A 20) (A 21) l d) (g (A 21)) T = bsf (tc (A 91) (A 92) l d) (g (A 92)) T := bsf_congr (fun k hk => by
    obtain ⟨e1, e2, e3, -⟩ := t10 k hk
    unfold tc
    rw [e1, e2]
    exact ⟨rfl, rfl⟩)
  have hso := hs.1
  unfold f_X6_sideOn at hso
  unfold f_X6_sideIfTurned
  rw [turnOn_1 t7 t8 t1 t2, Option.bind_some, hc] at hso ⊢
  by_cases h1 : d < f
  · rw [if_pos h1, hso, if_neg (fun q => absurd h1 (Int32.not_lt.mpr q.2.1))]
  · rw [if_neg h1]
    cases hb : bsf (tc (A 91) (A 92) l d) (g (A 92)) T with
    | none =>
      rw [show eo none = -1 from rfl, if_pos rfl, if_pos ⟨rfl, Int32.not_lt.mp h1, fun b q => by cases q⟩]
    | some b =>
      rw [hb] at hso
      have hb1 := (bsf_lt hb).1
      have n1 : ¬ eo (some b) = -1 := i_nm1 (by omega)
      have r1 : am_at (A 21) (eo (some b)) = some (g (A 92) b) := by rw [← (t10 b hb1).2.1]; exact am_at_g (by omega) (by omega)
      rw [if_neg n1] at hso ⊢
      rw [if_neg n1, r1, Option.bind_some]
      by_cases h3 : f < g (A 92) b
      · rw [if_pos h3, if_neg (fun q => absurd h3 (Int32.not_lt.mpr (q.2.2 b rfl)))]
        exact hso
      · rw [if_neg h3, if_pos ⟨rfl, Int32.not_lt.mp h1, fun b' q => by cases q; exact Int32.not_lt.mp h3⟩]
/-- whether the two sides tell ACT k apart -/
def ta (A : Nat → List Int32) (k : Nat) (h1 h2 : Int32) : Bool := (decide (vs A 0 k h1 = 0) != decide (vs A 0 k h2 = 0)) || (decide (vs A 1 k h1 = 0) != decide (vs A 1 k h2 = 0))
theorem tells_1 {N X k : Nat} {A : Nat → List Int32} {I : Nat → Int32} {x : am_X} (hA : hAct N A I) (hX : hTxt X A I x) (h41 : (A 41).length = 6) (h42 : (A 42).length = 40) (hk : k < 24) (h1 h2 : Int32) : ∃ F S, f_X1_tellsApart A I x (Int32.ofNat k) h1 h2 = some (if ta A k h1 h2 then 1 else 0, F, S) ∧ F.length = 6 ∧ S.length = 40 := by
  have one : ∀ (s : Nat) (F S : List Int32), s < 2 → F.length = 6 → S.length = 40 → ∃ F' S', F'.length = 6 ∧ S'.length = 40 ∧ f_X1_tellsApart_l1 A I x (Int32.ofNat k) h1 h2 (Int32.ofNat s, F, S) = some (if decide (vs A s k h1 = 0) != decide (vs A s k h2 = 0) then .inr (.inr (1, F', S')) else .inl (Int32.ofNat (s + 1), F', S')) := fun s F S hs hF hS => by
    obtain ⟨S1, e1, l1⟩ := vih_1 (A := up (up A 41 F) 42 S) (I := I) (x := x) (s := s) (k := k) (q := 0) hA hX hF hS (by omega) hk (by decide) h1
    obtain ⟨S2, e2, l2⟩ := vih_1 (A := up (up A 41 (fl A k (if s = 2 then 1 else if Int32.ofNat s = h1 then 1 else 0))) 42 S1) (I := I) (x := x) (s := s) (k := k) (q := 0) hA hX rfl l1 (by omega) hk (by decide) h2
    have e1 : f_X1_valueIfHeld (up (up A 41 F) 42 S) I x (Int32.ofNat s) (Int32.ofNat k) 0 h1 = some (vs A s k h1, fl A k (if s = 2 then 1 else if Int32.ofNat s = h1 then 1 else 0), S1) := e1
    have e2 : f_X1_valueIfHeld (up (up A 41 (fl A k (if s = 2 then 1 else if Int32.ofNat s = h1 then 1 else 0))) 42 S1) I x (Int32.ofNat s) (Int32.ofNat k) 0 h2 = some (vs A s k h2, fl A k (if s = 2 then 1 else if Int32.ofNat s = h2 then 1 else 0), S2) := e2
    refine ⟨fl A k (if s = 2 then 1 else if Int32.ofNat s = h2 then 1 else 0), S2, rfl, l2, ?_⟩
    unfold f_X1_tellsApart_l1
    dsimp only
    rw [if_neg (by rw [i_lel (by decide) (by omega)]; exact Nat.not_le.mpr hs), e1, Option.bind_some, e2, i_addr]
    by_cases c1 : vs A s k h1 = 0
    · by_cases c2 : vs A s k h2 = 0
      · simp only [if_pos c1, if_pos c2, Option.bind_some, if_true, decide_eq_true c1, decide_eq_true c2, bne_self_eq_false, Bool.false_eq_true, if_false]
      · simp only [if_pos c1, if_neg c2, Option.bind_some, if_neg (show ¬ (0 : Int32) = 1 by decide), decide_eq_true c1, decide_eq_false c2]
        rfl
    · by_cases c2 : vs A s k h2 = 0
      · simp only [if_neg c1, if_pos c2, Option.bind_some, if_neg (show ¬ (1 : Int32) = 0 by decide), decide_eq_false c1, decide_eq_true c2]
        rfl
      · simp only [if_neg c1, if_neg c2, Option.bind_some, if_true, decide_eq_false c1, decide_eq_false c2, bne_self_eq_false, Bool.false_eq_true, if_false]
  unfold f_X1_tellsApart ta
  obtain ⟨F1, S1, l1, l2, e1⟩ := one 0 (A 41) (A 42) (by decide) h41 h42
  obtain ⟨F2, S2, l3, l4, e2⟩ := one 1 F1 S1 (by decide) l1 l2
  rw [show ((0 : Int32), A 41, A 42) = (Int32.ofNat 0, A 41, A 42) from rfl]
  cases c1 : (decide (vs A 0 k h1 = 0) != decide (vs A 0 k h2 = 0)) with
  | true =>
    rw [c1, if_pos rfl] at e1
    exact ⟨F1, S1, by rw [show (100000 : Nat) = 99999 + 1 from rfl, wl_inr e1]; rfl, l1, l2⟩
  | false =>
    rw [c1, if_neg (by decide)] at e1
    cases c2 : (decide (vs A 1 k h1 = 0) != decide (vs A 1 k h2 = 0)) with
    | true =>
      rw [c2, if_pos rfl] at e2
      exact ⟨F2, S2, by rw [show (100000 : Nat) = 99998 + 1 + 1 from rfl, wl_inl e1, wl_inr e2]; rfl, l3, l4⟩
    | false =>
      rw [c2, if_neg (by decide)] at e2
      refine ⟨F2, S2, ?_, l3, l4⟩
      have e3 : f_X1_tellsApart_l1 A I x (Int32.ofNat k) h1 h2 (Int32.ofNat 2, F2, S2) = some (.inr (.inl (F2, S2))) := rfl
      rw [show (100000 : Nat) = 99997 + 1 + 1 + 1 from rfl, wl_inl e1, wl_inl e2, wl_inr e3]
      rfl
theorem changed_c {P N T X l : Nat} {A : Nat → List Int32} {I : Nat → Int32} {x : am_X} (hP : hPpl P A I) (hT : hTrn T A I) (hA : hAct N A I) (hX : hTxt X A I x) (h41 : (A 41).length = 6) (h42 : (A 42).length = 40) (f s : Int32) : ∃ F S, f_X1_changedBy A I x (Int32.ofNat l) f s = some (Int32.ofNat (bset (fun k => decide (lnd A k = Int32.ofNat l) && ta A k (sd T A (Int32.ofNat l) (g (A 97) k)) (sd (T + 1) (nt T A (Int32.ofNat l) f s) (Int32.ofNat l) (g (A 97) k))) N), F, S) ∧ F.length = 6 ∧ S.length = 40 := by
  have hA2 := hA
  obtain ⟨⟨a1, a2, a3, a4, a5, a6⟩, ⟨b1, b2, b3, b4, b5, b6, b7, b8⟩, c1, c2, c3, ho⟩ := hA
  obtain ⟨r, e, Q⟩ := wl_inv (s1 := f_X1_changedBy_l1 A I x (Int32.ofNat l) f s) (fun n y => ∃ k F S, y = (Int32.ofNat (bset (fun k => decide (lnd A k = Int32.ofNat l) && ta A k (sd T A (Int32.ofNat l) (g (A 97) k)) (sd (T + 1) (nt T A (Int32.ofNat l) f s) (Int32.ofNat l) (g (A 97) k))) k), Int32.ofNat k, F, S) ∧ n + k = N ∧ F.length = 6 ∧ S.length = 40) (fun r => ∃ F S, r = (Int32.ofNat (bset (fun k => decide (lnd A k = Int32.ofNat l) && ta A k (sd T A (Int32.ofNat l) (g (A 97) k)) (sd (T + 1) (nt T A (Int32.ofNat l) f s) (Int32.ofNat l) (g (A 97) k))) N), F, S) ∧ F.length = 6 ∧ S.length = 40) (fun n y => by
    rintro ⟨k, F, S, rfl, hnk, hF, hS⟩
    unfold f_X1_changedBy_l1
    dsimp only
    rw [c2]
    by_cases hk : N ≤ k
    · right
      rw [if_pos (by rw [i_le (by omega) (by omega)]; exact hk)]
      have : k = N := by omega
      subst this
      exact ⟨_, rfl, F, S, rfl, hF, hS⟩
    · left
      have q1 : f_X1_landOf (up (up A 41 F) 42 S) I (Int32.ofNat k) = some (lnd A k) := (lnd_1 (A := up (up A 41 F) 42 S) (I := I) hP hA2 (show k < 24 by omega)).1
      have q2 : am_at (A 33) (Int32.ofNat k) = some (g (A 97) k) := by rw [a4]; exact am_at_g (by omega) (by omega)
      have q3 : f_X6_sideOn (up (up A 41 F) 42 S) I (Int32.ofNat l) (g (A 97) k) = some (sd T A (Int32.ofNat l) (g (A 97) k)) := (side_c (A := up (up A 41 F) 42 S) (I := I) hT _ _).1
      have q4 : f_X6_sideIfTurned (up (up A 41 F) 42 S) I (Int32.ofNat l) (g (A 97) k) f s = some (sd (T + 1) (nt T A (Int32.ofNat l) f s) (Int32.ofNat l) (g (A 97) k)) := ifturned_1 (A := up (up A 41 F) 42 S) (I := I) hT _ _ _ _
      have z0 : ∀ y : Int32, y ||| 0 = y := fun y => by
        apply Int32.toBitVec_inj.mp
        show y.toBitVec ||| 0#32 = y.toBitVec
        exact BitVec.or_zero
      rw [if_neg (by rw [i_le (by omega) (by omega)]; exact hk), q1, Option.bind_some, q2, Option.bind_some, q3, Option.bind_some, Option.bind_some, q4, Option.bind_some, i_addr]
      have fin : ∀ F' S', F'.length = 6 → S'.length = 40 → ∃ x', some (Sum.inl (Int32.ofNat (bset (fun k => decide (lnd A k = Int32.ofNat l) && ta A k (sd T A (Int32.ofNat l) (g (A 97) k)) (sd (T + 1) (nt T A (Int32.ofNat l) f s) (Int32.ofNat l) (g (A 97) k))) (k + 1)), Int32.ofNat (k + 1), F', S') : (Int32 × Int32 × List Int32 × List Int32) ⊕ (Int32 × List Int32 × List Int32)) = some (.inl x') ∧ ∃ n', n' < n ∧ ∃ k F S, x' = (Int32.ofNat (bset (fun k => decide (lnd A k = Int32.ofNat l) && ta A k (sd T A (Int32.ofNat l) (g (A 97) k)) (sd (T + 1) (nt T A (Int32.ofNat l) f s) (Int32.ofNat l) (g (A 97) k))) k), Int32.ofNat k, F, S) ∧ n' + k = N ∧ F.length = 6 ∧ S.length = 40 := fun F' S' h1 h2 => ⟨_, rfl, n - 1, by omega, k + 1, F', S', rfl, by omega, h1, h2⟩
      by_cases h1 : lnd A k = Int32.ofNat l
      · rw [if_pos h1]
        by_cases h2 : sd T A (Int32.ofNat l) (g (A 97) k) = sd (T + 1) (nt T A (Int32.ofNat l) f s) (Int32.ofNat l) (g (A 97) k)
        · rw [if_pos h2]
          have := fin F S hF hS
          rw [← i_bset (by omega)] at this
          have ht : ta A k (sd T A (Int32.ofNat l) (g (A 97) k)) (sd (T + 1) (nt T A (Int32.ofNat l) f s) (Int32.ofNat l) (g (A 97) k)) = false := by
            rw [← h2]; unfold ta; rw [bne_self_eq_false, bne_self_eq_false]; rfl
          rw [ht, Bool.and_false, if_neg (by decide)] at this
          exact this
        · rw [if_neg h2]
          obtain ⟨F', S', e, m1, m2⟩ := tells_1 (A := up (up A 41 F) 42 S) (I := I) (x := x) hA2 hX hF hS (show k < 24 by omega) (sd T A (Int32.ofNat l) (g (A 97) k)) (sd (T + 1) (nt T A (Int32.ofNat l) f s) (Int32.ofNat l) (g (A 97) k))
          rw [e, Option.bind_some]
          have := fin F' S' m1 m2
          rw [← i_bset (by omega), decide_eq_true h1, Bool.true_and] at this
          cases ht : ta A k (sd T A (Int32.ofNat l) (g (A 97) k)) (sd (T + 1) (nt T A (Int32.ofNat l) f s) (Int32.ofNat l) (g (A 97) k)) with
          | true =>
            rw [ht, if_pos rfl] at this
            have ht2 : ta (up (up A 41 F) 42 S) k (sd T A (Int32.ofNat l) (g (A 97) k)) (sd (T + 1) (nt T A (Int32.ofNat l) f s) (Int32.ofNat l) (g (A 97) k)) = true := ht
            rw [ht2]
            exact this
          | false =>
            rw [ht, if_neg (by decide)] at this
            have ht2 : ta (up (up A 41 F) 42 S) k (sd T A (Int32.ofNat l) (g (A 97) k)) (sd (T + 1) (nt T A (Int32.ofNat l) f s) (Int32.ofNat l) (g (A 97) k)) = false := ht
            rw [ht2]
            exact this
      · rw [if_neg h1]
        have := fin F S hF hS
        rw [← i_bset (by omega), decide_eq_false h1, Bool.false_and, if_neg (by decide), z0] at this
        exact this) N 100000 (0, 0, A 41, A 42) ⟨0, A 41, A 42, rfl, rfl, h41, h42⟩ (by omega)
  obtain ⟨F, S, rfl, l1, l2⟩ := Q
  refine ⟨F, S, ?_, l1, l2⟩
  unfold f_X1_changedBy
  rw [e]
  rfl
theorem changed_m {P N T l : Nat} {A : Nat → List Int32} {I : Nat → Int32} (hP : hPpl P A I) (hA : hAct N A I) (Z : Nat) : wl (f_X12_changed_l1 A I (Int32.ofNat l) (Int32.ofNat Z)) 100000 (0, 0) = some (Int32.ofNat (bset (fun k => decide (lnd A k = Int32.ofNat l) && Z.testBit k) N)) := by
  have hA2 := hA
  obtain ⟨⟨a1, a2, a3, a4, a5, a6⟩, ⟨b1, b2, b3, b4, b5, b6, b7, b8⟩, c1, c2, c3, ho⟩ := hA
  refine wl_for (step := f_X12_changed_l1 A I (Int32.ofNat l) (Int32.ofNat Z)) (fun k => (Int32.ofNat (bset (fun k => decide (lnd A k = Int32.ofNat l) && Z.testBit k) k), Int32.ofNat k)) N (fuel := 100000) (by omega) (fun k hk => ?_) ?_
  · show f_X12_changed_l1 A I _ _ (_, Int32.ofNat k) = some (.inl (Int32.ofNat (bset _ (k + 1)), Int32.ofNat (k + 1)))
    obtain ⟨-, q, -⟩ := lnd_1 hP hA2 (show k < 24 by omega)
    obtain ⟨-, ⟨p, hp, ep⟩, -⟩ := ho k (by omega)
    have r1 : am_at (A 95) (Int32.ofNat k) = some (Int32.ofNat p) := by rw [← ep]; exact am_at_g (by omega) (by omega)
    rw [r1, Option.bind_some] at q
    unfold f_X12_changed_l1
    dsimp only
    rw [c3, if_neg (by rw [i_le (by omega) (by omega)]; omega), r1, Option.bind_some, q, Option.bind_some, i_addr]
    have z0 : ∀ y : Int32, y ||| 0 = y := fun y => by
      apply Int32.toBitVec_inj.mp
      show y.toBitVec ||| 0#32 = y.toBitVec
      exact BitVec.or_zero
    by_cases h1 : lnd A k = Int32.ofNat l
    · rw [if_pos h1, Option.bind_some, i_1shl (by omega), i_and, i_or]
      show _ = some (Sum.inl (Int32.ofNat (bset _ k ||| (if (decide (lnd A k = Int32.ofNat l) && Z.testBit k) = true then 2 ^ k else 0)), _))
      rw [decide_eq_true h1, Bool.true_and]
      have key : Z &&& 2 ^ k = if Z.testBit k = true then 2 ^ k else 0 := by
        apply Nat.eq_of_testBit_eq
        intro i
        rw [Nat.testBit_and]
        cases hz : Z.testBit k with
        | true =>
          rw [if_pos rfl]
          by_cases e : k = i
          · subst e; rw [hz, Bool.true_and]
          · rw [Nat.testBit_two_pow_of_ne e, Bool.and_false]
        | false =>
          rw [if_neg (by decide), Nat.zero_testBit]
          by_cases e : k = i
          · subst e; rw [hz, Bool.false_and]
          · rw [Nat.testBit_two_pow_of_ne e, Bool.and_false]
      rw [key]
    · rw [if_neg h1, Option.bind_some, ← i_bset (by omega), decide_eq_false h1, Bool.false_and, if_neg (by decide), z0]
  · show f_X12_changed_l1 A I _ _ (_, Int32.ofNat N) = _
    unfold f_X12_changed_l1
    dsimp only
    rw [c3, if_pos (Int32.le_refl _)]

theorem op_changed (xs : List Int32) {n : Nat} {A : Nat → List Int32} {I : Nat → Int32} {x : am_X} (h : Iv0 n A I x) (a1 : Int32) (a2 : Int32) (a3 : Int32) : am_op xs n ix_X11_changed ix_X12_changed [.int a1, .int a2, .int a3] A I x := by
  obtain ⟨⟨P, N, T, R, E, C, X, Z, hI⟩, hx⟩ := h
  obtain ⟨h41, h42, -, -, -, -, -, -, -, -, -, h107, h108, -⟩ := scr_get hI.2.2.2.2.2.2.2.2.2.2.2.2
  have hP := hI.1
  have hT := hI.2.2.1
  have hA := hI.2.2.2.1
  have hR := hI.2.2.2.2.2.1
  have hX := hI.2.2.2.2.2.2.2.2.2.2.2.1
  have hN : N ≤ 24 := hA.2.2.1
  obtain ⟨⟨t1, t2, t3, t4, t5, t6⟩, t7, t8, t9, t10⟩ := id hT
  rcases wi_l 7 (by decide) a1 with w | ⟨l, hl, rfl, w⟩
  · skip
    have e1 : f_X11_changed A I x a1 a2 a3 = some (-2, (A 41), (A 42)) := by
      simp (disch := first | omega | decide | assumption | (simp [up_app]; assumption)) [-Int32.xor_neg_one, -Int32.ofNat_add, -Int32.ofNat_mul, -Int32.ofNat_sub, i_lel, i_ler, i_ltl, i_ltr, i_eql, i_eqr, i_le, i_lt, i_eq, i_addl, i_addr, i_add, i_mull, i_mulr, i_mul, i_subr, i_sub, am_at_g, am_at_gl, am_up_g, am_up_gl, up_app, in_X, i_sub1, f_X11_changed, f_X11_isLand, w]
    have e2 : f_X12_changed (up (up A 41 (A 41)) 42 (A 42)) I a1 a2 a3 = some (-2, (A 91), (A 92), (A 93), (A 107), (A 108), (I 5443)) := by
      simp (disch := first | omega | decide | assumption | (simp [up_app]; assumption)) [-Int32.xor_neg_one, -Int32.ofNat_add, -Int32.ofNat_mul, -Int32.ofNat_sub, i_lel, i_ler, i_ltl, i_ltr, i_eql, i_eqr, i_le, i_lt, i_eq, i_addl, i_addr, i_add, i_mull, i_mulr, i_mul, i_subr, i_sub, am_at_g, am_at_gl, am_up_g, am_up_gl, up_app, in_X, i_sub1, f_X12_changed, f_X12_isTurn, f_X12_isLand, w]
    have c1 := t_X11_changed (xs := xs) A I x a1 a2 a3 e1
    have c2 := t_X12_changed (xs := xs) (up (up A 41 (A 41)) 42 (A 42)) I x a1 a2 a3 e2
    exact am_op.mk hx c1 (by decide) c2 (by decide) ⟨P, N, T, R, E, C, X, Z, ⟨hI.1, hI.2.1, hI.2.2.1, hI.2.2.2.1, hI.2.2.2.2.1, hI.2.2.2.2.2.1, hI.2.2.2.2.2.2.1, hI.2.2.2.2.2.2.2.1, hI.2.2.2.2.2.2.2.2.1, hI.2.2.2.2.2.2.2.2.2.1, hI.2.2.2.2.2.2.2.2.2.2.1, hI.2.2.2.2.2.2.2.2.2.2.2.1, hI.2.2.2.2.2.2.2.2.2.2.2.2⟩⟩
  · rcases wi_l 9999 (by decide) a2 with w2 | ⟨d, hd, rfl, w2⟩
    · skip
      have e1 : f_X11_changed A I x (Int32.ofNat l) a2 a3 = some (-2, (A 41), (A 42)) := by
        simp (disch := first | omega | decide | assumption | (simp [up_app]; assumption)) [-Int32.xor_neg_one, -Int32.ofNat_add, -Int32.ofNat_mul, -Int32.ofNat_sub, i_lel, i_ler, i_ltl, i_ltr, i_eql, i_eqr, i_le, i_lt, i_eq, i_addl, i_addr, i_add, i_mull, i_mulr, i_mul, i_subr, i_sub, am_at_g, am_at_gl, am_up_g, am_up_gl, up_app, in_X, i_sub1, f_X11_changed, f_X11_isLand, f_X11_isDay, w, w2]
      have e2 : f_X12_changed (up (up A 41 (A 41)) 42 (A 42)) I (Int32.ofNat l) a2 a3 = some (-2, (A 91), (A 92), (A 93), (A 107), (A 108), (I 5443)) := by
        simp (disch := first | omega | decide | assumption | (simp [up_app]; assumption)) [-Int32.xor_neg_one, -Int32.ofNat_add, -Int32.ofNat_mul, -Int32.ofNat_sub, i_lel, i_ler, i_ltl, i_ltr, i_eql, i_eqr, i_le, i_lt, i_eq, i_addl, i_addr, i_add, i_mull, i_mulr, i_mul, i_subr, i_sub, am_at_g, am_at_gl, am_up_g, am_up_gl, up_app, in_X, i_sub1, f_X12_changed, f_X12_isTurn, f_X12_isLand, f_X12_isDay, w, w2]
      have c1 := t_X11_changed (xs := xs) A I x (Int32.ofNat l) a2 a3 e1
      have c2 := t_X12_changed (xs := xs) (up (up A 41 (A 41)) 42 (A 42)) I x (Int32.ofNat l) a2 a3 e2
      exact am_op.mk hx c1 (by decide) c2 (by decide) ⟨P, N, T, R, E, C, X, Z, ⟨hI.1, hI.2.1, hI.2.2.1, hI.2.2.2.1, hI.2.2.2.2.1, hI.2.2.2.2.2.1, hI.2.2.2.2.2.2.1, hI.2.2.2.2.2.2.2.1, hI.2.2.2.2.2.2.2.2.1, hI.2.2.2.2.2.2.2.2.2.1, hI.2.2.2.2.2.2.2.2.2.2.1, hI.2.2.2.2.2.2.2.2.2.2.2.1, hI.2.2.2.2.2.2.2.2.2.2.2.2⟩⟩
    · rcases wi_l 1 (by decide) a3 with w3 | ⟨s, hs, rfl, w3⟩
      · skip
        have e1 : f_X11_changed A I x (Int32.ofNat l) (Int32.ofNat d) a3 = some (-2, (A 41), (A 42)) := by
          simp (disch := first | omega | decide | assumption | (simp [up_app]; assumption)) [-Int32.xor_neg_one, -Int32.ofNat_add, -Int32.ofNat_mul, -Int32.ofNat_sub, i_lel, i_ler, i_ltl, i_ltr, i_eql, i_eqr, i_le, i_lt, i_eq, i_addl, i_addr, i_add, i_mull, i_mulr, i_mul, i_subr, i_sub, am_at_g, am_at_gl, am_up_g, am_up_gl, up_app, in_X, i_sub1, f_X11_changed, f_X11_isLand, f_X11_isDay, w, w2, w3]
        have e2 : f_X12_changed (up (up A 41 (A 41)) 42 (A 42)) I (Int32.ofNat l) (Int32.ofNat d) a3 = some (-2, (A 91), (A 92), (A 93), (A 107), (A 108), (I 5443)) := by
          simp (disch := first | omega | decide | assumption | (simp [up_app]; assumption)) [-Int32.xor_neg_one, -Int32.ofNat_add, -Int32.ofNat_mul, -Int32.ofNat_sub, i_lel, i_ler, i_ltl, i_ltr, i_eql, i_eqr, i_le, i_lt, i_eq, i_addl, i_addr, i_add, i_mull, i_mulr, i_mul, i_subr, i_sub, am_at_g, am_at_gl, am_up_g, am_up_gl, up_app, in_X, i_sub1, f_X12_changed, f_X12_isTurn, f_X12_isLand, f_X12_isDay, w, w2, w3]
        have c1 := t_X11_changed (xs := xs) A I x (Int32.ofNat l) (Int32.ofNat d) a3 e1
        have c2 := t_X12_changed (xs := xs) (up (up A 41 (A 41)) 42 (A 42)) I x (Int32.ofNat l) (Int32.ofNat d) a3 e2
        exact am_op.mk hx c1 (by decide) c2 (by decide) ⟨P, N, T, R, E, C, X, Z, ⟨hI.1, hI.2.1, hI.2.2.1, hI.2.2.2.1, hI.2.2.2.2.1, hI.2.2.2.2.2.1, hI.2.2.2.2.2.2.1, hI.2.2.2.2.2.2.2.1, hI.2.2.2.2.2.2.2.2.1, hI.2.2.2.2.2.2.2.2.2.1, hI.2.2.2.2.2.2.2.2.2.2.1, hI.2.2.2.2.2.2.2.2.2.2.2.1, hI.2.2.2.2.2.2.2.2.2.2.2.2⟩⟩
      · obtain ⟨F1, S1, x1, l1, l2⟩ := changed_c (l := l) hP hT hA hX h41 h42 (Int32.ofNat d) (Int32.ofNat s)
        obtain ⟨G0, T0, y1, m1, m2⟩ := tr_m0 (s := 0) (A := (up (up A 41 F1) 42 S1)) (I := I) (x := x) hP (hTm_of hT) hA hX h107 h108 (by decide)
        obtain ⟨G1, T1, y2, m3, m4⟩ := tr_m0 (s := 1) (A := up (up (up (up A 41 F1) 42 S1) 107 G0) 108 T0) (I := I) (x := x) hP (hTm_of hT) hA hX m1 m2 (by decide)
        have hTm2 : ∀ F S, hTm (T + 1) (up (up (up (up (up (up (up A 41 F1) 42 S1) 91 ((A 91).set T (Int32.ofNat l))) 92 ((A 92).set T (Int32.ofNat d))) 93 ((A 93).set T (Int32.ofNat s))) 107 F) 108 S) (up I 5443 (Int32.ofNat (T + 1))) := fun F S => ⟨by omega, rfl, by rw [← t4]; exact List.length_set, by rw [← t5]; exact List.length_set, by rw [← t6]; exact List.length_set⟩
        obtain ⟨G2, T2, y3, m5, m6⟩ := tr_m0 (s := 0) (A := (up (up (up (up (up (up (up A 41 F1) 42 S1) 91 ((A 91).set T (Int32.ofNat l))) 92 ((A 92).set T (Int32.ofNat d))) 93 ((A 93).set T (Int32.ofNat s))) 107 G1) 108 T1)) (I := up I 5443 (Int32.ofNat (T + 1))) (x := x) hP (hTm2 G1 T1) hA hX m3 m4 (by decide)
        obtain ⟨F2, S2, y4, l3, l4⟩ := tr_m0 (s := 1) (A := (up (up (up (up (up (up (up A 41 F1) 42 S1) 91 ((A 91).set T (Int32.ofNat l))) 92 ((A 92).set T (Int32.ofNat d))) 93 ((A 93).set T (Int32.ofNat s))) 107 G2) 108 T2)) (I := up I 5443 (Int32.ofNat (T + 1))) (x := x) hP (hTm2 G2 T2) hA hX m5 m6 (by decide)
        have y1 : f_X12_soundBy (up (up A 41 F1) 42 S1) I 0 = some (Int32.ofNat (tr N T A 0 0), G0, T0) := y1
        have y2 : f_X12_soundBy (up (up (up (up A 41 F1) 42 S1) 107 G0) 108 T0) I 1 = some (Int32.ofNat (tr N T A 1 0), G1, T1) := y2
        have y3 : f_X12_soundBy (up (up (up (up (up (up (up A 41 F1) 42 S1) 91 ((A 91).set T (Int32.ofNat l))) 92 ((A 92).set T (Int32.ofNat d))) 93 ((A 93).set T (Int32.ofNat s))) 107 G1) 108 T1) (up I 5443 (Int32.ofNat (T + 1))) 0 = some (Int32.ofNat (tr N (T + 1) (nt T A (Int32.ofNat l) (Int32.ofNat d) (Int32.ofNat s)) 0 0), G2, T2) := y3
        have y4 : f_X12_soundBy (up (up (up (up (up (up (up A 41 F1) 42 S1) 91 ((A 91).set T (Int32.ofNat l))) 92 ((A 92).set T (Int32.ofNat d))) 93 ((A 93).set T (Int32.ofNat s))) 107 G2) 108 T2) (up I 5443 (Int32.ofNat (T + 1))) 1 = some (Int32.ofNat (tr N (T + 1) (nt T A (Int32.ofNat l) (Int32.ofNat d) (Int32.ofNat s)) 1 0), F2, S2) := y4
        have y5 : wl (f_X12_changed_l1 (up (up (up (up (up (up (up A 41 F1) 42 S1) 91 ((A 91).set T (Int32.ofNat l))) 92 ((A 92).set T (Int32.ofNat d))) 93 ((A 93).set T (Int32.ofNat s))) 107 F2) 108 S2) (up I 5443 (Int32.ofNat T)) (Int32.ofNat l) (Int32.ofNat ((tr N T A 0 0 ^^^ tr N (T + 1) (nt T A (Int32.ofNat l) (Int32.ofNat d) (Int32.ofNat s)) 0 0) ||| (tr N T A 1 0 ^^^ tr N (T + 1) (nt T A (Int32.ofNat l) (Int32.ofNat d) (Int32.ofNat s)) 1 0)))) 100000 (0, 0) = some (Int32.ofNat (bset (fun k => decide (lnd A k = Int32.ofNat l) && ((tr N T A 0 0 ^^^ tr N (T + 1) (nt T A (Int32.ofNat l) (Int32.ofNat d) (Int32.ofNat s)) 0 0) ||| (tr N T A 1 0 ^^^ tr N (T + 1) (nt T A (Int32.ofNat l) (Int32.ofNat d) (Int32.ofNat s)) 1 0)).testBit k) N)) := changed_m (A := (up (up (up (up (up (up (up A 41 F1) 42 S1) 91 ((A 91).set T (Int32.ofNat l))) 92 ((A 92).set T (Int32.ofNat d))) 93 ((A 93).set T (Int32.ofNat s))) 107 F2) 108 S2)) (I := up I 5443 (Int32.ofNat T)) (T := T) hP hA _
        have y6 : bset (fun k => decide (lnd A k = Int32.ofNat l) && ((tr N T A 0 0 ^^^ tr N (T + 1) (nt T A (Int32.ofNat l) (Int32.ofNat d) (Int32.ofNat s)) 0 0) ||| (tr N T A 1 0 ^^^ tr N (T + 1) (nt T A (Int32.ofNat l) (Int32.ofNat d) (Int32.ofNat s)) 1 0)).testBit k) N = bset (fun k => decide (lnd A k = Int32.ofNat l) && ta A k (sd T A (Int32.ofNat l) (g (A 97) k)) (sd (T + 1) (nt T A (Int32.ofNat l) (Int32.ofNat d) (Int32.ofNat s)) (Int32.ofNat l) (g (A 97) k))) N := bset_congr (fun k hk => by
          by_cases e : lnd A k = Int32.ofNat l
          · rw [decide_eq_true e, Bool.true_and, Bool.true_and, Nat.testBit_or, Nat.testBit_xor, Nat.testBit_xor]
            have b1 : ∀ u, (tr N T A u 0).testBit k = !decide (vs A u k (sd T A (Int32.ofNat l) (g (A 97) k)) = 0) := fun u => by
              unfold tr
              rw [bset_tb, decide_eq_true hk, Bool.true_and, vl_vs, e]
            have b2 : ∀ u, (tr N (T + 1) (nt T A (Int32.ofNat l) (Int32.ofNat d) (Int32.ofNat s)) u 0).testBit k = !decide (vs A u k (sd (T + 1) (nt T A (Int32.ofNat l) (Int32.ofNat d) (Int32.ofNat s)) (Int32.ofNat l) (g (A 97) k)) = 0) := fun u => by
              unfold tr
              rw [bset_tb, decide_eq_true hk, Bool.true_and, vl_vs, show lnd (nt T A (Int32.ofNat l) (Int32.ofNat d) (Int32.ofNat s)) k = Int32.ofNat l from e]
              rfl
            rw [b1, b1, b2, b2]
            unfold ta
            cases decide (vs A 0 k (sd T A (Int32.ofNat l) (g (A 97) k)) = 0) <;> cases decide (vs A 1 k (sd T A (Int32.ofNat l) (g (A 97) k)) = 0) <;> cases decide (vs A 0 k (sd (T + 1) (nt T A (Int32.ofNat l) (Int32.ofNat d) (Int32.ofNat s)) (Int32.ofNat l) (g (A 97) k)) = 0) <;> cases decide (vs A 1 k (sd (T + 1) (nt T A (Int32.ofNat l) (Int32.ofNat d) (Int32.ofNat s)) (Int32.ofNat l) (g (A 97) k)) = 0) <;> rfl
          · rw [decide_eq_false e, Bool.false_and, Bool.false_and])
        rw [y6] at y5
        have q9 := scr_4 hI.2.2.2.2.2.2.2.2.2.2.2.2 l1 l2 l3 l4
        have q3 : v_trn T (A 20) (A 21) (A 22) (I 69) ((A 91).set T (Int32.ofNat l)) ((A 92).set T (Int32.ofNat d)) ((A 93).set T (Int32.ofNat s)) (Int32.ofNat T) := by
          refine ⟨⟨t1, t2, t3, by rw [← t4]; exact List.length_set, by rw [← t5]; exact List.length_set, by rw [← t6]; exact List.length_set⟩, t7, t8, rfl, fun k hk => ?_⟩
          rw [g_set_ne (by omega), g_set_ne (by omega), g_set_ne (by omega)]
          exact t10 k hk
        have e1 : f_X11_changed A I x (Int32.ofNat l) (Int32.ofNat d) (Int32.ofNat s) = some ((Int32.ofNat (bset (fun k => decide (lnd A k = Int32.ofNat l) && ta A k (sd T A (Int32.ofNat l) (g (A 97) k)) (sd (T + 1) (nt T A (Int32.ofNat l) (Int32.ofNat d) (Int32.ofNat s)) (Int32.ofNat l) (g (A 97) k))) N)), F1, S1) := by
          simp (disch := first | omega | decide | assumption | (simp [up_app]; assumption)) [-Int32.xor_neg_one, -Int32.ofNat_add, -Int32.ofNat_mul, -Int32.ofNat_sub, i_lel, i_ler, i_ltl, i_ltr, i_eql, i_eqr, i_le, i_lt, i_eq, i_addl, i_addr, i_add, i_mull, i_mulr, i_mul, i_subr, i_sub, am_at_g, am_at_gl, am_up_g, am_up_gl, up_app, in_X, i_sub1, f_X11_changed, f_X11_isLand, f_X11_isDay, w, w2, w3, x1]
        have e2 : f_X12_changed (up (up A 41 F1) 42 S1) I (Int32.ofNat l) (Int32.ofNat d) (Int32.ofNat s) = some ((Int32.ofNat (bset (fun k => decide (lnd A k = Int32.ofNat l) && ta A k (sd T A (Int32.ofNat l) (g (A 97) k)) (sd (T + 1) (nt T A (Int32.ofNat l) (Int32.ofNat d) (Int32.ofNat s)) (Int32.ofNat l) (g (A 97) k))) N)), ((A 91).set T (Int32.ofNat l)), ((A 92).set T (Int32.ofNat d)), ((A 93).set T (Int32.ofNat s)), F2, S2, (Int32.ofNat T)) := by
          unfold f_X12_changed f_X12_isTurn f_X12_isLand f_X12_isDay
          rw [in_X, w]
          dsimp only [Option.bind_some]
          rw [if_neg (show ¬ (1 : Int32) = 0 by decide), in_X, w2]
          dsimp only [Option.bind_some]
          rw [if_neg (show ¬ (1 : Int32) = 0 by decide), in_X, w3]
          dsimp only [Option.bind_some]
          rw [if_neg (show ¬ (1 : Int32) = 0 by decide), y1]
          dsimp only [Option.bind_some]
          rw [if_neg (show ¬ (1 : Int32) = 0 by decide), y2]
          dsimp only [Option.bind_some]
          have hn : f_X12_note (up (up (up (up A 41 F1) 42 S1) 107 G1) 108 T1) I (Int32.ofNat l) (Int32.ofNat d) (Int32.ofNat s) = some ((A 91).set T (Int32.ofNat l), (A 92).set T (Int32.ofNat d), (A 93).set T (Int32.ofNat s), Int32.ofNat (T + 1)) := by
            unfold f_X12_note
            rw [t9, show up (up (up (up A 41 F1) 42 S1) 107 G1) 108 T1 91 = A 91 from rfl, show up (up (up (up A 41 F1) 42 S1) 107 G1) 108 T1 92 = A 92 from rfl, show up (up (up (up A 41 F1) 42 S1) 107 G1) 108 T1 93 = A 93 from rfl, am_up_g (by omega) (by omega), am_up_g (by omega) (by omega), am_up_g (by omega) (by omega), i_addr]
            rfl
          rw [hn]
          dsimp only [Option.bind_some]
          rw [y3]
          dsimp only [Option.bind_some]
          rw [y4]
          dsimp only [Option.bind_some]
          rw [i_sub1, i_xor, i_xor, i_or, y5]
          rfl
        have c1 := t_X11_changed (xs := xs) A I x (Int32.ofNat l) (Int32.ofNat d) (Int32.ofNat s) e1
        have c2 := t_X12_changed (xs := xs) (up (up A 41 F1) 42 S1) I x (Int32.ofNat l) (Int32.ofNat d) (Int32.ofNat s) e2
        exact am_op.mk hx c1 (by decide) c2 (by decide) ⟨P, N, T, R, E, C, X, Z, ⟨hI.1, hI.2.1, q3, hI.2.2.2.1, hI.2.2.2.2.1, hI.2.2.2.2.2.1, hI.2.2.2.2.2.2.1, hI.2.2.2.2.2.2.2.1, hI.2.2.2.2.2.2.2.2.1, hI.2.2.2.2.2.2.2.2.2.1, hI.2.2.2.2.2.2.2.2.2.2.1, hI.2.2.2.2.2.2.2.2.2.2.2.1, q9⟩⟩
