/-! ===== calls that ask of ACTS under a SIDE (by wip/whole/gen_ops2.py) ===== -/
theorem op_says (xs : List Int32) {n : Nat} {A : Nat → List Int32} {I : Nat → Int32} {x : am_X} (h : Iv0 n A I x) (a1 : Int32) (a2 : Int32) (a3 : Int32) : am_opl xs n ix_X11_says ix_X12_says [.int a1, .int a2, .int a3] A I x := by
  obtain ⟨⟨P, N, T, R, E, C, X, Z, hI⟩, hx⟩ := h
  obtain ⟨h41, h42, -, -, -, -, -, -, -, -, -, h107, h108, -⟩ := scr_get hI.2.2.2.2.2.2.2.2.2.2.2.2
  have hP := hI.1
  have hT := hI.2.2.1
  have hA := hI.2.2.2.1
  have hX := hI.2.2.2.2.2.2.2.2.2.2.2.1
  have hN : N ≤ 24 := hA.2.2.1
  rcases wi_l 2 (by decide) a1 with w | ⟨s, hs, rfl, w⟩
  · skip
    have e1 : f_X11_says A I x a1 a2 a3 = some ((-4611686018427387904), (A 41), (A 42)) := by
      simp (disch := first | omega | decide | assumption | (simp [up_app]; assumption)) [-Int32.xor_neg_one, -Int32.ofNat_add, -Int32.ofNat_mul, -Int32.ofNat_sub, i_lel, i_ler, i_ltl, i_ltr, i_eql, i_eqr, i_le, i_lt, i_eq, i_addl, i_addr, i_add, i_mull, i_mulr, i_mul, i_subr, i_sub, am_at_g, am_at_gl, am_up_g, am_up_gl, up_app, in_X, i_sub1, f_X11_says, f_X11_isSide, w]
    have e2 : f_X12_says (up (up A 41 (A 41)) 42 (A 42)) I a1 a2 a3 = some ((-4611686018427387904), (A 107), (A 108)) := by
      simp (disch := first | omega | decide | assumption | (simp [up_app]; assumption)) [-Int32.xor_neg_one, -Int32.ofNat_add, -Int32.ofNat_mul, -Int32.ofNat_sub, i_lel, i_ler, i_ltl, i_ltr, i_eql, i_eqr, i_le, i_lt, i_eq, i_addl, i_addr, i_add, i_mull, i_mulr, i_mul, i_subr, i_sub, am_at_g, am_at_gl, am_up_g, am_up_gl, up_app, in_X, i_sub1, f_X12_says, f_X12_isSide, w]
    have c1 := t_X11_says (xs := xs) A I x a1 a2 a3 e1
    have c2 := t_X12_says (xs := xs) (up (up A 41 (A 41)) 42 (A 42)) I x a1 a2 a3 e2
    exact am_opl.mk hx c1 (by decide) c2 (by decide) ⟨P, N, T, R, E, C, X, Z, ⟨hI.1, hI.2.1, hI.2.2.1, hI.2.2.2.1, hI.2.2.2.2.1, hI.2.2.2.2.2.1, hI.2.2.2.2.2.2.1, hI.2.2.2.2.2.2.2.1, hI.2.2.2.2.2.2.2.2.1, hI.2.2.2.2.2.2.2.2.2.1, hI.2.2.2.2.2.2.2.2.2.2.1, hI.2.2.2.2.2.2.2.2.2.2.2.1, hI.2.2.2.2.2.2.2.2.2.2.2.2⟩⟩
  · rcases c_Act N (by omega) a2 with ⟨w2, w3⟩ | ⟨k, hk, rfl, w2, w3⟩
    · have w2 := w2 A I hA.2.2.2.1
      have w3 := w3 (up (up A 41 (A 41)) 42 (A 42)) I hA.2.2.2.2.1
      have e1 : f_X11_says A I x (Int32.ofNat s) a2 a3 = some ((-4611686018427387904), (A 41), (A 42)) := by
        simp (disch := first | omega | decide | assumption | (simp [up_app]; assumption)) [-Int32.xor_neg_one, -Int32.ofNat_add, -Int32.ofNat_mul, -Int32.ofNat_sub, i_lel, i_ler, i_ltl, i_ltr, i_eql, i_eqr, i_le, i_lt, i_eq, i_addl, i_addr, i_add, i_mull, i_mulr, i_mul, i_subr, i_sub, am_at_g, am_at_gl, am_up_g, am_up_gl, up_app, in_X, i_sub1, f_X11_says, f_X11_isSide, w, w2]
      have e2 : f_X12_says (up (up A 41 (A 41)) 42 (A 42)) I (Int32.ofNat s) a2 a3 = some ((-4611686018427387904), (A 107), (A 108)) := by
        simp (disch := first | omega | decide | assumption | (simp [up_app]; assumption)) [-Int32.xor_neg_one, -Int32.ofNat_add, -Int32.ofNat_mul, -Int32.ofNat_sub, i_lel, i_ler, i_ltl, i_ltr, i_eql, i_eqr, i_le, i_lt, i_eq, i_addl, i_addr, i_add, i_mull, i_mulr, i_mul, i_subr, i_sub, am_at_g, am_at_gl, am_up_g, am_up_gl, up_app, in_X, i_sub1, f_X12_says, f_X12_isSide, w, w3]
      have c1 := t_X11_says (xs := xs) A I x (Int32.ofNat s) a2 a3 e1
      have c2 := t_X12_says (xs := xs) (up (up A 41 (A 41)) 42 (A 42)) I x (Int32.ofNat s) a2 a3 e2
      exact am_opl.mk hx c1 (by decide) c2 (by decide) ⟨P, N, T, R, E, C, X, Z, ⟨hI.1, hI.2.1, hI.2.2.1, hI.2.2.2.1, hI.2.2.2.2.1, hI.2.2.2.2.2.1, hI.2.2.2.2.2.2.1, hI.2.2.2.2.2.2.2.1, hI.2.2.2.2.2.2.2.2.1, hI.2.2.2.2.2.2.2.2.2.1, hI.2.2.2.2.2.2.2.2.2.2.1, hI.2.2.2.2.2.2.2.2.2.2.2.1, hI.2.2.2.2.2.2.2.2.2.2.2.2⟩⟩
    · have w2 := w2 A I hA.2.2.2.1
      rcases wi_l 1 (by decide) a3 with w4 | ⟨q, hq, rfl, w4⟩
      · have w3 := w3 (up (up A 41 (A 41)) 42 (A 42)) I hA.2.2.2.2.1
        have e1 : f_X11_says A I x (Int32.ofNat s) (Int32.ofNat k) a3 = some ((-4611686018427387904), (A 41), (A 42)) := by
          simp (disch := first | omega | decide | assumption | (simp [up_app]; assumption)) [-Int32.xor_neg_one, -Int32.ofNat_add, -Int32.ofNat_mul, -Int32.ofNat_sub, i_lel, i_ler, i_ltl, i_ltr, i_eql, i_eqr, i_le, i_lt, i_eq, i_addl, i_addr, i_add, i_mull, i_mulr, i_mul, i_subr, i_sub, am_at_g, am_at_gl, am_up_g, am_up_gl, up_app, in_X, i_sub1, f_X11_says, f_X11_isSide, w, w2, w4]
        have e2 : f_X12_says (up (up A 41 (A 41)) 42 (A 42)) I (Int32.ofNat s) (Int32.ofNat k) a3 = some ((-4611686018427387904), (A 107), (A 108)) := by
          simp (disch := first | omega | decide | assumption | (simp [up_app]; assumption)) [-Int32.xor_neg_one, -Int32.ofNat_add, -Int32.ofNat_mul, -Int32.ofNat_sub, i_lel, i_ler, i_ltl, i_ltr, i_eql, i_eqr, i_le, i_lt, i_eq, i_addl, i_addr, i_add, i_mull, i_mulr, i_mul, i_subr, i_sub, am_at_g, am_at_gl, am_up_g, am_up_gl, up_app, in_X, i_sub1, f_X12_says, f_X12_isSide, w, w3, w4]
        have c1 := t_X11_says (xs := xs) A I x (Int32.ofNat s) (Int32.ofNat k) a3 e1
        have c2 := t_X12_says (xs := xs) (up (up A 41 (A 41)) 42 (A 42)) I x (Int32.ofNat s) (Int32.ofNat k) a3 e2
        exact am_opl.mk hx c1 (by decide) c2 (by decide) ⟨P, N, T, R, E, C, X, Z, ⟨hI.1, hI.2.1, hI.2.2.1, hI.2.2.2.1, hI.2.2.2.2.1, hI.2.2.2.2.2.1, hI.2.2.2.2.2.2.1, hI.2.2.2.2.2.2.2.1, hI.2.2.2.2.2.2.2.2.1, hI.2.2.2.2.2.2.2.2.2.1, hI.2.2.2.2.2.2.2.2.2.2.1, hI.2.2.2.2.2.2.2.2.2.2.2.1, hI.2.2.2.2.2.2.2.2.2.2.2.2⟩⟩
      · obtain ⟨F1, S1, x1, l1, l2⟩ := valueOf_c hP hT hA hX h41 h42 (show s < 3 by omega) (show k < 24 by omega) (show q < 2 by omega)
        obtain ⟨F2, S2, x2, l3, l4⟩ := ask_m (A := up (up A 41 F1) 42 S1) (I := I) (x := x) hP (hTm_of hT) hA hX h107 h108 (show s < 3 by omega) (show k < 24 by omega) (show q < 2 by omega)
        have w3 := w3 (up (up A 41 F1) 42 S1) I hA.2.2.2.2.1
        have x2 : f_X12_ask (up (up A 41 F1) 42 S1) I (Int32.ofNat s) (Int32.ofNat k) (Int32.ofNat q) = some (vl T A s k q, F2, S2) := x2
        have q1 := scr_4 hI.2.2.2.2.2.2.2.2.2.2.2.2 l1 l2 l3 l4
        have e1 : f_X11_says A I x (Int32.ofNat s) (Int32.ofNat k) (Int32.ofNat q) = some ((Int32.toInt64 (vl T A s k q)), F1, S1) := by
          simp (disch := first | omega | decide | assumption | (simp [up_app]; assumption)) [-Int32.xor_neg_one, -Int32.ofNat_add, -Int32.ofNat_mul, -Int32.ofNat_sub, i_lel, i_ler, i_ltl, i_ltr, i_eql, i_eqr, i_le, i_lt, i_eq, i_addl, i_addr, i_add, i_mull, i_mulr, i_mul, i_subr, i_sub, am_at_g, am_at_gl, am_up_g, am_up_gl, up_app, in_X, i_sub1, f_X11_says, f_X11_isSide, w, w2, w4, x1]
        have e2 : f_X12_says (up (up A 41 F1) 42 S1) I (Int32.ofNat s) (Int32.ofNat k) (Int32.ofNat q) = some ((Int32.toInt64 (vl T A s k q)), F2, S2) := by
          simp (disch := first | omega | decide | assumption | (simp [up_app]; assumption)) [-Int32.xor_neg_one, -Int32.ofNat_add, -Int32.ofNat_mul, -Int32.ofNat_sub, i_lel, i_ler, i_ltl, i_ltr, i_eql, i_eqr, i_le, i_lt, i_eq, i_addl, i_addr, i_add, i_mull, i_mulr, i_mul, i_subr, i_sub, am_at_g, am_at_gl, am_up_g, am_up_gl, up_app, in_X, i_sub1, f_X12_says, f_X12_isSide, w, w3, w4, x2]
        have c1 := t_X11_says (xs := xs) A I x (Int32.ofNat s) (Int32.ofNat k) (Int32.ofNat q) e1
        have c2 := t_X12_says (xs := xs) (up (up A 41 F1) 42 S1) I x (Int32.ofNat s) (Int32.ofNat k) (Int32.ofNat q) e2
        exact am_opl.mk hx c1 (by decide) c2 (by decide) ⟨P, N, T, R, E, C, X, Z, ⟨hI.1, hI.2.1, hI.2.2.1, hI.2.2.2.1, hI.2.2.2.2.1, hI.2.2.2.2.2.1, hI.2.2.2.2.2.2.1, hI.2.2.2.2.2.2.2.1, hI.2.2.2.2.2.2.2.2.1, hI.2.2.2.2.2.2.2.2.2.1, hI.2.2.2.2.2.2.2.2.2.2.1, hI.2.2.2.2.2.2.2.2.2.2.2.1, q1⟩⟩

theorem op_acts (xs : List Int32) {n : Nat} {A : Nat → List Int32} {I : Nat → Int32} {x : am_X} (h : Iv0 n A I x) (a1 : Int32) (a2 : Int32) : am_op xs n ix_X11_acts ix_X12_acts [.int a1, .int a2] A I x := by
  obtain ⟨⟨P, N, T, R, E, C, X, Z, hI⟩, hx⟩ := h
  obtain ⟨h41, h42, -, -, -, -, -, -, -, -, -, h107, h108, -⟩ := scr_get hI.2.2.2.2.2.2.2.2.2.2.2.2
  have hP := hI.1
  have hT := hI.2.2.1
  have hA := hI.2.2.2.1
  have hX := hI.2.2.2.2.2.2.2.2.2.2.2.1
  have hN : N ≤ 24 := hA.2.2.1
  rcases wi_l 2 (by decide) a1 with w | ⟨s, hs, rfl, w⟩
  · skip
    have e1 : f_X11_acts A I x a1 a2 = some (-2, (A 41), (A 42)) := by
      simp (disch := first | omega | decide | assumption | (simp [up_app]; assumption)) [-Int32.xor_neg_one, -Int32.ofNat_add, -Int32.ofNat_mul, -Int32.ofNat_sub, i_lel, i_ler, i_ltl, i_ltr, i_eql, i_eqr, i_le, i_lt, i_eq, i_addl, i_addr, i_add, i_mull, i_mulr, i_mul, i_subr, i_sub, am_at_g, am_at_gl, am_up_g, am_up_gl, up_app, in_X, i_sub1, f_X11_acts, f_X11_isSide, w]
    have e2 : f_X12_acts (up (up A 41 (A 41)) 42 (A 42)) I a1 a2 = some (-2, (A 107), (A 108)) := by
      simp (disch := first | omega | decide | assumption | (simp [up_app]; assumption)) [-Int32.xor_neg_one, -Int32.ofNat_add, -Int32.ofNat_mul, -Int32.ofNat_sub, i_lel, i_ler, i_ltl, i_ltr, i_eql, i_eqr, i_le, i_lt, i_eq, i_addl, i_addr, i_add, i_mull, i_mulr, i_mul, i_subr, i_sub, am_at_g, am_at_gl, am_up_g, am_up_gl, up_app, in_X, i_sub1, f_X12_acts, f_X12_isSide, w]
    have c1 := t_X11_acts (xs := xs) A I x a1 a2 e1
    have c2 := t_X12_acts (xs := xs) (up (up A 41 (A 41)) 42 (A 42)) I x a1 a2 e2
    exact am_op.mk hx c1 (by decide) c2 (by decide) ⟨P, N, T, R, E, C, X, Z, ⟨hI.1, hI.2.1, hI.2.2.1, hI.2.2.2.1, hI.2.2.2.2.1, hI.2.2.2.2.2.1, hI.2.2.2.2.2.2.1, hI.2.2.2.2.2.2.2.1, hI.2.2.2.2.2.2.2.2.1, hI.2.2.2.2.2.2.2.2.2.1, hI.2.2.2.2.2.2.2.2.2.2.1, hI.2.2.2.2.2.2.2.2.2.2.2.1, hI.2.2.2.2.2.2.2.2.2.2.2.2⟩⟩
  · rcases wi_l 3 (by decide) a2 with w2 | ⟨q, hq, rfl, w2⟩
    · skip
      have e1 : f_X11_acts A I x (Int32.ofNat s) a2 = some (-2, (A 41), (A 42)) := by
        simp (disch := first | omega | decide | assumption | (simp [up_app]; assumption)) [-Int32.xor_neg_one, -Int32.ofNat_add, -Int32.ofNat_mul, -Int32.ofNat_sub, i_lel, i_ler, i_ltl, i_ltr, i_eql, i_eqr, i_le, i_lt, i_eq, i_addl, i_addr, i_add, i_mull, i_mulr, i_mul, i_subr, i_sub, am_at_g, am_at_gl, am_up_g, am_up_gl, up_app, in_X, i_sub1, f_X11_acts, f_X11_isSide, w, w2]
      have e2 : f_X12_acts (up (up A 41 (A 41)) 42 (A 42)) I (Int32.ofNat s) a2 = some (-2, (A 107), (A 108)) := by
        simp (disch := first | omega | decide | assumption | (simp [up_app]; assumption)) [-Int32.xor_neg_one, -Int32.ofNat_add, -Int32.ofNat_mul, -Int32.ofNat_sub, i_lel, i_ler, i_ltl, i_ltr, i_eql, i_eqr, i_le, i_lt, i_eq, i_addl, i_addr, i_add, i_mull, i_mulr, i_mul, i_subr, i_sub, am_at_g, am_at_gl, am_up_g, am_up_gl, up_app, in_X, i_sub1, f_X12_acts, f_X12_isSide, w, w2]
      have c1 := t_X11_acts (xs := xs) A I x (Int32.ofNat s) a2 e1
      have c2 := t_X12_acts (xs := xs) (up (up A 41 (A 41)) 42 (A 42)) I x (Int32.ofNat s) a2 e2
      exact am_op.mk hx c1 (by decide) c2 (by decide) ⟨P, N, T, R, E, C, X, Z, ⟨hI.1, hI.2.1, hI.2.2.1, hI.2.2.2.1, hI.2.2.2.2.1, hI.2.2.2.2.2.1, hI.2.2.2.2.2.2.1, hI.2.2.2.2.2.2.2.1, hI.2.2.2.2.2.2.2.2.1, hI.2.2.2.2.2.2.2.2.2.1, hI.2.2.2.2.2.2.2.2.2.2.1, hI.2.2.2.2.2.2.2.2.2.2.2.1, hI.2.2.2.2.2.2.2.2.2.2.2.2⟩⟩
    · obtain ⟨F0, S0, x1, m1, m2⟩ := tr_c0 hP hT hA hX h41 h42 (show s < 3 by omega)
      obtain ⟨F1, S1, x2, l1, l2⟩ := tr_c1 (A := up (up A 41 F0) 42 S0) (I := I) (x := x) hP hT hA hX m1 m2 (show s < 3 by omega)
      have x2 : f_X1_trueUnder (up (up A 41 F0) 42 S0) I x (Int32.ofNat s) 1 = some (Int32.ofNat (tr N T A s 1), F1, S1) := x2
      have key : ∀ F S : List Int32, F.length = 6 → S.length = 40 → ∃ G F2 S2 G0 T0 FF, f_X1_goodAmong (up (up A 41 F1) 42 S1) I (Int32.ofNat (tr N T A s 0)) (Int32.ofNat (tr N T A s 1)) = some (Int32.ofNat G) ∧ f_X1_firmAmong (up (up A 41 F1) 42 S1) I (Int32.ofNat (tr N T A s 0)) (Int32.ofNat (tr N T A s 1)) = some (Int32.ofNat FF) ∧ f_X12_soundBy (up (up A 41 F) 42 S) I (Int32.ofNat s) = some (Int32.ofNat (tr N T A s 0), G0, T0) ∧ f_X12_savedBy (up (up (up (up A 41 F) 42 S) 107 G0) 108 T0) I (Int32.ofNat s) = some (Int32.ofNat (tr N T A s 1), F2, S2) ∧ f_X12_goodOf (up (up (up (up A 41 F) 42 S) 107 F2) 108 S2) I (Int32.ofNat (tr N T A s 0)) (Int32.ofNat (tr N T A s 1)) = some (Int32.ofNat G) ∧ f_X12_firmOf (up (up (up (up A 41 F) 42 S) 107 F2) 108 S2) I (Int32.ofNat (tr N T A s 0)) (Int32.ofNat (tr N T A s 1)) = some (Int32.ofNat FF) ∧ F2.length = 6 ∧ S2.length = 161 := by
        intro F S _ _
        obtain ⟨G0, T0, y1, m3, m4⟩ := tr_m0 (A := up (up A 41 F) 42 S) (I := I) (x := x) hP (hTm_of hT) hA hX h107 h108 (show s < 3 by omega)
        obtain ⟨F2, S2, y2, l3, l4⟩ := tr_m1 (A := up (up (up (up A 41 F) 42 S) 107 G0) 108 T0) (I := I) (x := x) hP (hTm_of hT) hA hX m3 m4 (show s < 3 by omega)
        obtain ⟨G, hG, -, z2⟩ := good_c (A := up (up A 41 F1) 42 S1) (I := I) hA (s := tr N T A s 0) (v := tr N T A s 1) (tr_lt24 hN) (tr_lt24 hN)
        obtain ⟨G', z3, -, z4⟩ := good_m (A := up (up (up (up A 41 F) 42 S) 107 F2) 108 S2) (I := I) hA (s := tr N T A s 0) (v := tr N T A s 1) tr_lt (tr_lt24 hN)
        obtain ⟨FF, u1, -, u2⟩ := firm_c (A := up (up A 41 F1) 42 S1) (I := I) hA (s := tr N T A s 0) (v := tr N T A s 1) tr_lt (tr_lt24 hN)
        obtain ⟨F', u3, -, u4⟩ := firm_m (A := up (up (up (up A 41 F) 42 S) 107 F2) 108 S2) (I := I) hA (s := tr N T A s 0) (v := tr N T A s 1) tr_lt (tr_lt24 hN)
        have e1 : G = G' := gr_eq z2 z4
        have e2 : FF = F' := ls_eq u2 u4
        rw [← e1] at z3
        rw [← e2] at u3
        exact ⟨G, F2, S2, G0, T0, FF, hG, u1, y1, y2, z3, u3, l3, l4⟩
      by_cases q0 : q = 0
      · obtain ⟨G, F2, S2, G0, T0, FF, z1, u1, y1, y2, z2, u2, l3, l4⟩ := key F0 S0 m1 m2
        have q0 := eq_true q0
        have q1 := scr_4 hI.2.2.2.2.2.2.2.2.2.2.2.2 m1 m2 l3 l4
        have e1 : f_X11_acts A I x (Int32.ofNat s) (Int32.ofNat q) = some ((Int32.ofNat (tr N T A s 0)), F0, S0) := by
          simp (disch := first | omega | decide | assumption | (simp [up_app]; assumption)) [-Int32.xor_neg_one, -Int32.ofNat_add, -Int32.ofNat_mul, -Int32.ofNat_sub, i_lel, i_ler, i_ltl, i_ltr, i_eql, i_eqr, i_le, i_lt, i_eq, i_addl, i_addr, i_add, i_mull, i_mulr, i_mul, i_subr, i_sub, am_at_g, am_at_gl, am_up_g, am_up_gl, up_app, in_X, i_sub1, f_X11_acts, f_X11_isSide, w, w2, x1, q0]
        have e2 : f_X12_acts (up (up A 41 F0) 42 S0) I (Int32.ofNat s) (Int32.ofNat q) = some ((Int32.ofNat (tr N T A s 0)), F2, S2) := by
          simp (disch := first | omega | decide | assumption | (simp [up_app]; assumption)) [-Int32.xor_neg_one, -Int32.ofNat_add, -Int32.ofNat_mul, -Int32.ofNat_sub, i_lel, i_ler, i_ltl, i_ltr, i_eql, i_eqr, i_le, i_lt, i_eq, i_addl, i_addr, i_add, i_mull, i_mulr, i_mul, i_subr, i_sub, am_at_g, am_at_gl, am_up_g, am_up_gl, up_app, in_X, i_sub1, f_X12_acts, f_X12_isSide, w, w2, y1, y2, q0]
        have c1 := t_X11_acts (xs := xs) A I x (Int32.ofNat s) (Int32.ofNat q) e1
        have c2 := t_X12_acts (xs := xs) (up (up A 41 F0) 42 S0) I x (Int32.ofNat s) (Int32.ofNat q) e2
        exact am_op.mk hx c1 (by decide) c2 (by decide) ⟨P, N, T, R, E, C, X, Z, ⟨hI.1, hI.2.1, hI.2.2.1, hI.2.2.2.1, hI.2.2.2.2.1, hI.2.2.2.2.2.1, hI.2.2.2.2.2.2.1, hI.2.2.2.2.2.2.2.1, hI.2.2.2.2.2.2.2.2.1, hI.2.2.2.2.2.2.2.2.2.1, hI.2.2.2.2.2.2.2.2.2.2.1, hI.2.2.2.2.2.2.2.2.2.2.2.1, q1⟩⟩
      · obtain ⟨G, F2, S2, G0, T0, FF, z1, u1, y1, y2, z2, u2, l3, l4⟩ := key F1 S1 l1 l2
        have q0 := eq_false q0
        by_cases q1 : q = 1
        · have q1 := eq_true q1
          have q9 := scr_4 hI.2.2.2.2.2.2.2.2.2.2.2.2 l1 l2 l3 l4
          have e1 : f_X11_acts A I x (Int32.ofNat s) (Int32.ofNat q) = some ((Int32.ofNat G), F1, S1) := by
            simp (disch := first | omega | decide | assumption | (simp [up_app]; assumption)) [-Int32.xor_neg_one, -Int32.ofNat_add, -Int32.ofNat_mul, -Int32.ofNat_sub, i_lel, i_ler, i_ltl, i_ltr, i_eql, i_eqr, i_le, i_lt, i_eq, i_addl, i_addr, i_add, i_mull, i_mulr, i_mul, i_subr, i_sub, am_at_g, am_at_gl, am_up_g, am_up_gl, up_app, in_X, i_sub1, f_X11_acts, f_X11_isSide, w, w2, x1, x2, z1, u1, q0, q1]
          have e2 : f_X12_acts (up (up A 41 F1) 42 S1) I (Int32.ofNat s) (Int32.ofNat q) = some ((Int32.ofNat G), F2, S2) := by
            simp (disch := first | omega | decide | assumption | (simp [up_app]; assumption)) [-Int32.xor_neg_one, -Int32.ofNat_add, -Int32.ofNat_mul, -Int32.ofNat_sub, i_lel, i_ler, i_ltl, i_ltr, i_eql, i_eqr, i_le, i_lt, i_eq, i_addl, i_addr, i_add, i_mull, i_mulr, i_mul, i_subr, i_sub, am_at_g, am_at_gl, am_up_g, am_up_gl, up_app, in_X, i_sub1, f_X12_acts, f_X12_isSide, w, w2, y1, y2, z2, u2, q0, q1]
          have c1 := t_X11_acts (xs := xs) A I x (Int32.ofNat s) (Int32.ofNat q) e1
          have c2 := t_X12_acts (xs := xs) (up (up A 41 F1) 42 S1) I x (Int32.ofNat s) (Int32.ofNat q) e2
          exact am_op.mk hx c1 (by decide) c2 (by decide) ⟨P, N, T, R, E, C, X, Z, ⟨hI.1, hI.2.1, hI.2.2.1, hI.2.2.2.1, hI.2.2.2.2.1, hI.2.2.2.2.2.1, hI.2.2.2.2.2.2.1, hI.2.2.2.2.2.2.2.1, hI.2.2.2.2.2.2.2.2.1, hI.2.2.2.2.2.2.2.2.2.1, hI.2.2.2.2.2.2.2.2.2.2.1, hI.2.2.2.2.2.2.2.2.2.2.2.1, q9⟩⟩
        · have q1 := eq_false q1
          by_cases q2 : q = 2
          · have q2 := eq_true q2
            have q9 := scr_4 hI.2.2.2.2.2.2.2.2.2.2.2.2 l1 l2 l3 l4
            have e1 : f_X11_acts A I x (Int32.ofNat s) (Int32.ofNat q) = some ((Int32.ofNat FF), F1, S1) := by
              simp (disch := first | omega | decide | assumption | (simp [up_app]; assumption)) [-Int32.xor_neg_one, -Int32.ofNat_add, -Int32.ofNat_mul, -Int32.ofNat_sub, i_lel, i_ler, i_ltl, i_ltr, i_eql, i_eqr, i_le, i_lt, i_eq, i_addl, i_addr, i_add, i_mull, i_mulr, i_mul, i_subr, i_sub, am_at_g, am_at_gl, am_up_g, am_up_gl, up_app, in_X, i_sub1, f_X11_acts, f_X11_isSide, w, w2, x1, x2, z1, u1, q0, q1, q2]
            have e2 : f_X12_acts (up (up A 41 F1) 42 S1) I (Int32.ofNat s) (Int32.ofNat q) = some ((Int32.ofNat FF), F2, S2) := by
              simp (disch := first | omega | decide | assumption | (simp [up_app]; assumption)) [-Int32.xor_neg_one, -Int32.ofNat_add, -Int32.ofNat_mul, -Int32.ofNat_sub, i_lel, i_ler, i_ltl, i_ltr, i_eql, i_eqr, i_le, i_lt, i_eq, i_addl, i_addr, i_add, i_mull, i_mulr, i_mul, i_subr, i_sub, am_at_g, am_at_gl, am_up_g, am_up_gl, up_app, in_X, i_sub1, f_X12_acts, f_X12_isSide, w, w2, y1, y2, z2, u2, q0, q1, q2]
            have c1 := t_X11_acts (xs := xs) A I x (Int32.ofNat s) (Int32.ofNat q) e1
            have c2 := t_X12_acts (xs := xs) (up (up A 41 F1) 42 S1) I x (Int32.ofNat s) (Int32.ofNat q) e2
            exact am_op.mk hx c1 (by decide) c2 (by decide) ⟨P, N, T, R, E, C, X, Z, ⟨hI.1, hI.2.1, hI.2.2.1, hI.2.2.2.1, hI.2.2.2.2.1, hI.2.2.2.2.2.1, hI.2.2.2.2.2.2.1, hI.2.2.2.2.2.2.2.1, hI.2.2.2.2.2.2.2.2.1, hI.2.2.2.2.2.2.2.2.2.1, hI.2.2.2.2.2.2.2.2.2.2.1, hI.2.2.2.2.2.2.2.2.2.2.2.1, q9⟩⟩
          · have q2 := eq_false q2
            have q9 := scr_4 hI.2.2.2.2.2.2.2.2.2.2.2.2 l1 l2 l3 l4
            have e1 : f_X11_acts A I x (Int32.ofNat s) (Int32.ofNat q) = some ((Int32.ofNat G &&& (Int32.ofNat FF ^^^ (-1))), F1, S1) := by
              simp (disch := first | omega | decide | assumption | (simp [up_app]; assumption)) [-Int32.xor_neg_one, -Int32.ofNat_add, -Int32.ofNat_mul, -Int32.ofNat_sub, i_lel, i_ler, i_ltl, i_ltr, i_eql, i_eqr, i_le, i_lt, i_eq, i_addl, i_addr, i_add, i_mull, i_mulr, i_mul, i_subr, i_sub, am_at_g, am_at_gl, am_up_g, am_up_gl, up_app, in_X, i_sub1, f_X11_acts, f_X11_isSide, w, w2, x1, x2, z1, u1, q0, q1, q2]
            have e2 : f_X12_acts (up (up A 41 F1) 42 S1) I (Int32.ofNat s) (Int32.ofNat q) = some ((Int32.ofNat G &&& (Int32.ofNat FF ^^^ (-1))), F2, S2) := by
              simp (disch := first | omega | decide | assumption | (simp [up_app]; assumption)) [-Int32.xor_neg_one, -Int32.ofNat_add, -Int32.ofNat_mul, -Int32.ofNat_sub, i_lel, i_ler, i_ltl, i_ltr, i_eql, i_eqr, i_le, i_lt, i_eq, i_addl, i_addr, i_add, i_mull, i_mulr, i_mul, i_subr, i_sub, am_at_g, am_at_gl, am_up_g, am_up_gl, up_app, in_X, i_sub1, f_X12_acts, f_X12_isSide, w, w2, y1, y2, z2, u2, q0, q1, q2]
            have c1 := t_X11_acts (xs := xs) A I x (Int32.ofNat s) (Int32.ofNat q) e1
            have c2 := t_X12_acts (xs := xs) (up (up A 41 F1) 42 S1) I x (Int32.ofNat s) (Int32.ofNat q) e2
            exact am_op.mk hx c1 (by decide) c2 (by decide) ⟨P, N, T, R, E, C, X, Z, ⟨hI.1, hI.2.1, hI.2.2.1, hI.2.2.2.1, hI.2.2.2.2.1, hI.2.2.2.2.2.1, hI.2.2.2.2.2.2.1, hI.2.2.2.2.2.2.2.1, hI.2.2.2.2.2.2.2.2.1, hI.2.2.2.2.2.2.2.2.2.1, hI.2.2.2.2.2.2.2.2.2.2.1, hI.2.2.2.2.2.2.2.2.2.2.2.1, q9⟩⟩

theorem op_felled (xs : List Int32) {n : Nat} {A : Nat → List Int32} {I : Nat → Int32} {x : am_X} (h : Iv0 n A I x) (a1 : Int32) (a2 : Int32) : am_op xs n ix_X11_felled ix_X12_felled [.int a1, .int a2] A I x := by
  obtain ⟨⟨P, N, T, R, E, C, X, Z, hI⟩, hx⟩ := h
  obtain ⟨h41, h42, -, -, -, -, -, -, -, -, -, h107, h108, -⟩ := scr_get hI.2.2.2.2.2.2.2.2.2.2.2.2
  have hP := hI.1
  have hT := hI.2.2.1
  have hA := hI.2.2.2.1
  have hX := hI.2.2.2.2.2.2.2.2.2.2.2.1
  have hN : N ≤ 24 := hA.2.2.1
  rcases wi_l 2 (by decide) a1 with w | ⟨s, hs, rfl, w⟩
  · skip
    have e1 : f_X11_felled A I x a1 a2 = some (-2, (A 41), (A 42)) := by
      simp (disch := first | omega | decide | assumption | (simp [up_app]; assumption)) [-Int32.xor_neg_one, -Int32.ofNat_add, -Int32.ofNat_mul, -Int32.ofNat_sub, i_lel, i_ler, i_ltl, i_ltr, i_eql, i_eqr, i_le, i_lt, i_eq, i_addl, i_addr, i_add, i_mull, i_mulr, i_mul, i_subr, i_sub, am_at_g, am_at_gl, am_up_g, am_up_gl, up_app, in_X, i_sub1, f_X11_felled, f_X11_isSide, w]
    have e2 : f_X12_felled (up (up A 41 (A 41)) 42 (A 42)) I a1 a2 = some (-2, (A 107), (A 108)) := by
      simp (disch := first | omega | decide | assumption | (simp [up_app]; assumption)) [-Int32.xor_neg_one, -Int32.ofNat_add, -Int32.ofNat_mul, -Int32.ofNat_sub, i_lel, i_ler, i_ltl, i_ltr, i_eql, i_eqr, i_le, i_lt, i_eq, i_addl, i_addr, i_add, i_mull, i_mulr, i_mul, i_subr, i_sub, am_at_g, am_at_gl, am_up_g, am_up_gl, up_app, in_X, i_sub1, f_X12_felled, f_X12_isSide, w]
    have c1 := t_X11_felled (xs := xs) A I x a1 a2 e1
    have c2 := t_X12_felled (xs := xs) (up (up A 41 (A 41)) 42 (A 42)) I x a1 a2 e2
    exact am_op.mk hx c1 (by decide) c2 (by decide) ⟨P, N, T, R, E, C, X, Z, ⟨hI.1, hI.2.1, hI.2.2.1, hI.2.2.2.1, hI.2.2.2.2.1, hI.2.2.2.2.2.1, hI.2.2.2.2.2.2.1, hI.2.2.2.2.2.2.2.1, hI.2.2.2.2.2.2.2.2.1, hI.2.2.2.2.2.2.2.2.2.1, hI.2.2.2.2.2.2.2.2.2.2.1, hI.2.2.2.2.2.2.2.2.2.2.2.1, hI.2.2.2.2.2.2.2.2.2.2.2.2⟩⟩
  · rcases c_Act N (by omega) a2 with ⟨w2, w3⟩ | ⟨k, hk, rfl, w2, w3⟩
    · have w2 := w2 A I hA.2.2.2.1
      have w3 := w3 (up (up A 41 (A 41)) 42 (A 42)) I hA.2.2.2.2.1
      have e1 : f_X11_felled A I x (Int32.ofNat s) a2 = some (-2, (A 41), (A 42)) := by
        simp (disch := first | omega | decide | assumption | (simp [up_app]; assumption)) [-Int32.xor_neg_one, -Int32.ofNat_add, -Int32.ofNat_mul, -Int32.ofNat_sub, i_lel, i_ler, i_ltl, i_ltr, i_eql, i_eqr, i_le, i_lt, i_eq, i_addl, i_addr, i_add, i_mull, i_mulr, i_mul, i_subr, i_sub, am_at_g, am_at_gl, am_up_g, am_up_gl, up_app, in_X, i_sub1, f_X11_felled, f_X11_isSide, w, w2]
      have e2 : f_X12_felled (up (up A 41 (A 41)) 42 (A 42)) I (Int32.ofNat s) a2 = some (-2, (A 107), (A 108)) := by
        simp (disch := first | omega | decide | assumption | (simp [up_app]; assumption)) [-Int32.xor_neg_one, -Int32.ofNat_add, -Int32.ofNat_mul, -Int32.ofNat_sub, i_lel, i_ler, i_ltl, i_ltr, i_eql, i_eqr, i_le, i_lt, i_eq, i_addl, i_addr, i_add, i_mull, i_mulr, i_mul, i_subr, i_sub, am_at_g, am_at_gl, am_up_g, am_up_gl, up_app, in_X, i_sub1, f_X12_felled, f_X12_isSide, w, w3]
      have c1 := t_X11_felled (xs := xs) A I x (Int32.ofNat s) a2 e1
      have c2 := t_X12_felled (xs := xs) (up (up A 41 (A 41)) 42 (A 42)) I x (Int32.ofNat s) a2 e2
      exact am_op.mk hx c1 (by decide) c2 (by decide) ⟨P, N, T, R, E, C, X, Z, ⟨hI.1, hI.2.1, hI.2.2.1, hI.2.2.2.1, hI.2.2.2.2.1, hI.2.2.2.2.2.1, hI.2.2.2.2.2.2.1, hI.2.2.2.2.2.2.2.1, hI.2.2.2.2.2.2.2.2.1, hI.2.2.2.2.2.2.2.2.2.1, hI.2.2.2.2.2.2.2.2.2.2.1, hI.2.2.2.2.2.2.2.2.2.2.2.1, hI.2.2.2.2.2.2.2.2.2.2.2.2⟩⟩
    · obtain ⟨F0, S0, x1, m1, m2⟩ := tr_c0 hP hT hA hX h41 h42 (show s < 3 by omega)
      obtain ⟨F1, S1, x2, l1, l2⟩ := tr_c1 (A := up (up A 41 F0) 42 S0) (I := I) (x := x) hP hT hA hX m1 m2 (show s < 3 by omega)
      have x2 : f_X1_trueUnder (up (up A 41 F0) 42 S0) I x (Int32.ofNat s) 1 = some (Int32.ofNat (tr N T A s 1), F1, S1) := x2
      obtain ⟨G0, T0, y1, m3, m4⟩ := tr_m0 (A := up (up A 41 F1) 42 S1) (I := I) (x := x) hP (hTm_of hT) hA hX h107 h108 (show s < 3 by omega)
      obtain ⟨F2, S2, y2, l3, l4⟩ := tr_m1 (A := up (up (up (up A 41 F1) 42 S1) 107 G0) 108 T0) (I := I) (x := x) hP (hTm_of hT) hA hX m3 m4 (show s < 3 by omega)
      have y1 : f_X12_soundBy (up (up A 41 F1) 42 S1) I (Int32.ofNat s) = some (Int32.ofNat (tr N T A s 0), G0, T0) := y1
      have y2 : f_X12_savedBy (up (up (up (up A 41 F1) 42 S1) 107 G0) 108 T0) I (Int32.ofNat s) = some (Int32.ofNat (tr N T A s 1), F2, S2) := y2
      have w2 := w2 A I hA.2.2.2.1
      have w3 := w3 (up (up A 41 F1) 42 S1) I hA.2.2.2.2.1
      have key : ∀ z, z < 2 ^ N → ∃ G, f_X1_goodAmong (up (up A 41 F1) 42 S1) I (Int32.ofNat z) (Int32.ofNat (tr N T A s 1)) = some (Int32.ofNat G) ∧ f_X12_goodOf (up (up (up (up A 41 F1) 42 S1) 107 F2) 108 S2) I (Int32.ofNat z) (Int32.ofNat (tr N T A s 1)) = some (Int32.ofNat G) := by
        intro z hz
        obtain ⟨G, z1, -, z2⟩ := good_c (A := up (up A 41 F1) 42 S1) (I := I) hA (s := z) (v := tr N T A s 1) (Nat.lt_of_lt_of_le hz (Nat.pow_le_pow_right (by decide) hN)) (tr_lt24 hN)
        obtain ⟨G', z3, -, z4⟩ := good_m (A := up (up (up (up A 41 F1) 42 S1) 107 F2) 108 S2) (I := I) hA (s := z) (v := tr N T A s 1) hz (tr_lt24 hN)
        have e1 : G = G' := gr_eq z2 z4
        rw [← e1] at z3
        exact ⟨G, z1, z3⟩
      obtain ⟨G, z1, z2⟩ := key (tr N T A s 0) tr_lt
      obtain ⟨H, z3, z4⟩ := key (tr N T A s 0 ^^^ (tr N T A s 0 &&& 2 ^ k)) (Nat.xor_lt_two_pow tr_lt (Nat.lt_of_le_of_lt Nat.and_le_left tr_lt))
      have hcl := i_clear (a := tr N T A s 0) (show k < 32 by omega)
      have q1 := scr_4 hI.2.2.2.2.2.2.2.2.2.2.2.2 l1 l2 l3 l4
      have e1 : f_X11_felled A I x (Int32.ofNat s) (Int32.ofNat k) = some ((Int32.ofNat G &&& (Int32.ofNat H ^^^ (-1))), F1, S1) := by
        simp (disch := first | omega | decide | assumption | (simp [up_app]; assumption)) [-Int32.xor_neg_one, -Int32.ofNat_add, -Int32.ofNat_mul, -Int32.ofNat_sub, i_lel, i_ler, i_ltl, i_ltr, i_eql, i_eqr, i_le, i_lt, i_eq, i_addl, i_addr, i_add, i_mull, i_mulr, i_mul, i_subr, i_sub, am_at_g, am_at_gl, am_up_g, am_up_gl, up_app, in_X, i_sub1, f_X11_felled, f_X11_isSide, w, w2, x1, x2, z1, hcl, z3]
      have e2 : f_X12_felled (up (up A 41 F1) 42 S1) I (Int32.ofNat s) (Int32.ofNat k) = some ((Int32.ofNat G &&& (Int32.ofNat H ^^^ (-1))), F2, S2) := by
        simp (disch := first | omega | decide | assumption | (simp [up_app]; assumption)) [-Int32.xor_neg_one, -Int32.ofNat_add, -Int32.ofNat_mul, -Int32.ofNat_sub, i_lel, i_ler, i_ltl, i_ltr, i_eql, i_eqr, i_le, i_lt, i_eq, i_addl, i_addr, i_add, i_mull, i_mulr, i_mul, i_subr, i_sub, am_at_g, am_at_gl, am_up_g, am_up_gl, up_app, in_X, i_sub1, f_X12_felled, f_X12_isSide, w, w3, y1, y2, z2, hcl, z4]
      have c1 := t_X11_felled (xs := xs) A I x (Int32.ofNat s) (Int32.ofNat k) e1
      have c2 := t_X12_felled (xs := xs) (up (up A 41 F1) 42 S1) I x (Int32.ofNat s) (Int32.ofNat k) e2
      exact am_op.mk hx c1 (by decide) c2 (by decide) ⟨P, N, T, R, E, C, X, Z, ⟨hI.1, hI.2.1, hI.2.2.1, hI.2.2.2.1, hI.2.2.2.2.1, hI.2.2.2.2.2.1, hI.2.2.2.2.2.2.1, hI.2.2.2.2.2.2.2.1, hI.2.2.2.2.2.2.2.2.1, hI.2.2.2.2.2.2.2.2.2.1, hI.2.2.2.2.2.2.2.2.2.2.1, hI.2.2.2.2.2.2.2.2.2.2.2.1, q1⟩⟩

theorem op_inForce (xs : List Int32) {n : Nat} {A : Nat → List Int32} {I : Nat → Int32} {x : am_X} (h : Iv0 n A I x) (a1 : Int32) (a2 : Int32) : am_op xs n ix_X11_inForce ix_X12_inForce [.int a1, .int a2] A I x := by
  obtain ⟨⟨P, N, T, R, E, C, X, Z, hI⟩, hx⟩ := h
  obtain ⟨h41, h42, -, -, -, -, -, -, -, -, -, h107, h108, -⟩ := scr_get hI.2.2.2.2.2.2.2.2.2.2.2.2
  have hP := hI.1
  have hT := hI.2.2.1
  have hA := hI.2.2.2.1
  have hX := hI.2.2.2.2.2.2.2.2.2.2.2.1
  have hN : N ≤ 24 := hA.2.2.1
  rcases wi_l 2 (by decide) a1 with w | ⟨s, hs, rfl, w⟩
  · skip
    have e1 : f_X11_inForce A I x a1 a2 = some (-2, (A 41), (A 42)) := by
      simp (disch := first | omega | decide | assumption | (simp [up_app]; assumption)) [-Int32.xor_neg_one, -Int32.ofNat_add, -Int32.ofNat_mul, -Int32.ofNat_sub, i_lel, i_ler, i_ltl, i_ltr, i_eql, i_eqr, i_le, i_lt, i_eq, i_addl, i_addr, i_add, i_mull, i_mulr, i_mul, i_subr, i_sub, am_at_g, am_at_gl, am_up_g, am_up_gl, up_app, in_X, i_sub1, f_X11_inForce, f_X11_isSide, w]
    have e2 : f_X12_inForce (up (up A 41 (A 41)) 42 (A 42)) I a1 a2 = some (-2, (A 107), (A 108)) := by
      simp (disch := first | omega | decide | assumption | (simp [up_app]; assumption)) [-Int32.xor_neg_one, -Int32.ofNat_add, -Int32.ofNat_mul, -Int32.ofNat_sub, i_lel, i_ler, i_ltl, i_ltr, i_eql, i_eqr, i_le, i_lt, i_eq, i_addl, i_addr, i_add, i_mull, i_mulr, i_mul, i_subr, i_sub, am_at_g, am_at_gl, am_up_g, am_up_gl, up_app, in_X, i_sub1, f_X12_inForce, f_X12_isSide, w]
    have c1 := t_X11_inForce (xs := xs) A I x a1 a2 e1
    have c2 := t_X12_inForce (xs := xs) (up (up A 41 (A 41)) 42 (A 42)) I x a1 a2 e2
    exact am_op.mk hx c1 (by decide) c2 (by decide) ⟨P, N, T, R, E, C, X, Z, ⟨hI.1, hI.2.1, hI.2.2.1, hI.2.2.2.1, hI.2.2.2.2.1, hI.2.2.2.2.2.1, hI.2.2.2.2.2.2.1, hI.2.2.2.2.2.2.2.1, hI.2.2.2.2.2.2.2.2.1, hI.2.2.2.2.2.2.2.2.2.1, hI.2.2.2.2.2.2.2.2.2.2.1, hI.2.2.2.2.2.2.2.2.2.2.2.1, hI.2.2.2.2.2.2.2.2.2.2.2.2⟩⟩
  · rcases wi_l 9999 (by decide) a2 with w2 | ⟨d, hd, rfl, w2⟩
    · skip
      have e1 : f_X11_inForce A I x (Int32.ofNat s) a2 = some (-2, (A 41), (A 42)) := by
        simp (disch := first | omega | decide | assumption | (simp [up_app]; assumption)) [-Int32.xor_neg_one, -Int32.ofNat_add, -Int32.ofNat_mul, -Int32.ofNat_sub, i_lel, i_ler, i_ltl, i_ltr, i_eql, i_eqr, i_le, i_lt, i_eq, i_addl, i_addr, i_add, i_mull, i_mulr, i_mul, i_subr, i_sub, am_at_g, am_at_gl, am_up_g, am_up_gl, up_app, in_X, i_sub1, f_X11_inForce, f_X11_isSide, f_X11_isDay, w, w2]
      have e2 : f_X12_inForce (up (up A 41 (A 41)) 42 (A 42)) I (Int32.ofNat s) a2 = some (-2, (A 107), (A 108)) := by
        simp (disch := first | omega | decide | assumption | (simp [up_app]; assumption)) [-Int32.xor_neg_one, -Int32.ofNat_add, -Int32.ofNat_mul, -Int32.ofNat_sub, i_lel, i_ler, i_ltl, i_ltr, i_eql, i_eqr, i_le, i_lt, i_eq, i_addl, i_addr, i_add, i_mull, i_mulr, i_mul, i_subr, i_sub, am_at_g, am_at_gl, am_up_g, am_up_gl, up_app, in_X, i_sub1, f_X12_inForce, f_X12_isSide, f_X12_isDay, w, w2]
      have c1 := t_X11_inForce (xs := xs) A I x (Int32.ofNat s) a2 e1
      have c2 := t_X12_inForce (xs := xs) (up (up A 41 (A 41)) 42 (A 42)) I x (Int32.ofNat s) a2 e2
      exact am_op.mk hx c1 (by decide) c2 (by decide) ⟨P, N, T, R, E, C, X, Z, ⟨hI.1, hI.2.1, hI.2.2.1, hI.2.2.2.1, hI.2.2.2.2.1, hI.2.2.2.2.2.1, hI.2.2.2.2.2.2.1, hI.2.2.2.2.2.2.2.1, hI.2.2.2.2.2.2.2.2.1, hI.2.2.2.2.2.2.2.2.2.1, hI.2.2.2.2.2.2.2.2.2.2.1, hI.2.2.2.2.2.2.2.2.2.2.2.1, hI.2.2.2.2.2.2.2.2.2.2.2.2⟩⟩
    · obtain ⟨F1, S1, x1, l1, l2⟩ := gd_c hP hT hA hX h41 h42 (show s < 3 by omega)
      obtain ⟨F2, S2, y1, l3, l4⟩ := gd_m (A := up (up A 41 F1) 42 S1) (I := I) (x := x) hP hT hA hX h107 h108 (show s < 3 by omega)
      have y1 : f_X12_goodBy (up (up A 41 F1) 42 S1) I (Int32.ofNat s) = some (Int32.ofNat (gd N T A s), F2, S2) := y1
      have hG : gd N T A s < 16777216 := gd_lt hA
      have z1 : f_X1_forceOn (up (up A 41 F1) 42 S1) I (Int32.ofNat (gd N T A s)) (Int32.ofNat d) = some (Int32.ofNat (fo N A I (gd N T A s) d 6)) := force_c (A := up (up A 41 F1) 42 S1) (I := I) hA hG hd
      have z2 : wl (f_X12_inForce_l1 (up (up (up (up A 41 F1) 42 S1) 107 F2) 108 S2) I (Int32.ofNat d) (Int32.ofNat (gd N T A s))) 100000 (0, 0) = some (Int32.ofNat (fo N A I (gd N T A s) d 6)) := force_m (A := up (up (up (up A 41 F1) 42 S1) 107 F2) 108 S2) (I := I) hA hG hd
      have q1 := scr_4 hI.2.2.2.2.2.2.2.2.2.2.2.2 l1 l2 l3 l4
      have e1 : f_X11_inForce A I x (Int32.ofNat s) (Int32.ofNat d) = some ((Int32.ofNat (fo N A I (gd N T A s) d 6)), F1, S1) := by
        simp (disch := first | omega | decide | assumption | (simp [up_app]; assumption)) [-Int32.xor_neg_one, -Int32.ofNat_add, -Int32.ofNat_mul, -Int32.ofNat_sub, i_lel, i_ler, i_ltl, i_ltr, i_eql, i_eqr, i_le, i_lt, i_eq, i_addl, i_addr, i_add, i_mull, i_mulr, i_mul, i_subr, i_sub, am_at_g, am_at_gl, am_up_g, am_up_gl, up_app, in_X, i_sub1, f_X11_inForce, f_X11_isSide, f_X11_isDay, w, w2, x1, z1]
      have e2 : f_X12_inForce (up (up A 41 F1) 42 S1) I (Int32.ofNat s) (Int32.ofNat d) = some ((Int32.ofNat (fo N A I (gd N T A s) d 6)), F2, S2) := by
        simp (disch := first | omega | decide | assumption | (simp [up_app]; assumption)) [-Int32.xor_neg_one, -Int32.ofNat_add, -Int32.ofNat_mul, -Int32.ofNat_sub, i_lel, i_ler, i_ltl, i_ltr, i_eql, i_eqr, i_le, i_lt, i_eq, i_addl, i_addr, i_add, i_mull, i_mulr, i_mul, i_subr, i_sub, am_at_g, am_at_gl, am_up_g, am_up_gl, up_app, in_X, i_sub1, f_X12_inForce, f_X12_isSide, f_X12_isDay, w, w2, y1, z2]
      have c1 := t_X11_inForce (xs := xs) A I x (Int32.ofNat s) (Int32.ofNat d) e1
      have c2 := t_X12_inForce (xs := xs) (up (up A 41 F1) 42 S1) I x (Int32.ofNat s) (Int32.ofNat d) e2
      exact am_op.mk hx c1 (by decide) c2 (by decide) ⟨P, N, T, R, E, C, X, Z, ⟨hI.1, hI.2.1, hI.2.2.1, hI.2.2.2.1, hI.2.2.2.2.1, hI.2.2.2.2.2.1, hI.2.2.2.2.2.2.1, hI.2.2.2.2.2.2.2.1, hI.2.2.2.2.2.2.2.2.1, hI.2.2.2.2.2.2.2.2.2.1, hI.2.2.2.2.2.2.2.2.2.2.1, hI.2.2.2.2.2.2.2.2.2.2.2.1, q1⟩⟩

theorem right_3 {N G w : Nat} {A : Nat → List Int32} {I : Nat → Int32} {F S : List Int32} (hA : hAct N A I) (hg : G < 16777216) (o : Int32) (hw : w ≤ 9999) : f_X12_rightOf A I o (Int32.ofNat w) (Int32.ofNat G) = f_X12_rightOf (up (up A 107 F) 108 S) I o (Int32.ofNat w) (Int32.ofNat G) := by
  have e1 := naming_m hA hg o (Int32.ofNat w)
  have e2 := naming_m (A := up (up A 107 F) 108 S) (I := I) hA hg o (Int32.ofNat w)
  unfold f_X12_rightOf
  rw [e1, e2]
  rfl
theorem right_2 {N G w : Nat} {A : Nat → List Int32} {I : Nat → Int32} {F1 S1 F2 S2 : List Int32} (hA : hAct N A I) (hg : G < 16777216) (o : Int32) (hw : w ≤ 9999) : ∃ v, f_X1_rightful (up (up A 41 F1) 42 S1) I (Int32.ofNat G) o (Int32.ofNat w) = some v ∧ f_X12_rightOf (up (up (up (up A 41 F1) 42 S1) 107 F2) 108 S2) I o (Int32.ofNat w) (Int32.ofNat G) = some v := by
  obtain ⟨v, f1, f2, -⟩ := right_1 (A := up (up A 41 F1) 42 S1) (I := I) hA hg o hw
  refine ⟨v, f1, ?_⟩
  rw [← right_3 (A := up (up A 41 F1) 42 S1) (F := F2) (S := S2) hA hg o hw]
  exact f2
theorem op_byRight (xs : List Int32) {n : Nat} {A : Nat → List Int32} {I : Nat → Int32} {x : am_X} (h : Iv0 n A I x) (a1 : Int32) (a2 : Int32) (a3 : Int32) : am_op xs n ix_X11_byRight ix_X12_byRight [.int a1, .int a2, .int a3] A I x := by
  obtain ⟨⟨P, N, T, R, E, C, X, Z, hI⟩, hx⟩ := h
  obtain ⟨h41, h42, -, -, -, -, -, -, -, -, -, h107, h108, -⟩ := scr_get hI.2.2.2.2.2.2.2.2.2.2.2.2
  have hP := hI.1
  have hT := hI.2.2.1
  have hA := hI.2.2.2.1
  have hX := hI.2.2.2.2.2.2.2.2.2.2.2.1
  have hN : N ≤ 24 := hA.2.2.1
  rcases wi_l 2 (by decide) a1 with w | ⟨s, hs, rfl, w⟩
  · skip
    have e1 : f_X11_byRight A I x a1 a2 a3 = some (-2, (A 41), (A 42)) := by
      simp (disch := first | omega | decide | assumption | (simp [up_app]; assumption)) [-Int32.xor_neg_one, -Int32.ofNat_add, -Int32.ofNat_mul, -Int32.ofNat_sub, i_lel, i_ler, i_ltl, i_ltr, i_eql, i_eqr, i_le, i_lt, i_eq, i_addl, i_addr, i_add, i_mull, i_mulr, i_mul, i_subr, i_sub, am_at_g, am_at_gl, am_up_g, am_up_gl, up_app, in_X, i_sub1, f_X11_byRight, f_X11_isSide, f_X11_isOffice, f_X11_isDay, w]
    have e2 : f_X12_byRight (up (up A 41 (A 41)) 42 (A 42)) I a1 a2 a3 = some (-2, (A 107), (A 108)) := by
      simp (disch := first | omega | decide | assumption | (simp [up_app]; assumption)) [-Int32.xor_neg_one, -Int32.ofNat_add, -Int32.ofNat_mul, -Int32.ofNat_sub, i_lel, i_ler, i_ltl, i_ltr, i_eql, i_eqr, i_le, i_lt, i_eq, i_addl, i_addr, i_add, i_mull, i_mulr, i_mul, i_subr, i_sub, am_at_g, am_at_gl, am_up_g, am_up_gl, up_app, in_X, i_sub1, f_X12_byRight, f_X12_isSide, f_X12_isOffice, f_X12_isDay, w]
    have c1 := t_X11_byRight (xs := xs) A I x a1 a2 a3 e1
    have c2 := t_X12_byRight (xs := xs) (up (up A 41 (A 41)) 42 (A 42)) I x a1 a2 a3 e2
    exact am_op.mk hx c1 (by decide) c2 (by decide) ⟨P, N, T, R, E, C, X, Z, ⟨hI.1, hI.2.1, hI.2.2.1, hI.2.2.2.1, hI.2.2.2.2.1, hI.2.2.2.2.2.1, hI.2.2.2.2.2.2.1, hI.2.2.2.2.2.2.2.1, hI.2.2.2.2.2.2.2.2.1, hI.2.2.2.2.2.2.2.2.2.1, hI.2.2.2.2.2.2.2.2.2.2.1, hI.2.2.2.2.2.2.2.2.2.2.2.1, hI.2.2.2.2.2.2.2.2.2.2.2.2⟩⟩
  · rcases wi_l 5 (by decide) a2 with w2 | ⟨o, ho, rfl, w2⟩
    · skip
      have e1 : f_X11_byRight A I x (Int32.ofNat s) a2 a3 = some (-2, (A 41), (A 42)) := by
        simp (disch := first | omega | decide | assumption | (simp [up_app]; assumption)) [-Int32.xor_neg_one, -Int32.ofNat_add, -Int32.ofNat_mul, -Int32.ofNat_sub, i_lel, i_ler, i_ltl, i_ltr, i_eql, i_eqr, i_le, i_lt, i_eq, i_addl, i_addr, i_add, i_mull, i_mulr, i_mul, i_subr, i_sub, am_at_g, am_at_gl, am_up_g, am_up_gl, up_app, in_X, i_sub1, f_X11_byRight, f_X11_isSide, f_X11_isOffice, f_X11_isDay, w, w2]
      have e2 : f_X12_byRight (up (up A 41 (A 41)) 42 (A 42)) I (Int32.ofNat s) a2 a3 = some (-2, (A 107), (A 108)) := by
        simp (disch := first | omega | decide | assumption | (simp [up_app]; assumption)) [-Int32.xor_neg_one, -Int32.ofNat_add, -Int32.ofNat_mul, -Int32.ofNat_sub, i_lel, i_ler, i_ltl, i_ltr, i_eql, i_eqr, i_le, i_lt, i_eq, i_addl, i_addr, i_add, i_mull, i_mulr, i_mul, i_subr, i_sub, am_at_g, am_at_gl, am_up_g, am_up_gl, up_app, in_X, i_sub1, f_X12_byRight, f_X12_isSide, f_X12_isOffice, f_X12_isDay, w, w2]
      have c1 := t_X11_byRight (xs := xs) A I x (Int32.ofNat s) a2 a3 e1
      have c2 := t_X12_byRight (xs := xs) (up (up A 41 (A 41)) 42 (A 42)) I x (Int32.ofNat s) a2 a3 e2
      exact am_op.mk hx c1 (by decide) c2 (by decide) ⟨P, N, T, R, E, C, X, Z, ⟨hI.1, hI.2.1, hI.2.2.1, hI.2.2.2.1, hI.2.2.2.2.1, hI.2.2.2.2.2.1, hI.2.2.2.2.2.2.1, hI.2.2.2.2.2.2.2.1, hI.2.2.2.2.2.2.2.2.1, hI.2.2.2.2.2.2.2.2.2.1, hI.2.2.2.2.2.2.2.2.2.2.1, hI.2.2.2.2.2.2.2.2.2.2.2.1, hI.2.2.2.2.2.2.2.2.2.2.2.2⟩⟩
    · rcases wi_l 9999 (by decide) a3 with w3 | ⟨d, hd, rfl, w3⟩
      · skip
        have e1 : f_X11_byRight A I x (Int32.ofNat s) (Int32.ofNat o) a3 = some (-2, (A 41), (A 42)) := by
          simp (disch := first | omega | decide | assumption | (simp [up_app]; assumption)) [-Int32.xor_neg_one, -Int32.ofNat_add, -Int32.ofNat_mul, -Int32.ofNat_sub, i_lel, i_ler, i_ltl, i_ltr, i_eql, i_eqr, i_le, i_lt, i_eq, i_addl, i_addr, i_add, i_mull, i_mulr, i_mul, i_subr, i_sub, am_at_g, am_at_gl, am_up_g, am_up_gl, up_app, in_X, i_sub1, f_X11_byRight, f_X11_isSide, f_X11_isOffice, f_X11_isDay, w, w2, w3]
        have e2 : f_X12_byRight (up (up A 41 (A 41)) 42 (A 42)) I (Int32.ofNat s) (Int32.ofNat o) a3 = some (-2, (A 107), (A 108)) := by
          simp (disch := first | omega | decide | assumption | (simp [up_app]; assumption)) [-Int32.xor_neg_one, -Int32.ofNat_add, -Int32.ofNat_mul, -Int32.ofNat_sub, i_lel, i_ler, i_ltl, i_ltr, i_eql, i_eqr, i_le, i_lt, i_eq, i_addl, i_addr, i_add, i_mull, i_mulr, i_mul, i_subr, i_sub, am_at_g, am_at_gl, am_up_g, am_up_gl, up_app, in_X, i_sub1, f_X12_byRight, f_X12_isSide, f_X12_isOffice, f_X12_isDay, w, w2, w3]
        have c1 := t_X11_byRight (xs := xs) A I x (Int32.ofNat s) (Int32.ofNat o) a3 e1
        have c2 := t_X12_byRight (xs := xs) (up (up A 41 (A 41)) 42 (A 42)) I x (Int32.ofNat s) (Int32.ofNat o) a3 e2
        exact am_op.mk hx c1 (by decide) c2 (by decide) ⟨P, N, T, R, E, C, X, Z, ⟨hI.1, hI.2.1, hI.2.2.1, hI.2.2.2.1, hI.2.2.2.2.1, hI.2.2.2.2.2.1, hI.2.2.2.2.2.2.1, hI.2.2.2.2.2.2.2.1, hI.2.2.2.2.2.2.2.2.1, hI.2.2.2.2.2.2.2.2.2.1, hI.2.2.2.2.2.2.2.2.2.2.1, hI.2.2.2.2.2.2.2.2.2.2.2.1, hI.2.2.2.2.2.2.2.2.2.2.2.2⟩⟩
      · obtain ⟨F1, S1, x1, l1, l2⟩ := gd_c hP hT hA hX h41 h42 (show s < 3 by omega)
        obtain ⟨F2, S2, y1, l3, l4⟩ := gd_m (A := up (up A 41 F1) 42 S1) (I := I) (x := x) hP hT hA hX h107 h108 (show s < 3 by omega)
        have y1 : f_X12_goodBy (up (up A 41 F1) 42 S1) I (Int32.ofNat s) = some (Int32.ofNat (gd N T A s), F2, S2) := y1
        have hG : gd N T A s < 16777216 := gd_lt hA
        obtain ⟨v, z1, z2⟩ := right_2 (N := N) (G := gd N T A s) (F1 := F1) (S1 := S1) (F2 := F2) (S2 := S2) hA hG (Int32.ofNat o) hd
        have q1 := scr_4 hI.2.2.2.2.2.2.2.2.2.2.2.2 l1 l2 l3 l4
        have e1 : f_X11_byRight A I x (Int32.ofNat s) (Int32.ofNat o) (Int32.ofNat d) = some (v, F1, S1) := by
          simp (disch := first | omega | decide | assumption | (simp [up_app]; assumption)) [-Int32.xor_neg_one, -Int32.ofNat_add, -Int32.ofNat_mul, -Int32.ofNat_sub, i_lel, i_ler, i_ltl, i_ltr, i_eql, i_eqr, i_le, i_lt, i_eq, i_addl, i_addr, i_add, i_mull, i_mulr, i_mul, i_subr, i_sub, am_at_g, am_at_gl, am_up_g, am_up_gl, up_app, in_X, i_sub1, f_X11_byRight, f_X11_isSide, f_X11_isOffice, f_X11_isDay, w, w2, w3, x1, z1]
        have e2 : f_X12_byRight (up (up A 41 F1) 42 S1) I (Int32.ofNat s) (Int32.ofNat o) (Int32.ofNat d) = some (v, F2, S2) := by
          simp (disch := first | omega | decide | assumption | (simp [up_app]; assumption)) [-Int32.xor_neg_one, -Int32.ofNat_add, -Int32.ofNat_mul, -Int32.ofNat_sub, i_lel, i_ler, i_ltl, i_ltr, i_eql, i_eqr, i_le, i_lt, i_eq, i_addl, i_addr, i_add, i_mull, i_mulr, i_mul, i_subr, i_sub, am_at_g, am_at_gl, am_up_g, am_up_gl, up_app, in_X, i_sub1, f_X12_byRight, f_X12_isSide, f_X12_isOffice, f_X12_isDay, w, w2, w3, y1, z2]
        have c1 := t_X11_byRight (xs := xs) A I x (Int32.ofNat s) (Int32.ofNat o) (Int32.ofNat d) e1
        have c2 := t_X12_byRight (xs := xs) (up (up A 41 F1) 42 S1) I x (Int32.ofNat s) (Int32.ofNat o) (Int32.ofNat d) e2
        exact am_op.mk hx c1 (by decide) c2 (by decide) ⟨P, N, T, R, E, C, X, Z, ⟨hI.1, hI.2.1, hI.2.2.1, hI.2.2.2.1, hI.2.2.2.2.1, hI.2.2.2.2.2.1, hI.2.2.2.2.2.2.1, hI.2.2.2.2.2.2.2.1, hI.2.2.2.2.2.2.2.2.1, hI.2.2.2.2.2.2.2.2.2.1, hI.2.2.2.2.2.2.2.2.2.2.1, hI.2.2.2.2.2.2.2.2.2.2.2.1, q1⟩⟩
