/-! ===== calls: ACTS told, ELECTORS, CLAUSES, THE TAPE (by wip/whole/gen_ops4.py) ===== -/
theorem set_self {xs : List Int32} {k : Nat} {v : Int32} (hk : k < xs.length) (h : g xs k = v) : xs.set k v = xs := by
  apply g_ext (by rw [List.length_set])
  intro j hj
  rw [g_set hk]
  split
  · next e => rw [e, h]
  · rfl
theorem op_side (xs : List Int32) {n : Nat} {A : Nat → List Int32} {I : Nat → Int32} {x : am_X} (h : Iv0 n A I x) (a1 : Int32) (a2 : Int32) : am_op xs n ix_X11_side ix_X12_side [.int a1, .int a2] A I x := by
  obtain ⟨⟨P, N, T, R, E, C, X, Z, hI⟩, hx⟩ := h
  rcases wi_l 7 (by decide) a1 with w | ⟨k, hk, rfl, w⟩
  · skip
    have e1 : f_X11_side A I a1 a2 = some (-2) := by
      simp (disch := first | omega | decide | assumption | (simp [up_app]; assumption)) [-Int32.xor_neg_one, -Int32.ofNat_add, -Int32.ofNat_mul, -Int32.ofNat_sub, i_lel, i_ler, i_ltl, i_ltr, i_eql, i_eqr, i_le, i_lt, i_eq, i_addl, i_addr, i_add, i_mull, i_mulr, i_mul, i_subr, i_sub, am_at_g, am_at_gl, am_up_g, am_up_gl, up_app, in_X, i_sub1, f_X11_side, f_X11_isLand, w]
    have e2 : f_X12_side A I a1 a2 = some (-2) := by
      simp (disch := first | omega | decide | assumption | (simp [up_app]; assumption)) [-Int32.xor_neg_one, -Int32.ofNat_add, -Int32.ofNat_mul, -Int32.ofNat_sub, i_lel, i_ler, i_ltl, i_ltr, i_eql, i_eqr, i_le, i_lt, i_eq, i_addl, i_addr, i_add, i_mull, i_mulr, i_mul, i_subr, i_sub, am_at_g, am_at_gl, am_up_g, am_up_gl, up_app, in_X, i_sub1, f_X12_side, f_X12_isLand, w]
    have c1 := t_X11_side (xs := xs) A I x a1 a2 e1
    have c2 := t_X12_side (xs := xs) A I x a1 a2 e2
    exact am_op.mk hx c1 (by decide) c2 (by decide) ⟨P, N, T, R, E, C, X, Z, ⟨hI.1, hI.2.1, hI.2.2.1, hI.2.2.2.1, hI.2.2.2.2.1, hI.2.2.2.2.2.1, hI.2.2.2.2.2.2.1, hI.2.2.2.2.2.2.2.1, hI.2.2.2.2.2.2.2.2.1, hI.2.2.2.2.2.2.2.2.2.1, hI.2.2.2.2.2.2.2.2.2.2.1, hI.2.2.2.2.2.2.2.2.2.2.2.1, hI.2.2.2.2.2.2.2.2.2.2.2.2⟩⟩
  · rcases wi_l 9999 (by decide) a2 with w2 | ⟨d, hd, rfl, w2⟩
    · skip
      have e1 : f_X11_side A I (Int32.ofNat k) a2 = some (-2) := by
        simp (disch := first | omega | decide | assumption | (simp [up_app]; assumption)) [-Int32.xor_neg_one, -Int32.ofNat_add, -Int32.ofNat_mul, -Int32.ofNat_sub, i_lel, i_ler, i_ltl, i_ltr, i_eql, i_eqr, i_le, i_lt, i_eq, i_addl, i_addr, i_add, i_mull, i_mulr, i_mul, i_subr, i_sub, am_at_g, am_at_gl, am_up_g, am_up_gl, up_app, in_X, i_sub1, f_X11_side, f_X11_isLand, f_X11_isDay, w, w2]
      have e2 : f_X12_side A I (Int32.ofNat k) a2 = some (-2) := by
        simp (disch := first | omega | decide | assumption | (simp [up_app]; assumption)) [-Int32.xor_neg_one, -Int32.ofNat_add, -Int32.ofNat_mul, -Int32.ofNat_sub, i_lel, i_ler, i_ltl, i_ltr, i_eql, i_eqr, i_le, i_lt, i_eq, i_addl, i_addr, i_add, i_mull, i_mulr, i_mul, i_subr, i_sub, am_at_g, am_at_gl, am_up_g, am_up_gl, up_app, in_X, i_sub1, f_X12_side, f_X12_isLand, f_X12_isDay, w, w2]
      have c1 := t_X11_side (xs := xs) A I x (Int32.ofNat k) a2 e1
      have c2 := t_X12_side (xs := xs) A I x (Int32.ofNat k) a2 e2
      exact am_op.mk hx c1 (by decide) c2 (by decide) ⟨P, N, T, R, E, C, X, Z, ⟨hI.1, hI.2.1, hI.2.2.1, hI.2.2.2.1, hI.2.2.2.2.1, hI.2.2.2.2.2.1, hI.2.2.2.2.2.2.1, hI.2.2.2.2.2.2.2.1, hI.2.2.2.2.2.2.2.2.1, hI.2.2.2.2.2.2.2.2.2.1, hI.2.2.2.2.2.2.2.2.2.2.1, hI.2.2.2.2.2.2.2.2.2.2.2.1, hI.2.2.2.2.2.2.2.2.2.2.2.2⟩⟩
    · obtain ⟨x1, x2, -⟩ := side_c hI.2.2.1 (Int32.ofNat k) (Int32.ofNat d)
      have e1 : f_X11_side A I (Int32.ofNat k) (Int32.ofNat d) = some ((sd T A (Int32.ofNat k) (Int32.ofNat d))) := by
        simp (disch := first | omega | decide | assumption | (simp [up_app]; assumption)) [-Int32.xor_neg_one, -Int32.ofNat_add, -Int32.ofNat_mul, -Int32.ofNat_sub, i_lel, i_ler, i_ltl, i_ltr, i_eql, i_eqr, i_le, i_lt, i_eq, i_addl, i_addr, i_add, i_mull, i_mulr, i_mul, i_subr, i_sub, am_at_g, am_at_gl, am_up_g, am_up_gl, up_app, in_X, i_sub1, f_X11_side, f_X11_isLand, f_X11_isDay, w, w2, x1]
      have e2 : f_X12_side A I (Int32.ofNat k) (Int32.ofNat d) = some ((sd T A (Int32.ofNat k) (Int32.ofNat d))) := by
        simp (disch := first | omega | decide | assumption | (simp [up_app]; assumption)) [-Int32.xor_neg_one, -Int32.ofNat_add, -Int32.ofNat_mul, -Int32.ofNat_sub, i_lel, i_ler, i_ltl, i_ltr, i_eql, i_eqr, i_le, i_lt, i_eq, i_addl, i_addr, i_add, i_mull, i_mulr, i_mul, i_subr, i_sub, am_at_g, am_at_gl, am_up_g, am_up_gl, up_app, in_X, i_sub1, f_X12_side, f_X12_isLand, f_X12_isDay, w, w2, x2]
      have c1 := t_X11_side (xs := xs) A I x (Int32.ofNat k) (Int32.ofNat d) e1
      have c2 := t_X12_side (xs := xs) A I x (Int32.ofNat k) (Int32.ofNat d) e2
      exact am_op.mk hx c1 (by decide) c2 (by decide) ⟨P, N, T, R, E, C, X, Z, ⟨hI.1, hI.2.1, hI.2.2.1, hI.2.2.2.1, hI.2.2.2.2.1, hI.2.2.2.2.2.1, hI.2.2.2.2.2.2.1, hI.2.2.2.2.2.2.2.1, hI.2.2.2.2.2.2.2.2.1, hI.2.2.2.2.2.2.2.2.2.1, hI.2.2.2.2.2.2.2.2.2.2.1, hI.2.2.2.2.2.2.2.2.2.2.2.1, hI.2.2.2.2.2.2.2.2.2.2.2.2⟩⟩

theorem op_hang (xs : List Int32) {n : Nat} {A : Nat → List Int32} {I : Nat → Int32} {x : am_X} (h : Iv0 n A I x) (a1 : Int32) (a2 : Int32) : am_op xs n ix_X11_hang ix_X12_hang [.int a1, .int a2] A I x := by
  obtain ⟨⟨P, N, T, R, E, C, X, Z, hI⟩, hx⟩ := h
  have hA := hI.2.2.2.1
  obtain ⟨⟨a1', a2', a3', a4', a5', a6'⟩, ⟨b1, b2, b3, b4, b5, b6, b7, b8⟩, c1, c2, c3, ho⟩ := id hA
  rcases c_Act N (by omega) a1 with ⟨w, v⟩ | ⟨k, hk, rfl, w, v⟩
  · have w := w A I c2
    have v := v (up A 35 (A 35)) I c3
    have e1 : f_X11_hang A I a1 a2 = some (-2, (A 35)) := by
      simp (disch := first | omega | decide | assumption | (simp [up_app]; assumption)) [-Int32.xor_neg_one, -Int32.ofNat_add, -Int32.ofNat_mul, -Int32.ofNat_sub, i_lel, i_ler, i_ltl, i_ltr, i_eql, i_eqr, i_le, i_lt, i_eq, i_addl, i_addr, i_add, i_mull, i_mulr, i_mul, i_subr, i_sub, am_at_g, am_at_gl, am_up_g, am_up_gl, up_app, in_X, i_sub1, f_X11_hang, w]
    have e2 : f_X12_hang (up A 35 (A 35)) I a1 a2 = some (-2, (A 99)) := by
      simp (disch := first | omega | decide | assumption | (simp [up_app]; assumption)) [-Int32.xor_neg_one, -Int32.ofNat_add, -Int32.ofNat_mul, -Int32.ofNat_sub, i_lel, i_ler, i_ltl, i_ltr, i_eql, i_eqr, i_le, i_lt, i_eq, i_addl, i_addr, i_add, i_mull, i_mulr, i_mul, i_subr, i_sub, am_at_g, am_at_gl, am_up_g, am_up_gl, up_app, in_X, i_sub1, f_X12_hang, v]
    have c1 := t_X11_hang (xs := xs) A I x a1 a2 e1
    have c2 := t_X12_hang (xs := xs) (up A 35 (A 35)) I x a1 a2 e2
    exact am_op.mk hx c1 (by decide) c2 (by decide) ⟨P, N, T, R, E, C, X, Z, ⟨hI.1, hI.2.1, hI.2.2.1, hI.2.2.2.1, hI.2.2.2.2.1, hI.2.2.2.2.2.1, hI.2.2.2.2.2.2.1, hI.2.2.2.2.2.2.2.1, hI.2.2.2.2.2.2.2.2.1, hI.2.2.2.2.2.2.2.2.2.1, hI.2.2.2.2.2.2.2.2.2.2.1, hI.2.2.2.2.2.2.2.2.2.2.2.1, hI.2.2.2.2.2.2.2.2.2.2.2.2⟩⟩
  · have w := w A I c2
    have v' := v (up A 35 (A 35)) I c3
    rcases c_Act N (by omega) a2 with ⟨w2, v2⟩ | ⟨o, ho', rfl, w2, v2⟩
    · have w2 := w2 A I c2
      have v2 := v2 (up A 35 (A 35)) I c3
      have e1 : f_X11_hang A I (Int32.ofNat k) a2 = some (-2, (A 35)) := by
        simp (disch := first | omega | decide | assumption | (simp [up_app]; assumption)) [-Int32.xor_neg_one, -Int32.ofNat_add, -Int32.ofNat_mul, -Int32.ofNat_sub, i_lel, i_ler, i_ltl, i_ltr, i_eql, i_eqr, i_le, i_lt, i_eq, i_addl, i_addr, i_add, i_mull, i_mulr, i_mul, i_subr, i_sub, am_at_g, am_at_gl, am_up_g, am_up_gl, up_app, in_X, i_sub1, f_X11_hang, w, w2]
      have e2 : f_X12_hang (up A 35 (A 35)) I (Int32.ofNat k) a2 = some (-2, (A 99)) := by
        simp (disch := first | omega | decide | assumption | (simp [up_app]; assumption)) [-Int32.xor_neg_one, -Int32.ofNat_add, -Int32.ofNat_mul, -Int32.ofNat_sub, i_lel, i_ler, i_ltl, i_ltr, i_eql, i_eqr, i_le, i_lt, i_eq, i_addl, i_addr, i_add, i_mull, i_mulr, i_mul, i_subr, i_sub, am_at_g, am_at_gl, am_up_g, am_up_gl, up_app, in_X, i_sub1, f_X12_hang, v', v2]
      have c1 := t_X11_hang (xs := xs) A I x (Int32.ofNat k) a2 e1
      have c2 := t_X12_hang (xs := xs) (up A 35 (A 35)) I x (Int32.ofNat k) a2 e2
      exact am_op.mk hx c1 (by decide) c2 (by decide) ⟨P, N, T, R, E, C, X, Z, ⟨hI.1, hI.2.1, hI.2.2.1, hI.2.2.2.1, hI.2.2.2.2.1, hI.2.2.2.2.2.1, hI.2.2.2.2.2.2.1, hI.2.2.2.2.2.2.2.1, hI.2.2.2.2.2.2.2.2.1, hI.2.2.2.2.2.2.2.2.2.1, hI.2.2.2.2.2.2.2.2.2.2.1, hI.2.2.2.2.2.2.2.2.2.2.2.1, hI.2.2.2.2.2.2.2.2.2.2.2.2⟩⟩
    · have w2 := w2 A I c2
      have v2' := v2 (up A 35 (A 35)) I c3
      by_cases e : k = o
      · have e := eq_true e
        have e1 : f_X11_hang A I (Int32.ofNat k) (Int32.ofNat o) = some (-2, (A 35)) := by
          simp (disch := first | omega | decide | assumption | (simp [up_app]; assumption)) [-Int32.xor_neg_one, -Int32.ofNat_add, -Int32.ofNat_mul, -Int32.ofNat_sub, i_lel, i_ler, i_ltl, i_ltr, i_eql, i_eqr, i_le, i_lt, i_eq, i_addl, i_addr, i_add, i_mull, i_mulr, i_mul, i_subr, i_sub, am_at_g, am_at_gl, am_up_g, am_up_gl, up_app, in_X, i_sub1, f_X11_hang, w, w2, e]
        have e2 : f_X12_hang (up A 35 (A 35)) I (Int32.ofNat k) (Int32.ofNat o) = some (-2, (A 99)) := by
          simp (disch := first | omega | decide | assumption | (simp [up_app]; assumption)) [-Int32.xor_neg_one, -Int32.ofNat_add, -Int32.ofNat_mul, -Int32.ofNat_sub, i_lel, i_ler, i_ltl, i_ltr, i_eql, i_eqr, i_le, i_lt, i_eq, i_addl, i_addr, i_add, i_mull, i_mulr, i_mul, i_subr, i_sub, am_at_g, am_at_gl, am_up_g, am_up_gl, up_app, in_X, i_sub1, f_X12_hang, v', v2', e]
        have c1 := t_X11_hang (xs := xs) A I x (Int32.ofNat k) (Int32.ofNat o) e1
        have c2 := t_X12_hang (xs := xs) (up A 35 (A 35)) I x (Int32.ofNat k) (Int32.ofNat o) e2
        exact am_op.mk hx c1 (by decide) c2 (by decide) ⟨P, N, T, R, E, C, X, Z, ⟨hI.1, hI.2.1, hI.2.2.1, hI.2.2.2.1, hI.2.2.2.2.1, hI.2.2.2.2.2.1, hI.2.2.2.2.2.2.1, hI.2.2.2.2.2.2.2.1, hI.2.2.2.2.2.2.2.2.1, hI.2.2.2.2.2.2.2.2.2.1, hI.2.2.2.2.2.2.2.2.2.2.1, hI.2.2.2.2.2.2.2.2.2.2.2.1, hI.2.2.2.2.2.2.2.2.2.2.2.2⟩⟩
      · have e := eq_false e
        obtain ⟨r1, r2, r3⟩ := hg_1 hA (show k < 24 by omega)
        have eg : g (A 99) k = Int32.ofNat (hg A k) := Option.some.inj ((am_at_g (show k < (A 99).length by omega) (by omega)).symm.trans r1)
        have hh := has_1 (a := hg A k) (k := o) (by omega) (by omega)
        have hb := i_bit (a := hg A k) (k := o) (by omega) (by omega)
        cases ht : (hg A k).testBit o with
        | true =>
          rw [ht, if_pos rfl] at hh hb
          have e1 : f_X11_hang A I (Int32.ofNat k) (Int32.ofNat o) = some (-3, (A 35)) := by
            simp (disch := first | omega | decide | assumption | (simp [up_app]; assumption)) [-Int32.xor_neg_one, -Int32.ofNat_add, -Int32.ofNat_mul, -Int32.ofNat_sub, i_lel, i_ler, i_ltl, i_ltr, i_eql, i_eqr, i_le, i_lt, i_eq, i_addl, i_addr, i_add, i_mull, i_mulr, i_mul, i_subr, i_sub, am_at_g, am_at_gl, am_up_g, am_up_gl, up_app, in_X, i_sub1, f_X11_hang, w, w2, e, r2, hh]
          have e2 : f_X12_hang (up A 35 (A 35)) I (Int32.ofNat k) (Int32.ofNat o) = some (-3, (A 99)) := by
            simp (disch := first | omega | decide | assumption | (simp [up_app]; assumption)) [-Int32.xor_neg_one, -Int32.ofNat_add, -Int32.ofNat_mul, -Int32.ofNat_sub, i_lel, i_ler, i_ltl, i_ltr, i_eql, i_eqr, i_le, i_lt, i_eq, i_addl, i_addr, i_add, i_mull, i_mulr, i_mul, i_subr, i_sub, am_at_g, am_at_gl, am_up_g, am_up_gl, up_app, in_X, i_sub1, f_X12_hang, v', v2', e, r1, hb]
          have c1 := t_X11_hang (xs := xs) A I x (Int32.ofNat k) (Int32.ofNat o) e1
          have c2 := t_X12_hang (xs := xs) (up A 35 (A 35)) I x (Int32.ofNat k) (Int32.ofNat o) e2
          exact am_op.mk hx c1 (by decide) c2 (by decide) ⟨P, N, T, R, E, C, X, Z, ⟨hI.1, hI.2.1, hI.2.2.1, hI.2.2.2.1, hI.2.2.2.2.1, hI.2.2.2.2.2.1, hI.2.2.2.2.2.2.1, hI.2.2.2.2.2.2.2.1, hI.2.2.2.2.2.2.2.2.1, hI.2.2.2.2.2.2.2.2.2.1, hI.2.2.2.2.2.2.2.2.2.2.1, hI.2.2.2.2.2.2.2.2.2.2.2.1, hI.2.2.2.2.2.2.2.2.2.2.2.2⟩⟩
        | false =>
          rw [ht, if_neg (by decide)] at hh hb
          have hlt : hg A k ||| 2 ^ o < 16777216 := or_lt (n := 24) r3 (by omega)
          have hs := i_set (a := hg A k) (k := o) (by omega)
          have u1 : am_up (A 99) (Int32.ofNat k) (Int32.ofNat (hg A k ||| 2 ^ o)) = some ((A 99).set k (Int32.ofNat (hg A k ||| 2 ^ o))) := am_up_g (by omega) (by omega)
          have u2 : am_at ((A 99).set k (Int32.ofNat (hg A k ||| 2 ^ o))) (Int32.ofNat k) = some (Int32.ofNat (hg A k ||| 2 ^ o)) := by rw [am_at_g (by rw [List.length_set]; omega) (by rw [List.length_set]; omega), g_set_eq (by omega)]
          have p1 := bc_1 hlt
          have p2 : f_X12_ones (up (up A 35 ((A 99).set k (Int32.ofNat (hg A k ||| 2 ^ o)))) 99 ((A 99).set k (Int32.ofNat (hg A k ||| 2 ^ o)))) I (Int32.ofNat (hg A k ||| 2 ^ o)) = some (Int32.ofNat (pc (hg A k ||| 2 ^ o))) := ones_1 hlt _ I
          have v := v (up A 35 ((A 99).set k (Int32.ofNat (hg A k ||| 2 ^ o)))) I c3
          have v2 := v2 (up A 35 ((A 99).set k (Int32.ofNat (hg A k ||| 2 ^ o)))) I c3
          have q1 : v_act N (A 30) (A 31) (A 32) (A 33) (A 34) ((A 99).set k (Int32.ofNat (hg A k ||| 2 ^ o))) (A 36) (I 1863) (A 94) (A 95) (A 96) (A 97) (A 98) ((A 99).set k (Int32.ofNat (hg A k ||| 2 ^ o))) (A 100) (I 5450) := by
            refine ⟨⟨a1', a2', a3', a4', a5', rfl⟩, ⟨b1, b2, b3, b4, b5, b6, by rw [List.length_set]; exact b7, b8⟩, c1, c2, c3, fun j hj => ?_⟩
            obtain ⟨z1, z2, z3, z4, z5, z6, z7, z8⟩ := ho j hj
            refine ⟨z1, z2, z3, ?_, ?_, z6, z7, z8⟩
            · rw [g_set (by omega)]
              split
              · exact ⟨_, hlt, rfl⟩
              · exact z4
            · intro h
              rw [g_set_ne (by omega)]
              exact z5 h
          have e1 : f_X11_hang A I (Int32.ofNat k) (Int32.ofNat o) = some ((Int32.ofNat (pc (hg A k ||| 2 ^ o))), ((A 99).set k (Int32.ofNat (hg A k ||| 2 ^ o)))) := by
            simp (disch := first | omega | decide | assumption | (simp [up_app]; assumption)) [-Int32.xor_neg_one, -Int32.ofNat_add, -Int32.ofNat_mul, -Int32.ofNat_sub, i_lel, i_ler, i_ltl, i_ltr, i_eql, i_eqr, i_le, i_lt, i_eq, i_addl, i_addr, i_add, i_mull, i_mulr, i_mul, i_subr, i_sub, am_at_g, am_at_gl, am_up_g, am_up_gl, up_app, in_X, i_sub1, f_X11_hang, w, w2, e, eg, hh, hs, a6', u1, u2, p1]
          have e2 : f_X12_hang (up A 35 ((A 99).set k (Int32.ofNat (hg A k ||| 2 ^ o)))) I (Int32.ofNat k) (Int32.ofNat o) = some ((Int32.ofNat (pc (hg A k ||| 2 ^ o))), ((A 99).set k (Int32.ofNat (hg A k ||| 2 ^ o)))) := by
            simp (disch := first | omega | decide | assumption | (simp [up_app]; assumption)) [-Int32.xor_neg_one, -Int32.ofNat_add, -Int32.ofNat_mul, -Int32.ofNat_sub, i_lel, i_ler, i_ltl, i_ltr, i_eql, i_eqr, i_le, i_lt, i_eq, i_addl, i_addr, i_add, i_mull, i_mulr, i_mul, i_subr, i_sub, am_at_g, am_at_gl, am_up_g, am_up_gl, up_app, in_X, i_sub1, f_X12_hang, v, v2, e, eg, hb, hs, u1, u2, p2]
          have c1 := t_X11_hang (xs := xs) A I x (Int32.ofNat k) (Int32.ofNat o) e1
          have c2 := t_X12_hang (xs := xs) (up A 35 ((A 99).set k (Int32.ofNat (hg A k ||| 2 ^ o)))) I x (Int32.ofNat k) (Int32.ofNat o) e2
          exact am_op.mk hx c1 (by decide) c2 (by decide) ⟨P, N, T, R, E, C, X, Z, ⟨hI.1, hI.2.1, hI.2.2.1, q1, hI.2.2.2.2.1, hI.2.2.2.2.2.1, hI.2.2.2.2.2.2.1, hI.2.2.2.2.2.2.2.1, hI.2.2.2.2.2.2.2.2.1, hI.2.2.2.2.2.2.2.2.2.1, hI.2.2.2.2.2.2.2.2.2.2.1, hI.2.2.2.2.2.2.2.2.2.2.2.1, hI.2.2.2.2.2.2.2.2.2.2.2.2⟩⟩

theorem op_lift (xs : List Int32) {n : Nat} {A : Nat → List Int32} {I : Nat → Int32} {x : am_X} (h : Iv0 n A I x) (a1 : Int32) (a2 : Int32) : am_op xs n ix_X11_lift ix_X12_lift [.int a1, .int a2] A I x := by
  obtain ⟨⟨P, N, T, R, E, C, X, Z, hI⟩, hx⟩ := h
  have hA := hI.2.2.2.1
  obtain ⟨⟨a1', a2', a3', a4', a5', a6'⟩, ⟨b1, b2, b3, b4, b5, b6, b7, b8⟩, c1, c2, c3, ho⟩ := id hA
  rcases c_Act N (by omega) a1 with ⟨w, v⟩ | ⟨k, hk, rfl, w, v⟩
  · have w := w A I c2
    have v := v (up A 36 (A 36)) I c3
    have e1 : f_X11_lift A I a1 a2 = some (-2, (A 36)) := by
      simp (disch := first | omega | decide | assumption | (simp [up_app]; assumption)) [-Int32.xor_neg_one, -Int32.ofNat_add, -Int32.ofNat_mul, -Int32.ofNat_sub, i_lel, i_ler, i_ltl, i_ltr, i_eql, i_eqr, i_le, i_lt, i_eq, i_addl, i_addr, i_add, i_mull, i_mulr, i_mul, i_subr, i_sub, am_at_g, am_at_gl, am_up_g, am_up_gl, up_app, in_X, i_sub1, f_X11_lift, w]
    have e2 : f_X12_lift (up A 36 (A 36)) I a1 a2 = some (-2, (A 100)) := by
      simp (disch := first | omega | decide | assumption | (simp [up_app]; assumption)) [-Int32.xor_neg_one, -Int32.ofNat_add, -Int32.ofNat_mul, -Int32.ofNat_sub, i_lel, i_ler, i_ltl, i_ltr, i_eql, i_eqr, i_le, i_lt, i_eq, i_addl, i_addr, i_add, i_mull, i_mulr, i_mul, i_subr, i_sub, am_at_g, am_at_gl, am_up_g, am_up_gl, up_app, in_X, i_sub1, f_X12_lift, v]
    have c1 := t_X11_lift (xs := xs) A I x a1 a2 e1
    have c2 := t_X12_lift (xs := xs) (up A 36 (A 36)) I x a1 a2 e2
    exact am_op.mk hx c1 (by decide) c2 (by decide) ⟨P, N, T, R, E, C, X, Z, ⟨hI.1, hI.2.1, hI.2.2.1, hI.2.2.2.1, hI.2.2.2.2.1, hI.2.2.2.2.2.1, hI.2.2.2.2.2.2.1, hI.2.2.2.2.2.2.2.1, hI.2.2.2.2.2.2.2.2.1, hI.2.2.2.2.2.2.2.2.2.1, hI.2.2.2.2.2.2.2.2.2.2.1, hI.2.2.2.2.2.2.2.2.2.2.2.1, hI.2.2.2.2.2.2.2.2.2.2.2.2⟩⟩
  · have w := w A I c2
    have v' := v (up A 36 (A 36)) I c3
    rcases wi_l 9999 (by decide) a2 with w2 | ⟨e, he, rfl, w2⟩
    · skip
      have e1 : f_X11_lift A I (Int32.ofNat k) a2 = some (-2, (A 36)) := by
        simp (disch := first | omega | decide | assumption | (simp [up_app]; assumption)) [-Int32.xor_neg_one, -Int32.ofNat_add, -Int32.ofNat_mul, -Int32.ofNat_sub, i_lel, i_ler, i_ltl, i_ltr, i_eql, i_eqr, i_le, i_lt, i_eq, i_addl, i_addr, i_add, i_mull, i_mulr, i_mul, i_subr, i_sub, am_at_g, am_at_gl, am_up_g, am_up_gl, up_app, in_X, i_sub1, f_X11_lift, f_X11_isDay, w, w2]
      have e2 : f_X12_lift (up A 36 (A 36)) I (Int32.ofNat k) a2 = some (-2, (A 100)) := by
        simp (disch := first | omega | decide | assumption | (simp [up_app]; assumption)) [-Int32.xor_neg_one, -Int32.ofNat_add, -Int32.ofNat_mul, -Int32.ofNat_sub, i_lel, i_ler, i_ltl, i_ltr, i_eql, i_eqr, i_le, i_lt, i_eq, i_addl, i_addr, i_add, i_mull, i_mulr, i_mul, i_subr, i_sub, am_at_g, am_at_gl, am_up_g, am_up_gl, up_app, in_X, i_sub1, f_X12_lift, f_X12_isDay, v', w2]
      have c1 := t_X11_lift (xs := xs) A I x (Int32.ofNat k) a2 e1
      have c2 := t_X12_lift (xs := xs) (up A 36 (A 36)) I x (Int32.ofNat k) a2 e2
      exact am_op.mk hx c1 (by decide) c2 (by decide) ⟨P, N, T, R, E, C, X, Z, ⟨hI.1, hI.2.1, hI.2.2.1, hI.2.2.2.1, hI.2.2.2.2.1, hI.2.2.2.2.2.1, hI.2.2.2.2.2.2.1, hI.2.2.2.2.2.2.2.1, hI.2.2.2.2.2.2.2.2.1, hI.2.2.2.2.2.2.2.2.2.1, hI.2.2.2.2.2.2.2.2.2.2.1, hI.2.2.2.2.2.2.2.2.2.2.2.1, hI.2.2.2.2.2.2.2.2.2.2.2.2⟩⟩
    · obtain ⟨⟨q, hq, eq⟩, -, -, -, -, h36, -, d, hd, ed, hl⟩ := ho k (by omega)
      have h36 := h36 hk
      have r1 : am_at (A 33) (Int32.ofNat k) = some (Int32.ofNat d) := by rw [a4', ← ed]; exact am_at_g (by omega) (by omega)
      have r2 : am_at (A 97) (Int32.ofNat k) = some (Int32.ofNat d) := by rw [← ed]; exact am_at_g (by omega) (by omega)
      have r3 : am_at (A 30) (Int32.ofNat k) = some (Int32.ofNat q) := by rw [a1', ← eq]; exact am_at_g (by omega) (by omega)
      have r4 : am_at (A 94) (Int32.ofNat k) = some (Int32.ofNat q) := by rw [← eq]; exact am_at_g (by omega) (by omega)
      have r5 : am_at (A 36) (Int32.ofNat k) = some (g (A 36) k) := am_at_g (by omega) (by omega)
      have r6 : am_at (A 100) (Int32.ofNat k) = some (g (A 36) k) := by rw [h36]; exact am_at_g (by omega) (by omega)
      by_cases hde : d ≤ e
      · have hde' := eq_true hde
        by_cases hq4 : q = 4
        · have hq4' := eq_true hq4
          rcases hl with hl | ⟨-, y, hy1, hy2, hl⟩
          · have n1 := eq_true hl
            have n2 : (g (A 36) k < 0) = True := by rw [hl]; decide
            have u1 : am_up (A 36) (Int32.ofNat k) (Int32.ofNat e) = some ((A 36).set k (Int32.ofNat e)) := am_up_g (by omega) (by omega)
            have u2 : am_up (A 100) (Int32.ofNat k) (Int32.ofNat e) = some ((A 100).set k (Int32.ofNat e)) := am_up_g (by omega) (by omega)
            have u3 : f_X2_lastsFor (up A 36 ((A 36).set k (Int32.ofNat e))) I (Int32.ofNat k) = some (Int32.ofNat (e - d)) := by
              have t1 : am_at (up A 36 ((A 36).set k (Int32.ofNat e)) 36) (Int32.ofNat k) = some (Int32.ofNat e) := by
                show am_at ((A 36).set k (Int32.ofNat e)) _ = _
                rw [am_at_g (by rw [List.length_set]; omega) (by rw [List.length_set]; omega), g_set_eq (by omega)]
              have t2 : am_at (up A 36 ((A 36).set k (Int32.ofNat e)) 33) (Int32.ofNat k) = some (Int32.ofNat d) := r1
              unfold f_X2_lastsFor
              rw [t1, Option.bind_some, if_neg (i_nm1 (by omega)), Option.bind_some, t2, Option.bind_some, i_sub hde]
            have v := v (up A 36 ((A 36).set k (Int32.ofNat e))) I c3
            have q1 : v_act N (A 30) (A 31) (A 32) (A 33) (A 34) (A 35) ((A 36).set k (Int32.ofNat e)) (I 1863) (A 94) (A 95) (A 96) (A 97) (A 98) (A 99) ((A 100).set k (Int32.ofNat e)) (I 5450) := by
              refine ⟨⟨a1', a2', a3', a4', a5', a6'⟩, ⟨by rw [List.length_set]; exact b1, b2, b3, b4, b5, b6, b7, by rw [List.length_set]; exact b8⟩, c1, c2, c3, fun j hj => ?_⟩
              obtain ⟨z1, z2, z3, z4, z5, z6, z7, d', hd', ed', z8⟩ := ho j hj
              by_cases ej : j = k
              · subst ej
                refine ⟨z1, z2, z3, z4, z5, fun _ => by rw [g_set_eq (by omega), g_set_eq (by omega)], fun h => absurd h (by omega), d, hd, ed, Or.inr ⟨by rw [eq, hq4]; rfl, e, hde, by omega, g_set_eq (by omega)⟩⟩
              · refine ⟨z1, z2, z3, z4, z5, fun h => by rw [g_set_ne ej, g_set_ne ej]; exact z6 h, fun h => by rw [g_set_ne ej]; exact z7 h, d', hd', ed', ?_⟩
                rw [g_set_ne ej]
                exact z8
            have e1 : f_X11_lift A I (Int32.ofNat k) (Int32.ofNat e) = some ((Int32.ofNat (e - d)), ((A 36).set k (Int32.ofNat e))) := by
              simp (disch := first | omega | decide | assumption | (simp [up_app]; assumption)) [-Int32.xor_neg_one, -Int32.ofNat_add, -Int32.ofNat_mul, -Int32.ofNat_sub, i_lel, i_ler, i_ltl, i_ltr, i_eql, i_eqr, i_le, i_lt, i_eq, i_addl, i_addr, i_add, i_mull, i_mulr, i_mul, i_subr, i_sub, am_at_g, am_at_gl, am_up_g, am_up_gl, up_app, in_X, i_sub1, f_X11_lift, f_X11_isDay, w, w2, r1, r3, r5, hde', hq4', hl, u1, u3]
            have e2 : f_X12_lift (up A 36 ((A 36).set k (Int32.ofNat e))) I (Int32.ofNat k) (Int32.ofNat e) = some ((Int32.ofNat (e - d)), ((A 100).set k (Int32.ofNat e))) := by
              simp (disch := first | omega | decide | assumption | (simp [up_app]; assumption)) [-Int32.xor_neg_one, -Int32.ofNat_add, -Int32.ofNat_mul, -Int32.ofNat_sub, i_lel, i_ler, i_ltl, i_ltr, i_eql, i_eqr, i_le, i_lt, i_eq, i_addl, i_addr, i_add, i_mull, i_mulr, i_mul, i_subr, i_sub, am_at_g, am_at_gl, am_up_g, am_up_gl, up_app, in_X, i_sub1, f_X12_lift, f_X12_isDay, v, w2, r2, r4, r6, hde', hq4', n2, u2]
            have c1 := t_X11_lift (xs := xs) A I x (Int32.ofNat k) (Int32.ofNat e) e1
            have c2 := t_X12_lift (xs := xs) (up A 36 ((A 36).set k (Int32.ofNat e))) I x (Int32.ofNat k) (Int32.ofNat e) e2
            exact am_op.mk hx c1 (by decide) c2 (by decide) ⟨P, N, T, R, E, C, X, Z, ⟨hI.1, hI.2.1, hI.2.2.1, q1, hI.2.2.2.2.1, hI.2.2.2.2.2.1, hI.2.2.2.2.2.2.1, hI.2.2.2.2.2.2.2.1, hI.2.2.2.2.2.2.2.2.1, hI.2.2.2.2.2.2.2.2.2.1, hI.2.2.2.2.2.2.2.2.2.2.1, hI.2.2.2.2.2.2.2.2.2.2.2.1, hI.2.2.2.2.2.2.2.2.2.2.2.2⟩⟩
          · have n1 := eq_false (i_nm1 (show y < 2147483648 by omega))
            have n2 := eq_false (i_nn (show y < 2147483648 by omega))
            have e1 : f_X11_lift A I (Int32.ofNat k) (Int32.ofNat e) = some (-3, (A 36)) := by
              simp (disch := first | omega | decide | assumption | (simp [up_app]; assumption)) [-Int32.xor_neg_one, -Int32.ofNat_add, -Int32.ofNat_mul, -Int32.ofNat_sub, i_lel, i_ler, i_ltl, i_ltr, i_eql, i_eqr, i_le, i_lt, i_eq, i_addl, i_addr, i_add, i_mull, i_mulr, i_mul, i_subr, i_sub, am_at_g, am_at_gl, am_up_g, am_up_gl, up_app, in_X, i_sub1, f_X11_lift, f_X11_isDay, w, w2, r1, r3, r5, hde', hq4', hl, n1]
            have e2 : f_X12_lift (up A 36 (A 36)) I (Int32.ofNat k) (Int32.ofNat e) = some (-3, (A 100)) := by
              simp (disch := first | omega | decide | assumption | (simp [up_app]; assumption)) [-Int32.xor_neg_one, -Int32.ofNat_add, -Int32.ofNat_mul, -Int32.ofNat_sub, i_lel, i_ler, i_ltl, i_ltr, i_eql, i_eqr, i_le, i_lt, i_eq, i_addl, i_addr, i_add, i_mull, i_mulr, i_mul, i_subr, i_sub, am_at_g, am_at_gl, am_up_g, am_up_gl, up_app, in_X, i_sub1, f_X12_lift, f_X12_isDay, v', w2, r2, r4, r6, hde', hq4', hl, n2]
            have c1 := t_X11_lift (xs := xs) A I x (Int32.ofNat k) (Int32.ofNat e) e1
            have c2 := t_X12_lift (xs := xs) (up A 36 (A 36)) I x (Int32.ofNat k) (Int32.ofNat e) e2
            exact am_op.mk hx c1 (by decide) c2 (by decide) ⟨P, N, T, R, E, C, X, Z, ⟨hI.1, hI.2.1, hI.2.2.1, hI.2.2.2.1, hI.2.2.2.2.1, hI.2.2.2.2.2.1, hI.2.2.2.2.2.2.1, hI.2.2.2.2.2.2.2.1, hI.2.2.2.2.2.2.2.2.1, hI.2.2.2.2.2.2.2.2.2.1, hI.2.2.2.2.2.2.2.2.2.2.1, hI.2.2.2.2.2.2.2.2.2.2.2.1, hI.2.2.2.2.2.2.2.2.2.2.2.2⟩⟩
        · have hq4' := eq_false hq4
          have e1 : f_X11_lift A I (Int32.ofNat k) (Int32.ofNat e) = some (-13, (A 36)) := by
            simp (disch := first | omega | decide | assumption | (simp [up_app]; assumption)) [-Int32.xor_neg_one, -Int32.ofNat_add, -Int32.ofNat_mul, -Int32.ofNat_sub, i_lel, i_ler, i_ltl, i_ltr, i_eql, i_eqr, i_le, i_lt, i_eq, i_addl, i_addr, i_add, i_mull, i_mulr, i_mul, i_subr, i_sub, am_at_g, am_at_gl, am_up_g, am_up_gl, up_app, in_X, i_sub1, f_X11_lift, f_X11_isDay, w, w2, r1, r3, hde', hq4']
          have e2 : f_X12_lift (up A 36 (A 36)) I (Int32.ofNat k) (Int32.ofNat e) = some (-13, (A 100)) := by
            simp (disch := first | omega | decide | assumption | (simp [up_app]; assumption)) [-Int32.xor_neg_one, -Int32.ofNat_add, -Int32.ofNat_mul, -Int32.ofNat_sub, i_lel, i_ler, i_ltl, i_ltr, i_eql, i_eqr, i_le, i_lt, i_eq, i_addl, i_addr, i_add, i_mull, i_mulr, i_mul, i_subr, i_sub, am_at_g, am_at_gl, am_up_g, am_up_gl, up_app, in_X, i_sub1, f_X12_lift, f_X12_isDay, v', w2, r2, r4, hde', hq4']
          have c1 := t_X11_lift (xs := xs) A I x (Int32.ofNat k) (Int32.ofNat e) e1
          have c2 := t_X12_lift (xs := xs) (up A 36 (A 36)) I x (Int32.ofNat k) (Int32.ofNat e) e2
          exact am_op.mk hx c1 (by decide) c2 (by decide) ⟨P, N, T, R, E, C, X, Z, ⟨hI.1, hI.2.1, hI.2.2.1, hI.2.2.2.1, hI.2.2.2.2.1, hI.2.2.2.2.2.1, hI.2.2.2.2.2.2.1, hI.2.2.2.2.2.2.2.1, hI.2.2.2.2.2.2.2.2.1, hI.2.2.2.2.2.2.2.2.2.1, hI.2.2.2.2.2.2.2.2.2.2.1, hI.2.2.2.2.2.2.2.2.2.2.2.1, hI.2.2.2.2.2.2.2.2.2.2.2.2⟩⟩
      · have hde' := eq_false hde
        have e1 : f_X11_lift A I (Int32.ofNat k) (Int32.ofNat e) = some (-2, (A 36)) := by
          simp (disch := first | omega | decide | assumption | (simp [up_app]; assumption)) [-Int32.xor_neg_one, -Int32.ofNat_add, -Int32.ofNat_mul, -Int32.ofNat_sub, i_lel, i_ler, i_ltl, i_ltr, i_eql, i_eqr, i_le, i_lt, i_eq, i_addl, i_addr, i_add, i_mull, i_mulr, i_mul, i_subr, i_sub, am_at_g, am_at_gl, am_up_g, am_up_gl, up_app, in_X, i_sub1, f_X11_lift, f_X11_isDay, w, w2, r1, hde']
        have e2 : f_X12_lift (up A 36 (A 36)) I (Int32.ofNat k) (Int32.ofNat e) = some (-2, (A 100)) := by
          simp (disch := first | omega | decide | assumption | (simp [up_app]; assumption)) [-Int32.xor_neg_one, -Int32.ofNat_add, -Int32.ofNat_mul, -Int32.ofNat_sub, i_lel, i_ler, i_ltl, i_ltr, i_eql, i_eqr, i_le, i_lt, i_eq, i_addl, i_addr, i_add, i_mull, i_mulr, i_mul, i_subr, i_sub, am_at_g, am_at_gl, am_up_g, am_up_gl, up_app, in_X, i_sub1, f_X12_lift, f_X12_isDay, v', w2, r2, hde']
        have c1 := t_X11_lift (xs := xs) A I x (Int32.ofNat k) (Int32.ofNat e) e1
        have c2 := t_X12_lift (xs := xs) (up A 36 (A 36)) I x (Int32.ofNat k) (Int32.ofNat e) e2
        exact am_op.mk hx c1 (by decide) c2 (by decide) ⟨P, N, T, R, E, C, X, Z, ⟨hI.1, hI.2.1, hI.2.2.1, hI.2.2.2.1, hI.2.2.2.2.1, hI.2.2.2.2.2.1, hI.2.2.2.2.2.2.1, hI.2.2.2.2.2.2.2.1, hI.2.2.2.2.2.2.2.2.1, hI.2.2.2.2.2.2.2.2.2.1, hI.2.2.2.2.2.2.2.2.2.2.1, hI.2.2.2.2.2.2.2.2.2.2.2.1, hI.2.2.2.2.2.2.2.2.2.2.2.2⟩⟩

theorem op_actTold (xs : List Int32) {n : Nat} {A : Nat → List Int32} {I : Nat → Int32} {x : am_X} (h : Iv0 n A I x) (a1 : Int32) (a2 : Int32) : am_op xs n ix_X11_actTold ix_X12_actTold [.int a1, .int a2] A I x := by
  obtain ⟨⟨P, N, T, R, E, C, X, Z, hI⟩, hx⟩ := h
  have hA := hI.2.2.2.1
  obtain ⟨⟨a1', a2', a3', a4', a5', a6'⟩, ⟨b1, b2, b3, b4, b5, b6, b7, b8⟩, c1, c2, c3, ho⟩ := id hA
  rcases c_Act N (by omega) a1 with ⟨w, v⟩ | ⟨k, hk, rfl, w, v⟩
  · have w := w A I c2
    have v := v A I c3
    have e1 : f_X11_actTold A I a1 a2 = some (-2) := by
      simp (disch := first | omega | decide | assumption | (simp [up_app]; assumption)) [-Int32.xor_neg_one, -Int32.ofNat_add, -Int32.ofNat_mul, -Int32.ofNat_sub, i_lel, i_ler, i_ltl, i_ltr, i_eql, i_eqr, i_le, i_lt, i_eq, i_addl, i_addr, i_add, i_mull, i_mulr, i_mul, i_subr, i_sub, am_at_g, am_at_gl, am_up_g, am_up_gl, up_app, in_X, i_sub1, f_X11_actTold, w]
    have e2 : f_X12_actTold A I a1 a2 = some (-2) := by
      simp (disch := first | omega | decide | assumption | (simp [up_app]; assumption)) [-Int32.xor_neg_one, -Int32.ofNat_add, -Int32.ofNat_mul, -Int32.ofNat_sub, i_lel, i_ler, i_ltl, i_ltr, i_eql, i_eqr, i_le, i_lt, i_eq, i_addl, i_addr, i_add, i_mull, i_mulr, i_mul, i_subr, i_sub, am_at_g, am_at_gl, am_up_g, am_up_gl, up_app, in_X, i_sub1, f_X12_actTold, v]
    have c1 := t_X11_actTold (xs := xs) A I x a1 a2 e1
    have c2 := t_X12_actTold (xs := xs) A I x a1 a2 e2
    exact am_op.mk hx c1 (by decide) c2 (by decide) ⟨P, N, T, R, E, C, X, Z, ⟨hI.1, hI.2.1, hI.2.2.1, hI.2.2.2.1, hI.2.2.2.2.1, hI.2.2.2.2.2.1, hI.2.2.2.2.2.2.1, hI.2.2.2.2.2.2.2.1, hI.2.2.2.2.2.2.2.2.1, hI.2.2.2.2.2.2.2.2.2.1, hI.2.2.2.2.2.2.2.2.2.2.1, hI.2.2.2.2.2.2.2.2.2.2.2.1, hI.2.2.2.2.2.2.2.2.2.2.2.2⟩⟩
  · have w := w A I c2
    have v := v A I c3
    rcases wi_l 7 (by decide) a2 with w2 | ⟨q, hq, rfl, w2⟩
    · have n : ∀ c : Nat, c ≤ 7 → ¬ a2 = Int32.ofNat c := fun c hc q => by
        subst q
        have : ∀ c, c ≤ 7 → ¬ f_X11_isWithin (Int32.ofNat c) 0 (OfNat.ofNat 7) = some 0 := by decide
        exact this c hc w2
      have n0 := eq_false (n 0 (by decide))
      have n1 := eq_false (n 1 (by decide))
      have n2 := eq_false (n 2 (by decide))
      have n3 := eq_false (n 3 (by decide))
      have n4 := eq_false (n 4 (by decide))
      have n5 := eq_false (n 5 (by decide))
      have n6 := eq_false (n 6 (by decide))
      have n7 := eq_false (n 7 (by decide))
      have e1 : f_X11_actTold A I (Int32.ofNat k) a2 = some (-2) := by
        simp only [f_X11_actTold, w, w2, Option.bind_some, if_true, if_neg (show ¬ (1 : Int32) = 0 by decide)]
      have e2 : f_X12_actTold A I (Int32.ofNat k) a2 = some (-2) := by
        unfold f_X12_actTold
        rw [v, Option.bind_some, if_neg (show ¬ (1 : Int32) = 0 by decide), if_neg (show ¬ a2 = 0 from n 0 (by decide)), if_neg (show ¬ a2 = 1 from n 1 (by decide)), if_neg (show ¬ a2 = 2 from n 2 (by decide)), if_neg (show ¬ a2 = 3 from n 3 (by decide)), if_neg (show ¬ a2 = 4 from n 4 (by decide)), if_neg (show ¬ a2 = 5 from n 5 (by decide)), if_neg (show ¬ a2 = 6 from n 6 (by decide)), if_neg (show ¬ a2 = 7 from n 7 (by decide))]
      have c1 := t_X11_actTold (xs := xs) A I x (Int32.ofNat k) a2 e1
      have c2 := t_X12_actTold (xs := xs) A I x (Int32.ofNat k) a2 e2
      exact am_op.mk hx c1 (by decide) c2 (by decide) ⟨P, N, T, R, E, C, X, Z, hI⟩
    · obtain ⟨k1, k2⟩ := rank_1 hA (show k < 24 by omega)
      obtain ⟨L, hL, k3, k4⟩ := lasts_1 hA hk
      have key : ∃ z, f_X2_tell A I (Int32.ofNat k) (Int32.ofNat q) = some z ∧ f_X12_actTold A I (Int32.ofNat k) (Int32.ofNat q) = some z := by
        have r : ∀ (xs : List Int32), xs.length = 24 → am_at xs (Int32.ofNat k) = some (g xs k) := fun xs h => am_at_g (by omega) (by omega)
        rcases (show q = 0 ∨ q = 1 ∨ q = 2 ∨ q = 3 ∨ q = 4 ∨ q = 5 ∨ q = 6 ∨ q = 7 by omega) with rfl | rfl | rfl | rfl | rfl | rfl | rfl | rfl
        · exact ⟨g (A 94) k, by show (am_at (A 30) _).bind _ = _; rw [a1', r _ b2]; rfl, by unfold f_X12_actTold; rw [v]; show (am_at (A 94) _).bind _ = _; rw [r _ b2]; rfl⟩
        · exact ⟨g (A 95) k, by show (am_at (A 31) _).bind _ = _; rw [a2', r _ b3]; rfl, by unfold f_X12_actTold; rw [v]; show (am_at (A 95) _).bind _ = _; rw [r _ b3]; rfl⟩
        · exact ⟨g (A 96) k, by show (am_at (A 32) _).bind _ = _; rw [a3', r _ b4]; rfl, by unfold f_X12_actTold; rw [v]; show (am_at (A 96) _).bind _ = _; rw [r _ b4]; rfl⟩
        · exact ⟨g (A 97) k, by show (am_at (A 33) _).bind _ = _; rw [a4', r _ b5]; rfl, by unfold f_X12_actTold; rw [v]; show (am_at (A 97) _).bind _ = _; rw [r _ b5]; rfl⟩
        · exact ⟨g (A 98) k, by show (am_at (A 34) _).bind _ = _; rw [a5', r _ b6]; rfl, by unfold f_X12_actTold; rw [v]; show (am_at (A 98) _).bind _ = _; rw [r _ b6]; rfl⟩
        · exact ⟨rkv (g (A 94) k), by show (f_X2_rankOf A I _).bind _ = _; rw [k1]; rfl, by unfold f_X12_actTold; rw [v]; show (f_X12_rankOf A I _).bind _ = _; rw [k2]; rfl⟩
        · exact ⟨Int32.ofNat L, by show (f_X2_lastsFor A I _).bind _ = _; rw [k3]; rfl, by unfold f_X12_actTold; rw [v]; show (f_X12_lastsOf A I _).bind _ = _; rw [k4]; rfl⟩
        · exact ⟨g (A 99) k, by show (am_at (A 35) _).bind _ = _; rw [a6', r _ b7]; rfl, by unfold f_X12_actTold; rw [v]; show (am_at (A 99) _).bind _ = _; rw [r _ b7]; rfl⟩
      obtain ⟨z, z1, z2⟩ := key
      have e1 : f_X11_actTold A I (Int32.ofNat k) (Int32.ofNat q) = some z := by
        simp only [f_X11_actTold, w, w2, Option.bind_some, if_neg (show ¬ (1 : Int32) = 0 by decide), z1]
      have c1 := t_X11_actTold (xs := xs) A I x (Int32.ofNat k) (Int32.ofNat q) e1
      have c2 := t_X12_actTold (xs := xs) A I x (Int32.ofNat k) (Int32.ofNat q) z2
      exact am_op.mk hx c1 (by decide) c2 (by decide) ⟨P, N, T, R, E, C, X, Z, hI⟩

theorem under_1 : ∀ q, q < 6 → ∀ k, k < 6 → ∃ b : Bool, f_X11_isUnder (Int32.ofNat q) (Int32.ofNat k) = some (if b then 1 else 0) ∧ f_X12_isUnder (fun _ => []) (fun _ => 0) (Int32.ofNat q) (Int32.ofNat k) = some (if b then 1 else 0) := by decide +kernel
theorem op_taken (xs : List Int32) {n : Nat} {A : Nat → List Int32} {I : Nat → Int32} {x : am_X} (h : Iv0 n A I x) (a1 : Int32) (a2 : Int32) : am_op xs n ix_X11_taken ix_X12_taken [.int a1, .int a2] A I x := by
  obtain ⟨⟨P, N, T, R, E, C, X, Z, hI⟩, hx⟩ := h
  have hA := hI.2.2.2.1
  obtain ⟨⟨a1', a2', a3', a4', a5', a6'⟩, ⟨b1, b2, b3, b4, b5, b6, b7, b8⟩, c1, c2, c3, ho⟩ := id hA
  rcases wi_l 5 (by decide) a2 with w | ⟨q, hq, rfl, w⟩
  · skip
    have e1 : f_X11_taken A I a1 a2 = some (-2) := by
      simp (disch := first | omega | decide | assumption | (simp [up_app]; assumption)) [-Int32.xor_neg_one, -Int32.ofNat_add, -Int32.ofNat_mul, -Int32.ofNat_sub, i_lel, i_ler, i_ltl, i_ltr, i_eql, i_eqr, i_le, i_lt, i_eq, i_addl, i_addr, i_add, i_mull, i_mulr, i_mul, i_subr, i_sub, am_at_g, am_at_gl, am_up_g, am_up_gl, up_app, in_X, i_sub1, f_X11_taken, w]
    have e2 : f_X12_taken A I a1 a2 = some (-2) := by
      simp (disch := first | omega | decide | assumption | (simp [up_app]; assumption)) [-Int32.xor_neg_one, -Int32.ofNat_add, -Int32.ofNat_mul, -Int32.ofNat_sub, i_lel, i_ler, i_ltl, i_ltr, i_eql, i_eqr, i_le, i_lt, i_eq, i_addl, i_addr, i_add, i_mull, i_mulr, i_mul, i_subr, i_sub, am_at_g, am_at_gl, am_up_g, am_up_gl, up_app, in_X, i_sub1, f_X12_taken, w]
    have c1 := t_X11_taken (xs := xs) A I x a1 a2 e1
    have c2 := t_X12_taken (xs := xs) A I x a1 a2 e2
    exact am_op.mk hx c1 (by decide) c2 (by decide) ⟨P, N, T, R, E, C, X, Z, ⟨hI.1, hI.2.1, hI.2.2.1, hI.2.2.2.1, hI.2.2.2.2.1, hI.2.2.2.2.2.1, hI.2.2.2.2.2.2.1, hI.2.2.2.2.2.2.2.1, hI.2.2.2.2.2.2.2.2.1, hI.2.2.2.2.2.2.2.2.2.1, hI.2.2.2.2.2.2.2.2.2.2.1, hI.2.2.2.2.2.2.2.2.2.2.2.1, hI.2.2.2.2.2.2.2.2.2.2.2.2⟩⟩
  · rcases c_Act N (by omega) a1 with ⟨w2, v⟩ | ⟨k, hk, rfl, w2, v⟩
    · have w2 := w2 A I c2
      have v := v A I c3
      have e1 : f_X11_taken A I a1 (Int32.ofNat q) = some (-11) := by
        simp (disch := first | omega | decide | assumption | (simp [up_app]; assumption)) [-Int32.xor_neg_one, -Int32.ofNat_add, -Int32.ofNat_mul, -Int32.ofNat_sub, i_lel, i_ler, i_ltl, i_ltr, i_eql, i_eqr, i_le, i_lt, i_eq, i_addl, i_addr, i_add, i_mull, i_mulr, i_mul, i_subr, i_sub, am_at_g, am_at_gl, am_up_g, am_up_gl, up_app, in_X, i_sub1, f_X11_taken, w, w2]
      have e2 : f_X12_taken A I a1 (Int32.ofNat q) = some (-11) := by
        simp (disch := first | omega | decide | assumption | (simp [up_app]; assumption)) [-Int32.xor_neg_one, -Int32.ofNat_add, -Int32.ofNat_mul, -Int32.ofNat_sub, i_lel, i_ler, i_ltl, i_ltr, i_eql, i_eqr, i_le, i_lt, i_eq, i_addl, i_addr, i_add, i_mull, i_mulr, i_mul, i_subr, i_sub, am_at_g, am_at_gl, am_up_g, am_up_gl, up_app, in_X, i_sub1, f_X12_taken, w, v]
      have c1 := t_X11_taken (xs := xs) A I x a1 (Int32.ofNat q) e1
      have c2 := t_X12_taken (xs := xs) A I x a1 (Int32.ofNat q) e2
      exact am_op.mk hx c1 (by decide) c2 (by decide) ⟨P, N, T, R, E, C, X, Z, ⟨hI.1, hI.2.1, hI.2.2.1, hI.2.2.2.1, hI.2.2.2.2.1, hI.2.2.2.2.2.1, hI.2.2.2.2.2.2.1, hI.2.2.2.2.2.2.2.1, hI.2.2.2.2.2.2.2.2.1, hI.2.2.2.2.2.2.2.2.2.1, hI.2.2.2.2.2.2.2.2.2.2.1, hI.2.2.2.2.2.2.2.2.2.2.2.1, hI.2.2.2.2.2.2.2.2.2.2.2.2⟩⟩
    · have w2 := w2 A I c2
      have v := v A I c3
      obtain ⟨⟨y, hy, ey⟩, -⟩ := ho k (by omega)
      have r1 : am_at (A 94) (Int32.ofNat k) = some (g (A 94) k) := am_at_g (by omega) (by omega)
      have r2 := rank_2 hA (show k < 24 by omega)
      obtain ⟨-, r3⟩ := rank_1 hA (show k < 24 by omega)
      obtain ⟨b, u1, u2⟩ := under_1 y hy q (by omega)
      rw [← ey] at u1 u2
      have u2 : f_X12_isUnder A I (g (A 94) k) (Int32.ofNat q) = some (if b then 1 else 0) := u2
      cases b with
      | false =>
        rw [if_neg (by decide)] at u1 u2
        have e1 : f_X11_taken A I (Int32.ofNat k) (Int32.ofNat q) = some (-13) := by
          simp (disch := first | omega | decide | assumption | (simp [up_app]; assumption)) [-Int32.xor_neg_one, -Int32.ofNat_add, -Int32.ofNat_mul, -Int32.ofNat_sub, i_lel, i_ler, i_ltl, i_ltr, i_eql, i_eqr, i_le, i_lt, i_eq, i_addl, i_addr, i_add, i_mull, i_mulr, i_mul, i_subr, i_sub, am_at_g, am_at_gl, am_up_g, am_up_gl, up_app, in_X, i_sub1, f_X11_taken, w, w2, a1', r1, u1]
        have e2 : f_X12_taken A I (Int32.ofNat k) (Int32.ofNat q) = some (-13) := by
          simp (disch := first | omega | decide | assumption | (simp [up_app]; assumption)) [-Int32.xor_neg_one, -Int32.ofNat_add, -Int32.ofNat_mul, -Int32.ofNat_sub, i_lel, i_ler, i_ltl, i_ltr, i_eql, i_eqr, i_le, i_lt, i_eq, i_addl, i_addr, i_add, i_mull, i_mulr, i_mul, i_subr, i_sub, am_at_g, am_at_gl, am_up_g, am_up_gl, up_app, in_X, i_sub1, f_X12_taken, w, v, r1, u2]
        have c1 := t_X11_taken (xs := xs) A I x (Int32.ofNat k) (Int32.ofNat q) e1
        have c2 := t_X12_taken (xs := xs) A I x (Int32.ofNat k) (Int32.ofNat q) e2
        exact am_op.mk hx c1 (by decide) c2 (by decide) ⟨P, N, T, R, E, C, X, Z, ⟨hI.1, hI.2.1, hI.2.2.1, hI.2.2.2.1, hI.2.2.2.2.1, hI.2.2.2.2.2.1, hI.2.2.2.2.2.2.1, hI.2.2.2.2.2.2.2.1, hI.2.2.2.2.2.2.2.2.1, hI.2.2.2.2.2.2.2.2.2.1, hI.2.2.2.2.2.2.2.2.2.2.1, hI.2.2.2.2.2.2.2.2.2.2.2.1, hI.2.2.2.2.2.2.2.2.2.2.2.2⟩⟩
      | true =>
        rw [if_pos rfl] at u1 u2
        have e1 : f_X11_taken A I (Int32.ofNat k) (Int32.ofNat q) = some ((rkv (g (A 94) k))) := by
          simp (disch := first | omega | decide | assumption | (simp [up_app]; assumption)) [-Int32.xor_neg_one, -Int32.ofNat_add, -Int32.ofNat_mul, -Int32.ofNat_sub, i_lel, i_ler, i_ltl, i_ltr, i_eql, i_eqr, i_le, i_lt, i_eq, i_addl, i_addr, i_add, i_mull, i_mulr, i_mul, i_subr, i_sub, am_at_g, am_at_gl, am_up_g, am_up_gl, up_app, in_X, i_sub1, f_X11_taken, w, w2, a1', r1, u1, r2]
        have e2 : f_X12_taken A I (Int32.ofNat k) (Int32.ofNat q) = some ((rkv (g (A 94) k))) := by
          simp (disch := first | omega | decide | assumption | (simp [up_app]; assumption)) [-Int32.xor_neg_one, -Int32.ofNat_add, -Int32.ofNat_mul, -Int32.ofNat_sub, i_lel, i_ler, i_ltl, i_ltr, i_eql, i_eqr, i_le, i_lt, i_eq, i_addl, i_addr, i_add, i_mull, i_mulr, i_mul, i_subr, i_sub, am_at_g, am_at_gl, am_up_g, am_up_gl, up_app, in_X, i_sub1, f_X12_taken, w, v, r1, u2, r3]
        have c1 := t_X11_taken (xs := xs) A I x (Int32.ofNat k) (Int32.ofNat q) e1
        have c2 := t_X12_taken (xs := xs) A I x (Int32.ofNat k) (Int32.ofNat q) e2
        exact am_op.mk hx c1 (by decide) c2 (by decide) ⟨P, N, T, R, E, C, X, Z, ⟨hI.1, hI.2.1, hI.2.2.1, hI.2.2.2.1, hI.2.2.2.2.1, hI.2.2.2.2.2.1, hI.2.2.2.2.2.2.1, hI.2.2.2.2.2.2.2.1, hI.2.2.2.2.2.2.2.2.1, hI.2.2.2.2.2.2.2.2.2.1, hI.2.2.2.2.2.2.2.2.2.2.1, hI.2.2.2.2.2.2.2.2.2.2.2.1, hI.2.2.2.2.2.2.2.2.2.2.2.2⟩⟩
