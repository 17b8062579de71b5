/-! ===== calls: the simple ones (by wip/whole/gen_ops1.py) ===== -/
theorem up_app {α : Type} (f : Nat → α) (k : Nat) (v : α) (j : Nat) : up f k v j = if j = k then v else f j := rfl
theorem i_sub1 {P : Nat} : Int32.ofNat (P + 1) - 1 = Int32.ofNat P := i_sub (m := P + 1) (n := 1) (by omega)
theorem am_op.mk {xs : List Int32} {n k1 k2 d1 d2 : Nat} {as : List Value} {A A1 A2 : Nat → List Int32} {I I1 I2 : Nat → Int32} {x : am_X} {v : Int32} (hx : x.2.2.2.2.length ≤ 4 * n ∧ am_sl0 x.2.2.2.2 ≤ 400 * n) (c1 : am_Rt (am_ro xs) d1 k1 (.ref 0 :: as) (hp A I x) (some (.int v), hp A1 I1 x)) (b1 : d1 ≤ 100) (c2 : am_Rt (am_ro xs) d2 k2 (.ref 85 :: as) (hp A1 I1 x) (some (.int v), hp A2 I2 x)) (b2 : d2 ≤ 100) (h : ∃ P N T R E C X Z, Iv P N T R E C X Z A2 I2 x) : am_op xs n k1 k2 as A I x :=
  ⟨v, A1, I1, x, A2, I2, x, c1.mono b1, c2.mono b2, h, Nat.le_trans hx.1 (by omega), Nat.le_trans hx.2 (by omega)⟩
theorem am_opl.mk {xs : List Int32} {n k1 k2 d1 d2 : Nat} {as : List Value} {A A1 A2 : Nat → List Int32} {I I1 I2 : Nat → Int32} {x : am_X} {v : Int64} (hx : x.2.2.2.2.length ≤ 4 * n ∧ am_sl0 x.2.2.2.2 ≤ 400 * n) (c1 : am_Rt (am_ro xs) d1 k1 (.ref 0 :: as) (hp A I x) (some (.long v), hp A1 I1 x)) (b1 : d1 ≤ 100) (c2 : am_Rt (am_ro xs) d2 k2 (.ref 85 :: as) (hp A1 I1 x) (some (.long v), hp A2 I2 x)) (b2 : d2 ≤ 100) (h : ∃ P N T R E C X Z, Iv P N T R E C X Z A2 I2 x) : am_opl xs n k1 k2 as A I x :=
  ⟨v, A1, I1, x, A2, I2, x, c1.mono b1, c2.mono b2, h, Nat.le_trans hx.1 (by omega), Nat.le_trans hx.2 (by omega)⟩
theorem bind_id {α : Type} (o : Option α) : (o.bind fun r => some r) = o := by cases o <;> rfl
theorem c_Person (P : Nat) (hP : P < 100000) (a : Int32) : ((∀ A I, I 1601 = Int32.ofNat P → f_X11_isPerson A I a = some 0) ∧ (∀ A I, I 5442 = Int32.ofNat P → f_X12_isPerson A I a = some 0)) ∨ ∃ k, k < P ∧ a = Int32.ofNat k ∧ (∀ A I, I 1601 = Int32.ofNat P → f_X11_isPerson A I a = some 1) ∧ (∀ A I, I 5442 = Int32.ofNat P → f_X12_isPerson A I a = some 1) := by
  have k1 : ∀ (r : Int32) (a : Int32), f_X11_isWithin a 0 (Int32.ofNat P - 1) = some r → ∀ (A : Nat → List Int32) (I : Nat → Int32), I 1601 = Int32.ofNat P → f_X11_isPerson A I a = some r := fun r a w A I h => by
    unfold f_X11_isPerson
    rw [h, w]; rfl
  have k2 : ∀ (r : Int32) (a : Int32), f_X11_isWithin a 0 (Int32.ofNat P - 1) = some r → ∀ (A : Nat → List Int32) (I : Nat → Int32), I 5442 = Int32.ofNat P → f_X12_isPerson A I a = some r := fun r a w A I h => by
    unfold f_X12_isPerson
    rw [h, in_X, w]; rfl
  rcases wi_p P (by omega) a with w | ⟨k, h1, rfl, w⟩
  · exact Or.inl ⟨k1 0 a w, k2 0 a w⟩
  · exact Or.inr ⟨k, h1, rfl, k1 1 _ w, k2 1 _ w⟩
theorem c_Act (P : Nat) (hP : P < 100000) (a : Int32) : ((∀ A I, I 1863 = Int32.ofNat P → f_X11_isAct A I a = some 0) ∧ (∀ A I, I 5450 = Int32.ofNat P → f_X12_isAct A I a = some 0)) ∨ ∃ k, k < P ∧ a = Int32.ofNat k ∧ (∀ A I, I 1863 = Int32.ofNat P → f_X11_isAct A I a = some 1) ∧ (∀ A I, I 5450 = Int32.ofNat P → f_X12_isAct A I a = some 1) := by
  have k1 : ∀ (r : Int32) (a : Int32), f_X11_isWithin a 0 (Int32.ofNat P - 1) = some r → ∀ (A : Nat → List Int32) (I : Nat → Int32), I 1863 = Int32.ofNat P → f_X11_isAct A I a = some r := fun r a w A I h => by
    unfold f_X11_isAct
    rw [h, w]; rfl
  have k2 : ∀ (r : Int32) (a : Int32), f_X11_isWithin a 0 (Int32.ofNat P - 1) = some r → ∀ (A : Nat → List Int32) (I : Nat → Int32), I 5450 = Int32.ofNat P → f_X12_isAct A I a = some r := fun r a w A I h => by
    unfold f_X12_isAct
    rw [h, in_X, w]; rfl
  rcases wi_p P (by omega) a with w | ⟨k, h1, rfl, w⟩
  · exact Or.inl ⟨k1 0 a w, k2 0 a w⟩
  · exact Or.inr ⟨k, h1, rfl, k1 1 _ w, k2 1 _ w⟩
theorem c_Clause (P : Nat) (hP : P < 100000) (a : Int32) : ((∀ A I, I 3907 = Int32.ofNat P → f_X11_isClause A I a = some 0) ∧ (∀ A I, I 5486 = Int32.ofNat P → f_X12_isClause A I a = some 0)) ∨ ∃ k, k < P ∧ a = Int32.ofNat k ∧ (∀ A I, I 3907 = Int32.ofNat P → f_X11_isClause A I a = some 1) ∧ (∀ A I, I 5486 = Int32.ofNat P → f_X12_isClause A I a = some 1) := by
  have k1 : ∀ (r : Int32) (a : Int32), f_X11_isWithin a 0 (Int32.ofNat P - 1) = some r → ∀ (A : Nat → List Int32) (I : Nat → Int32), I 3907 = Int32.ofNat P → f_X11_isClause A I a = some r := fun r a w A I h => by
    unfold f_X11_isClause
    rw [h, w]; rfl
  have k2 : ∀ (r : Int32) (a : Int32), f_X11_isWithin a 0 (Int32.ofNat P - 1) = some r → ∀ (A : Nat → List Int32) (I : Nat → Int32), I 5486 = Int32.ofNat P → f_X12_isClause A I a = some r := fun r a w A I h => by
    unfold f_X12_isClause
    rw [h, in_X, w]; rfl
  rcases wi_p P (by omega) a with w | ⟨k, h1, rfl, w⟩
  · exact Or.inl ⟨k1 0 a w, k2 0 a w⟩
  · exact Or.inr ⟨k, h1, rfl, k1 1 _ w, k2 1 _ w⟩
theorem op_person (xs : List Int32) {n : Nat} {A : Nat → List Int32} {I : Nat → Int32} {x : am_X} (h : Iv0 n A I x) (a1 : Int32) : am_op xs n ix_X11_person ix_X12_person [.int a1] A I x := by
  obtain ⟨⟨P, N, T, R, E, C, X, Z, hI⟩, hx⟩ := h
  obtain ⟨p1, p2, p3, p4, p5, p6⟩ := id hI.1
  rcases wi_l 7 (by decide) a1 with w | ⟨l, hl, rfl, w⟩
  · skip
    have e1 : f_X11_person A I a1 = some (-2, (A 26), (I 1601)) := by
      simp (disch := first | omega | decide | assumption | (simp [up_app]; assumption)) [-Int32.ofNat_add, -Int32.ofNat_mul, -Int32.ofNat_sub, i_lel, i_ler, i_ltl, i_ltr, i_eql, i_eqr, i_le, i_lt, i_eq, i_addl, i_addr, i_add, i_mull, i_mulr, i_mul, i_subr, i_sub, am_at_g, am_at_gl, am_up_g, am_up_gl, up_app, in_X, i_sub1, f_X11_person, f_X11_isLand, w]
    have e2 : f_X12_person (up A 26 (A 26)) (up I 1601 (I 1601)) a1 = some (-2, (A 88), (I 5442)) := by
      simp (disch := first | omega | decide | assumption | (simp [up_app]; assumption)) [-Int32.ofNat_add, -Int32.ofNat_mul, -Int32.ofNat_sub, i_lel, i_ler, i_ltl, i_ltr, i_eql, i_eqr, i_le, i_lt, i_eq, i_addl, i_addr, i_add, i_mull, i_mulr, i_mul, i_subr, i_sub, am_at_g, am_at_gl, am_up_g, am_up_gl, up_app, in_X, i_sub1, f_X12_person, f_X12_isLand, w]
    have c1 := t_X11_person (xs := xs) A I x a1 e1
    have c2 := t_X12_person (xs := xs) (up A 26 (A 26)) (up I 1601 (I 1601)) x a1 e2
    exact am_op.mk hx c1 (by decide) c2 (by decide) ⟨P, N, T, R, E, C, X, Z, ⟨hI.1, hI.2.1, hI.2.2.1, hI.2.2.2.1, hI.2.2.2.2.1, hI.2.2.2.2.2.1, hI.2.2.2.2.2.2.1, hI.2.2.2.2.2.2.2.1, hI.2.2.2.2.2.2.2.2.1, hI.2.2.2.2.2.2.2.2.2.1, hI.2.2.2.2.2.2.2.2.2.2.1, hI.2.2.2.2.2.2.2.2.2.2.2.1, hI.2.2.2.2.2.2.2.2.2.2.2.2⟩⟩
  · by_cases hP : P < 12
    · have hP2 : ¬ P = 12 := by omega
      have q1 : v_ppl (P + 1) ((A 88).set P (Int32.ofNat l)) ((A 88).set P (Int32.ofNat l)) (Int32.ofNat (P + 1)) (Int32.ofNat (P + 1)) := by
        refine ⟨rfl, by simp [p2], by omega, rfl, rfl, fun k hk => ?_⟩
        rw [g_set (by omega)]
        by_cases e : k = P
        · rw [if_pos e]; exact ⟨l, by omega, rfl⟩
        · rw [if_neg e]; exact p6 k hk
      have e1 : f_X11_person A I (Int32.ofNat l) = some ((Int32.ofNat P), ((A 88).set P (Int32.ofNat l)), (Int32.ofNat (P + 1))) := by
        simp (disch := first | omega | decide | assumption | (simp [up_app]; assumption)) [-Int32.ofNat_add, -Int32.ofNat_mul, -Int32.ofNat_sub, i_lel, i_ler, i_ltl, i_ltr, i_eql, i_eqr, i_le, i_lt, i_eq, i_addl, i_addr, i_add, i_mull, i_mulr, i_mul, i_subr, i_sub, am_at_g, am_at_gl, am_up_g, am_up_gl, up_app, in_X, i_sub1, f_X11_person, f_X11_isLand, w, p4, p1, hP]
      have e2 : f_X12_person (up A 26 ((A 88).set P (Int32.ofNat l))) (up I 1601 (Int32.ofNat (P + 1))) (Int32.ofNat l) = some ((Int32.ofNat P), ((A 88).set P (Int32.ofNat l)), (Int32.ofNat (P + 1))) := by
        simp (disch := first | omega | decide | assumption | (simp [up_app]; assumption)) [-Int32.ofNat_add, -Int32.ofNat_mul, -Int32.ofNat_sub, i_lel, i_ler, i_ltl, i_ltr, i_eql, i_eqr, i_le, i_lt, i_eq, i_addl, i_addr, i_add, i_mull, i_mulr, i_mul, i_subr, i_sub, am_at_g, am_at_gl, am_up_g, am_up_gl, up_app, in_X, i_sub1, f_X12_person, f_X12_isLand, w, p5, hP2]
      have c1 := t_X11_person (xs := xs) A I x (Int32.ofNat l) e1
      have c2 := t_X12_person (xs := xs) (up A 26 ((A 88).set P (Int32.ofNat l))) (up I 1601 (Int32.ofNat (P + 1))) x (Int32.ofNat l) e2
      exact am_op.mk hx c1 (by decide) c2 (by decide) ⟨P + 1, N, T, R, E, C, X, Z, ⟨q1, hI.2.1, hI.2.2.1, hI.2.2.2.1, hI.2.2.2.2.1, hI.2.2.2.2.2.1, hI.2.2.2.2.2.2.1, hI.2.2.2.2.2.2.2.1, hI.2.2.2.2.2.2.2.2.1, hI.2.2.2.2.2.2.2.2.2.1, hI.2.2.2.2.2.2.2.2.2.2.1, hI.2.2.2.2.2.2.2.2.2.2.2.1, hI.2.2.2.2.2.2.2.2.2.2.2.2⟩⟩
    · have hP3 : P = 12 := by omega
      subst hP3
      have e1 : f_X11_person A I (Int32.ofNat l) = some (-4, (A 26), (I 1601)) := by
        simp (disch := first | omega | decide | assumption | (simp [up_app]; assumption)) [-Int32.ofNat_add, -Int32.ofNat_mul, -Int32.ofNat_sub, i_lel, i_ler, i_ltl, i_ltr, i_eql, i_eqr, i_le, i_lt, i_eq, i_addl, i_addr, i_add, i_mull, i_mulr, i_mul, i_subr, i_sub, am_at_g, am_at_gl, am_up_g, am_up_gl, up_app, in_X, i_sub1, f_X11_person, f_X11_isLand, w, p4]
      have e2 : f_X12_person (up A 26 (A 26)) (up I 1601 (I 1601)) (Int32.ofNat l) = some (-4, (A 88), (I 5442)) := by
        simp (disch := first | omega | decide | assumption | (simp [up_app]; assumption)) [-Int32.ofNat_add, -Int32.ofNat_mul, -Int32.ofNat_sub, i_lel, i_ler, i_ltl, i_ltr, i_eql, i_eqr, i_le, i_lt, i_eq, i_addl, i_addr, i_add, i_mull, i_mulr, i_mul, i_subr, i_sub, am_at_g, am_at_gl, am_up_g, am_up_gl, up_app, in_X, i_sub1, f_X12_person, f_X12_isLand, w, p5]
      have c1 := t_X11_person (xs := xs) A I x (Int32.ofNat l) e1
      have c2 := t_X12_person (xs := xs) (up A 26 (A 26)) (up I 1601 (I 1601)) x (Int32.ofNat l) e2
      exact am_op.mk hx c1 (by decide) c2 (by decide) ⟨12, N, T, R, E, C, X, Z, ⟨hI.1, hI.2.1, hI.2.2.1, hI.2.2.2.1, hI.2.2.2.2.1, hI.2.2.2.2.2.1, hI.2.2.2.2.2.2.1, hI.2.2.2.2.2.2.2.1, hI.2.2.2.2.2.2.2.2.1, hI.2.2.2.2.2.2.2.2.2.1, hI.2.2.2.2.2.2.2.2.2.2.1, hI.2.2.2.2.2.2.2.2.2.2.2.1, hI.2.2.2.2.2.2.2.2.2.2.2.2⟩⟩

theorem op_office (xs : List Int32) {n : Nat} {A : Nat → List Int32} {I : Nat → Int32} {x : am_X} (h : Iv0 n A I x) (a1 : Int32) (a2 : Int32) : am_op xs n ix_X11_office ix_X12_office [.int a1, .int a2] A I x := by
  obtain ⟨⟨P, N, T, R, E, C, X, Z, hI⟩, hx⟩ := h
  obtain ⟨o1, o2, o3, o4⟩ := id hI.2.1
  rcases wi_l 5 (by decide) a1 with w | ⟨o, ho, rfl, w⟩
  · skip
    have e1 : f_X11_office A I a1 a2 = some (-2, (A 27)) := by
      simp (disch := first | omega | decide | assumption | (simp [up_app]; assumption)) [-Int32.ofNat_add, -Int32.ofNat_mul, -Int32.ofNat_sub, i_lel, i_ler, i_ltl, i_ltr, i_eql, i_eqr, i_le, i_lt, i_eq, i_addl, i_addr, i_add, i_mull, i_mulr, i_mul, i_subr, i_sub, am_at_g, am_at_gl, am_up_g, am_up_gl, up_app, in_X, i_sub1, f_X11_office, f_X11_isLand, f_X11_isOffice, w]
    have e2 : f_X12_office (up A 27 (A 27)) I a1 a2 = some (-2, (A 89)) := by
      simp (disch := first | omega | decide | assumption | (simp [up_app]; assumption)) [-Int32.ofNat_add, -Int32.ofNat_mul, -Int32.ofNat_sub, i_lel, i_ler, i_ltl, i_ltr, i_eql, i_eqr, i_le, i_lt, i_eq, i_addl, i_addr, i_add, i_mull, i_mulr, i_mul, i_subr, i_sub, am_at_g, am_at_gl, am_up_g, am_up_gl, up_app, in_X, i_sub1, f_X12_office, f_X12_isLand, f_X12_isOffice, w]
    have c1 := t_X11_office (xs := xs) A I x a1 a2 e1
    have c2 := t_X12_office (xs := xs) (up A 27 (A 27)) I x a1 a2 e2
    exact am_op.mk hx c1 (by decide) c2 (by decide) ⟨P, N, T, R, E, C, X, Z, ⟨hI.1, hI.2.1, hI.2.2.1, hI.2.2.2.1, hI.2.2.2.2.1, hI.2.2.2.2.2.1, hI.2.2.2.2.2.2.1, hI.2.2.2.2.2.2.2.1, hI.2.2.2.2.2.2.2.2.1, hI.2.2.2.2.2.2.2.2.2.1, hI.2.2.2.2.2.2.2.2.2.2.1, hI.2.2.2.2.2.2.2.2.2.2.2.1, hI.2.2.2.2.2.2.2.2.2.2.2.2⟩⟩
  · rcases wi_l 7 (by decide) a2 with w2 | ⟨l, hl, rfl, w2⟩
    · skip
      have e1 : f_X11_office A I (Int32.ofNat o) a2 = some (-2, (A 27)) := by
        simp (disch := first | omega | decide | assumption | (simp [up_app]; assumption)) [-Int32.ofNat_add, -Int32.ofNat_mul, -Int32.ofNat_sub, i_lel, i_ler, i_ltl, i_ltr, i_eql, i_eqr, i_le, i_lt, i_eq, i_addl, i_addr, i_add, i_mull, i_mulr, i_mul, i_subr, i_sub, am_at_g, am_at_gl, am_up_g, am_up_gl, up_app, in_X, i_sub1, f_X11_office, f_X11_isLand, f_X11_isOffice, w, w2]
      have e2 : f_X12_office (up A 27 (A 27)) I (Int32.ofNat o) a2 = some (-2, (A 89)) := by
        simp (disch := first | omega | decide | assumption | (simp [up_app]; assumption)) [-Int32.ofNat_add, -Int32.ofNat_mul, -Int32.ofNat_sub, i_lel, i_ler, i_ltl, i_ltr, i_eql, i_eqr, i_le, i_lt, i_eq, i_addl, i_addr, i_add, i_mull, i_mulr, i_mul, i_subr, i_sub, am_at_g, am_at_gl, am_up_g, am_up_gl, up_app, in_X, i_sub1, f_X12_office, f_X12_isLand, f_X12_isOffice, w, w2]
      have c1 := t_X11_office (xs := xs) A I x (Int32.ofNat o) a2 e1
      have c2 := t_X12_office (xs := xs) (up A 27 (A 27)) I x (Int32.ofNat o) a2 e2
      exact am_op.mk hx c1 (by decide) c2 (by decide) ⟨P, N, T, R, E, C, X, Z, ⟨hI.1, hI.2.1, hI.2.2.1, hI.2.2.2.1, hI.2.2.2.2.1, hI.2.2.2.2.2.1, hI.2.2.2.2.2.2.1, hI.2.2.2.2.2.2.2.1, hI.2.2.2.2.2.2.2.2.1, hI.2.2.2.2.2.2.2.2.2.1, hI.2.2.2.2.2.2.2.2.2.2.1, hI.2.2.2.2.2.2.2.2.2.2.2.1, hI.2.2.2.2.2.2.2.2.2.2.2.2⟩⟩
    · have q1 : v_off ((A 89).set o (Int32.ofNat l)) ((A 89).set o (Int32.ofNat l)) (A 28) (A 90) := ⟨rfl, by simp [o2], o3, o4⟩
      have e1 : f_X11_office A I (Int32.ofNat o) (Int32.ofNat l) = some ((g (A 89) o), ((A 89).set o (Int32.ofNat l))) := by
        simp (disch := first | omega | decide | assumption | (simp [up_app]; assumption)) [-Int32.ofNat_add, -Int32.ofNat_mul, -Int32.ofNat_sub, i_lel, i_ler, i_ltl, i_ltr, i_eql, i_eqr, i_le, i_lt, i_eq, i_addl, i_addr, i_add, i_mull, i_mulr, i_mul, i_subr, i_sub, am_at_g, am_at_gl, am_up_g, am_up_gl, up_app, in_X, i_sub1, f_X11_office, f_X11_isLand, f_X11_isOffice, w, w2, o1]
      have e2 : f_X12_office (up A 27 ((A 89).set o (Int32.ofNat l))) I (Int32.ofNat o) (Int32.ofNat l) = some ((g (A 89) o), ((A 89).set o (Int32.ofNat l))) := by
        simp (disch := first | omega | decide | assumption | (simp [up_app]; assumption)) [-Int32.ofNat_add, -Int32.ofNat_mul, -Int32.ofNat_sub, i_lel, i_ler, i_ltl, i_ltr, i_eql, i_eqr, i_le, i_lt, i_eq, i_addl, i_addr, i_add, i_mull, i_mulr, i_mul, i_subr, i_sub, am_at_g, am_at_gl, am_up_g, am_up_gl, up_app, in_X, i_sub1, f_X12_office, f_X12_isLand, f_X12_isOffice, w, w2]
      have c1 := t_X11_office (xs := xs) A I x (Int32.ofNat o) (Int32.ofNat l) e1
      have c2 := t_X12_office (xs := xs) (up A 27 ((A 89).set o (Int32.ofNat l))) I x (Int32.ofNat o) (Int32.ofNat l) e2
      exact am_op.mk hx c1 (by decide) c2 (by decide) ⟨P, N, T, R, E, C, X, Z, ⟨hI.1, q1, hI.2.2.1, hI.2.2.2.1, hI.2.2.2.2.1, hI.2.2.2.2.2.1, hI.2.2.2.2.2.2.1, hI.2.2.2.2.2.2.2.1, hI.2.2.2.2.2.2.2.2.1, hI.2.2.2.2.2.2.2.2.2.1, hI.2.2.2.2.2.2.2.2.2.2.1, hI.2.2.2.2.2.2.2.2.2.2.2.1, hI.2.2.2.2.2.2.2.2.2.2.2.2⟩⟩

theorem op_officeTold (xs : List Int32) {n : Nat} {A : Nat → List Int32} {I : Nat → Int32} {x : am_X} (h : Iv0 n A I x) (a1 : Int32) (a2 : Int32) : am_op xs n ix_X11_officeTold ix_X12_officeTold [.int a1, .int a2] A I x := by
  obtain ⟨⟨P, N, T, R, E, C, X, Z, hI⟩, hx⟩ := h
  obtain ⟨o1, o2, o3, o4⟩ := id hI.2.1
  rcases wi_l 5 (by decide) a1 with w | ⟨o, ho, rfl, w⟩
  · skip
    have e1 : f_X11_officeTold A I a1 a2 = some (-2) := by
      simp (disch := first | omega | decide | assumption | (simp [up_app]; assumption)) [-Int32.ofNat_add, -Int32.ofNat_mul, -Int32.ofNat_sub, i_lel, i_ler, i_ltl, i_ltr, i_eql, i_eqr, i_le, i_lt, i_eq, i_addl, i_addr, i_add, i_mull, i_mulr, i_mul, i_subr, i_sub, am_at_g, am_at_gl, am_up_g, am_up_gl, up_app, in_X, i_sub1, f_X11_officeTold, f_X11_isLand, f_X11_isOffice, w]
    have e2 : f_X12_officeTold A I a1 a2 = some (-2) := by
      simp (disch := first | omega | decide | assumption | (simp [up_app]; assumption)) [-Int32.ofNat_add, -Int32.ofNat_mul, -Int32.ofNat_sub, i_lel, i_ler, i_ltl, i_ltr, i_eql, i_eqr, i_le, i_lt, i_eq, i_addl, i_addr, i_add, i_mull, i_mulr, i_mul, i_subr, i_sub, am_at_g, am_at_gl, am_up_g, am_up_gl, up_app, in_X, i_sub1, f_X12_officeTold, f_X12_isLand, f_X12_isOffice, w]
    have c1 := t_X11_officeTold (xs := xs) A I x a1 a2 e1
    have c2 := t_X12_officeTold (xs := xs) A I x a1 a2 e2
    exact am_op.mk hx c1 (by decide) c2 (by decide) ⟨P, N, T, R, E, C, X, Z, ⟨hI.1, hI.2.1, hI.2.2.1, hI.2.2.2.1, hI.2.2.2.2.1, hI.2.2.2.2.2.1, hI.2.2.2.2.2.2.1, hI.2.2.2.2.2.2.2.1, hI.2.2.2.2.2.2.2.2.1, hI.2.2.2.2.2.2.2.2.2.1, hI.2.2.2.2.2.2.2.2.2.2.1, hI.2.2.2.2.2.2.2.2.2.2.2.1, hI.2.2.2.2.2.2.2.2.2.2.2.2⟩⟩
  · rcases wi_l 1 (by decide) a2 with w2 | ⟨l, hl, rfl, w2⟩
    · skip
      have e1 : f_X11_officeTold A I (Int32.ofNat o) a2 = some (-2) := by
        simp (disch := first | omega | decide | assumption | (simp [up_app]; assumption)) [-Int32.ofNat_add, -Int32.ofNat_mul, -Int32.ofNat_sub, i_lel, i_ler, i_ltl, i_ltr, i_eql, i_eqr, i_le, i_lt, i_eq, i_addl, i_addr, i_add, i_mull, i_mulr, i_mul, i_subr, i_sub, am_at_g, am_at_gl, am_up_g, am_up_gl, up_app, in_X, i_sub1, f_X11_officeTold, f_X11_isLand, f_X11_isOffice, w, w2]
      have e2 : f_X12_officeTold A I (Int32.ofNat o) a2 = some (-2) := by
        simp (disch := first | omega | decide | assumption | (simp [up_app]; assumption)) [-Int32.ofNat_add, -Int32.ofNat_mul, -Int32.ofNat_sub, i_lel, i_ler, i_ltl, i_ltr, i_eql, i_eqr, i_le, i_lt, i_eq, i_addl, i_addr, i_add, i_mull, i_mulr, i_mul, i_subr, i_sub, am_at_g, am_at_gl, am_up_g, am_up_gl, up_app, in_X, i_sub1, f_X12_officeTold, f_X12_isLand, f_X12_isOffice, w, w2]
      have c1 := t_X11_officeTold (xs := xs) A I x (Int32.ofNat o) a2 e1
      have c2 := t_X12_officeTold (xs := xs) A I x (Int32.ofNat o) a2 e2
      exact am_op.mk hx c1 (by decide) c2 (by decide) ⟨P, N, T, R, E, C, X, Z, ⟨hI.1, hI.2.1, hI.2.2.1, hI.2.2.2.1, hI.2.2.2.2.1, hI.2.2.2.2.2.1, hI.2.2.2.2.2.2.1, hI.2.2.2.2.2.2.2.1, hI.2.2.2.2.2.2.2.2.1, hI.2.2.2.2.2.2.2.2.2.1, hI.2.2.2.2.2.2.2.2.2.2.1, hI.2.2.2.2.2.2.2.2.2.2.2.1, hI.2.2.2.2.2.2.2.2.2.2.2.2⟩⟩
    · by_cases hl0 : l = 0
      · have hl0 := eq_true hl0
        have e1 : f_X11_officeTold A I (Int32.ofNat o) (Int32.ofNat l) = some ((g (A 89) o)) := by
          simp (disch := first | omega | decide | assumption | (simp [up_app]; assumption)) [-Int32.ofNat_add, -Int32.ofNat_mul, -Int32.ofNat_sub, i_lel, i_ler, i_ltl, i_ltr, i_eql, i_eqr, i_le, i_lt, i_eq, i_addl, i_addr, i_add, i_mull, i_mulr, i_mul, i_subr, i_sub, am_at_g, am_at_gl, am_up_g, am_up_gl, up_app, in_X, i_sub1, f_X11_officeTold, f_X11_isLand, f_X11_isOffice, w, w2, o1, hl0]
        have e2 : f_X12_officeTold A I (Int32.ofNat o) (Int32.ofNat l) = some ((g (A 89) o)) := by
          simp (disch := first | omega | decide | assumption | (simp [up_app]; assumption)) [-Int32.ofNat_add, -Int32.ofNat_mul, -Int32.ofNat_sub, i_lel, i_ler, i_ltl, i_ltr, i_eql, i_eqr, i_le, i_lt, i_eq, i_addl, i_addr, i_add, i_mull, i_mulr, i_mul, i_subr, i_sub, am_at_g, am_at_gl, am_up_g, am_up_gl, up_app, in_X, i_sub1, f_X12_officeTold, f_X12_isLand, f_X12_isOffice, w, w2, hl0]
        have c1 := t_X11_officeTold (xs := xs) A I x (Int32.ofNat o) (Int32.ofNat l) e1
        have c2 := t_X12_officeTold (xs := xs) A I x (Int32.ofNat o) (Int32.ofNat l) e2
        exact am_op.mk hx c1 (by decide) c2 (by decide) ⟨P, N, T, R, E, C, X, Z, ⟨hI.1, hI.2.1, hI.2.2.1, hI.2.2.2.1, hI.2.2.2.2.1, hI.2.2.2.2.2.1, hI.2.2.2.2.2.2.1, hI.2.2.2.2.2.2.2.1, hI.2.2.2.2.2.2.2.2.1, hI.2.2.2.2.2.2.2.2.2.1, hI.2.2.2.2.2.2.2.2.2.2.1, hI.2.2.2.2.2.2.2.2.2.2.2.1, hI.2.2.2.2.2.2.2.2.2.2.2.2⟩⟩
      · skip
        have e1 : f_X11_officeTold A I (Int32.ofNat o) (Int32.ofNat l) = some ((g (A 90) o)) := by
          simp (disch := first | omega | decide | assumption | (simp [up_app]; assumption)) [-Int32.ofNat_add, -Int32.ofNat_mul, -Int32.ofNat_sub, i_lel, i_ler, i_ltl, i_ltr, i_eql, i_eqr, i_le, i_lt, i_eq, i_addl, i_addr, i_add, i_mull, i_mulr, i_mul, i_subr, i_sub, am_at_g, am_at_gl, am_up_g, am_up_gl, up_app, in_X, i_sub1, f_X11_officeTold, f_X11_isLand, f_X11_isOffice, w, w2, o3, hl0]
        have e2 : f_X12_officeTold A I (Int32.ofNat o) (Int32.ofNat l) = some ((g (A 90) o)) := by
          simp (disch := first | omega | decide | assumption | (simp [up_app]; assumption)) [-Int32.ofNat_add, -Int32.ofNat_mul, -Int32.ofNat_sub, i_lel, i_ler, i_ltl, i_ltr, i_eql, i_eqr, i_le, i_lt, i_eq, i_addl, i_addr, i_add, i_mull, i_mulr, i_mul, i_subr, i_sub, am_at_g, am_at_gl, am_up_g, am_up_gl, up_app, in_X, i_sub1, f_X12_officeTold, f_X12_isLand, f_X12_isOffice, w, w2, hl0]
        have c1 := t_X11_officeTold (xs := xs) A I x (Int32.ofNat o) (Int32.ofNat l) e1
        have c2 := t_X12_officeTold (xs := xs) A I x (Int32.ofNat o) (Int32.ofNat l) e2
        exact am_op.mk hx c1 (by decide) c2 (by decide) ⟨P, N, T, R, E, C, X, Z, ⟨hI.1, hI.2.1, hI.2.2.1, hI.2.2.2.1, hI.2.2.2.2.1, hI.2.2.2.2.2.1, hI.2.2.2.2.2.2.1, hI.2.2.2.2.2.2.2.1, hI.2.2.2.2.2.2.2.2.1, hI.2.2.2.2.2.2.2.2.2.1, hI.2.2.2.2.2.2.2.2.2.2.1, hI.2.2.2.2.2.2.2.2.2.2.2.1, hI.2.2.2.2.2.2.2.2.2.2.2.2⟩⟩

theorem op_seat (xs : List Int32) {n : Nat} {A : Nat → List Int32} {I : Nat → Int32} {x : am_X} (h : Iv0 n A I x) (a1 : Int32) (a2 : Int32) : am_op xs n ix_X11_seat ix_X12_seat [.int a1, .int a2] A I x := by
  obtain ⟨⟨P, N, T, R, E, C, X, Z, hI⟩, hx⟩ := h
  obtain ⟨o1, o2, o3, o4⟩ := id hI.2.1
  obtain ⟨-, -, p3, p4, p5, -⟩ := id hI.1
  rcases wi_l 5 (by decide) a1 with w | ⟨o, ho, rfl, w⟩
  · skip
    have e1 : f_X11_seat A I a1 a2 = some (-5, (A 28)) := by
      simp (disch := first | omega | decide | assumption | (simp [up_app]; assumption)) [-Int32.ofNat_add, -Int32.ofNat_mul, -Int32.ofNat_sub, i_lel, i_ler, i_ltl, i_ltr, i_eql, i_eqr, i_le, i_lt, i_eq, i_addl, i_addr, i_add, i_mull, i_mulr, i_mul, i_subr, i_sub, am_at_g, am_at_gl, am_up_g, am_up_gl, up_app, in_X, i_sub1, f_X11_seat, f_X11_isOffice, w]
    have e2 : f_X12_seat (up A 28 (A 28)) I a1 a2 = some (-5, (A 90)) := by
      simp (disch := first | omega | decide | assumption | (simp [up_app]; assumption)) [-Int32.ofNat_add, -Int32.ofNat_mul, -Int32.ofNat_sub, i_lel, i_ler, i_ltl, i_ltr, i_eql, i_eqr, i_le, i_lt, i_eq, i_addl, i_addr, i_add, i_mull, i_mulr, i_mul, i_subr, i_sub, am_at_g, am_at_gl, am_up_g, am_up_gl, up_app, in_X, i_sub1, f_X12_seat, f_X12_isOffice, w]
    have c1 := t_X11_seat (xs := xs) A I x a1 a2 e1
    have c2 := t_X12_seat (xs := xs) (up A 28 (A 28)) I x a1 a2 e2
    exact am_op.mk hx c1 (by decide) c2 (by decide) ⟨P, N, T, R, E, C, X, Z, ⟨hI.1, hI.2.1, hI.2.2.1, hI.2.2.2.1, hI.2.2.2.2.1, hI.2.2.2.2.2.1, hI.2.2.2.2.2.2.1, hI.2.2.2.2.2.2.2.1, hI.2.2.2.2.2.2.2.2.1, hI.2.2.2.2.2.2.2.2.2.1, hI.2.2.2.2.2.2.2.2.2.2.1, hI.2.2.2.2.2.2.2.2.2.2.2.1, hI.2.2.2.2.2.2.2.2.2.2.2.2⟩⟩
  · by_cases hn : a2 = -1
    · have q1 : v_off (A 27) (A 89) ((A 90).set o a2) ((A 90).set o a2) := ⟨o1, o2, rfl, by simp [o4]⟩
      have e1 : f_X11_seat A I (Int32.ofNat o) a2 = some ((g (A 90) o), ((A 90).set o a2)) := by
        simp (disch := first | omega | decide | assumption | (simp [up_app]; assumption)) [-Int32.ofNat_add, -Int32.ofNat_mul, -Int32.ofNat_sub, i_lel, i_ler, i_ltl, i_ltr, i_eql, i_eqr, i_le, i_lt, i_eq, i_addl, i_addr, i_add, i_mull, i_mulr, i_mul, i_subr, i_sub, am_at_g, am_at_gl, am_up_g, am_up_gl, up_app, in_X, i_sub1, f_X11_seat, f_X11_isOffice, w, hn, o3]
      have e2 : f_X12_seat (up A 28 ((A 90).set o a2)) I (Int32.ofNat o) a2 = some ((g (A 90) o), ((A 90).set o a2)) := by
        simp (disch := first | omega | decide | assumption | (simp [up_app]; assumption)) [-Int32.ofNat_add, -Int32.ofNat_mul, -Int32.ofNat_sub, i_lel, i_ler, i_ltl, i_ltr, i_eql, i_eqr, i_le, i_lt, i_eq, i_addl, i_addr, i_add, i_mull, i_mulr, i_mul, i_subr, i_sub, am_at_g, am_at_gl, am_up_g, am_up_gl, up_app, in_X, i_sub1, f_X12_seat, f_X12_isOffice, w, hn]
      have c1 := t_X11_seat (xs := xs) A I x (Int32.ofNat o) a2 e1
      have c2 := t_X12_seat (xs := xs) (up A 28 ((A 90).set o a2)) I x (Int32.ofNat o) a2 e2
      exact am_op.mk hx c1 (by decide) c2 (by decide) ⟨P, N, T, R, E, C, X, Z, ⟨hI.1, q1, hI.2.2.1, hI.2.2.2.1, hI.2.2.2.2.1, hI.2.2.2.2.2.1, hI.2.2.2.2.2.2.1, hI.2.2.2.2.2.2.2.1, hI.2.2.2.2.2.2.2.2.1, hI.2.2.2.2.2.2.2.2.2.1, hI.2.2.2.2.2.2.2.2.2.2.1, hI.2.2.2.2.2.2.2.2.2.2.2.1, hI.2.2.2.2.2.2.2.2.2.2.2.2⟩⟩
    · rcases c_Person P (by omega) a2 with ⟨w2, w3⟩ | ⟨p, hp, rfl, w2, w3⟩
      · skip
        have e1 : f_X11_seat A I (Int32.ofNat o) a2 = some (-5, (A 28)) := by
          simp (disch := first | omega | decide | assumption | (simp [up_app]; assumption)) [-Int32.ofNat_add, -Int32.ofNat_mul, -Int32.ofNat_sub, i_lel, i_ler, i_ltl, i_ltr, i_eql, i_eqr, i_le, i_lt, i_eq, i_addl, i_addr, i_add, i_mull, i_mulr, i_mul, i_subr, i_sub, am_at_g, am_at_gl, am_up_g, am_up_gl, up_app, in_X, i_sub1, f_X11_seat, f_X11_isOffice, w, hn, w2]
        have e2 : f_X12_seat (up A 28 (A 28)) I (Int32.ofNat o) a2 = some (-5, (A 90)) := by
          simp (disch := first | omega | decide | assumption | (simp [up_app]; assumption)) [-Int32.ofNat_add, -Int32.ofNat_mul, -Int32.ofNat_sub, i_lel, i_ler, i_ltl, i_ltr, i_eql, i_eqr, i_le, i_lt, i_eq, i_addl, i_addr, i_add, i_mull, i_mulr, i_mul, i_subr, i_sub, am_at_g, am_at_gl, am_up_g, am_up_gl, up_app, in_X, i_sub1, f_X12_seat, f_X12_isOffice, w, hn, w3]
        have c1 := t_X11_seat (xs := xs) A I x (Int32.ofNat o) a2 e1
        have c2 := t_X12_seat (xs := xs) (up A 28 (A 28)) I x (Int32.ofNat o) a2 e2
        exact am_op.mk hx c1 (by decide) c2 (by decide) ⟨P, N, T, R, E, C, X, Z, ⟨hI.1, hI.2.1, hI.2.2.1, hI.2.2.2.1, hI.2.2.2.2.1, hI.2.2.2.2.2.1, hI.2.2.2.2.2.2.1, hI.2.2.2.2.2.2.2.1, hI.2.2.2.2.2.2.2.2.1, hI.2.2.2.2.2.2.2.2.2.1, hI.2.2.2.2.2.2.2.2.2.2.1, hI.2.2.2.2.2.2.2.2.2.2.2.1, hI.2.2.2.2.2.2.2.2.2.2.2.2⟩⟩
      · have q1 : v_off (A 27) (A 89) ((A 90).set o (Int32.ofNat p)) ((A 90).set o (Int32.ofNat p)) := ⟨o1, o2, rfl, by simp [o4]⟩
        have e1 : f_X11_seat A I (Int32.ofNat o) (Int32.ofNat p) = some ((g (A 90) o), ((A 90).set o (Int32.ofNat p))) := by
          simp (disch := first | omega | decide | assumption | (simp [up_app]; assumption)) [-Int32.ofNat_add, -Int32.ofNat_mul, -Int32.ofNat_sub, i_lel, i_ler, i_ltl, i_ltr, i_eql, i_eqr, i_le, i_lt, i_eq, i_addl, i_addr, i_add, i_mull, i_mulr, i_mul, i_subr, i_sub, am_at_g, am_at_gl, am_up_g, am_up_gl, up_app, in_X, i_sub1, f_X11_seat, f_X11_isOffice, w, hn, o3, w2]
        have e2 : f_X12_seat (up A 28 ((A 90).set o (Int32.ofNat p))) I (Int32.ofNat o) (Int32.ofNat p) = some ((g (A 90) o), ((A 90).set o (Int32.ofNat p))) := by
          simp (disch := first | omega | decide | assumption | (simp [up_app]; assumption)) [-Int32.ofNat_add, -Int32.ofNat_mul, -Int32.ofNat_sub, i_lel, i_ler, i_ltl, i_ltr, i_eql, i_eqr, i_le, i_lt, i_eq, i_addl, i_addr, i_add, i_mull, i_mulr, i_mul, i_subr, i_sub, am_at_g, am_at_gl, am_up_g, am_up_gl, up_app, in_X, i_sub1, f_X12_seat, f_X12_isOffice, w, hn, w3]
        have c1 := t_X11_seat (xs := xs) A I x (Int32.ofNat o) (Int32.ofNat p) e1
        have c2 := t_X12_seat (xs := xs) (up A 28 ((A 90).set o (Int32.ofNat p))) I x (Int32.ofNat o) (Int32.ofNat p) e2
        exact am_op.mk hx c1 (by decide) c2 (by decide) ⟨P, N, T, R, E, C, X, Z, ⟨hI.1, q1, hI.2.2.1, hI.2.2.2.1, hI.2.2.2.2.1, hI.2.2.2.2.2.1, hI.2.2.2.2.2.2.1, hI.2.2.2.2.2.2.2.1, hI.2.2.2.2.2.2.2.2.1, hI.2.2.2.2.2.2.2.2.2.1, hI.2.2.2.2.2.2.2.2.2.2.1, hI.2.2.2.2.2.2.2.2.2.2.2.1, hI.2.2.2.2.2.2.2.2.2.2.2.2⟩⟩

theorem op_turn (xs : List Int32) {n : Nat} {A : Nat → List Int32} {I : Nat → Int32} {x : am_X} (h : Iv0 n A I x) (a1 : Int32) (a2 : Int32) (a3 : Int32) : am_op xs n ix_X11_turn ix_X12_turn [.int a1, .int a2, .int a3] A I x := by
  obtain ⟨⟨P, N, T, R, E, C, X, Z, hI⟩, hx⟩ := h
  obtain ⟨⟨t1, t2, t3, t4, t5, t6⟩, t7, t8, t9, t10⟩ := id hI.2.2.1
  rcases wi_l 7 (by decide) a1 with w | ⟨l, hl, rfl, w⟩
  · skip
    have e1 : f_X11_turn A I a1 a2 a3 = some (-2, (A 20), (A 21), (A 22), (I 69)) := by
      simp (disch := first | omega | decide | assumption | (simp [up_app]; assumption)) [-Int32.ofNat_add, -Int32.ofNat_mul, -Int32.ofNat_sub, i_lel, i_ler, i_ltl, i_ltr, i_eql, i_eqr, i_le, i_lt, i_eq, i_addl, i_addr, i_add, i_mull, i_mulr, i_mul, i_subr, i_sub, am_at_g, am_at_gl, am_up_g, am_up_gl, up_app, in_X, i_sub1, f_X11_turn, f_X11_isLand, f_X11_isDay, f_X6_addTurn, w]
    have e2 : f_X12_turn (up (up (up A 20 (A 20)) 21 (A 21)) 22 (A 22)) (up I 69 (I 69)) a1 a2 a3 = some (-2, (A 91), (A 92), (A 93), (I 5443)) := by
      simp (disch := first | omega | decide | assumption | (simp [up_app]; assumption)) [-Int32.ofNat_add, -Int32.ofNat_mul, -Int32.ofNat_sub, i_lel, i_ler, i_ltl, i_ltr, i_eql, i_eqr, i_le, i_lt, i_eq, i_addl, i_addr, i_add, i_mull, i_mulr, i_mul, i_subr, i_sub, am_at_g, am_at_gl, am_up_g, am_up_gl, up_app, in_X, i_sub1, f_X12_turn, f_X12_isLand, f_X12_isDay, f_X12_isTurn, f_X12_note, w]
    have c1 := t_X11_turn (xs := xs) A I x a1 a2 a3 e1
    have c2 := t_X12_turn (xs := xs) (up (up (up A 20 (A 20)) 21 (A 21)) 22 (A 22)) (up I 69 (I 69)) x a1 a2 a3 e2
    exact am_op.mk hx c1 (by decide) c2 (by decide) ⟨P, N, T, R, E, C, X, Z, ⟨hI.1, hI.2.1, hI.2.2.1, hI.2.2.2.1, hI.2.2.2.2.1, hI.2.2.2.2.2.1, hI.2.2.2.2.2.2.1, hI.2.2.2.2.2.2.2.1, hI.2.2.2.2.2.2.2.2.1, hI.2.2.2.2.2.2.2.2.2.1, hI.2.2.2.2.2.2.2.2.2.2.1, hI.2.2.2.2.2.2.2.2.2.2.2.1, hI.2.2.2.2.2.2.2.2.2.2.2.2⟩⟩
  · rcases wi_l 9999 (by decide) a2 with w2 | ⟨d, hd, rfl, w2⟩
    · skip
      have e1 : f_X11_turn A I (Int32.ofNat l) a2 a3 = some (-2, (A 20), (A 21), (A 22), (I 69)) := by
        simp (disch := first | omega | decide | assumption | (simp [up_app]; assumption)) [-Int32.ofNat_add, -Int32.ofNat_mul, -Int32.ofNat_sub, i_lel, i_ler, i_ltl, i_ltr, i_eql, i_eqr, i_le, i_lt, i_eq, i_addl, i_addr, i_add, i_mull, i_mulr, i_mul, i_subr, i_sub, am_at_g, am_at_gl, am_up_g, am_up_gl, up_app, in_X, i_sub1, f_X11_turn, f_X11_isLand, f_X11_isDay, f_X6_addTurn, w, w2]
      have e2 : f_X12_turn (up (up (up A 20 (A 20)) 21 (A 21)) 22 (A 22)) (up I 69 (I 69)) (Int32.ofNat l) a2 a3 = some (-2, (A 91), (A 92), (A 93), (I 5443)) := by
        simp (disch := first | omega | decide | assumption | (simp [up_app]; assumption)) [-Int32.ofNat_add, -Int32.ofNat_mul, -Int32.ofNat_sub, i_lel, i_ler, i_ltl, i_ltr, i_eql, i_eqr, i_le, i_lt, i_eq, i_addl, i_addr, i_add, i_mull, i_mulr, i_mul, i_subr, i_sub, am_at_g, am_at_gl, am_up_g, am_up_gl, up_app, in_X, i_sub1, f_X12_turn, f_X12_isLand, f_X12_isDay, f_X12_isTurn, f_X12_note, w, w2]
      have c1 := t_X11_turn (xs := xs) A I x (Int32.ofNat l) a2 a3 e1
      have c2 := t_X12_turn (xs := xs) (up (up (up A 20 (A 20)) 21 (A 21)) 22 (A 22)) (up I 69 (I 69)) x (Int32.ofNat l) a2 a3 e2
      exact am_op.mk hx c1 (by decide) c2 (by decide) ⟨P, N, T, R, E, C, X, Z, ⟨hI.1, hI.2.1, hI.2.2.1, hI.2.2.2.1, hI.2.2.2.2.1, hI.2.2.2.2.2.1, hI.2.2.2.2.2.2.1, hI.2.2.2.2.2.2.2.1, hI.2.2.2.2.2.2.2.2.1, hI.2.2.2.2.2.2.2.2.2.1, hI.2.2.2.2.2.2.2.2.2.2.1, hI.2.2.2.2.2.2.2.2.2.2.2.1, hI.2.2.2.2.2.2.2.2.2.2.2.2⟩⟩
    · rcases wi_l 1 (by decide) a3 with w3 | ⟨s, hs, rfl, w3⟩
      · skip
        have e1 : f_X11_turn A I (Int32.ofNat l) (Int32.ofNat d) a3 = some (-2, (A 20), (A 21), (A 22), (I 69)) := by
          simp (disch := first | omega | decide | assumption | (simp [up_app]; assumption)) [-Int32.ofNat_add, -Int32.ofNat_mul, -Int32.ofNat_sub, i_lel, i_ler, i_ltl, i_ltr, i_eql, i_eqr, i_le, i_lt, i_eq, i_addl, i_addr, i_add, i_mull, i_mulr, i_mul, i_subr, i_sub, am_at_g, am_at_gl, am_up_g, am_up_gl, up_app, in_X, i_sub1, f_X11_turn, f_X11_isLand, f_X11_isDay, f_X6_addTurn, w, w2, w3]
        have e2 : f_X12_turn (up (up (up A 20 (A 20)) 21 (A 21)) 22 (A 22)) (up I 69 (I 69)) (Int32.ofNat l) (Int32.ofNat d) a3 = some (-2, (A 91), (A 92), (A 93), (I 5443)) := by
          simp (disch := first | omega | decide | assumption | (simp [up_app]; assumption)) [-Int32.ofNat_add, -Int32.ofNat_mul, -Int32.ofNat_sub, i_lel, i_ler, i_ltl, i_ltr, i_eql, i_eqr, i_le, i_lt, i_eq, i_addl, i_addr, i_add, i_mull, i_mulr, i_mul, i_subr, i_sub, am_at_g, am_at_gl, am_up_g, am_up_gl, up_app, in_X, i_sub1, f_X12_turn, f_X12_isLand, f_X12_isDay, f_X12_isTurn, f_X12_note, w, w2, w3]
        have c1 := t_X11_turn (xs := xs) A I x (Int32.ofNat l) (Int32.ofNat d) a3 e1
        have c2 := t_X12_turn (xs := xs) (up (up (up A 20 (A 20)) 21 (A 21)) 22 (A 22)) (up I 69 (I 69)) x (Int32.ofNat l) (Int32.ofNat d) a3 e2
        exact am_op.mk hx c1 (by decide) c2 (by decide) ⟨P, N, T, R, E, C, X, Z, ⟨hI.1, hI.2.1, hI.2.2.1, hI.2.2.2.1, hI.2.2.2.2.1, hI.2.2.2.2.2.1, hI.2.2.2.2.2.2.1, hI.2.2.2.2.2.2.2.1, hI.2.2.2.2.2.2.2.2.1, hI.2.2.2.2.2.2.2.2.2.1, hI.2.2.2.2.2.2.2.2.2.2.1, hI.2.2.2.2.2.2.2.2.2.2.2.1, hI.2.2.2.2.2.2.2.2.2.2.2.2⟩⟩
      · by_cases hT : T < 30
        · have hT2 : ¬ T = 30 := by omega
          have q1 : v_trn (T + 1) ((A 20).set T (Int32.ofNat l)) ((A 21).set T (Int32.ofNat d)) ((A 22).set T (Int32.ofNat s)) (Int32.ofNat (T + 1)) ((A 91).set T (Int32.ofNat l)) ((A 92).set T (Int32.ofNat d)) ((A 93).set T (Int32.ofNat s)) (Int32.ofNat (T + 1)) := by
            refine ⟨by simp [t1, t2, t3, t4, t5, t6], by omega, rfl, rfl, fun k hk => ?_⟩
            by_cases e : k = T
            · subst e
              rw [g_set_eq (by omega), g_set_eq (by omega), g_set_eq (by omega), g_set_eq (by omega), g_set_eq (by omega), g_set_eq (by omega)]
              exact ⟨rfl, rfl, rfl, s, by omega, rfl⟩
            · rw [g_set_ne e, g_set_ne e, g_set_ne e, g_set_ne e, g_set_ne e, g_set_ne e]
              exact t10 k (by omega)
          have e1 : f_X11_turn A I (Int32.ofNat l) (Int32.ofNat d) (Int32.ofNat s) = some ((Int32.ofNat T), ((A 20).set T (Int32.ofNat l)), ((A 21).set T (Int32.ofNat d)), ((A 22).set T (Int32.ofNat s)), (Int32.ofNat (T + 1))) := by
            simp (disch := first | omega | decide | assumption | (simp [up_app]; assumption)) [-Int32.ofNat_add, -Int32.ofNat_mul, -Int32.ofNat_sub, i_lel, i_ler, i_ltl, i_ltr, i_eql, i_eqr, i_le, i_lt, i_eq, i_addl, i_addr, i_add, i_mull, i_mulr, i_mul, i_subr, i_sub, am_at_g, am_at_gl, am_up_g, am_up_gl, up_app, in_X, i_sub1, f_X11_turn, f_X11_isLand, f_X11_isDay, f_X6_addTurn, w, w2, w3, t8, hT]
          have e2 : f_X12_turn (up (up (up A 20 ((A 20).set T (Int32.ofNat l))) 21 ((A 21).set T (Int32.ofNat d))) 22 ((A 22).set T (Int32.ofNat s))) (up I 69 (Int32.ofNat (T + 1))) (Int32.ofNat l) (Int32.ofNat d) (Int32.ofNat s) = some ((Int32.ofNat T), ((A 91).set T (Int32.ofNat l)), ((A 92).set T (Int32.ofNat d)), ((A 93).set T (Int32.ofNat s)), (Int32.ofNat (T + 1))) := by
            simp (disch := first | omega | decide | assumption | (simp [up_app]; assumption)) [-Int32.ofNat_add, -Int32.ofNat_mul, -Int32.ofNat_sub, i_lel, i_ler, i_ltl, i_ltr, i_eql, i_eqr, i_le, i_lt, i_eq, i_addl, i_addr, i_add, i_mull, i_mulr, i_mul, i_subr, i_sub, am_at_g, am_at_gl, am_up_g, am_up_gl, up_app, in_X, i_sub1, f_X12_turn, f_X12_isLand, f_X12_isDay, f_X12_isTurn, f_X12_note, w, w2, w3, t9, hT2]
          have c1 := t_X11_turn (xs := xs) A I x (Int32.ofNat l) (Int32.ofNat d) (Int32.ofNat s) e1
          have c2 := t_X12_turn (xs := xs) (up (up (up A 20 ((A 20).set T (Int32.ofNat l))) 21 ((A 21).set T (Int32.ofNat d))) 22 ((A 22).set T (Int32.ofNat s))) (up I 69 (Int32.ofNat (T + 1))) x (Int32.ofNat l) (Int32.ofNat d) (Int32.ofNat s) e2
          exact am_op.mk hx c1 (by decide) c2 (by decide) ⟨P, N, T + 1, R, E, C, X, Z, ⟨hI.1, hI.2.1, q1, hI.2.2.2.1, hI.2.2.2.2.1, hI.2.2.2.2.2.1, hI.2.2.2.2.2.2.1, hI.2.2.2.2.2.2.2.1, hI.2.2.2.2.2.2.2.2.1, hI.2.2.2.2.2.2.2.2.2.1, hI.2.2.2.2.2.2.2.2.2.2.1, hI.2.2.2.2.2.2.2.2.2.2.2.1, hI.2.2.2.2.2.2.2.2.2.2.2.2⟩⟩
        · have hT3 := eq_true (show T = 30 by omega)
          have hT4 := eq_false hT
          have e1 : f_X11_turn A I (Int32.ofNat l) (Int32.ofNat d) (Int32.ofNat s) = some (-4, (A 20), (A 21), (A 22), (I 69)) := by
            simp (disch := first | omega | decide | assumption | (simp [up_app]; assumption)) [-Int32.ofNat_add, -Int32.ofNat_mul, -Int32.ofNat_sub, i_lel, i_ler, i_ltl, i_ltr, i_eql, i_eqr, i_le, i_lt, i_eq, i_addl, i_addr, i_add, i_mull, i_mulr, i_mul, i_subr, i_sub, am_at_g, am_at_gl, am_up_g, am_up_gl, up_app, in_X, i_sub1, f_X11_turn, f_X11_isLand, f_X11_isDay, f_X6_addTurn, w, w2, w3, t8, hT4]
          have e2 : f_X12_turn (up (up (up A 20 (A 20)) 21 (A 21)) 22 (A 22)) (up I 69 (I 69)) (Int32.ofNat l) (Int32.ofNat d) (Int32.ofNat s) = some (-4, (A 91), (A 92), (A 93), (I 5443)) := by
            simp (disch := first | omega | decide | assumption | (simp [up_app]; assumption)) [-Int32.ofNat_add, -Int32.ofNat_mul, -Int32.ofNat_sub, i_lel, i_ler, i_ltl, i_ltr, i_eql, i_eqr, i_le, i_lt, i_eq, i_addl, i_addr, i_add, i_mull, i_mulr, i_mul, i_subr, i_sub, am_at_g, am_at_gl, am_up_g, am_up_gl, up_app, in_X, i_sub1, f_X12_turn, f_X12_isLand, f_X12_isDay, f_X12_isTurn, f_X12_note, w, w2, w3, t9, hT3]
          have c1 := t_X11_turn (xs := xs) A I x (Int32.ofNat l) (Int32.ofNat d) (Int32.ofNat s) e1
          have c2 := t_X12_turn (xs := xs) (up (up (up A 20 (A 20)) 21 (A 21)) 22 (A 22)) (up I 69 (I 69)) x (Int32.ofNat l) (Int32.ofNat d) (Int32.ofNat s) e2
          exact am_op.mk hx c1 (by decide) c2 (by decide) ⟨P, N, T, R, E, C, X, Z, ⟨hI.1, hI.2.1, hI.2.2.1, hI.2.2.2.1, hI.2.2.2.2.1, hI.2.2.2.2.2.1, hI.2.2.2.2.2.2.1, hI.2.2.2.2.2.2.2.1, hI.2.2.2.2.2.2.2.2.1, hI.2.2.2.2.2.2.2.2.2.1, hI.2.2.2.2.2.2.2.2.2.2.1, hI.2.2.2.2.2.2.2.2.2.2.2.1, hI.2.2.2.2.2.2.2.2.2.2.2.2⟩⟩

theorem op_seats (xs : List Int32) {n : Nat} {A : Nat → List Int32} {I : Nat → Int32} {x : am_X} (h : Iv0 n A I x) (a1 : Int32) (a2 : Int32) : am_op xs n ix_X11_seats ix_X12_seats [.int a1, .int a2] A I x := by
  obtain ⟨⟨P, N, T, R, E, C, X, Z, hI⟩, hx⟩ := h
  obtain ⟨s1, s2, s3, s4, s5⟩ := id hI.2.2.2.2.2.2.2.1
  rcases wi_l 7 (by decide) a1 with w | ⟨l, hl, rfl, w⟩
  · skip
    have e1 : f_X11_seats A I a1 a2 = some (-2, (A 23)) := by
      simp (disch := first | omega | decide | assumption | (simp [up_app]; assumption)) [-Int32.ofNat_add, -Int32.ofNat_mul, -Int32.ofNat_sub, i_lel, i_ler, i_ltl, i_ltr, i_eql, i_eqr, i_le, i_lt, i_eq, i_addl, i_addr, i_add, i_mull, i_mulr, i_mul, i_subr, i_sub, am_at_g, am_at_gl, am_up_g, am_up_gl, up_app, in_X, i_sub1, f_X11_seats, f_X11_isLand, w]
    have e2 : f_X12_seats (up A 23 (A 23)) I a1 a2 = some (-2, (A 116)) := by
      simp (disch := first | omega | decide | assumption | (simp [up_app]; assumption)) [-Int32.ofNat_add, -Int32.ofNat_mul, -Int32.ofNat_sub, i_lel, i_ler, i_ltl, i_ltr, i_eql, i_eqr, i_le, i_lt, i_eq, i_addl, i_addr, i_add, i_mull, i_mulr, i_mul, i_subr, i_sub, am_at_g, am_at_gl, am_up_g, am_up_gl, up_app, in_X, i_sub1, f_X12_seats, f_X12_isLand, w]
    have c1 := t_X11_seats (xs := xs) A I x a1 a2 e1
    have c2 := t_X12_seats (xs := xs) (up A 23 (A 23)) I x a1 a2 e2
    exact am_op.mk hx c1 (by decide) c2 (by decide) ⟨P, N, T, R, E, C, X, Z, ⟨hI.1, hI.2.1, hI.2.2.1, hI.2.2.2.1, hI.2.2.2.2.1, hI.2.2.2.2.2.1, hI.2.2.2.2.2.2.1, hI.2.2.2.2.2.2.2.1, hI.2.2.2.2.2.2.2.2.1, hI.2.2.2.2.2.2.2.2.2.1, hI.2.2.2.2.2.2.2.2.2.2.1, hI.2.2.2.2.2.2.2.2.2.2.2.1, hI.2.2.2.2.2.2.2.2.2.2.2.2⟩⟩
  · rcases wi_l 99 (by decide) a2 with w2 | ⟨s, hs, rfl, w2⟩
    · skip
      have e1 : f_X11_seats A I (Int32.ofNat l) a2 = some (-2, (A 23)) := by
        simp (disch := first | omega | decide | assumption | (simp [up_app]; assumption)) [-Int32.ofNat_add, -Int32.ofNat_mul, -Int32.ofNat_sub, i_lel, i_ler, i_ltl, i_ltr, i_eql, i_eqr, i_le, i_lt, i_eq, i_addl, i_addr, i_add, i_mull, i_mulr, i_mul, i_subr, i_sub, am_at_g, am_at_gl, am_up_g, am_up_gl, up_app, in_X, i_sub1, f_X11_seats, f_X11_isLand, w, w2]
      have e2 : f_X12_seats (up A 23 (A 23)) I (Int32.ofNat l) a2 = some (-2, (A 116)) := by
        simp (disch := first | omega | decide | assumption | (simp [up_app]; assumption)) [-Int32.ofNat_add, -Int32.ofNat_mul, -Int32.ofNat_sub, i_lel, i_ler, i_ltl, i_ltr, i_eql, i_eqr, i_le, i_lt, i_eq, i_addl, i_addr, i_add, i_mull, i_mulr, i_mul, i_subr, i_sub, am_at_g, am_at_gl, am_up_g, am_up_gl, up_app, in_X, i_sub1, f_X12_seats, f_X12_isLand, w, w2]
      have c1 := t_X11_seats (xs := xs) A I x (Int32.ofNat l) a2 e1
      have c2 := t_X12_seats (xs := xs) (up A 23 (A 23)) I x (Int32.ofNat l) a2 e2
      exact am_op.mk hx c1 (by decide) c2 (by decide) ⟨P, N, T, R, E, C, X, Z, ⟨hI.1, hI.2.1, hI.2.2.1, hI.2.2.2.1, hI.2.2.2.2.1, hI.2.2.2.2.2.1, hI.2.2.2.2.2.2.1, hI.2.2.2.2.2.2.2.1, hI.2.2.2.2.2.2.2.2.1, hI.2.2.2.2.2.2.2.2.2.1, hI.2.2.2.2.2.2.2.2.2.2.1, hI.2.2.2.2.2.2.2.2.2.2.2.1, hI.2.2.2.2.2.2.2.2.2.2.2.2⟩⟩
    · have q1 : v_sea ((A 116).set l (Int32.ofNat s)) ((A 116).set l (Int32.ofNat s)) (A 24) (A 120) := by
        refine ⟨rfl, s2, by simp [s3], by simp [s4], fun k hk => ?_⟩
        rw [g_set (by omega)]
        by_cases e : k = l
        · rw [if_pos e]; exact ⟨⟨s, by omega, rfl⟩, (s5 k hk).2⟩
        · rw [if_neg e]; exact s5 k hk
      have e1 : f_X11_seats A I (Int32.ofNat l) (Int32.ofNat s) = some ((g (A 116) l), ((A 116).set l (Int32.ofNat s))) := by
        simp (disch := first | omega | decide | assumption | (simp [up_app]; assumption)) [-Int32.ofNat_add, -Int32.ofNat_mul, -Int32.ofNat_sub, i_lel, i_ler, i_ltl, i_ltr, i_eql, i_eqr, i_le, i_lt, i_eq, i_addl, i_addr, i_add, i_mull, i_mulr, i_mul, i_subr, i_sub, am_at_g, am_at_gl, am_up_g, am_up_gl, up_app, in_X, i_sub1, f_X11_seats, f_X11_isLand, w, w2, s1]
      have e2 : f_X12_seats (up A 23 ((A 116).set l (Int32.ofNat s))) I (Int32.ofNat l) (Int32.ofNat s) = some ((g (A 116) l), ((A 116).set l (Int32.ofNat s))) := by
        simp (disch := first | omega | decide | assumption | (simp [up_app]; assumption)) [-Int32.ofNat_add, -Int32.ofNat_mul, -Int32.ofNat_sub, i_lel, i_ler, i_ltl, i_ltr, i_eql, i_eqr, i_le, i_lt, i_eq, i_addl, i_addr, i_add, i_mull, i_mulr, i_mul, i_subr, i_sub, am_at_g, am_at_gl, am_up_g, am_up_gl, up_app, in_X, i_sub1, f_X12_seats, f_X12_isLand, w, w2]
      have c1 := t_X11_seats (xs := xs) A I x (Int32.ofNat l) (Int32.ofNat s) e1
      have c2 := t_X12_seats (xs := xs) (up A 23 ((A 116).set l (Int32.ofNat s))) I x (Int32.ofNat l) (Int32.ofNat s) e2
      exact am_op.mk hx c1 (by decide) c2 (by decide) ⟨P, N, T, R, E, C, X, Z, ⟨hI.1, hI.2.1, hI.2.2.1, hI.2.2.2.1, hI.2.2.2.2.1, hI.2.2.2.2.2.1, hI.2.2.2.2.2.2.1, q1, hI.2.2.2.2.2.2.2.2.1, hI.2.2.2.2.2.2.2.2.2.1, hI.2.2.2.2.2.2.2.2.2.2.1, hI.2.2.2.2.2.2.2.2.2.2.2.1, hI.2.2.2.2.2.2.2.2.2.2.2.2⟩⟩

theorem op_bound (xs : List Int32) {n : Nat} {A : Nat → List Int32} {I : Nat → Int32} {x : am_X} (h : Iv0 n A I x) (a1 : Int32) (a2 : Int32) : am_op xs n ix_X11_bound ix_X12_bound [.int a1, .int a2] A I x := by
  obtain ⟨⟨P, N, T, R, E, C, X, Z, hI⟩, hx⟩ := h
  obtain ⟨s1, s2, s3, s4, s5⟩ := id hI.2.2.2.2.2.2.2.1
  rcases wi_l 7 (by decide) a1 with w | ⟨l, hl, rfl, w⟩
  · skip
    have e1 : f_X11_bound A I a1 a2 = some (-2, (A 24)) := by
      simp (disch := first | omega | decide | assumption | (simp [up_app]; assumption)) [-Int32.ofNat_add, -Int32.ofNat_mul, -Int32.ofNat_sub, i_lel, i_ler, i_ltl, i_ltr, i_eql, i_eqr, i_le, i_lt, i_eq, i_addl, i_addr, i_add, i_mull, i_mulr, i_mul, i_subr, i_sub, am_at_g, am_at_gl, am_up_g, am_up_gl, up_app, in_X, i_sub1, f_X11_bound, f_X11_isLand, w]
    have e2 : f_X12_bound (up A 24 (A 24)) I a1 a2 = some (-2, (A 120)) := by
      simp (disch := first | omega | decide | assumption | (simp [up_app]; assumption)) [-Int32.ofNat_add, -Int32.ofNat_mul, -Int32.ofNat_sub, i_lel, i_ler, i_ltl, i_ltr, i_eql, i_eqr, i_le, i_lt, i_eq, i_addl, i_addr, i_add, i_mull, i_mulr, i_mul, i_subr, i_sub, am_at_g, am_at_gl, am_up_g, am_up_gl, up_app, in_X, i_sub1, f_X12_bound, f_X12_isLand, w]
    have c1 := t_X11_bound (xs := xs) A I x a1 a2 e1
    have c2 := t_X12_bound (xs := xs) (up A 24 (A 24)) I x a1 a2 e2
    exact am_op.mk hx c1 (by decide) c2 (by decide) ⟨P, N, T, R, E, C, X, Z, ⟨hI.1, hI.2.1, hI.2.2.1, hI.2.2.2.1, hI.2.2.2.2.1, hI.2.2.2.2.2.1, hI.2.2.2.2.2.2.1, hI.2.2.2.2.2.2.2.1, hI.2.2.2.2.2.2.2.2.1, hI.2.2.2.2.2.2.2.2.2.1, hI.2.2.2.2.2.2.2.2.2.2.1, hI.2.2.2.2.2.2.2.2.2.2.2.1, hI.2.2.2.2.2.2.2.2.2.2.2.2⟩⟩
  · rcases wi_l 999 (by decide) a2 with w2 | ⟨s, hs, rfl, w2⟩
    · skip
      have e1 : f_X11_bound A I (Int32.ofNat l) a2 = some (-2, (A 24)) := by
        simp (disch := first | omega | decide | assumption | (simp [up_app]; assumption)) [-Int32.ofNat_add, -Int32.ofNat_mul, -Int32.ofNat_sub, i_lel, i_ler, i_ltl, i_ltr, i_eql, i_eqr, i_le, i_lt, i_eq, i_addl, i_addr, i_add, i_mull, i_mulr, i_mul, i_subr, i_sub, am_at_g, am_at_gl, am_up_g, am_up_gl, up_app, in_X, i_sub1, f_X11_bound, f_X11_isLand, w, w2]
      have e2 : f_X12_bound (up A 24 (A 24)) I (Int32.ofNat l) a2 = some (-2, (A 120)) := by
        simp (disch := first | omega | decide | assumption | (simp [up_app]; assumption)) [-Int32.ofNat_add, -Int32.ofNat_mul, -Int32.ofNat_sub, i_lel, i_ler, i_ltl, i_ltr, i_eql, i_eqr, i_le, i_lt, i_eq, i_addl, i_addr, i_add, i_mull, i_mulr, i_mul, i_subr, i_sub, am_at_g, am_at_gl, am_up_g, am_up_gl, up_app, in_X, i_sub1, f_X12_bound, f_X12_isLand, w, w2]
      have c1 := t_X11_bound (xs := xs) A I x (Int32.ofNat l) a2 e1
      have c2 := t_X12_bound (xs := xs) (up A 24 (A 24)) I x (Int32.ofNat l) a2 e2
      exact am_op.mk hx c1 (by decide) c2 (by decide) ⟨P, N, T, R, E, C, X, Z, ⟨hI.1, hI.2.1, hI.2.2.1, hI.2.2.2.1, hI.2.2.2.2.1, hI.2.2.2.2.2.1, hI.2.2.2.2.2.2.1, hI.2.2.2.2.2.2.2.1, hI.2.2.2.2.2.2.2.2.1, hI.2.2.2.2.2.2.2.2.2.1, hI.2.2.2.2.2.2.2.2.2.2.1, hI.2.2.2.2.2.2.2.2.2.2.2.1, hI.2.2.2.2.2.2.2.2.2.2.2.2⟩⟩
    · have q1 : v_sea (A 23) (A 116) ((A 120).set l (Int32.ofNat s)) ((A 120).set l (Int32.ofNat s)) := by
        refine ⟨s1, rfl, by simp [s3], by simp [s4], fun k hk => ?_⟩
        rw [g_set (by omega)]
        by_cases e : k = l
        · rw [if_pos e]; exact ⟨(s5 k hk).1, s, by omega, rfl⟩
        · rw [if_neg e]; exact s5 k hk
      have e1 : f_X11_bound A I (Int32.ofNat l) (Int32.ofNat s) = some ((g (A 120) l), ((A 120).set l (Int32.ofNat s))) := by
        simp (disch := first | omega | decide | assumption | (simp [up_app]; assumption)) [-Int32.ofNat_add, -Int32.ofNat_mul, -Int32.ofNat_sub, i_lel, i_ler, i_ltl, i_ltr, i_eql, i_eqr, i_le, i_lt, i_eq, i_addl, i_addr, i_add, i_mull, i_mulr, i_mul, i_subr, i_sub, am_at_g, am_at_gl, am_up_g, am_up_gl, up_app, in_X, i_sub1, f_X11_bound, f_X11_isLand, w, w2, s2]
      have e2 : f_X12_bound (up A 24 ((A 120).set l (Int32.ofNat s))) I (Int32.ofNat l) (Int32.ofNat s) = some ((g (A 120) l), ((A 120).set l (Int32.ofNat s))) := by
        simp (disch := first | omega | decide | assumption | (simp [up_app]; assumption)) [-Int32.ofNat_add, -Int32.ofNat_mul, -Int32.ofNat_sub, i_lel, i_ler, i_ltl, i_ltr, i_eql, i_eqr, i_le, i_lt, i_eq, i_addl, i_addr, i_add, i_mull, i_mulr, i_mul, i_subr, i_sub, am_at_g, am_at_gl, am_up_g, am_up_gl, up_app, in_X, i_sub1, f_X12_bound, f_X12_isLand, w, w2]
      have c1 := t_X11_bound (xs := xs) A I x (Int32.ofNat l) (Int32.ofNat s) e1
      have c2 := t_X12_bound (xs := xs) (up A 24 ((A 120).set l (Int32.ofNat s))) I x (Int32.ofNat l) (Int32.ofNat s) e2
      exact am_op.mk hx c1 (by decide) c2 (by decide) ⟨P, N, T, R, E, C, X, Z, ⟨hI.1, hI.2.1, hI.2.2.1, hI.2.2.2.1, hI.2.2.2.2.1, hI.2.2.2.2.2.1, hI.2.2.2.2.2.2.1, q1, hI.2.2.2.2.2.2.2.2.1, hI.2.2.2.2.2.2.2.2.2.1, hI.2.2.2.2.2.2.2.2.2.2.1, hI.2.2.2.2.2.2.2.2.2.2.2.1, hI.2.2.2.2.2.2.2.2.2.2.2.2⟩⟩

theorem op_pay (xs : List Int32) {n : Nat} {A : Nat → List Int32} {I : Nat → Int32} {x : am_X} (h : Iv0 n A I x) (a1 : Int32) (a2 : Int32) (a3 : Int32) (a4 : Int32) : am_op xs n ix_X11_pay ix_X12_pay [.int a1, .int a2, .int a3, .int a4] A I x := by
  obtain ⟨⟨P, N, T, R, E, C, X, Z, hI⟩, hx⟩ := h
  obtain ⟨⟨r1, r2, r3, r4⟩, ⟨r5, r6, r7, r8⟩, r9, r10, r11, r12⟩ := id hI.2.2.2.2.2.1
  obtain ⟨-, -, p3, p4, p5, -⟩ := id hI.1
  rcases wi_l 5 (by decide) a1 with w | ⟨o, ho, rfl, w⟩
  · skip
    have e1 : f_X11_pay A I a1 a2 a3 a4 = some (-2, (A 48), (A 49), (A 50), (A 51), (I 3012)) := by
      simp (disch := first | omega | decide | assumption | (simp [up_app]; assumption)) [-Int32.ofNat_add, -Int32.ofNat_mul, -Int32.ofNat_sub, i_lel, i_ler, i_ltl, i_ltr, i_eql, i_eqr, i_le, i_lt, i_eq, i_addl, i_addr, i_add, i_mull, i_mulr, i_mul, i_subr, i_sub, am_at_g, am_at_gl, am_up_g, am_up_gl, up_app, in_X, i_sub1, f_X11_pay, f_X11_isOffice, f_X11_isDay, f_X9_add, w]
    have e2 : f_X12_pay (up (up (up (up A 48 (A 48)) 49 (A 49)) 50 (A 50)) 51 (A 51)) (up I 3012 (I 3012)) a1 a2 a3 a4 = some (-2, (A 109), (A 110), (A 111), (A 112), (I 5476)) := by
      simp (disch := first | omega | decide | assumption | (simp [up_app]; assumption)) [-Int32.ofNat_add, -Int32.ofNat_mul, -Int32.ofNat_sub, i_lel, i_ler, i_ltl, i_ltr, i_eql, i_eqr, i_le, i_lt, i_eq, i_addl, i_addr, i_add, i_mull, i_mulr, i_mul, i_subr, i_sub, am_at_g, am_at_gl, am_up_g, am_up_gl, up_app, in_X, i_sub1, f_X12_pay, f_X12_isOffice, f_X12_isDay, w]
    have c1 := t_X11_pay (xs := xs) A I x a1 a2 a3 a4 e1
    have c2 := t_X12_pay (xs := xs) (up (up (up (up A 48 (A 48)) 49 (A 49)) 50 (A 50)) 51 (A 51)) (up I 3012 (I 3012)) x a1 a2 a3 a4 e2
    exact am_op.mk hx c1 (by decide) c2 (by decide) ⟨P, N, T, R, E, C, X, Z, ⟨hI.1, hI.2.1, hI.2.2.1, hI.2.2.2.1, hI.2.2.2.2.1, hI.2.2.2.2.2.1, hI.2.2.2.2.2.2.1, hI.2.2.2.2.2.2.2.1, hI.2.2.2.2.2.2.2.2.1, hI.2.2.2.2.2.2.2.2.2.1, hI.2.2.2.2.2.2.2.2.2.2.1, hI.2.2.2.2.2.2.2.2.2.2.2.1, hI.2.2.2.2.2.2.2.2.2.2.2.2⟩⟩
  · rcases c_Person P (by omega) a2 with ⟨w2, w3⟩ | ⟨p, hp, rfl, w2, w3⟩
    · skip
      have e1 : f_X11_pay A I (Int32.ofNat o) a2 a3 a4 = some (-2, (A 48), (A 49), (A 50), (A 51), (I 3012)) := by
        simp (disch := first | omega | decide | assumption | (simp [up_app]; assumption)) [-Int32.ofNat_add, -Int32.ofNat_mul, -Int32.ofNat_sub, i_lel, i_ler, i_ltl, i_ltr, i_eql, i_eqr, i_le, i_lt, i_eq, i_addl, i_addr, i_add, i_mull, i_mulr, i_mul, i_subr, i_sub, am_at_g, am_at_gl, am_up_g, am_up_gl, up_app, in_X, i_sub1, f_X11_pay, f_X11_isOffice, f_X11_isDay, f_X9_add, w, w2]
      have e2 : f_X12_pay (up (up (up (up A 48 (A 48)) 49 (A 49)) 50 (A 50)) 51 (A 51)) (up I 3012 (I 3012)) (Int32.ofNat o) a2 a3 a4 = some (-2, (A 109), (A 110), (A 111), (A 112), (I 5476)) := by
        simp (disch := first | omega | decide | assumption | (simp [up_app]; assumption)) [-Int32.ofNat_add, -Int32.ofNat_mul, -Int32.ofNat_sub, i_lel, i_ler, i_ltl, i_ltr, i_eql, i_eqr, i_le, i_lt, i_eq, i_addl, i_addr, i_add, i_mull, i_mulr, i_mul, i_subr, i_sub, am_at_g, am_at_gl, am_up_g, am_up_gl, up_app, in_X, i_sub1, f_X12_pay, f_X12_isOffice, f_X12_isDay, w, w3]
      have c1 := t_X11_pay (xs := xs) A I x (Int32.ofNat o) a2 a3 a4 e1
      have c2 := t_X12_pay (xs := xs) (up (up (up (up A 48 (A 48)) 49 (A 49)) 50 (A 50)) 51 (A 51)) (up I 3012 (I 3012)) x (Int32.ofNat o) a2 a3 a4 e2
      exact am_op.mk hx c1 (by decide) c2 (by decide) ⟨P, N, T, R, E, C, X, Z, ⟨hI.1, hI.2.1, hI.2.2.1, hI.2.2.2.1, hI.2.2.2.2.1, hI.2.2.2.2.2.1, hI.2.2.2.2.2.2.1, hI.2.2.2.2.2.2.2.1, hI.2.2.2.2.2.2.2.2.1, hI.2.2.2.2.2.2.2.2.2.1, hI.2.2.2.2.2.2.2.2.2.2.1, hI.2.2.2.2.2.2.2.2.2.2.2.1, hI.2.2.2.2.2.2.2.2.2.2.2.2⟩⟩
    · rcases wi_1 9999 (by decide) a3 with w4 | ⟨c, hc0, hc, rfl, w4⟩
      · skip
        have e1 : f_X11_pay A I (Int32.ofNat o) (Int32.ofNat p) a3 a4 = some (-2, (A 48), (A 49), (A 50), (A 51), (I 3012)) := by
          simp (disch := first | omega | decide | assumption | (simp [up_app]; assumption)) [-Int32.ofNat_add, -Int32.ofNat_mul, -Int32.ofNat_sub, i_lel, i_ler, i_ltl, i_ltr, i_eql, i_eqr, i_le, i_lt, i_eq, i_addl, i_addr, i_add, i_mull, i_mulr, i_mul, i_subr, i_sub, am_at_g, am_at_gl, am_up_g, am_up_gl, up_app, in_X, i_sub1, f_X11_pay, f_X11_isOffice, f_X11_isDay, f_X9_add, w, w2, w4]
        have e2 : f_X12_pay (up (up (up (up A 48 (A 48)) 49 (A 49)) 50 (A 50)) 51 (A 51)) (up I 3012 (I 3012)) (Int32.ofNat o) (Int32.ofNat p) a3 a4 = some (-2, (A 109), (A 110), (A 111), (A 112), (I 5476)) := by
          simp (disch := first | omega | decide | assumption | (simp [up_app]; assumption)) [-Int32.ofNat_add, -Int32.ofNat_mul, -Int32.ofNat_sub, i_lel, i_ler, i_ltl, i_ltr, i_eql, i_eqr, i_le, i_lt, i_eq, i_addl, i_addr, i_add, i_mull, i_mulr, i_mul, i_subr, i_sub, am_at_g, am_at_gl, am_up_g, am_up_gl, up_app, in_X, i_sub1, f_X12_pay, f_X12_isOffice, f_X12_isDay, w, w3, w4]
        have c1 := t_X11_pay (xs := xs) A I x (Int32.ofNat o) (Int32.ofNat p) a3 a4 e1
        have c2 := t_X12_pay (xs := xs) (up (up (up (up A 48 (A 48)) 49 (A 49)) 50 (A 50)) 51 (A 51)) (up I 3012 (I 3012)) x (Int32.ofNat o) (Int32.ofNat p) a3 a4 e2
        exact am_op.mk hx c1 (by decide) c2 (by decide) ⟨P, N, T, R, E, C, X, Z, ⟨hI.1, hI.2.1, hI.2.2.1, hI.2.2.2.1, hI.2.2.2.2.1, hI.2.2.2.2.2.1, hI.2.2.2.2.2.2.1, hI.2.2.2.2.2.2.2.1, hI.2.2.2.2.2.2.2.2.1, hI.2.2.2.2.2.2.2.2.2.1, hI.2.2.2.2.2.2.2.2.2.2.1, hI.2.2.2.2.2.2.2.2.2.2.2.1, hI.2.2.2.2.2.2.2.2.2.2.2.2⟩⟩
      · rcases wi_l 9999 (by decide) a4 with w5 | ⟨d, hd, rfl, w5⟩
        · skip
          have e1 : f_X11_pay A I (Int32.ofNat o) (Int32.ofNat p) (Int32.ofNat c) a4 = some (-2, (A 48), (A 49), (A 50), (A 51), (I 3012)) := by
            simp (disch := first | omega | decide | assumption | (simp [up_app]; assumption)) [-Int32.ofNat_add, -Int32.ofNat_mul, -Int32.ofNat_sub, i_lel, i_ler, i_ltl, i_ltr, i_eql, i_eqr, i_le, i_lt, i_eq, i_addl, i_addr, i_add, i_mull, i_mulr, i_mul, i_subr, i_sub, am_at_g, am_at_gl, am_up_g, am_up_gl, up_app, in_X, i_sub1, f_X11_pay, f_X11_isOffice, f_X11_isDay, f_X9_add, w, w2, w4, w5]
          have e2 : f_X12_pay (up (up (up (up A 48 (A 48)) 49 (A 49)) 50 (A 50)) 51 (A 51)) (up I 3012 (I 3012)) (Int32.ofNat o) (Int32.ofNat p) (Int32.ofNat c) a4 = some (-2, (A 109), (A 110), (A 111), (A 112), (I 5476)) := by
            simp (disch := first | omega | decide | assumption | (simp [up_app]; assumption)) [-Int32.ofNat_add, -Int32.ofNat_mul, -Int32.ofNat_sub, i_lel, i_ler, i_ltl, i_ltr, i_eql, i_eqr, i_le, i_lt, i_eq, i_addl, i_addr, i_add, i_mull, i_mulr, i_mul, i_subr, i_sub, am_at_g, am_at_gl, am_up_g, am_up_gl, up_app, in_X, i_sub1, f_X12_pay, f_X12_isOffice, f_X12_isDay, w, w3, w4, w5]
          have c1 := t_X11_pay (xs := xs) A I x (Int32.ofNat o) (Int32.ofNat p) (Int32.ofNat c) a4 e1
          have c2 := t_X12_pay (xs := xs) (up (up (up (up A 48 (A 48)) 49 (A 49)) 50 (A 50)) 51 (A 51)) (up I 3012 (I 3012)) x (Int32.ofNat o) (Int32.ofNat p) (Int32.ofNat c) a4 e2
          exact am_op.mk hx c1 (by decide) c2 (by decide) ⟨P, N, T, R, E, C, X, Z, ⟨hI.1, hI.2.1, hI.2.2.1, hI.2.2.2.1, hI.2.2.2.2.1, hI.2.2.2.2.2.1, hI.2.2.2.2.2.2.1, hI.2.2.2.2.2.2.2.1, hI.2.2.2.2.2.2.2.2.1, hI.2.2.2.2.2.2.2.2.2.1, hI.2.2.2.2.2.2.2.2.2.2.1, hI.2.2.2.2.2.2.2.2.2.2.2.1, hI.2.2.2.2.2.2.2.2.2.2.2.2⟩⟩
        · by_cases hR : R < 30
          · have hR2 : ¬ R = 30 := by omega
            have q1 : v_rnt (R + 1) ((A 109).set R (Int32.ofNat o)) ((A 110).set R (Int32.ofNat p)) ((A 111).set R (Int32.ofNat c)) ((A 112).set R (Int32.ofNat d)) (Int32.ofNat (R + 1)) ((A 109).set R (Int32.ofNat o)) ((A 110).set R (Int32.ofNat p)) ((A 111).set R (Int32.ofNat c)) ((A 112).set R (Int32.ofNat d)) (Int32.ofNat (R + 1)) := by
              refine ⟨⟨rfl, rfl, rfl, rfl⟩, by simp [r5, r6, r7, r8], by omega, rfl, rfl, fun k hk => ?_⟩
              by_cases e : k = R
              · subst e
                rw [g_set_eq (by omega), g_set_eq (by omega)]
                exact ⟨⟨p, by omega, rfl⟩, d, by omega, rfl⟩
              · rw [g_set_ne e, g_set_ne e]
                exact r12 k hk
            have e1 : f_X11_pay A I (Int32.ofNat o) (Int32.ofNat p) (Int32.ofNat c) (Int32.ofNat d) = some ((Int32.ofNat R), ((A 109).set R (Int32.ofNat o)), ((A 110).set R (Int32.ofNat p)), ((A 111).set R (Int32.ofNat c)), ((A 112).set R (Int32.ofNat d)), (Int32.ofNat (R + 1))) := by
              simp (disch := first | omega | decide | assumption | (simp [up_app]; assumption)) [-Int32.ofNat_add, -Int32.ofNat_mul, -Int32.ofNat_sub, i_lel, i_ler, i_ltl, i_ltr, i_eql, i_eqr, i_le, i_lt, i_eq, i_addl, i_addr, i_add, i_mull, i_mulr, i_mul, i_subr, i_sub, am_at_g, am_at_gl, am_up_g, am_up_gl, up_app, in_X, i_sub1, f_X11_pay, f_X11_isOffice, f_X11_isDay, f_X9_add, w, w2, w4, w5, r10, hR, r1, r2, r3, r4]
            have e2 : f_X12_pay (up (up (up (up A 48 ((A 109).set R (Int32.ofNat o))) 49 ((A 110).set R (Int32.ofNat p))) 50 ((A 111).set R (Int32.ofNat c))) 51 ((A 112).set R (Int32.ofNat d))) (up I 3012 (Int32.ofNat (R + 1))) (Int32.ofNat o) (Int32.ofNat p) (Int32.ofNat c) (Int32.ofNat d) = some ((Int32.ofNat R), ((A 109).set R (Int32.ofNat o)), ((A 110).set R (Int32.ofNat p)), ((A 111).set R (Int32.ofNat c)), ((A 112).set R (Int32.ofNat d)), (Int32.ofNat (R + 1))) := by
              simp (disch := first | omega | decide | assumption | (simp [up_app]; assumption)) [-Int32.ofNat_add, -Int32.ofNat_mul, -Int32.ofNat_sub, i_lel, i_ler, i_ltl, i_ltr, i_eql, i_eqr, i_le, i_lt, i_eq, i_addl, i_addr, i_add, i_mull, i_mulr, i_mul, i_subr, i_sub, am_at_g, am_at_gl, am_up_g, am_up_gl, up_app, in_X, i_sub1, f_X12_pay, f_X12_isOffice, f_X12_isDay, w, w3, w4, w5, r11, hR2]
            have c1 := t_X11_pay (xs := xs) A I x (Int32.ofNat o) (Int32.ofNat p) (Int32.ofNat c) (Int32.ofNat d) e1
            have c2 := t_X12_pay (xs := xs) (up (up (up (up A 48 ((A 109).set R (Int32.ofNat o))) 49 ((A 110).set R (Int32.ofNat p))) 50 ((A 111).set R (Int32.ofNat c))) 51 ((A 112).set R (Int32.ofNat d))) (up I 3012 (Int32.ofNat (R + 1))) x (Int32.ofNat o) (Int32.ofNat p) (Int32.ofNat c) (Int32.ofNat d) e2
            exact am_op.mk hx c1 (by decide) c2 (by decide) ⟨P, N, T, R + 1, E, C, X, Z, ⟨hI.1, hI.2.1, hI.2.2.1, hI.2.2.2.1, hI.2.2.2.2.1, q1, hI.2.2.2.2.2.2.1, hI.2.2.2.2.2.2.2.1, hI.2.2.2.2.2.2.2.2.1, hI.2.2.2.2.2.2.2.2.2.1, hI.2.2.2.2.2.2.2.2.2.2.1, hI.2.2.2.2.2.2.2.2.2.2.2.1, hI.2.2.2.2.2.2.2.2.2.2.2.2⟩⟩
          · have hR3 := eq_true (show R = 30 by omega)
            have hR4 := eq_false hR
            have e1 : f_X11_pay A I (Int32.ofNat o) (Int32.ofNat p) (Int32.ofNat c) (Int32.ofNat d) = some (-4, (A 48), (A 49), (A 50), (A 51), (I 3012)) := by
              simp (disch := first | omega | decide | assumption | (simp [up_app]; assumption)) [-Int32.ofNat_add, -Int32.ofNat_mul, -Int32.ofNat_sub, i_lel, i_ler, i_ltl, i_ltr, i_eql, i_eqr, i_le, i_lt, i_eq, i_addl, i_addr, i_add, i_mull, i_mulr, i_mul, i_subr, i_sub, am_at_g, am_at_gl, am_up_g, am_up_gl, up_app, in_X, i_sub1, f_X11_pay, f_X11_isOffice, f_X11_isDay, f_X9_add, w, w2, w4, w5, r10, hR4]
            have e2 : f_X12_pay (up (up (up (up A 48 (A 48)) 49 (A 49)) 50 (A 50)) 51 (A 51)) (up I 3012 (I 3012)) (Int32.ofNat o) (Int32.ofNat p) (Int32.ofNat c) (Int32.ofNat d) = some (-4, (A 109), (A 110), (A 111), (A 112), (I 5476)) := by
              simp (disch := first | omega | decide | assumption | (simp [up_app]; assumption)) [-Int32.ofNat_add, -Int32.ofNat_mul, -Int32.ofNat_sub, i_lel, i_ler, i_ltl, i_ltr, i_eql, i_eqr, i_le, i_lt, i_eq, i_addl, i_addr, i_add, i_mull, i_mulr, i_mul, i_subr, i_sub, am_at_g, am_at_gl, am_up_g, am_up_gl, up_app, in_X, i_sub1, f_X12_pay, f_X12_isOffice, f_X12_isDay, w, w3, w4, w5, r11, hR3]
            have c1 := t_X11_pay (xs := xs) A I x (Int32.ofNat o) (Int32.ofNat p) (Int32.ofNat c) (Int32.ofNat d) e1
            have c2 := t_X12_pay (xs := xs) (up (up (up (up A 48 (A 48)) 49 (A 49)) 50 (A 50)) 51 (A 51)) (up I 3012 (I 3012)) x (Int32.ofNat o) (Int32.ofNat p) (Int32.ofNat c) (Int32.ofNat d) e2
            exact am_op.mk hx c1 (by decide) c2 (by decide) ⟨P, N, T, R, E, C, X, Z, ⟨hI.1, hI.2.1, hI.2.2.1, hI.2.2.2.1, hI.2.2.2.2.1, hI.2.2.2.2.2.1, hI.2.2.2.2.2.2.1, hI.2.2.2.2.2.2.2.1, hI.2.2.2.2.2.2.2.2.1, hI.2.2.2.2.2.2.2.2.2.1, hI.2.2.2.2.2.2.2.2.2.2.1, hI.2.2.2.2.2.2.2.2.2.2.2.1, hI.2.2.2.2.2.2.2.2.2.2.2.2⟩⟩

theorem op_rule (xs : List Int32) {n : Nat} {A : Nat → List Int32} {I : Nat → Int32} {x : am_X} (h : Iv0 n A I x) (a1 : Int32) (a2 : Int32) : am_op xs n ix_X11_rule ix_X12_rule [.int a1, .int a2] A I x := by
  obtain ⟨⟨P, N, T, R, E, C, X, Z, hI⟩, hx⟩ := h
  obtain ⟨⟨x1, x2, x3, x4, x5, x6, x7, x8⟩, x9, x10, x11, x12, x13, x14⟩ := id hI.2.2.2.2.2.2.2.2.2.2.2.1
  rcases wi_l 2 (by decide) a1 with w | ⟨s, hs, rfl, w⟩
  · skip
    have e1 : f_X11_rule A I a1 a2 = some (-2, (A 40)) := by
      simp (disch := first | omega | decide | assumption | (simp [up_app]; assumption)) [-Int32.ofNat_add, -Int32.ofNat_mul, -Int32.ofNat_sub, i_lel, i_ler, i_ltl, i_ltr, i_eql, i_eqr, i_le, i_lt, i_eq, i_addl, i_addr, i_add, i_mull, i_mulr, i_mul, i_subr, i_sub, am_at_g, am_at_gl, am_up_g, am_up_gl, up_app, in_X, i_sub1, f_X11_rule, f_X11_isSide, w]
    have e2 : f_X12_rule (up A 40 (A 40)) I a1 a2 = some (-2, (A 102)) := by
      simp (disch := first | omega | decide | assumption | (simp [up_app]; assumption)) [-Int32.ofNat_add, -Int32.ofNat_mul, -Int32.ofNat_sub, i_lel, i_ler, i_ltl, i_ltr, i_eql, i_eqr, i_le, i_lt, i_eq, i_addl, i_addr, i_add, i_mull, i_mulr, i_mul, i_subr, i_sub, am_at_g, am_at_gl, am_up_g, am_up_gl, up_app, in_X, i_sub1, f_X12_rule, f_X12_isSide, w]
    have c1 := t_X11_rule (xs := xs) A I x a1 a2 e1
    have c2 := t_X12_rule (xs := xs) (up A 40 (A 40)) I x a1 a2 e2
    exact am_op.mk hx c1 (by decide) c2 (by decide) ⟨P, N, T, R, E, C, X, Z, ⟨hI.1, hI.2.1, hI.2.2.1, hI.2.2.2.1, hI.2.2.2.2.1, hI.2.2.2.2.2.1, hI.2.2.2.2.2.2.1, hI.2.2.2.2.2.2.2.1, hI.2.2.2.2.2.2.2.2.1, hI.2.2.2.2.2.2.2.2.2.1, hI.2.2.2.2.2.2.2.2.2.2.1, hI.2.2.2.2.2.2.2.2.2.2.2.1, hI.2.2.2.2.2.2.2.2.2.2.2.2⟩⟩
  · rcases wi_p X (by omega) a2 with w2 | ⟨t, ht, rfl, w2⟩
    · rw [← x11] at w2
      have w3 := w2
      rw [x11, ← x12] at w3
      have e1 : f_X11_rule A I (Int32.ofNat s) a2 = some (-2, (A 40)) := by
        simp (disch := first | omega | decide | assumption | (simp [up_app]; assumption)) [-Int32.ofNat_add, -Int32.ofNat_mul, -Int32.ofNat_sub, i_lel, i_ler, i_ltl, i_ltr, i_eql, i_eqr, i_le, i_lt, i_eq, i_addl, i_addr, i_add, i_mull, i_mulr, i_mul, i_subr, i_sub, am_at_g, am_at_gl, am_up_g, am_up_gl, up_app, in_X, i_sub1, f_X11_rule, f_X11_isSide, w, w2]
      have e2 : f_X12_rule (up A 40 (A 40)) I (Int32.ofNat s) a2 = some (-2, (A 102)) := by
        simp (disch := first | omega | decide | assumption | (simp [up_app]; assumption)) [-Int32.ofNat_add, -Int32.ofNat_mul, -Int32.ofNat_sub, i_lel, i_ler, i_ltl, i_ltr, i_eql, i_eqr, i_le, i_lt, i_eq, i_addl, i_addr, i_add, i_mull, i_mulr, i_mul, i_subr, i_sub, am_at_g, am_at_gl, am_up_g, am_up_gl, up_app, in_X, i_sub1, f_X12_rule, f_X12_isSide, w, w3]
      have c1 := t_X11_rule (xs := xs) A I x (Int32.ofNat s) a2 e1
      have c2 := t_X12_rule (xs := xs) (up A 40 (A 40)) I x (Int32.ofNat s) a2 e2
      exact am_op.mk hx c1 (by decide) c2 (by decide) ⟨P, N, T, R, E, C, X, Z, ⟨hI.1, hI.2.1, hI.2.2.1, hI.2.2.2.1, hI.2.2.2.2.1, hI.2.2.2.2.2.1, hI.2.2.2.2.2.2.1, hI.2.2.2.2.2.2.2.1, hI.2.2.2.2.2.2.2.2.1, hI.2.2.2.2.2.2.2.2.2.1, hI.2.2.2.2.2.2.2.2.2.2.1, hI.2.2.2.2.2.2.2.2.2.2.2.1, hI.2.2.2.2.2.2.2.2.2.2.2.2⟩⟩
    · rw [← x11] at w2
      have w3 := w2
      rw [x11, ← x12] at w3
      have q1 : v_txt X ((A 102).set s (Int32.ofNat t)) (A 44) (A 46) ((A 102).set s (Int32.ofNat t)) (I 2373) (I 5460) (A 103) (A 104) x := by
        refine ⟨⟨rfl, x2, x3, by simp [x4], x5, x6, x7, x8⟩, x9, x10, x11, x12, fun k hk => ?_, x14⟩
        rw [g_set (by omega)]
        by_cases e : k = s
        · rw [if_pos e]; exact ⟨t, ht, rfl⟩
        · rw [if_neg e]; exact x13 k hk
      have e1 : f_X11_rule A I (Int32.ofNat s) (Int32.ofNat t) = some ((g (A 102) s), ((A 102).set s (Int32.ofNat t))) := by
        simp (disch := first | omega | decide | assumption | (simp [up_app]; assumption)) [-Int32.ofNat_add, -Int32.ofNat_mul, -Int32.ofNat_sub, i_lel, i_ler, i_ltl, i_ltr, i_eql, i_eqr, i_le, i_lt, i_eq, i_addl, i_addr, i_add, i_mull, i_mulr, i_mul, i_subr, i_sub, am_at_g, am_at_gl, am_up_g, am_up_gl, up_app, in_X, i_sub1, f_X11_rule, f_X11_isSide, w, w2, x1]
      have e2 : f_X12_rule (up A 40 ((A 102).set s (Int32.ofNat t))) I (Int32.ofNat s) (Int32.ofNat t) = some ((g (A 102) s), ((A 102).set s (Int32.ofNat t))) := by
        simp (disch := first | omega | decide | assumption | (simp [up_app]; assumption)) [-Int32.ofNat_add, -Int32.ofNat_mul, -Int32.ofNat_sub, i_lel, i_ler, i_ltl, i_ltr, i_eql, i_eqr, i_le, i_lt, i_eq, i_addl, i_addr, i_add, i_mull, i_mulr, i_mul, i_subr, i_sub, am_at_g, am_at_gl, am_up_g, am_up_gl, up_app, in_X, i_sub1, f_X12_rule, f_X12_isSide, w, w3]
      have c1 := t_X11_rule (xs := xs) A I x (Int32.ofNat s) (Int32.ofNat t) e1
      have c2 := t_X12_rule (xs := xs) (up A 40 ((A 102).set s (Int32.ofNat t))) I x (Int32.ofNat s) (Int32.ofNat t) e2
      exact am_op.mk hx c1 (by decide) c2 (by decide) ⟨P, N, T, R, E, C, X, Z, ⟨hI.1, hI.2.1, hI.2.2.1, hI.2.2.2.1, hI.2.2.2.2.1, hI.2.2.2.2.2.1, hI.2.2.2.2.2.2.1, hI.2.2.2.2.2.2.2.1, hI.2.2.2.2.2.2.2.2.1, hI.2.2.2.2.2.2.2.2.2.1, hI.2.2.2.2.2.2.2.2.2.2.1, q1, hI.2.2.2.2.2.2.2.2.2.2.2.2⟩⟩

theorem i_or {a b : Nat} : Int32.ofNat a ||| Int32.ofNat b = Int32.ofNat (a ||| b) := by
  apply Int32.toBitVec_inj.mp
  show BitVec.ofNat 32 a ||| BitVec.ofNat 32 b = BitVec.ofNat 32 (a ||| b)
  apply BitVec.eq_of_getLsbD_eq
  intro i hi
  simp [BitVec.getLsbD_ofNat, hi]
theorem i_and {a b : Nat} : Int32.ofNat a &&& Int32.ofNat b = Int32.ofNat (a &&& b) := by
  apply Int32.toBitVec_inj.mp
  show BitVec.ofNat 32 a &&& BitVec.ofNat 32 b = BitVec.ofNat 32 (a &&& b)
  apply BitVec.eq_of_getLsbD_eq
  intro i hi
  simp [BitVec.getLsbD_ofNat, hi]
theorem i_an {a b : Nat} : Int32.ofNat a &&& (Int32.ofNat b ^^^ (-1)) = Int32.ofNat (a ^^^ (a &&& b)) := by
  apply Int32.toBitVec_inj.mp
  show BitVec.ofNat 32 a &&& (BitVec.ofNat 32 b ^^^ BitVec.allOnes 32) = BitVec.ofNat 32 (a ^^^ (a &&& b))
  apply BitVec.eq_of_getLsbD_eq
  intro i hi
  rw [BitVec.getLsbD_and, BitVec.getLsbD_xor, BitVec.getLsbD_allOnes, BitVec.getLsbD_ofNat, BitVec.getLsbD_ofNat, BitVec.getLsbD_ofNat, Nat.testBit_xor, Nat.testBit_and, decide_eq_true hi]
  cases a.testBit i <;> cases b.testBit i <;> rfl
theorem i_31 {k : Nat} (h : k < 32) : Int32.ofNat k &&& 31 = Int32.ofNat k := by
  have : ∀ k, k < 32 → Int32.ofNat k &&& 31 = Int32.ofNat k := by decide
  exact this k h
theorem i_shl {a k : Nat} (h : k < 32) : Int32.ofNat a <<< (Int32.ofNat k &&& 31) = Int32.ofNat (a <<< k) := by
  rw [i_31 h]
  apply Int32.toBitVec_inj.mp
  have e : (Int32.ofNat k).toBitVec.smod 32 = BitVec.ofNat 32 k := by
    have : ∀ k, k < 32 → (Int32.ofNat k).toBitVec.smod 32 = BitVec.ofNat 32 k := by decide
    exact this k h
  show BitVec.ofNat 32 a <<< ((Int32.ofNat k).toBitVec.smod 32) = BitVec.ofNat 32 (a <<< k)
  rw [e]
  apply BitVec.eq_of_getLsbD_eq
  intro i hi
  have h3 : k % 4294967296 = k := Nat.mod_eq_of_lt (by omega)
  rw [BitVec.shiftLeft_eq', BitVec.getLsbD_shiftLeft, BitVec.toNat_ofNat, h3, BitVec.getLsbD_ofNat, BitVec.getLsbD_ofNat, Nat.testBit_shiftLeft, decide_eq_true hi]
  by_cases q : i < k
  · rw [decide_eq_true q, decide_eq_false (show ¬ i ≥ k by omega)]; rfl
  · rw [decide_eq_false q, decide_eq_true (show i ≥ k by omega), decide_eq_true (show i - k < 32 by omega)]; rfl
theorem i_1shl {k : Nat} (h : k < 32) : (1 : Int32) <<< (Int32.ofNat k &&& 31) = Int32.ofNat (2 ^ k) := by
  have := i_shl (a := 1) h
  rw [Nat.one_shiftLeft] at this
  exact this
theorem i_shr {a k : Nat} (h : k < 31) (ha : a < 2147483648) : Int32.ofNat a >>> (Int32.ofNat k &&& 31) = Int32.ofNat (a >>> k) := by
  rw [i_31 (by omega)]
  apply Int32.toBitVec_inj.mp
  have e : ((Int32.ofNat k).toBitVec.smod 32).toNat = k := by
    have : ∀ k, k < 31 → ((Int32.ofNat k).toBitVec.smod 32).toNat = k := by decide
    exact this k h
  show (BitVec.ofNat 32 a).sshiftRight ((Int32.ofNat k).toBitVec.smod 32).toNat = BitVec.ofNat 32 (a >>> k)
  rw [e]
  apply BitVec.eq_of_getLsbD_eq
  intro i hi
  have hm : (BitVec.ofNat 32 a).msb = false := by
    rw [BitVec.msb_eq_decide, decide_eq_false_iff_not, BitVec.toNat_ofNat, Nat.mod_eq_of_lt (by omega)]
    omega
  rw [BitVec.getLsbD_sshiftRight, hm, BitVec.getLsbD_ofNat, BitVec.getLsbD_ofNat, Nat.testBit_shiftRight]
  by_cases q : k + i < 32
  · simp [q, hi]
  · simp [q, hi]
    exact Nat.testBit_lt_two_pow (Nat.lt_of_lt_of_le ha (by
      show 2 ^ 31 ≤ 2 ^ (k + i)
      exact Nat.pow_le_pow_right (by decide) (by omega)))
theorem i_bit {a k : Nat} (h : k < 31) (ha : a < 2147483648) : (Int32.ofNat a >>> (Int32.ofNat k &&& 31)) &&& 1 = if a.testBit k then 1 else 0 := by
  rw [i_shr h ha]
  have : Int32.ofNat (a >>> k) &&& 1 = Int32.ofNat ((a >>> k) &&& 1) := i_and (b := 1)
  rw [this, Nat.and_one_is_mod]
  rw [Nat.testBit, Nat.one_and_eq_mod_two, bne]
  rcases Nat.mod_two_eq_zero_or_one (a >>> k) with e | e <;> rw [e] <;> rfl