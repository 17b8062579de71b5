/-! ===== calls: roads, what is known (by wip/whole/gen_ops6.py) ===== -/
abbrev hRod (A : Nat → List Int32) : Prop := v_rod [A 3, A 4, A 5, A 6, A 7, A 8, A 9, A 10] [A 12, A 13, A 14, A 15, A 16, A 17, A 18, A 19] (A 86)
theorem rod_row {A : Nat → List Int32} (P : Nat → List Int32 → List Int32 → Prop) (h : ∀ a, a < 8 → P a ([A 3, A 4, A 5, A 6, A 7, A 8, A 9, A 10].getD a []) ([A 12, A 13, A 14, A 15, A 16, A 17, A 18, A 19].getD a [])) : ∀ a, a < 8 → P a (A (3 + a)) (A (12 + a)) := by
  intro a ha
  exact match a, ha with
    | 0, _ => h 0 (by decide)
    | 1, _ => h 1 (by decide)
    | 2, _ => h 2 (by decide)
    | 3, _ => h 3 (by decide)
    | 4, _ => h 4 (by decide)
    | 5, _ => h 5 (by decide)
    | 6, _ => h 6 (by decide)
    | 7, _ => h 7 (by decide)
theorem rod_wor {A : Nat → List Int32} (P : Nat → List Int32 → List Int32 → Prop) (h : ∀ a, a < 8 → P a (A (3 + a)) (A (12 + a))) : ∀ a, a < 8 → P a ([A 3, A 4, A 5, A 6, A 7, A 8, A 9, A 10].getD a []) ([A 12, A 13, A 14, A 15, A 16, A 17, A 18, A 19].getD a []) := by
  intro a ha
  exact match a, ha with
    | 0, _ => h 0 (by decide)
    | 1, _ => h 1 (by decide)
    | 2, _ => h 2 (by decide)
    | 3, _ => h 3 (by decide)
    | 4, _ => h 4 (by decide)
    | 5, _ => h 5 (by decide)
    | 6, _ => h 6 (by decide)
    | 7, _ => h 7 (by decide)
theorem rod_get {A : Nat → List Int32} (h : hRod A) : nb (A 86) ∧ (∀ a, a < 8 → g (A 86) (8 * a + a) = 0) ∧ ∀ a, a < 8 → (A (3 + a)).length = 8 ∧ (A (12 + a)).length = 8 ∧ ∀ b, b < 8 → g (A (3 + a)) b = (if a = b then 999 else g (A 86) (8 * a + b)) ∧ g (A (12 + a)) b = g (fw (A 86)) (8 * a + b) := by
  obtain ⟨h1, h2, h3, h4⟩ := h
  exact ⟨⟨h1, h2⟩, h3, rod_row (fun a r w => r.length = 8 ∧ w.length = 8 ∧ ∀ b, b < 8 → g r b = (if a = b then 999 else g (A 86) (8 * a + b)) ∧ g w b = g (fw (A 86)) (8 * a + b)) h4⟩
theorem rod_mk {A : Nat → List Int32} {m : List Int32} (h1 : nb m) (h3 : ∀ a, a < 8 → g m (8 * a + a) = 0) (h4 : ∀ a, a < 8 → (A (3 + a)).length = 8 ∧ (A (12 + a)).length = 8 ∧ ∀ b, b < 8 → g (A (3 + a)) b = (if a = b then 999 else g m (8 * a + b)) ∧ g (A (12 + a)) b = g (fw m) (8 * a + b)) : v_rod [A 3, A 4, A 5, A 6, A 7, A 8, A 9, A 10] [A 12, A 13, A 14, A 15, A 16, A 17, A 18, A 19] m :=
  ⟨h1.1, h1.2, h3, rod_wor (fun a r w => r.length = 8 ∧ w.length = 8 ∧ ∀ b, b < 8 → g r b = (if a = b then 999 else g m (8 * a + b)) ∧ g w b = g (fw m) (8 * a + b)) h4⟩
theorem scr_87 {A : Nat → List Int32} (h : v_scr (v_scs A)) {F : List Int32} (h1 : F.length = 64) : v_scr (v_scs (up A 87 F)) := by
  obtain ⟨k1, k2, k3, k4, k5, k6, k7, k8, -, k10, k11, k12, k13, k14, k15, k16, k17⟩ := scr_get h
  exact scr_mk ⟨k1, k2, k3, k4, k5, k6, k7, k8, h1, k10, k11, k12, k13, k14, k15, k16, k17⟩
theorem ups16 {A B : Nat → List Int32} (h : ∀ j, ¬ ((3 ≤ j ∧ j < 11) ∨ (12 ≤ j ∧ j < 20)) → B j = A j) : B = (up (up (up (up (up (up (up (up (up (up (up (up (up (up (up (up A 3 (B 3)) 4 (B 4)) 5 (B 5)) 6 (B 6)) 7 (B 7)) 8 (B 8)) 9 (B 9)) 10 (B 10)) 12 (B 12)) 13 (B 13)) 14 (B 14)) 15 (B 15)) 16 (B 16)) 17 (B 17)) 18 (B 18)) 19 (B 19)) := by
  funext j
  by_cases hj : (3 ≤ j ∧ j < 11) ∨ (12 ≤ j ∧ j < 20)
  · have : j = 3 ∨ j = 4 ∨ j = 5 ∨ j = 6 ∨ j = 7 ∨ j = 8 ∨ j = 9 ∨ j = 10 ∨ j = 12 ∨ j = 13 ∨ j = 14 ∨ j = 15 ∨ j = 16 ∨ j = 17 ∨ j = 18 ∨ j = 19 := by omega
    rcases this with rfl | rfl | rfl | rfl | rfl | rfl | rfl | rfl | rfl | rfl | rfl | rfl | rfl | rfl | rfl | rfl <;> rfl
  · rw [up_ne _ _ (by omega), up_ne _ _ (by omega), up_ne _ _ (by omega), up_ne _ _ (by omega), up_ne _ _ (by omega), up_ne _ _ (by omega), up_ne _ _ (by omega), up_ne _ _ (by omega), up_ne _ _ (by omega), up_ne _ _ (by omega), up_ne _ _ (by omega), up_ne _ _ (by omega), up_ne _ _ (by omega), up_ne _ _ (by omega), up_ne _ _ (by omega), up_ne _ _ (by omega)]
    exact h j hj

theorem op_far (xs : List Int32) {n : Nat} {A : Nat → List Int32} {I : Nat → Int32} {x : am_X} (h : Iv0 n A I x) (a1 : Int32) (a2 : Int32) : am_op xs n ix_X11_far ix_X12_far [.int a1, .int a2] A I x := by
  obtain ⟨⟨P, N, T, R, E, C, X, Z, hI⟩, hx⟩ := h
  obtain ⟨hnb, hdg, hrow⟩ := rod_get hI.2.2.2.2.2.2.2.2.2.1
  have h87 := (scr_get hI.2.2.2.2.2.2.2.2.2.2.2.2).2.2.2.2.2.2.2.2.1
  obtain ⟨F, hF⟩ : ∃ F, F = fw (A 86) := ⟨_, rfl⟩
  have hff : f_X12_findFar A I = some F := by rw [hF]; exact findFar_1 hnb.1 h87
  have hfl : F.length = 64 := by rw [hF, fw_len]; exact hnb.1
  have q9 := scr_87 hI.2.2.2.2.2.2.2.2.2.2.2.2 hfl
  rcases wi_l 7 (by decide) a1 with w | ⟨a, ha, rfl, w⟩
  · skip
    have e1 : f_X11_far A I a1 a2 = some (-2) := by
      simp (disch := first | omega | decide | assumption | (simp [up_app]; assumption)) [-Int32.xor_neg_one, -Int32.ofNat_add, -Int32.ofNat_mul, -Int32.ofNat_sub, i_lel, i_ler, i_ltl, i_ltr, i_eql, i_eqr, i_le, i_lt, i_eq, i_addl, i_addr, i_add, i_mull, i_mulr, i_mul, i_subr, i_sub, am_at_g, am_at_gl, am_up_g, am_up_gl, up_app, in_X, i_sub1, f_X11_far, f_X11_isLand, w]
    have e2 : f_X12_far A I a1 a2 = some (-2, (A 87)) := by
      simp (disch := first | omega | decide | assumption | (simp [up_app]; assumption)) [-Int32.xor_neg_one, -Int32.ofNat_add, -Int32.ofNat_mul, -Int32.ofNat_sub, i_lel, i_ler, i_ltl, i_ltr, i_eql, i_eqr, i_le, i_lt, i_eq, i_addl, i_addr, i_add, i_mull, i_mulr, i_mul, i_subr, i_sub, am_at_g, am_at_gl, am_up_g, am_up_gl, up_app, in_X, i_sub1, f_X12_far, f_X12_isLand, w]
    have c1 := t_X11_far (xs := xs) A I x a1 a2 e1
    have c2 := t_X12_far (xs := xs) A I x a1 a2 e2
    exact am_op.mk hx c1 (by decide) c2 (by decide) ⟨P, N, T, R, E, C, X, Z, ⟨hI.1, hI.2.1, hI.2.2.1, hI.2.2.2.1, hI.2.2.2.2.1, hI.2.2.2.2.2.1, hI.2.2.2.2.2.2.1, hI.2.2.2.2.2.2.2.1, hI.2.2.2.2.2.2.2.2.1, hI.2.2.2.2.2.2.2.2.2.1, hI.2.2.2.2.2.2.2.2.2.2.1, hI.2.2.2.2.2.2.2.2.2.2.2.1, hI.2.2.2.2.2.2.2.2.2.2.2.2⟩⟩
  · rcases wi_l 7 (by decide) a2 with w2 | ⟨b, hb, rfl, w2⟩
    · skip
      have e1 : f_X11_far A I (Int32.ofNat a) a2 = some (-2) := by
        simp (disch := first | omega | decide | assumption | (simp [up_app]; assumption)) [-Int32.xor_neg_one, -Int32.ofNat_add, -Int32.ofNat_mul, -Int32.ofNat_sub, i_lel, i_ler, i_ltl, i_ltr, i_eql, i_eqr, i_le, i_lt, i_eq, i_addl, i_addr, i_add, i_mull, i_mulr, i_mul, i_subr, i_sub, am_at_g, am_at_gl, am_up_g, am_up_gl, up_app, in_X, i_sub1, f_X11_far, f_X11_isLand, w, w2]
      have e2 : f_X12_far A I (Int32.ofNat a) a2 = some (-2, (A 87)) := by
        simp (disch := first | omega | decide | assumption | (simp [up_app]; assumption)) [-Int32.xor_neg_one, -Int32.ofNat_add, -Int32.ofNat_mul, -Int32.ofNat_sub, i_lel, i_ler, i_ltl, i_ltr, i_eql, i_eqr, i_le, i_lt, i_eq, i_addl, i_addr, i_add, i_mull, i_mulr, i_mul, i_subr, i_sub, am_at_g, am_at_gl, am_up_g, am_up_gl, up_app, in_X, i_sub1, f_X12_far, f_X12_isLand, w, w2]
      have c1 := t_X11_far (xs := xs) A I x (Int32.ofNat a) a2 e1
      have c2 := t_X12_far (xs := xs) A I x (Int32.ofNat a) a2 e2
      exact am_op.mk hx c1 (by decide) c2 (by decide) ⟨P, N, T, R, E, C, X, Z, ⟨hI.1, hI.2.1, hI.2.2.1, hI.2.2.2.1, hI.2.2.2.2.1, hI.2.2.2.2.2.1, hI.2.2.2.2.2.2.1, hI.2.2.2.2.2.2.2.1, hI.2.2.2.2.2.2.2.2.1, hI.2.2.2.2.2.2.2.2.2.1, hI.2.2.2.2.2.2.2.2.2.2.1, hI.2.2.2.2.2.2.2.2.2.2.2.1, hI.2.2.2.2.2.2.2.2.2.2.2.2⟩⟩
    · obtain ⟨r1, r2, r3⟩ := hrow a (by omega)
      have x1 := am_row_g 12 (show a < 8 by omega)
      have x2 : am_at (A (12 + a)) (Int32.ofNat b) = some (g F (8 * a + b)) := by rw [hF, ← (r3 b (by omega)).2]; exact am_at_g (by omega) (by omega)
      have x3 : am_at F (Int32.ofNat (8 * a + b)) = some (g F (8 * a + b)) := am_at_g (by omega) (by omega)
      have e1 : f_X11_far A I (Int32.ofNat a) (Int32.ofNat b) = some (g F (8 * a + b)) := by
        unfold f_X11_far f_X11_isLand
        rw [w, Option.bind_some, Option.bind_some, if_neg (show ¬ (1 : Int32) = 0 by decide), w2, Option.bind_some, Option.bind_some, if_neg (show ¬ (1 : Int32) = 0 by decide), x1, Option.bind_some, x2]
        rfl
      have e2 : f_X12_far A I (Int32.ofNat a) (Int32.ofNat b) = some (g F (8 * a + b), F) := by
        unfold f_X12_far f_X12_isLand
        rw [in_X, w, Option.bind_some, Option.bind_some, if_neg (show ¬ (1 : Int32) = 0 by decide), in_X, w2, Option.bind_some, Option.bind_some, if_neg (show ¬ (1 : Int32) = 0 by decide), hff, Option.bind_some, i8, x3]
        rfl
      have c1 := t_X11_far (xs := xs) A I x (Int32.ofNat a) (Int32.ofNat b) e1
      have c2 := t_X12_far (xs := xs) A I x (Int32.ofNat a) (Int32.ofNat b) e2
      exact am_op.mk hx c1 (by decide) c2 (by decide) ⟨P, N, T, R, E, C, X, Z, ⟨hI.1, hI.2.1, hI.2.2.1, hI.2.2.2.1, hI.2.2.2.2.1, hI.2.2.2.2.2.1, hI.2.2.2.2.2.2.1, hI.2.2.2.2.2.2.2.1, hI.2.2.2.2.2.2.2.2.1, hI.2.2.2.2.2.2.2.2.2.1, hI.2.2.2.2.2.2.2.2.2.2.1, hI.2.2.2.2.2.2.2.2.2.2.2.1, q9⟩⟩

theorem kn_1 {P N k l : Nat} {A : Nat → List Int32} {I : Nat → Int32} (hP : hPpl P A I) (hA : hAct N A I) (hR : hRod A) {F : List Int32} (hF : F = fw (A 86)) (hk : k < 24) (hl : l < 8) : ∃ v, f_X1_knownFrom A I (Int32.ofNat k) (Int32.ofNat l) = some v ∧ f_X12_knownIn (up A 87 F) I (Int32.ofNat k) (Int32.ofNat l) = some v ∧ (v = -1 ∨ ∃ d, d < 20000 ∧ v = Int32.ofNat d) := by
  obtain ⟨hnb, hdg, hrow⟩ := rod_get hR
  obtain ⟨l1, l2, y, hy, ey⟩ := lnd_1 hP hA hk
  obtain ⟨⟨a1, a2, a3, a4, a5, a6⟩, ⟨b1, b2, b3, b4, b5, b6, b7, b8⟩, c1, c2, c3, ho⟩ := hA
  obtain ⟨-, ⟨p, hp, ep⟩, -, -, -, -, -, d, hd, ed, -⟩ := ho k hk
  obtain ⟨r1, r2, r3⟩ := hrow y hy
  have hfl : F.length = 64 := by rw [hF, fw_len]; exact hnb.1
  obtain ⟨f, hf, ef⟩ := (nb_fw hnb).2 (8 * y + l) (by omega)
  rw [← hF] at ef
  have q1 : am_at (A (12 + y)) (Int32.ofNat l) = some (Int32.ofNat f) := by rw [← ef, hF, ← (r3 l hl).2]; exact am_at_g (by omega) (by omega)
  have q2 : am_at (A 33) (Int32.ofNat k) = some (Int32.ofNat d) := by rw [a4, ← ed]; exact am_at_g (by omega) (by omega)
  have q3 : am_at (up A 87 F 95) (Int32.ofNat k) = some (Int32.ofNat p) := by
    show am_at (A 95) _ = _
    rw [← ep]; exact am_at_g (by omega) (by omega)
  have q4 : am_at (up A 87 F 88) (Int32.ofNat p) = some (Int32.ofNat y) := by
    have q : am_at (A 95) (Int32.ofNat k) = some (Int32.ofNat p) := q3
    rw [q, Option.bind_some, ey] at l2
    exact l2
  have q5 : am_at (up A 87 F 87) (Int32.ofNat (8 * y + l)) = some (Int32.ofNat f) := by
    show am_at F _ = _
    rw [← ef]; exact am_at_g (by omega) (by omega)
  have q6 : am_at (up A 87 F 97) (Int32.ofNat k) = some (Int32.ofNat d) := by
    show am_at (A 97) _ = _
    rw [← ed]; exact am_at_g (by omega) (by omega)
  have e1 : f_X1_knownFrom A I (Int32.ofNat k) (Int32.ofNat l) = if Int32.ofNat f = 999 then some (-1) else some (Int32.ofNat d + Int32.ofNat f) := by
    unfold f_X1_knownFrom
    rw [l1, Option.bind_some, ey, am_row_g 12 hy, Option.bind_some, q1, Option.bind_some, q2, Option.bind_some]
  have e2 : f_X12_knownIn (up A 87 F) I (Int32.ofNat k) (Int32.ofNat l) = if Int32.ofNat f < 999 then some (Int32.ofNat d + Int32.ofNat f) else some (-1) := by
    unfold f_X12_knownIn
    rw [q3, Option.bind_some, q4, Option.bind_some, i8, q5, Option.bind_some, q6, Option.bind_some]
  rw [e1, e2]
  by_cases h : f = 999
  · subst h
    exact ⟨-1, if_pos rfl, if_neg (by decide), Or.inl rfl⟩
  · have h1 : ¬ Int32.ofNat f = 999 := fun q => h ((i_eqr (by omega) (by decide)).mp q)
    have h2 : Int32.ofNat f < 999 := (i_lt (n := 999) (by omega) (by decide)).mpr (by omega)
    exact ⟨Int32.ofNat (d + f), by rw [if_neg h1, i_add], by rw [if_pos h2, i_add], Or.inr ⟨d + f, by omega, rfl⟩⟩
theorem knew_1 {P N k o : Nat} {A : Nat → List Int32} {I : Nat → Int32} (hP : hPpl P A I) (hA : hAct N A I) (hR : hRod A) {F : List Int32} (hF : F = fw (A 86)) (hk : k < 24) (ho' : o < 24) : ∃ b : Bool, f_X1_knewOf A I (Int32.ofNat k) (Int32.ofNat o) = some (if b then 1 else 0) ∧ f_X12_knew (up A 87 F) I (Int32.ofNat o) (Int32.ofNat k) = some (if b then 1 else 0) := by
  obtain ⟨l1, l2, y, hy, ey⟩ := lnd_1 hP hA hk
  obtain ⟨v, e1, e2, hv⟩ := kn_1 hP hA hR hF ho' hy
  obtain ⟨⟨a1, a2, a3, a4, a5, a6⟩, ⟨b1, b2, b3, b4, b5, b6, b7, b8⟩, c1, c2, c3, ho⟩ := hA
  obtain ⟨-, ⟨p, hp, ep⟩, -, -, -, -, -, d, hd, ed, -⟩ := ho k hk
  have q2 : am_at (A 33) (Int32.ofNat k) = some (Int32.ofNat d) := by rw [a4, ← ed]; exact am_at_g (by omega) (by omega)
  have q3 : am_at (up A 87 F 95) (Int32.ofNat k) = some (Int32.ofNat p) := by
    show am_at (A 95) _ = _
    rw [← ep]; exact am_at_g (by omega) (by omega)
  have q4 : am_at (up A 87 F 88) (Int32.ofNat p) = some (Int32.ofNat y) := by
    have q : am_at (A 95) (Int32.ofNat k) = some (Int32.ofNat p) := q3
    rw [q, Option.bind_some, ey] at l2
    exact l2
  have q6 : am_at (up A 87 F 97) (Int32.ofNat k) = some (Int32.ofNat d) := by
    show am_at (A 97) _ = _
    rw [← ed]; exact am_at_g (by omega) (by omega)
  unfold f_X1_knewOf f_X12_knew
  rw [l1, Option.bind_some, ey, e1, Option.bind_some, q2, Option.bind_some, q3, Option.bind_some, q4, Option.bind_some, e2, Option.bind_some, q6, Option.bind_some]
  rcases hv with rfl | ⟨z, hz, rfl⟩
  · exact ⟨false, rfl, rfl⟩
  · rw [if_neg (i_nm1 (show z < 2147483648 by omega)), if_neg (i_nn (show z < 2147483648 by omega))]
    by_cases h : d < z
    · exact ⟨false, by rw [if_pos ((i_lt (by omega) (by omega)).mpr h)]; rfl, by rw [if_pos ((i_lt (by omega) (by omega)).mpr h)]; rfl⟩
    · exact ⟨true, by rw [if_neg (fun q => h ((i_lt (by omega) (by omega)).mp q))]; rfl, by rw [if_neg (fun q => h ((i_lt (by omega) (by omega)).mp q))]; rfl⟩
theorem op_known (xs : List Int32) {n : Nat} {A : Nat → List Int32} {I : Nat → Int32} {x : am_X} (h : Iv0 n A I x) (a1 : Int32) (a2 : Int32) : am_op xs n ix_X11_known ix_X12_known [.int a1, .int a2] A I x := by
  obtain ⟨⟨P, N, T, R, E, C, X, Z, hI⟩, hx⟩ := h
  obtain ⟨hnb, hdg, hrow⟩ := rod_get hI.2.2.2.2.2.2.2.2.2.1
  have h87 := (scr_get hI.2.2.2.2.2.2.2.2.2.2.2.2).2.2.2.2.2.2.2.2.1
  obtain ⟨F, hF⟩ : ∃ F, F = fw (A 86) := ⟨_, rfl⟩
  have hff : f_X12_findFar A I = some F := by rw [hF]; exact findFar_1 hnb.1 h87
  have hfl : F.length = 64 := by rw [hF, fw_len]; exact hnb.1
  have q9 := scr_87 hI.2.2.2.2.2.2.2.2.2.2.2.2 hfl
  have hA := hI.2.2.2.1
  have hN : N ≤ 24 := hA.2.2.1
  rcases c_Act N (by omega) a1 with ⟨w, v⟩ | ⟨k, hk, rfl, w, v⟩
  · have w := w A I hA.2.2.2.1
    have v := v A I hA.2.2.2.2.1
    have e1 : f_X11_known A I a1 a2 = some (-2) := by
      simp (disch := first | omega | decide | assumption | (simp [up_app]; assumption)) [-Int32.xor_neg_one, -Int32.ofNat_add, -Int32.ofNat_mul, -Int32.ofNat_sub, i_lel, i_ler, i_ltl, i_ltr, i_eql, i_eqr, i_le, i_lt, i_eq, i_addl, i_addr, i_add, i_mull, i_mulr, i_mul, i_subr, i_sub, am_at_g, am_at_gl, am_up_g, am_up_gl, up_app, in_X, i_sub1, f_X11_known, w]
    have e2 : f_X12_known A I a1 a2 = some (-2, (A 87)) := by
      simp (disch := first | omega | decide | assumption | (simp [up_app]; assumption)) [-Int32.xor_neg_one, -Int32.ofNat_add, -Int32.ofNat_mul, -Int32.ofNat_sub, i_lel, i_ler, i_ltl, i_ltr, i_eql, i_eqr, i_le, i_lt, i_eq, i_addl, i_addr, i_add, i_mull, i_mulr, i_mul, i_subr, i_sub, am_at_g, am_at_gl, am_up_g, am_up_gl, up_app, in_X, i_sub1, f_X12_known, v]
    have c1 := t_X11_known (xs := xs) A I x a1 a2 e1
    have c2 := t_X12_known (xs := xs) A I x a1 a2 e2
    exact am_op.mk hx c1 (by decide) c2 (by decide) ⟨P, N, T, R, E, C, X, Z, ⟨hI.1, hI.2.1, hI.2.2.1, hI.2.2.2.1, hI.2.2.2.2.1, hI.2.2.2.2.2.1, hI.2.2.2.2.2.2.1, hI.2.2.2.2.2.2.2.1, hI.2.2.2.2.2.2.2.2.1, hI.2.2.2.2.2.2.2.2.2.1, hI.2.2.2.2.2.2.2.2.2.2.1, hI.2.2.2.2.2.2.2.2.2.2.2.1, hI.2.2.2.2.2.2.2.2.2.2.2.2⟩⟩
  · have w := w A I hA.2.2.2.1
    have v := v A I hA.2.2.2.2.1
    rcases wi_l 7 (by decide) a2 with w2 | ⟨l, hl, rfl, w2⟩
    · skip
      have e1 : f_X11_known A I (Int32.ofNat k) a2 = some (-2) := by
        simp (disch := first | omega | decide | assumption | (simp [up_app]; assumption)) [-Int32.xor_neg_one, -Int32.ofNat_add, -Int32.ofNat_mul, -Int32.ofNat_sub, i_lel, i_ler, i_ltl, i_ltr, i_eql, i_eqr, i_le, i_lt, i_eq, i_addl, i_addr, i_add, i_mull, i_mulr, i_mul, i_subr, i_sub, am_at_g, am_at_gl, am_up_g, am_up_gl, up_app, in_X, i_sub1, f_X11_known, f_X11_isLand, w, w2]
      have e2 : f_X12_known A I (Int32.ofNat k) a2 = some (-2, (A 87)) := by
        simp (disch := first | omega | decide | assumption | (simp [up_app]; assumption)) [-Int32.xor_neg_one, -Int32.ofNat_add, -Int32.ofNat_mul, -Int32.ofNat_sub, i_lel, i_ler, i_ltl, i_ltr, i_eql, i_eqr, i_le, i_lt, i_eq, i_addl, i_addr, i_add, i_mull, i_mulr, i_mul, i_subr, i_sub, am_at_g, am_at_gl, am_up_g, am_up_gl, up_app, in_X, i_sub1, f_X12_known, f_X12_isLand, v, w2]
      have c1 := t_X11_known (xs := xs) A I x (Int32.ofNat k) a2 e1
      have c2 := t_X12_known (xs := xs) A I x (Int32.ofNat k) a2 e2
      exact am_op.mk hx c1 (by decide) c2 (by decide) ⟨P, N, T, R, E, C, X, Z, ⟨hI.1, hI.2.1, hI.2.2.1, hI.2.2.2.1, hI.2.2.2.2.1, hI.2.2.2.2.2.1, hI.2.2.2.2.2.2.1, hI.2.2.2.2.2.2.2.1, hI.2.2.2.2.2.2.2.2.1, hI.2.2.2.2.2.2.2.2.2.1, hI.2.2.2.2.2.2.2.2.2.2.1, hI.2.2.2.2.2.2.2.2.2.2.2.1, hI.2.2.2.2.2.2.2.2.2.2.2.2⟩⟩
    · obtain ⟨z, y1, y2, -⟩ := kn_1 hI.1 hA hI.2.2.2.2.2.2.2.2.2.1 hF (show k < 24 by omega) (show l < 8 by omega)
      have e1 : f_X11_known A I (Int32.ofNat k) (Int32.ofNat l) = some (z) := by
        simp (disch := first | omega | decide | assumption | (simp [up_app]; assumption)) [-Int32.xor_neg_one, -Int32.ofNat_add, -Int32.ofNat_mul, -Int32.ofNat_sub, i_lel, i_ler, i_ltl, i_ltr, i_eql, i_eqr, i_le, i_lt, i_eq, i_addl, i_addr, i_add, i_mull, i_mulr, i_mul, i_subr, i_sub, am_at_g, am_at_gl, am_up_g, am_up_gl, up_app, in_X, i_sub1, f_X11_known, f_X11_isLand, w, w2, y1]
      have e2 : f_X12_known A I (Int32.ofNat k) (Int32.ofNat l) = some (z, F) := by
        simp (disch := first | omega | decide | assumption | (simp [up_app]; assumption)) [-Int32.xor_neg_one, -Int32.ofNat_add, -Int32.ofNat_mul, -Int32.ofNat_sub, i_lel, i_ler, i_ltl, i_ltr, i_eql, i_eqr, i_le, i_lt, i_eq, i_addl, i_addr, i_add, i_mull, i_mulr, i_mul, i_subr, i_sub, am_at_g, am_at_gl, am_up_g, am_up_gl, up_app, in_X, i_sub1, f_X12_known, f_X12_isLand, v, w2, hff, y2]
      have c1 := t_X11_known (xs := xs) A I x (Int32.ofNat k) (Int32.ofNat l) e1
      have c2 := t_X12_known (xs := xs) A I x (Int32.ofNat k) (Int32.ofNat l) e2
      exact am_op.mk hx c1 (by decide) c2 (by decide) ⟨P, N, T, R, E, C, X, Z, ⟨hI.1, hI.2.1, hI.2.2.1, hI.2.2.2.1, hI.2.2.2.2.1, hI.2.2.2.2.2.1, hI.2.2.2.2.2.2.1, hI.2.2.2.2.2.2.2.1, hI.2.2.2.2.2.2.2.2.1, hI.2.2.2.2.2.2.2.2.2.1, hI.2.2.2.2.2.2.2.2.2.2.1, hI.2.2.2.2.2.2.2.2.2.2.2.1, q9⟩⟩

theorem op_crossed (xs : List Int32) {n : Nat} {A : Nat → List Int32} {I : Nat → Int32} {x : am_X} (h : Iv0 n A I x) (a1 : Int32) (a2 : Int32) : am_op xs n ix_X11_crossed ix_X12_crossed [.int a1, .int a2] A I x := by
  obtain ⟨⟨P, N, T, R, E, C, X, Z, hI⟩, hx⟩ := h
  obtain ⟨hnb, hdg, hrow⟩ := rod_get hI.2.2.2.2.2.2.2.2.2.1
  have h87 := (scr_get hI.2.2.2.2.2.2.2.2.2.2.2.2).2.2.2.2.2.2.2.2.1
  obtain ⟨F, hF⟩ : ∃ F, F = fw (A 86) := ⟨_, rfl⟩
  have hff : f_X12_findFar A I = some F := by rw [hF]; exact findFar_1 hnb.1 h87
  have hfl : F.length = 64 := by rw [hF, fw_len]; exact hnb.1
  have q9 := scr_87 hI.2.2.2.2.2.2.2.2.2.2.2.2 hfl
  have hA := hI.2.2.2.1
  have hN : N ≤ 24 := hA.2.2.1
  rcases c_Act N (by omega) a1 with ⟨w, v⟩ | ⟨k, hk, rfl, w, v⟩
  · have w := w A I hA.2.2.2.1
    have v := v A I hA.2.2.2.2.1
    have e1 : f_X11_crossed A I a1 a2 = some (-2) := by
      simp (disch := first | omega | decide | assumption | (simp [up_app]; assumption)) [-Int32.xor_neg_one, -Int32.ofNat_add, -Int32.ofNat_mul, -Int32.ofNat_sub, i_lel, i_ler, i_ltl, i_ltr, i_eql, i_eqr, i_le, i_lt, i_eq, i_addl, i_addr, i_add, i_mull, i_mulr, i_mul, i_subr, i_sub, am_at_g, am_at_gl, am_up_g, am_up_gl, up_app, in_X, i_sub1, f_X11_crossed, w]
    have e2 : f_X12_crossed A I a1 a2 = some (-2, (A 87)) := by
      simp (disch := first | omega | decide | assumption | (simp [up_app]; assumption)) [-Int32.xor_neg_one, -Int32.ofNat_add, -Int32.ofNat_mul, -Int32.ofNat_sub, i_lel, i_ler, i_ltl, i_ltr, i_eql, i_eqr, i_le, i_lt, i_eq, i_addl, i_addr, i_add, i_mull, i_mulr, i_mul, i_subr, i_sub, am_at_g, am_at_gl, am_up_g, am_up_gl, up_app, in_X, i_sub1, f_X12_crossed, v]
    have c1 := t_X11_crossed (xs := xs) A I x a1 a2 e1
    have c2 := t_X12_crossed (xs := xs) A I x a1 a2 e2
    exact am_op.mk hx c1 (by decide) c2 (by decide) ⟨P, N, T, R, E, C, X, Z, ⟨hI.1, hI.2.1, hI.2.2.1, hI.2.2.2.1, hI.2.2.2.2.1, hI.2.2.2.2.2.1, hI.2.2.2.2.2.2.1, hI.2.2.2.2.2.2.2.1, hI.2.2.2.2.2.2.2.2.1, hI.2.2.2.2.2.2.2.2.2.1, hI.2.2.2.2.2.2.2.2.2.2.1, hI.2.2.2.2.2.2.2.2.2.2.2.1, hI.2.2.2.2.2.2.2.2.2.2.2.2⟩⟩
  · have w := w A I hA.2.2.2.1
    have v := v A I hA.2.2.2.2.1
    rcases c_Act N (by omega) a2 with ⟨w2, v2⟩ | ⟨o, ho, rfl, w2, v2⟩
    · have w2 := w2 A I hA.2.2.2.1
      have v2 := v2 A I hA.2.2.2.2.1
      have e1 : f_X11_crossed A I (Int32.ofNat k) a2 = some (-2) := by
        simp (disch := first | omega | decide | assumption | (simp [up_app]; assumption)) [-Int32.xor_neg_one, -Int32.ofNat_add, -Int32.ofNat_mul, -Int32.ofNat_sub, i_lel, i_ler, i_ltl, i_ltr, i_eql, i_eqr, i_le, i_lt, i_eq, i_addl, i_addr, i_add, i_mull, i_mulr, i_mul, i_subr, i_sub, am_at_g, am_at_gl, am_up_g, am_up_gl, up_app, in_X, i_sub1, f_X11_crossed, w, w2]
      have e2 : f_X12_crossed A I (Int32.ofNat k) a2 = some (-2, (A 87)) := by
        simp (disch := first | omega | decide | assumption | (simp [up_app]; assumption)) [-Int32.xor_neg_one, -Int32.ofNat_add, -Int32.ofNat_mul, -Int32.ofNat_sub, i_lel, i_ler, i_ltl, i_ltr, i_eql, i_eqr, i_le, i_lt, i_eq, i_addl, i_addr, i_add, i_mull, i_mulr, i_mul, i_subr, i_sub, am_at_g, am_at_gl, am_up_g, am_up_gl, up_app, in_X, i_sub1, f_X12_crossed, v, v2]
      have c1 := t_X11_crossed (xs := xs) A I x (Int32.ofNat k) a2 e1
      have c2 := t_X12_crossed (xs := xs) A I x (Int32.ofNat k) a2 e2
      exact am_op.mk hx c1 (by decide) c2 (by decide) ⟨P, N, T, R, E, C, X, Z, ⟨hI.1, hI.2.1, hI.2.2.1, hI.2.2.2.1, hI.2.2.2.2.1, hI.2.2.2.2.2.1, hI.2.2.2.2.2.2.1, hI.2.2.2.2.2.2.2.1, hI.2.2.2.2.2.2.2.2.1, hI.2.2.2.2.2.2.2.2.2.1, hI.2.2.2.2.2.2.2.2.2.2.1, hI.2.2.2.2.2.2.2.2.2.2.2.1, hI.2.2.2.2.2.2.2.2.2.2.2.2⟩⟩
    · have w2 := w2 A I hA.2.2.2.1
      have v2 := v2 A I hA.2.2.2.2.1
      by_cases e : k = o
      · have e := eq_true e
        have e1 : f_X11_crossed A I (Int32.ofNat k) (Int32.ofNat o) = some (-2) := by
          simp (disch := first | omega | decide | assumption | (simp [up_app]; assumption)) [-Int32.xor_neg_one, -Int32.ofNat_add, -Int32.ofNat_mul, -Int32.ofNat_sub, i_lel, i_ler, i_ltl, i_ltr, i_eql, i_eqr, i_le, i_lt, i_eq, i_addl, i_addr, i_add, i_mull, i_mulr, i_mul, i_subr, i_sub, am_at_g, am_at_gl, am_up_g, am_up_gl, up_app, in_X, i_sub1, f_X11_crossed, w, w2, e]
        have e2 : f_X12_crossed A I (Int32.ofNat k) (Int32.ofNat o) = some (-2, (A 87)) := by
          simp (disch := first | omega | decide | assumption | (simp [up_app]; assumption)) [-Int32.xor_neg_one, -Int32.ofNat_add, -Int32.ofNat_mul, -Int32.ofNat_sub, i_lel, i_ler, i_ltl, i_ltr, i_eql, i_eqr, i_le, i_lt, i_eq, i_addl, i_addr, i_add, i_mull, i_mulr, i_mul, i_subr, i_sub, am_at_g, am_at_gl, am_up_g, am_up_gl, up_app, in_X, i_sub1, f_X12_crossed, v, v2, e]
        have c1 := t_X11_crossed (xs := xs) A I x (Int32.ofNat k) (Int32.ofNat o) e1
        have c2 := t_X12_crossed (xs := xs) A I x (Int32.ofNat k) (Int32.ofNat o) e2
        exact am_op.mk hx c1 (by decide) c2 (by decide) ⟨P, N, T, R, E, C, X, Z, ⟨hI.1, hI.2.1, hI.2.2.1, hI.2.2.2.1, hI.2.2.2.2.1, hI.2.2.2.2.2.1, hI.2.2.2.2.2.2.1, hI.2.2.2.2.2.2.2.1, hI.2.2.2.2.2.2.2.2.1, hI.2.2.2.2.2.2.2.2.2.1, hI.2.2.2.2.2.2.2.2.2.2.1, hI.2.2.2.2.2.2.2.2.2.2.2.1, hI.2.2.2.2.2.2.2.2.2.2.2.2⟩⟩
      · have e := eq_false e
        obtain ⟨p, y1, y2⟩ := knew_1 hI.1 hA hI.2.2.2.2.2.2.2.2.2.1 hF (show k < 24 by omega) (show o < 24 by omega)
        obtain ⟨q, y3, y4⟩ := knew_1 hI.1 hA hI.2.2.2.2.2.2.2.2.2.1 hF (show o < 24 by omega) (show k < 24 by omega)
        cases p with
        | false =>
          rw [if_neg (by decide)] at y1 y2
          cases q with
          | false =>
            rw [if_neg (by decide)] at y3 y4
            have e1 : f_X11_crossed A I (Int32.ofNat k) (Int32.ofNat o) = some (1) := by
              simp (disch := first | omega | decide | assumption | (simp [up_app]; assumption)) [-Int32.xor_neg_one, -Int32.ofNat_add, -Int32.ofNat_mul, -Int32.ofNat_sub, i_lel, i_ler, i_ltl, i_ltr, i_eql, i_eqr, i_le, i_lt, i_eq, i_addl, i_addr, i_add, i_mull, i_mulr, i_mul, i_subr, i_sub, am_at_g, am_at_gl, am_up_g, am_up_gl, up_app, in_X, i_sub1, f_X11_crossed, w, w2, e, y1, y3]
            have e2 : f_X12_crossed A I (Int32.ofNat k) (Int32.ofNat o) = some (1, F) := by
              simp (disch := first | omega | decide | assumption | (simp [up_app]; assumption)) [-Int32.xor_neg_one, -Int32.ofNat_add, -Int32.ofNat_mul, -Int32.ofNat_sub, i_lel, i_ler, i_ltl, i_ltr, i_eql, i_eqr, i_le, i_lt, i_eq, i_addl, i_addr, i_add, i_mull, i_mulr, i_mul, i_subr, i_sub, am_at_g, am_at_gl, am_up_g, am_up_gl, up_app, in_X, i_sub1, f_X12_crossed, v, v2, e, hff, y2, y4]
            have c1 := t_X11_crossed (xs := xs) A I x (Int32.ofNat k) (Int32.ofNat o) e1
            have c2 := t_X12_crossed (xs := xs) A I x (Int32.ofNat k) (Int32.ofNat o) e2
            exact am_op.mk hx c1 (by decide) c2 (by decide) ⟨P, N, T, R, E, C, X, Z, ⟨hI.1, hI.2.1, hI.2.2.1, hI.2.2.2.1, hI.2.2.2.2.1, hI.2.2.2.2.2.1, hI.2.2.2.2.2.2.1, hI.2.2.2.2.2.2.2.1, hI.2.2.2.2.2.2.2.2.1, hI.2.2.2.2.2.2.2.2.2.1, hI.2.2.2.2.2.2.2.2.2.2.1, hI.2.2.2.2.2.2.2.2.2.2.2.1, q9⟩⟩
          | true =>
            rw [if_pos rfl] at y3 y4
            have e1 : f_X11_crossed A I (Int32.ofNat k) (Int32.ofNat o) = some (0) := by
              simp (disch := first | omega | decide | assumption | (simp [up_app]; assumption)) [-Int32.xor_neg_one, -Int32.ofNat_add, -Int32.ofNat_mul, -Int32.ofNat_sub, i_lel, i_ler, i_ltl, i_ltr, i_eql, i_eqr, i_le, i_lt, i_eq, i_addl, i_addr, i_add, i_mull, i_mulr, i_mul, i_subr, i_sub, am_at_g, am_at_gl, am_up_g, am_up_gl, up_app, in_X, i_sub1, f_X11_crossed, w, w2, e, y1, y3]
            have e2 : f_X12_crossed A I (Int32.ofNat k) (Int32.ofNat o) = some (0, F) := by
              simp (disch := first | omega | decide | assumption | (simp [up_app]; assumption)) [-Int32.xor_neg_one, -Int32.ofNat_add, -Int32.ofNat_mul, -Int32.ofNat_sub, i_lel, i_ler, i_ltl, i_ltr, i_eql, i_eqr, i_le, i_lt, i_eq, i_addl, i_addr, i_add, i_mull, i_mulr, i_mul, i_subr, i_sub, am_at_g, am_at_gl, am_up_g, am_up_gl, up_app, in_X, i_sub1, f_X12_crossed, v, v2, e, hff, y2, y4]
            have c1 := t_X11_crossed (xs := xs) A I x (Int32.ofNat k) (Int32.ofNat o) e1
            have c2 := t_X12_crossed (xs := xs) A I x (Int32.ofNat k) (Int32.ofNat o) e2
            exact am_op.mk hx c1 (by decide) c2 (by decide) ⟨P, N, T, R, E, C, X, Z, ⟨hI.1, hI.2.1, hI.2.2.1, hI.2.2.2.1, hI.2.2.2.2.1, hI.2.2.2.2.2.1, hI.2.2.2.2.2.2.1, hI.2.2.2.2.2.2.2.1, hI.2.2.2.2.2.2.2.2.1, hI.2.2.2.2.2.2.2.2.2.1, hI.2.2.2.2.2.2.2.2.2.2.1, hI.2.2.2.2.2.2.2.2.2.2.2.1, q9⟩⟩
        | true =>
          rw [if_pos rfl] at y1 y2
          cases q with
          | false =>
            rw [if_neg (by decide)] at y3 y4
            have e1 : f_X11_crossed A I (Int32.ofNat k) (Int32.ofNat o) = some (0) := by
              simp (disch := first | omega | decide | assumption | (simp [up_app]; assumption)) [-Int32.xor_neg_one, -Int32.ofNat_add, -Int32.ofNat_mul, -Int32.ofNat_sub, i_lel, i_ler, i_ltl, i_ltr, i_eql, i_eqr, i_le, i_lt, i_eq, i_addl, i_addr, i_add, i_mull, i_mulr, i_mul, i_subr, i_sub, am_at_g, am_at_gl, am_up_g, am_up_gl, up_app, in_X, i_sub1, f_X11_crossed, w, w2, e, y1, y3]
            have e2 : f_X12_crossed A I (Int32.ofNat k) (Int32.ofNat o) = some (0, F) := by
              simp (disch := first | omega | decide | assumption | (simp [up_app]; assumption)) [-Int32.xor_neg_one, -Int32.ofNat_add, -Int32.ofNat_mul, -Int32.ofNat_sub, i_lel, i_ler, i_ltl, i_ltr, i_eql, i_eqr, i_le, i_lt, i_eq, i_addl, i_addr, i_add, i_mull, i_mulr, i_mul, i_subr, i_sub, am_at_g, am_at_gl, am_up_g, am_up_gl, up_app, in_X, i_sub1, f_X12_crossed, v, v2, e, hff, y2, y4]
            have c1 := t_X11_crossed (xs := xs) A I x (Int32.ofNat k) (Int32.ofNat o) e1
            have c2 := t_X12_crossed (xs := xs) A I x (Int32.ofNat k) (Int32.ofNat o) e2
            exact am_op.mk hx c1 (by decide) c2 (by decide) ⟨P, N, T, R, E, C, X, Z, ⟨hI.1, hI.2.1, hI.2.2.1, hI.2.2.2.1, hI.2.2.2.2.1, hI.2.2.2.2.2.1, hI.2.2.2.2.2.2.1, hI.2.2.2.2.2.2.2.1, hI.2.2.2.2.2.2.2.2.1, hI.2.2.2.2.2.2.2.2.2.1, hI.2.2.2.2.2.2.2.2.2.2.1, hI.2.2.2.2.2.2.2.2.2.2.2.1, q9⟩⟩
          | true =>
            rw [if_pos rfl] at y3 y4
            have e1 : f_X11_crossed A I (Int32.ofNat k) (Int32.ofNat o) = some (0) := by
              simp (disch := first | omega | decide | assumption | (simp [up_app]; assumption)) [-Int32.xor_neg_one, -Int32.ofNat_add, -Int32.ofNat_mul, -Int32.ofNat_sub, i_lel, i_ler, i_ltl, i_ltr, i_eql, i_eqr, i_le, i_lt, i_eq, i_addl, i_addr, i_add, i_mull, i_mulr, i_mul, i_subr, i_sub, am_at_g, am_at_gl, am_up_g, am_up_gl, up_app, in_X, i_sub1, f_X11_crossed, w, w2, e, y1, y3]
            have e2 : f_X12_crossed A I (Int32.ofNat k) (Int32.ofNat o) = some (0, F) := by
              simp (disch := first | omega | decide | assumption | (simp [up_app]; assumption)) [-Int32.xor_neg_one, -Int32.ofNat_add, -Int32.ofNat_mul, -Int32.ofNat_sub, i_lel, i_ler, i_ltl, i_ltr, i_eql, i_eqr, i_le, i_lt, i_eq, i_addl, i_addr, i_add, i_mull, i_mulr, i_mul, i_subr, i_sub, am_at_g, am_at_gl, am_up_g, am_up_gl, up_app, in_X, i_sub1, f_X12_crossed, v, v2, e, hff, y2, y4]
            have c1 := t_X11_crossed (xs := xs) A I x (Int32.ofNat k) (Int32.ofNat o) e1
            have c2 := t_X12_crossed (xs := xs) A I x (Int32.ofNat k) (Int32.ofNat o) e2
            exact am_op.mk hx c1 (by decide) c2 (by decide) ⟨P, N, T, R, E, C, X, Z, ⟨hI.1, hI.2.1, hI.2.2.1, hI.2.2.2.1, hI.2.2.2.2.1, hI.2.2.2.2.2.1, hI.2.2.2.2.2.2.1, hI.2.2.2.2.2.2.2.1, hI.2.2.2.2.2.2.2.2.1, hI.2.2.2.2.2.2.2.2.2.1, hI.2.2.2.2.2.2.2.2.2.2.1, hI.2.2.2.2.2.2.2.2.2.2.2.1, q9⟩⟩

theorem lay_1 {A : Nat → List Int32} {I : Nat → Int32} {a b d : Nat} (hR : hRod A) (ha : a < 8) (hb : b < 8) (hab : ¬ a = b) (hd : d < 1000) : ∃ B, f_X6_lay A I (Int32.ofNat a) (Int32.ofNat b) (Int32.ofNat d) = some B ∧ (∀ j, ¬ ((3 ≤ j ∧ j < 11) ∨ (12 ≤ j ∧ j < 20)) → B j = A j) ∧ v_rod [B 3, B 4, B 5, B 6, B 7, B 8, B 9, B 10] [B 12, B 13, B 14, B 15, B 16, B 17, B 18, B 19] (((A 86).set (8 * a + b) (Int32.ofNat d)).set (8 * b + a) (Int32.ofNat d)) := by
  obtain ⟨hnb, hdg, hrow⟩ := rod_get hR
  have hl := hnb.1
  have hml : (((A 86).set (8 * a + b) (Int32.ofNat d)).set (8 * b + a) (Int32.ofNat d)).length = 64 := by rw [List.length_set, List.length_set]; exact hl
  have hg : ∀ k, g (((A 86).set (8 * a + b) (Int32.ofNat d)).set (8 * b + a) (Int32.ofNat d)) k = if k = 8 * b + a then (Int32.ofNat d) else if k = 8 * a + b then (Int32.ofNat d) else g (A 86) k := fun k => by
    rw [g_set (by rw [List.length_set]; omega), g_set (by omega)]
  have hnb' : nb (((A 86).set (8 * a + b) (Int32.ofNat d)).set (8 * b + a) (Int32.ofNat d)) := ⟨hml, fun k hk => by
    rw [hg]
    split
    · exact ⟨d, hd, rfl⟩
    · split
      · exact ⟨d, hd, rfl⟩
      · exact hnb.2 k hk⟩
  have hdg' : ∀ c, c < 8 → g (((A 86).set (8 * a + b) (Int32.ofNat d)).set (8 * b + a) (Int32.ofNat d)) (8 * c + c) = 0 := fun c hc => by
    rw [hg, if_neg (by omega), if_neg (by omega)]; exact hdg c hc
  have hA' : ∀ c, c < 8 → ((up (up A (3 + a) ((A (3 + a)).set b (Int32.ofNat d))) (3 + b) ((A (3 + b)).set a (Int32.ofNat d))) (3 + c)).length = 8 ∧ ∀ j, j < 8 → g ((up (up A (3 + a) ((A (3 + a)).set b (Int32.ofNat d))) (3 + b) ((A (3 + b)).set a (Int32.ofNat d))) (3 + c)) j = if c = j then 999 else g (((A 86).set (8 * a + b) (Int32.ofNat d)).set (8 * b + a) (Int32.ofNat d)) (8 * c + j) := fun c hc => by
    obtain ⟨r1, -, r3⟩ := hrow c hc
    by_cases e1 : c = b
    · subst e1
      rw [up_eq, List.length_set]
      refine ⟨r1, fun j hj => ?_⟩
      rw [g_set (by omega), hg]
      by_cases e2 : j = a
      · subst e2; rw [if_pos rfl, if_neg (fun q => hab q.symm), if_pos rfl]
      · rw [if_neg e2, if_neg (show ¬ 8 * c + j = 8 * c + a by omega), if_neg (show ¬ 8 * c + j = 8 * a + c by omega)]
        exact (r3 j hj).1
    · rw [up_ne _ _ (show ¬ 3 + c = 3 + b by omega)]
      by_cases e2 : c = a
      · subst e2
        rw [up_eq, List.length_set]
        refine ⟨r1, fun j hj => ?_⟩
        rw [g_set (by omega), hg]
        by_cases e3 : j = b
        · subst e3; rw [if_pos rfl, if_neg hab, if_neg (show ¬ 8 * c + j = 8 * j + c by omega), if_pos rfl]
        · rw [if_neg e3, if_neg (show ¬ 8 * c + j = 8 * b + c by omega), if_neg (show ¬ 8 * c + j = 8 * c + b by omega)]
          exact (r3 j hj).1
      · rw [up_ne _ _ (show ¬ 3 + c = 3 + a by omega)]
        refine ⟨r1, fun j hj => ?_⟩
        rw [hg, if_neg (show ¬ 8 * c + j = 8 * b + a by omega), if_neg (show ¬ 8 * c + j = 8 * a + b by omega)]
        exact (r3 j hj).1
  obtain ⟨B, e, h1, h2⟩ := measure_1 (A := (up (up A (3 + a) ((A (3 + a)).set b (Int32.ofNat d))) (3 + b) ((A (3 + b)).set a (Int32.ofNat d)))) (I := I) (m := (((A 86).set (8 * a + b) (Int32.ofNat d)).set (8 * b + a) (Int32.ofNat d))) hml (fun c hc => ⟨(hA' c hc).1, fun j hj q => by rw [(hA' c hc).2 j hj, if_neg q]⟩) (fun c hc => by
    rw [up_ne _ _ (by omega), up_ne _ _ (by omega)]
    exact (hrow c hc).2.1) hdg'
  refine ⟨B, ?_, fun j hj => ?_, rod_mk hnb' hdg' (fun c hc => ?_)⟩
  · have la := (hrow a ha).1
    have lb := (hrow b hb).1
    unfold f_X6_lay
    rw [am_row_g 3 ha, Option.bind_some, am_up_g (by omega) (by omega), Option.bind_some, am_row_g 3 hb, Option.bind_some, up_ne _ _ (show ¬ 3 + b = 3 + a by omega), am_up_g (by omega) (by omega), Option.bind_some, e]
    rfl
  · rw [h2 j (by omega), up_ne _ _ (by omega), up_ne _ _ (by omega)]
  · refine ⟨by rw [h2 (3 + c) (by omega)]; exact (hA' c hc).1, (h1 c hc).1, fun j hj => ⟨by rw [h2 (3 + c) (by omega)]; exact (hA' c hc).2 j hj, (h1 c hc).2 j hj⟩⟩
theorem op_road (xs : List Int32) {n : Nat} {A : Nat → List Int32} {I : Nat → Int32} {x : am_X} (h : Iv0 n A I x) (a1 : Int32) (a2 : Int32) (a3 : Int32) : am_op xs n ix_X11_road ix_X12_road [.int a1, .int a2, .int a3] A I x := by
  obtain ⟨⟨P, N, T, R, E, C, X, Z, hI⟩, hx⟩ := h
  have hR := hI.2.2.2.2.2.2.2.2.2.1
  obtain ⟨hnb, hdg, hrow⟩ := rod_get hR
  rcases wi_l 7 (by decide) a1 with w | ⟨a, ha, rfl, w⟩
  · skip
    have e1 : f_X11_road A I a1 a2 a3 = some (-2, A) := by
      unfold f_X11_road f_X11_isLand
      rw [w]
      rfl
    have e2 : f_X12_road A I a1 a2 a3 = some (-2, A 86) := by
      unfold f_X12_road f_X12_isLand
      rw [in_X, w]
      rfl
    have c1 := t_X11_road (xs := xs) A I x a1 a2 a3 e1
    have c2 := t_X12_road (xs := xs) A I x a1 a2 a3 e2
    exact am_op.mk hx c1 (by decide) c2 (by decide) ⟨P, N, T, R, E, C, X, Z, hI⟩
  · rcases wi_l 7 (by decide) a2 with w2 | ⟨b, hb, rfl, w2⟩
    · skip
      have e1 : f_X11_road A I (Int32.ofNat a) a2 a3 = some (-2, A) := by
        unfold f_X11_road f_X11_isLand
        rw [w, Option.bind_some, Option.bind_some, if_neg (show ¬ (1 : Int32) = 0 by decide), w2]
        rfl
      have e2 : f_X12_road A I (Int32.ofNat a) a2 a3 = some (-2, A 86) := by
        unfold f_X12_road f_X12_isLand
        rw [in_X, w, Option.bind_some, Option.bind_some, if_neg (show ¬ (1 : Int32) = 0 by decide), in_X, w2]
        rfl
      have c1 := t_X11_road (xs := xs) A I x (Int32.ofNat a) a2 a3 e1
      have c2 := t_X12_road (xs := xs) A I x (Int32.ofNat a) a2 a3 e2
      exact am_op.mk hx c1 (by decide) c2 (by decide) ⟨P, N, T, R, E, C, X, Z, hI⟩
    · by_cases hab : a = b
      · subst hab
        have e1 : f_X11_road A I (Int32.ofNat a) (Int32.ofNat a) a3 = some (-2, A) := by
          unfold f_X11_road f_X11_isLand
          rw [w, Option.bind_some, Option.bind_some, if_neg (show ¬ (1 : Int32) = 0 by decide), if_pos rfl]
          rfl
        have e2 : f_X12_road A I (Int32.ofNat a) (Int32.ofNat a) a3 = some (-2, A 86) := by
          unfold f_X12_road f_X12_isLand
          rw [in_X, w, Option.bind_some, Option.bind_some, if_neg (show ¬ (1 : Int32) = 0 by decide), if_pos rfl]
          rfl
        have c1 := t_X11_road (xs := xs) A I x (Int32.ofNat a) (Int32.ofNat a) a3 e1
        have c2 := t_X12_road (xs := xs) A I x (Int32.ofNat a) (Int32.ofNat a) a3 e2
        exact am_op.mk hx c1 (by decide) c2 (by decide) ⟨P, N, T, R, E, C, X, Z, hI⟩
      have hne : ¬ Int32.ofNat a = Int32.ofNat b := fun q => hab ((i_eq (by omega) (by omega)).mp q)
      have key : f_X11_isWithin a3 1 99 = some 0 ∧ ¬ a3 = 999 ∨ ∃ d, d < 1000 ∧ a3 = Int32.ofNat d ∧ (f_X11_isWithin a3 1 99 = some 1 ∧ ¬ a3 = 999 ∨ f_X11_isWithin a3 1 99 = some 0 ∧ a3 = 999) := by
        by_cases h9 : a3 = 999
        · subst h9; exact Or.inr ⟨999, by decide, rfl, Or.inr ⟨by decide, rfl⟩⟩
        · rcases wi_1 99 (by decide) a3 with w3 | ⟨d, hd0, hd, rfl, w3⟩
          · exact Or.inl ⟨w3, h9⟩
          · exact Or.inr ⟨d, by omega, rfl, Or.inl ⟨w3, h9⟩⟩
      rcases key with ⟨w3, h9⟩ | ⟨d, hd, rfl, hw⟩
      · skip
        have e1 : f_X11_road A I (Int32.ofNat a) (Int32.ofNat b) a3 = some (-2, A) := by
          unfold f_X11_road f_X11_isLand
          rw [w, Option.bind_some, Option.bind_some, if_neg (show ¬ (1 : Int32) = 0 by decide), w2, Option.bind_some, Option.bind_some, if_neg (show ¬ (1 : Int32) = 0 by decide), if_neg hne]
          rw [if_neg h9, w3]
          rfl
        have e2 : f_X12_road A I (Int32.ofNat a) (Int32.ofNat b) a3 = some (-2, A 86) := by
          unfold f_X12_road f_X12_isLand
          rw [in_X, w, Option.bind_some, Option.bind_some, if_neg (show ¬ (1 : Int32) = 0 by decide), in_X, w2, Option.bind_some, Option.bind_some, if_neg (show ¬ (1 : Int32) = 0 by decide), if_neg hne]
          rw [in_X, w3, Option.bind_some, if_pos rfl, if_neg h9]
        have c1 := t_X11_road (xs := xs) A I x (Int32.ofNat a) (Int32.ofNat b) a3 e1
        have c2 := t_X12_road (xs := xs) A I x (Int32.ofNat a) (Int32.ofNat b) a3 e2
        exact am_op.mk hx c1 (by decide) c2 (by decide) ⟨P, N, T, R, E, C, X, Z, hI⟩
      · obtain ⟨B, hB1, hB2, hB3⟩ := lay_1 (I := I) hR (show a < 8 by omega) (show b < 8 by omega) hab hd
        have hBe := ups16 hB2
        have r1 := am_row_g 3 (show a < 8 by omega)
        have r2 : am_at (A (3 + a)) (Int32.ofNat b) = some (g (A 86) (8 * a + b)) := by
          obtain ⟨l1, -, l3⟩ := hrow a (by omega)
          have := (l3 b (by omega)).1
          rw [if_neg hab] at this
          rw [← this]
          exact am_at_g (by omega) (by omega)
        have hl := hnb.1
        have e86 : B 86 = A 86 := hB2 86 (by decide)
        have e1 : f_X11_road A I (Int32.ofNat a) (Int32.ofNat b) (Int32.ofNat d) = some (g (A 86) (8 * a + b), B) := by
          unfold f_X11_road f_X11_isLand
          rw [w, Option.bind_some, Option.bind_some, if_neg (show ¬ (1 : Int32) = 0 by decide), w2, Option.bind_some, Option.bind_some, if_neg (show ¬ (1 : Int32) = 0 by decide), if_neg hne]
          rcases hw with ⟨w3, h9⟩ | ⟨w3, h9⟩
          · rw [if_neg h9, w3, Option.bind_some, if_neg (show ¬ (1 : Int32) = 0 by decide), r1, Option.bind_some, r2, Option.bind_some, hB1]
            rfl
          · rw [if_pos h9, r1, Option.bind_some, r2, Option.bind_some, hB1]
            rfl
        have e2 : f_X12_road B I (Int32.ofNat a) (Int32.ofNat b) (Int32.ofNat d) = some (g (A 86) (8 * a + b), (((A 86).set (8 * a + b) (Int32.ofNat d)).set (8 * b + a) (Int32.ofNat d))) := by
          unfold f_X12_road f_X12_isLand
          rw [in_X, w, Option.bind_some, Option.bind_some, if_neg (show ¬ (1 : Int32) = 0 by decide), in_X, w2, Option.bind_some, Option.bind_some, if_neg (show ¬ (1 : Int32) = 0 by decide), if_neg hne]
          rw [in_X, e86, i8, i8, am_at_g (by omega) (by omega), Option.bind_some, am_up_g (by omega) (by omega), Option.bind_some, am_up_g (by rw [List.length_set]; omega) (by rw [List.length_set]; omega)]
          rcases hw with ⟨w3, h9⟩ | ⟨w3, h9⟩
          · rw [w3]; rfl
          · rw [w3, Option.bind_some, if_pos rfl, if_pos h9]; rfl
        have c1 := t_X11_road (xs := xs) A I x (Int32.ofNat a) (Int32.ofNat b) (Int32.ofNat d) e1
        have c2 := t_X12_road (xs := xs) B I x (Int32.ofNat a) (Int32.ofNat b) (Int32.ofNat d) e2
        refine am_op.mk hx c1 (by decide) c2 (by decide) ⟨P, N, T, R, E, C, X, Z, ?_⟩
        have q10 : v_rod [B 3, B 4, B 5, B 6, B 7, B 8, B 9, B 10] [B 12, B 13, B 14, B 15, B 16, B 17, B 18, B 19] (((A 86).set (8 * a + b) (Int32.ofNat d)).set (8 * b + a) (Int32.ofNat d)) := hB3
        show Iv P N T R E C X Z (up B 86 (((A 86).set (8 * a + b) (Int32.ofNat d)).set (8 * b + a) (Int32.ofNat d))) I x
        have goal : Iv P N T R E C X Z (up (up (up (up (up (up (up (up (up (up (up (up (up (up (up (up (up A 3 (B 3)) 4 (B 4)) 5 (B 5)) 6 (B 6)) 7 (B 7)) 8 (B 8)) 9 (B 9)) 10 (B 10)) 12 (B 12)) 13 (B 13)) 14 (B 14)) 15 (B 15)) 16 (B 16)) 17 (B 17)) 18 (B 18)) 19 (B 19)) 86 (((A 86).set (8 * a + b) (Int32.ofNat d)).set (8 * b + a) (Int32.ofNat d))) I x := ⟨hI.1, hI.2.1, hI.2.2.1, hI.2.2.2.1, hI.2.2.2.2.1, hI.2.2.2.2.2.1, hI.2.2.2.2.2.2.1, hI.2.2.2.2.2.2.2.1, hI.2.2.2.2.2.2.2.2.1, q10, hI.2.2.2.2.2.2.2.2.2.2.1, hI.2.2.2.2.2.2.2.2.2.2.2.1, hI.2.2.2.2.2.2.2.2.2.2.2.2⟩
        rw [← hBe] at goal
        exact goal
