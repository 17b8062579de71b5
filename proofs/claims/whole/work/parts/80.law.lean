/-! ===== the law's loop (by wip/whole/gen_law.py) ===== -/
theorem lg_cmp_self (v : Int64) : lg_cmp v v = 0 := by
  unfold lg_cmp
  simp
def law_G (xs : List Int32) (cf : am_Cf) : Prop := ∃ h, am_Ev (am_ro xs) 100 mc_L_law cf (some (.int 1), h) ∧ h.length ≤ 600000 ∧ am_sl0 h ≤ 7302250
theorem law_G.go {xs : List Int32} (n : Nat) {cf cf' : am_Cf} (h : am_go (am_ro xs) mc_L_law n cf = some cf') (k : law_G xs cf') : law_G xs cf := by
  obtain ⟨z, h1, h2⟩ := k
  exact ⟨z, am_Ev.go n h h1, h2⟩
theorem law_G.step {xs : List Int32} {cf cf' : am_Cf} (h : am_one (am_ro xs) mc_L_law cf = some (.inl cf')) (k : law_G xs cf') : law_G xs cf := by
  obtain ⟨z, h1, h2⟩ := k
  exact ⟨z, am_Ev.step h h1, h2⟩
theorem law_G.gt {xs : List Int32} {cf : am_Cf} {x y : Int32} {a b : Nat} {L : am_L} {st : List Value} {h : am_H} (h1 : am_one (am_ro xs) mc_L_law cf = some (.inl (am_cc .gt x y a b, L, st, h))) (c : y < x) (k : law_G xs (a, L, st, h)) : law_G xs cf := by
  obtain ⟨z, e1, e2⟩ := k
  exact ⟨z, am_Ev.gt h1 (fun _ => e1) (fun q => absurd c q), e2⟩
theorem law_G.ngt {xs : List Int32} {cf : am_Cf} {x y : Int32} {a b : Nat} {L : am_L} {st : List Value} {h : am_H} (h1 : am_one (am_ro xs) mc_L_law cf = some (.inl (am_cc .gt x y a b, L, st, h))) (c : ¬ y < x) (k : law_G xs (b, L, st, h)) : law_G xs cf := by
  obtain ⟨z, e1, e2⟩ := k
  exact ⟨z, am_Ev.gt h1 (fun q => absurd q c) (fun _ => e1), e2⟩
theorem law_rd {xs : List Int32} {M : am_M} {pc k : Nat} {L : am_L} {st : List Value} {h : am_H} {j : Int32} (hf : am_fi M pc = some (.iaload, 1)) (e : j = Int32.ofNat k) (hk : k < xs.length ∧ xs.length ≤ 3072) : am_one (am_ro xs) M (pc, L, .int j :: .ref (am_RO + 15) :: st, h) = some (.inl (pc + 1, L, .int (g xs k) :: st, h)) := by
  show am_onx _ M pc L _ h = _
  have h1 : ¬ am_RO + 15 < am_RO := by omega
  have h2 : am_ro xs (am_RO + 15) = some xs := by unfold am_ro; rw [if_pos rfl]
  subst e
  simp only [am_onx, hf, am_kind, am_heap, am_ial, if_neg h1, h2, am_at_g hk.1 (Nat.le_trans hk.2 (by decide))]
theorem Iv0.mono {n : Nat} {A : Nat → List Int32} {I : Nat → Int32} {x : am_X} (h : Iv0 n A I x) : Iv0 (n + 1) A I x := ⟨h.1, Nat.le_trans h.2.1 (by omega), Nat.le_trans h.2.2 (by omega)⟩
set_option maxRecDepth 100000 in
theorem law_0 {xs : List Int32} {i n : Nat} {A : Nat → List Int32} {I : Nat → Int32} {x : am_X} (hi : i + 6 ≤ xs.length) (hL : xs.length ≤ 3072) (hI : Iv0 n A I x) (K : ∀ A2 I2 x2, Iv0 (n + 1) A2 I2 x2 → law_G xs (1811, [some (.ref (am_RO + 15)), some (.ref 0), some (.ref 85), some (.int (Int32.ofNat i))], [], hp A2 I2 x2)) : law_G xs (220, [some (.ref (am_RO + 15)), some (.ref 0), some (.ref 85), some (.int (Int32.ofNat i))], [], hp A I x) := by
  obtain ⟨v, A1, I1, x1, A2, I2, x2, h1, h2, h3⟩ := op_road xs hI (g xs (i + 1)) (g xs (i + 2)) (g xs (i + 3))
  obtain ⟨hz, kz, bz⟩ := K _ _ _ h3
  refine ⟨hz, ?_, bz⟩
  refine am_Ev.go 5 rfl ?_
  refine am_Ev.step (law_rd (k := i + 1) rfl i_addr ⟨by omega, hL⟩) ?_
  refine am_Ev.go 4 rfl ?_
  refine am_Ev.step (law_rd (k := i + 2) rfl i_addr ⟨by omega, hL⟩) ?_
  refine am_Ev.go 4 rfl ?_
  refine am_Ev.step (law_rd (k := i + 3) rfl i_addr ⟨by omega, hL⟩) ?_
  refine am_Ev.callv rfl h1 ?_
  refine am_Ev.go 5 rfl ?_
  refine am_Ev.step (law_rd (k := i + 1) rfl i_addr ⟨by omega, hL⟩) ?_
  refine am_Ev.go 4 rfl ?_
  refine am_Ev.step (law_rd (k := i + 2) rfl i_addr ⟨by omega, hL⟩) ?_
  refine am_Ev.go 4 rfl ?_
  refine am_Ev.step (law_rd (k := i + 3) rfl i_addr ⟨by omega, hL⟩) ?_
  refine am_Ev.callv rfl h2 ?_
  exact am_Ev.eq rfl (fun _ => kz) (fun q => absurd rfl q)
set_option maxRecDepth 100000 in
theorem law_1 {xs : List Int32} {i n : Nat} {A : Nat → List Int32} {I : Nat → Int32} {x : am_X} (hi : i + 6 ≤ xs.length) (hL : xs.length ≤ 3072) (hI : Iv0 n A I x) (K : ∀ A2 I2 x2, Iv0 (n + 1) A2 I2 x2 → law_G xs (1811, [some (.ref (am_RO + 15)), some (.ref 0), some (.ref 85), some (.int (Int32.ofNat i))], [], hp A2 I2 x2)) : law_G xs (263, [some (.ref (am_RO + 15)), some (.ref 0), some (.ref 85), some (.int (Int32.ofNat i))], [], hp A I x) := by
  obtain ⟨v, A1, I1, x1, A2, I2, x2, h1, h2, h3⟩ := op_far xs hI (g xs (i + 1)) (g xs (i + 2))
  obtain ⟨hz, kz, bz⟩ := K _ _ _ h3
  refine ⟨hz, ?_, bz⟩
  refine am_Ev.go 5 rfl ?_
  refine am_Ev.step (law_rd (k := i + 1) rfl i_addr ⟨by omega, hL⟩) ?_
  refine am_Ev.go 4 rfl ?_
  refine am_Ev.step (law_rd (k := i + 2) rfl i_addr ⟨by omega, hL⟩) ?_
  refine am_Ev.callv rfl h1 ?_
  refine am_Ev.go 5 rfl ?_
  refine am_Ev.step (law_rd (k := i + 1) rfl i_addr ⟨by omega, hL⟩) ?_
  refine am_Ev.go 4 rfl ?_
  refine am_Ev.step (law_rd (k := i + 2) rfl i_addr ⟨by omega, hL⟩) ?_
  refine am_Ev.callv rfl h2 ?_
  exact am_Ev.eq rfl (fun _ => kz) (fun q => absurd rfl q)
set_option maxRecDepth 100000 in
theorem law_2 {xs : List Int32} {i n : Nat} {A : Nat → List Int32} {I : Nat → Int32} {x : am_X} (hi : i + 6 ≤ xs.length) (hL : xs.length ≤ 3072) (hI : Iv0 n A I x) (K : ∀ A2 I2 x2, Iv0 (n + 1) A2 I2 x2 → law_G xs (1811, [some (.ref (am_RO + 15)), some (.ref 0), some (.ref 85), some (.int (Int32.ofNat i))], [], hp A2 I2 x2)) : law_G xs (296, [some (.ref (am_RO + 15)), some (.ref 0), some (.ref 85), some (.int (Int32.ofNat i))], [], hp A I x) := by
  obtain ⟨v, A1, I1, x1, A2, I2, x2, h1, h2, h3⟩ := op_person xs hI (g xs (i + 1))
  obtain ⟨hz, kz, bz⟩ := K _ _ _ h3
  refine ⟨hz, ?_, bz⟩
  refine am_Ev.go 5 rfl ?_
  refine am_Ev.step (law_rd (k := i + 1) rfl i_addr ⟨by omega, hL⟩) ?_
  refine am_Ev.callv rfl h1 ?_
  refine am_Ev.go 5 rfl ?_
  refine am_Ev.step (law_rd (k := i + 1) rfl i_addr ⟨by omega, hL⟩) ?_
  refine am_Ev.callv rfl h2 ?_
  exact am_Ev.eq rfl (fun _ => kz) (fun q => absurd rfl q)
set_option maxRecDepth 100000 in
theorem law_3 {xs : List Int32} {i n : Nat} {A : Nat → List Int32} {I : Nat → Int32} {x : am_X} (hi : i + 6 ≤ xs.length) (hL : xs.length ≤ 3072) (hI : Iv0 n A I x) (K : ∀ A2 I2 x2, Iv0 (n + 1) A2 I2 x2 → law_G xs (1811, [some (.ref (am_RO + 15)), some (.ref 0), some (.ref 85), some (.int (Int32.ofNat i))], [], hp A2 I2 x2)) : law_G xs (319, [some (.ref (am_RO + 15)), some (.ref 0), some (.ref 85), some (.int (Int32.ofNat i))], [], hp A I x) := by
  obtain ⟨v, A1, I1, x1, A2, I2, x2, h1, h2, h3⟩ := op_office xs hI (g xs (i + 1)) (g xs (i + 2))
  obtain ⟨hz, kz, bz⟩ := K _ _ _ h3
  refine ⟨hz, ?_, bz⟩
  refine am_Ev.go 5 rfl ?_
  refine am_Ev.step (law_rd (k := i + 1) rfl i_addr ⟨by omega, hL⟩) ?_
  refine am_Ev.go 4 rfl ?_
  refine am_Ev.step (law_rd (k := i + 2) rfl i_addr ⟨by omega, hL⟩) ?_
  refine am_Ev.callv rfl h1 ?_
  refine am_Ev.go 5 rfl ?_
  refine am_Ev.step (law_rd (k := i + 1) rfl i_addr ⟨by omega, hL⟩) ?_
  refine am_Ev.go 4 rfl ?_
  refine am_Ev.step (law_rd (k := i + 2) rfl i_addr ⟨by omega, hL⟩) ?_
  refine am_Ev.callv rfl h2 ?_
  exact am_Ev.eq rfl (fun _ => kz) (fun q => absurd rfl q)
set_option maxRecDepth 100000 in
theorem law_4 {xs : List Int32} {i n : Nat} {A : Nat → List Int32} {I : Nat → Int32} {x : am_X} (hi : i + 6 ≤ xs.length) (hL : xs.length ≤ 3072) (hI : Iv0 n A I x) (K : ∀ A2 I2 x2, Iv0 (n + 1) A2 I2 x2 → law_G xs (1811, [some (.ref (am_RO + 15)), some (.ref 0), some (.ref 85), some (.int (Int32.ofNat i))], [], hp A2 I2 x2)) : law_G xs (352, [some (.ref (am_RO + 15)), some (.ref 0), some (.ref 85), some (.int (Int32.ofNat i))], [], hp A I x) := by
  obtain ⟨v, A1, I1, x1, A2, I2, x2, h1, h2, h3⟩ := op_seat xs hI (g xs (i + 1)) (g xs (i + 2))
  obtain ⟨hz, kz, bz⟩ := K _ _ _ h3
  refine ⟨hz, ?_, bz⟩
  refine am_Ev.go 5 rfl ?_
  refine am_Ev.step (law_rd (k := i + 1) rfl i_addr ⟨by omega, hL⟩) ?_
  refine am_Ev.go 4 rfl ?_
  refine am_Ev.step (law_rd (k := i + 2) rfl i_addr ⟨by omega, hL⟩) ?_
  refine am_Ev.callv rfl h1 ?_
  refine am_Ev.go 5 rfl ?_
  refine am_Ev.step (law_rd (k := i + 1) rfl i_addr ⟨by omega, hL⟩) ?_
  refine am_Ev.go 4 rfl ?_
  refine am_Ev.step (law_rd (k := i + 2) rfl i_addr ⟨by omega, hL⟩) ?_
  refine am_Ev.callv rfl h2 ?_
  exact am_Ev.eq rfl (fun _ => kz) (fun q => absurd rfl q)
set_option maxRecDepth 100000 in
theorem law_5 {xs : List Int32} {i n : Nat} {A : Nat → List Int32} {I : Nat → Int32} {x : am_X} (hi : i + 6 ≤ xs.length) (hL : xs.length ≤ 3072) (hI : Iv0 n A I x) (K : ∀ A2 I2 x2, Iv0 (n + 1) A2 I2 x2 → law_G xs (1811, [some (.ref (am_RO + 15)), some (.ref 0), some (.ref 85), some (.int (Int32.ofNat i))], [], hp A2 I2 x2)) : law_G xs (385, [some (.ref (am_RO + 15)), some (.ref 0), some (.ref 85), some (.int (Int32.ofNat i))], [], hp A I x) := by
  obtain ⟨v, A1, I1, x1, A2, I2, x2, h1, h2, h3⟩ := op_officeTold xs hI (g xs (i + 1)) (g xs (i + 2))
  obtain ⟨hz, kz, bz⟩ := K _ _ _ h3
  refine ⟨hz, ?_, bz⟩
  refine am_Ev.go 5 rfl ?_
  refine am_Ev.step (law_rd (k := i + 1) rfl i_addr ⟨by omega, hL⟩) ?_
  refine am_Ev.go 4 rfl ?_
  refine am_Ev.step (law_rd (k := i + 2) rfl i_addr ⟨by omega, hL⟩) ?_
  refine am_Ev.callv rfl h1 ?_
  refine am_Ev.go 5 rfl ?_
  refine am_Ev.step (law_rd (k := i + 1) rfl i_addr ⟨by omega, hL⟩) ?_
  refine am_Ev.go 4 rfl ?_
  refine am_Ev.step (law_rd (k := i + 2) rfl i_addr ⟨by omega, hL⟩) ?_
  refine am_Ev.callv rfl h2 ?_
  exact am_Ev.eq rfl (fun _ => kz) (fun q => absurd rfl q)
set_option maxRecDepth 100000 in
theorem law_6 {xs : List Int32} {i n : Nat} {A : Nat → List Int32} {I : Nat → Int32} {x : am_X} (hi : i + 6 ≤ xs.length) (hL : xs.length ≤ 3072) (hI : Iv0 n A I x) (K : ∀ A2 I2 x2, Iv0 (n + 1) A2 I2 x2 → law_G xs (1811, [some (.ref (am_RO + 15)), some (.ref 0), some (.ref 85), some (.int (Int32.ofNat i))], [], hp A2 I2 x2)) : law_G xs (418, [some (.ref (am_RO + 15)), some (.ref 0), some (.ref 85), some (.int (Int32.ofNat i))], [], hp A I x) := by
  obtain ⟨v, A1, I1, x1, A2, I2, x2, h1, h2, h3⟩ := op_turn xs hI (g xs (i + 1)) (g xs (i + 2)) (g xs (i + 3))
  obtain ⟨hz, kz, bz⟩ := K _ _ _ h3
  refine ⟨hz, ?_, bz⟩
  refine am_Ev.go 5 rfl ?_
  refine am_Ev.step (law_rd (k := i + 1) rfl i_addr ⟨by omega, hL⟩) ?_
  refine am_Ev.go 4 rfl ?_
  refine am_Ev.step (law_rd (k := i + 2) rfl i_addr ⟨by omega, hL⟩) ?_
  refine am_Ev.go 4 rfl ?_
  refine am_Ev.step (law_rd (k := i + 3) rfl i_addr ⟨by omega, hL⟩) ?_
  refine am_Ev.callv rfl h1 ?_
  refine am_Ev.go 5 rfl ?_
  refine am_Ev.step (law_rd (k := i + 1) rfl i_addr ⟨by omega, hL⟩) ?_
  refine am_Ev.go 4 rfl ?_
  refine am_Ev.step (law_rd (k := i + 2) rfl i_addr ⟨by omega, hL⟩) ?_
  refine am_Ev.go 4 rfl ?_
  refine am_Ev.step (law_rd (k := i + 3) rfl i_addr ⟨by omega, hL⟩) ?_
  refine am_Ev.callv rfl h2 ?_
  exact am_Ev.eq rfl (fun _ => kz) (fun q => absurd rfl q)
set_option maxRecDepth 100000 in
theorem law_7 {xs : List Int32} {i n : Nat} {A : Nat → List Int32} {I : Nat → Int32} {x : am_X} (hi : i + 6 ≤ xs.length) (hL : xs.length ≤ 3072) (hI : Iv0 n A I x) (K : ∀ A2 I2 x2, Iv0 (n + 1) A2 I2 x2 → law_G xs (1811, [some (.ref (am_RO + 15)), some (.ref 0), some (.ref 85), some (.int (Int32.ofNat i))], [], hp A2 I2 x2)) : law_G xs (461, [some (.ref (am_RO + 15)), some (.ref 0), some (.ref 85), some (.int (Int32.ofNat i))], [], hp A I x) := by
  obtain ⟨v, A1, I1, x1, A2, I2, x2, h1, h2, h3⟩ := op_side xs hI (g xs (i + 1)) (g xs (i + 2))
  obtain ⟨hz, kz, bz⟩ := K _ _ _ h3
  refine ⟨hz, ?_, bz⟩
  refine am_Ev.go 5 rfl ?_
  refine am_Ev.step (law_rd (k := i + 1) rfl i_addr ⟨by omega, hL⟩) ?_
  refine am_Ev.go 4 rfl ?_
  refine am_Ev.step (law_rd (k := i + 2) rfl i_addr ⟨by omega, hL⟩) ?_
  refine am_Ev.callv rfl h1 ?_
  refine am_Ev.go 5 rfl ?_
  refine am_Ev.step (law_rd (k := i + 1) rfl i_addr ⟨by omega, hL⟩) ?_
  refine am_Ev.go 4 rfl ?_
  refine am_Ev.step (law_rd (k := i + 2) rfl i_addr ⟨by omega, hL⟩) ?_
  refine am_Ev.callv rfl h2 ?_
  exact am_Ev.eq rfl (fun _ => kz) (fun q => absurd rfl q)
set_option maxRecDepth 100000 in
theorem law_8 {xs : List Int32} {i n : Nat} {A : Nat → List Int32} {I : Nat → Int32} {x : am_X} (hi : i + 6 ≤ xs.length) (hL : xs.length ≤ 3072) (hI : Iv0 n A I x) (K : ∀ A2 I2 x2, Iv0 (n + 1) A2 I2 x2 → law_G xs (1811, [some (.ref (am_RO + 15)), some (.ref 0), some (.ref 85), some (.int (Int32.ofNat i))], [], hp A2 I2 x2)) : law_G xs (494, [some (.ref (am_RO + 15)), some (.ref 0), some (.ref 85), some (.int (Int32.ofNat i))], [], hp A I x) := by
  obtain ⟨v, A1, I1, x1, A2, I2, x2, h1, h2, h3⟩ := op_changed xs hI (g xs (i + 1)) (g xs (i + 2)) (g xs (i + 3))
  obtain ⟨hz, kz, bz⟩ := K _ _ _ h3
  refine ⟨hz, ?_, bz⟩
  refine am_Ev.go 5 rfl ?_
  refine am_Ev.step (law_rd (k := i + 1) rfl i_addr ⟨by omega, hL⟩) ?_
  refine am_Ev.go 4 rfl ?_
  refine am_Ev.step (law_rd (k := i + 2) rfl i_addr ⟨by omega, hL⟩) ?_
  refine am_Ev.go 4 rfl ?_
  refine am_Ev.step (law_rd (k := i + 3) rfl i_addr ⟨by omega, hL⟩) ?_
  refine am_Ev.callv rfl h1 ?_
  refine am_Ev.go 5 rfl ?_
  refine am_Ev.step (law_rd (k := i + 1) rfl i_addr ⟨by omega, hL⟩) ?_
  refine am_Ev.go 4 rfl ?_
  refine am_Ev.step (law_rd (k := i + 2) rfl i_addr ⟨by omega, hL⟩) ?_
  refine am_Ev.go 4 rfl ?_
  refine am_Ev.step (law_rd (k := i + 3) rfl i_addr ⟨by omega, hL⟩) ?_
  refine am_Ev.callv rfl h2 ?_
  exact am_Ev.eq rfl (fun _ => kz) (fun q => absurd rfl q)
set_option maxRecDepth 100000 in
theorem law_9 {xs : List Int32} {i n : Nat} {A : Nat → List Int32} {I : Nat → Int32} {x : am_X} (hi : i + 6 ≤ xs.length) (hL : xs.length ≤ 3072) (hI : Iv0 n A I x) (K : ∀ A2 I2 x2, Iv0 (n + 1) A2 I2 x2 → law_G xs (1811, [some (.ref (am_RO + 15)), some (.ref 0), some (.ref 85), some (.int (Int32.ofNat i))], [], hp A2 I2 x2)) : law_G xs (537, [some (.ref (am_RO + 15)), some (.ref 0), some (.ref 85), some (.int (Int32.ofNat i))], [], hp A I x) := by
  obtain ⟨v, A1, I1, x1, A2, I2, x2, h1, h2, h3⟩ := op_act xs hI (g xs (i + 1)) (g xs (i + 2)) (g xs (i + 3)) (g xs (i + 4)) (g xs (i + 5))
  obtain ⟨hz, kz, bz⟩ := K _ _ _ h3
  refine ⟨hz, ?_, bz⟩
  refine am_Ev.go 5 rfl ?_
  refine am_Ev.step (law_rd (k := i + 1) rfl i_addr ⟨by omega, hL⟩) ?_
  refine am_Ev.go 4 rfl ?_
  refine am_Ev.step (law_rd (k := i + 2) rfl i_addr ⟨by omega, hL⟩) ?_
  refine am_Ev.go 4 rfl ?_
  refine am_Ev.step (law_rd (k := i + 3) rfl i_addr ⟨by omega, hL⟩) ?_
  refine am_Ev.go 4 rfl ?_
  refine am_Ev.step (law_rd (k := i + 4) rfl i_addr ⟨by omega, hL⟩) ?_
  refine am_Ev.go 4 rfl ?_
  refine am_Ev.step (law_rd (k := i + 5) rfl i_addr ⟨by omega, hL⟩) ?_
  refine am_Ev.callv rfl h1 ?_
  refine am_Ev.go 5 rfl ?_
  refine am_Ev.step (law_rd (k := i + 1) rfl i_addr ⟨by omega, hL⟩) ?_
  refine am_Ev.go 4 rfl ?_
  refine am_Ev.step (law_rd (k := i + 2) rfl i_addr ⟨by omega, hL⟩) ?_
  refine am_Ev.go 4 rfl ?_
  refine am_Ev.step (law_rd (k := i + 3) rfl i_addr ⟨by omega, hL⟩) ?_
  refine am_Ev.go 4 rfl ?_
  refine am_Ev.step (law_rd (k := i + 4) rfl i_addr ⟨by omega, hL⟩) ?_
  refine am_Ev.go 4 rfl ?_
  refine am_Ev.step (law_rd (k := i + 5) rfl i_addr ⟨by omega, hL⟩) ?_
  refine am_Ev.callv rfl h2 ?_
  exact am_Ev.eq rfl (fun _ => kz) (fun q => absurd rfl q)
set_option maxRecDepth 100000 in
theorem law_10 {xs : List Int32} {i n : Nat} {A : Nat → List Int32} {I : Nat → Int32} {x : am_X} (hi : i + 6 ≤ xs.length) (hL : xs.length ≤ 3072) (hI : Iv0 n A I x) (K : ∀ A2 I2 x2, Iv0 (n + 1) A2 I2 x2 → law_G xs (1811, [some (.ref (am_RO + 15)), some (.ref 0), some (.ref 85), some (.int (Int32.ofNat i))], [], hp A2 I2 x2)) : law_G xs (600, [some (.ref (am_RO + 15)), some (.ref 0), some (.ref 85), some (.int (Int32.ofNat i))], [], hp A I x) := by
  obtain ⟨v, A1, I1, x1, A2, I2, x2, h1, h2, h3⟩ := op_hang xs hI (g xs (i + 1)) (g xs (i + 2))
  obtain ⟨hz, kz, bz⟩ := K _ _ _ h3
  refine ⟨hz, ?_, bz⟩
  refine am_Ev.go 5 rfl ?_
  refine am_Ev.step (law_rd (k := i + 1) rfl i_addr ⟨by omega, hL⟩) ?_
  refine am_Ev.go 4 rfl ?_
  refine am_Ev.step (law_rd (k := i + 2) rfl i_addr ⟨by omega, hL⟩) ?_
  refine am_Ev.callv rfl h1 ?_
  refine am_Ev.go 5 rfl ?_
  refine am_Ev.step (law_rd (k := i + 1) rfl i_addr ⟨by omega, hL⟩) ?_
  refine am_Ev.go 4 rfl ?_
  refine am_Ev.step (law_rd (k := i + 2) rfl i_addr ⟨by omega, hL⟩) ?_
  refine am_Ev.callv rfl h2 ?_
  exact am_Ev.eq rfl (fun _ => kz) (fun q => absurd rfl q)
set_option maxRecDepth 100000 in
theorem law_11 {xs : List Int32} {i n : Nat} {A : Nat → List Int32} {I : Nat → Int32} {x : am_X} (hi : i + 6 ≤ xs.length) (hL : xs.length ≤ 3072) (hI : Iv0 n A I x) (K : ∀ A2 I2 x2, Iv0 (n + 1) A2 I2 x2 → law_G xs (1811, [some (.ref (am_RO + 15)), some (.ref 0), some (.ref 85), some (.int (Int32.ofNat i))], [], hp A2 I2 x2)) : law_G xs (633, [some (.ref (am_RO + 15)), some (.ref 0), some (.ref 85), some (.int (Int32.ofNat i))], [], hp A I x) := by
  obtain ⟨v, A1, I1, x1, A2, I2, x2, h1, h2, h3⟩ := op_lift xs hI (g xs (i + 1)) (g xs (i + 2))
  obtain ⟨hz, kz, bz⟩ := K _ _ _ h3
  refine ⟨hz, ?_, bz⟩
  refine am_Ev.go 5 rfl ?_
  refine am_Ev.step (law_rd (k := i + 1) rfl i_addr ⟨by omega, hL⟩) ?_
  refine am_Ev.go 4 rfl ?_
  refine am_Ev.step (law_rd (k := i + 2) rfl i_addr ⟨by omega, hL⟩) ?_
  refine am_Ev.callv rfl h1 ?_
  refine am_Ev.go 5 rfl ?_
  refine am_Ev.step (law_rd (k := i + 1) rfl i_addr ⟨by omega, hL⟩) ?_
  refine am_Ev.go 4 rfl ?_
  refine am_Ev.step (law_rd (k := i + 2) rfl i_addr ⟨by omega, hL⟩) ?_
  refine am_Ev.callv rfl h2 ?_
  exact am_Ev.eq rfl (fun _ => kz) (fun q => absurd rfl q)
set_option maxRecDepth 100000 in
theorem law_12 {xs : List Int32} {i n : Nat} {A : Nat → List Int32} {I : Nat → Int32} {x : am_X} (hi : i + 6 ≤ xs.length) (hL : xs.length ≤ 3072) (hI : Iv0 n A I x) (K : ∀ A2 I2 x2, Iv0 (n + 1) A2 I2 x2 → law_G xs (1811, [some (.ref (am_RO + 15)), some (.ref 0), some (.ref 85), some (.int (Int32.ofNat i))], [], hp A2 I2 x2)) : law_G xs (666, [some (.ref (am_RO + 15)), some (.ref 0), some (.ref 85), some (.int (Int32.ofNat i))], [], hp A I x) := by
  obtain ⟨v, A1, I1, x1, A2, I2, x2, h1, h2, h3⟩ := op_actTold xs hI (g xs (i + 1)) (g xs (i + 2))
  obtain ⟨hz, kz, bz⟩ := K _ _ _ h3
  refine ⟨hz, ?_, bz⟩
  refine am_Ev.go 5 rfl ?_
  refine am_Ev.step (law_rd (k := i + 1) rfl i_addr ⟨by omega, hL⟩) ?_
  refine am_Ev.go 4 rfl ?_
  refine am_Ev.step (law_rd (k := i + 2) rfl i_addr ⟨by omega, hL⟩) ?_
  refine am_Ev.callv rfl h1 ?_
  refine am_Ev.go 5 rfl ?_
  refine am_Ev.step (law_rd (k := i + 1) rfl i_addr ⟨by omega, hL⟩) ?_
  refine am_Ev.go 4 rfl ?_
  refine am_Ev.step (law_rd (k := i + 2) rfl i_addr ⟨by omega, hL⟩) ?_
  refine am_Ev.callv rfl h2 ?_
  exact am_Ev.eq rfl (fun _ => kz) (fun q => absurd rfl q)
set_option maxRecDepth 100000 in
theorem law_13 {xs : List Int32} {i n : Nat} {A : Nat → List Int32} {I : Nat → Int32} {x : am_X} (hi : i + 6 ≤ xs.length) (hL : xs.length ≤ 3072) (hI : Iv0 n A I x) (K : ∀ A2 I2 x2, Iv0 (n + 1) A2 I2 x2 → law_G xs (1811, [some (.ref (am_RO + 15)), some (.ref 0), some (.ref 85), some (.int (Int32.ofNat i))], [], hp A2 I2 x2)) : law_G xs (699, [some (.ref (am_RO + 15)), some (.ref 0), some (.ref 85), some (.int (Int32.ofNat i))], [], hp A I x) := by
  obtain ⟨v, A1, I1, x1, A2, I2, x2, h1, h2, h3⟩ := op_feed xs hI (g xs (i + 1)) ((Int32.toInt64 (g xs (i + 2)) <<< (Int32.toInt64 32 &&& 63)) ||| (Int32.toInt64 (g xs (i + 3)) &&& 4294967295))
  obtain ⟨hz, kz, bz⟩ := K _ _ _ h3
  refine ⟨hz, ?_, bz⟩
  refine am_Ev.go 5 rfl ?_
  refine am_Ev.step (law_rd (k := i + 1) rfl i_addr ⟨by omega, hL⟩) ?_
  refine am_Ev.go 4 rfl ?_
  refine am_Ev.step (law_rd (k := i + 2) rfl i_addr ⟨by omega, hL⟩) ?_
  refine am_Ev.go 7 rfl ?_
  refine am_Ev.step (law_rd (k := i + 3) rfl i_addr ⟨by omega, hL⟩) ?_
  refine am_Ev.go 4 rfl ?_
  refine am_Ev.callv rfl h1 ?_
  refine am_Ev.go 5 rfl ?_
  refine am_Ev.step (law_rd (k := i + 1) rfl i_addr ⟨by omega, hL⟩) ?_
  refine am_Ev.go 4 rfl ?_
  refine am_Ev.step (law_rd (k := i + 2) rfl i_addr ⟨by omega, hL⟩) ?_
  refine am_Ev.go 7 rfl ?_
  refine am_Ev.step (law_rd (k := i + 3) rfl i_addr ⟨by omega, hL⟩) ?_
  refine am_Ev.go 4 rfl ?_
  refine am_Ev.callv rfl h2 ?_
  exact am_Ev.eq rfl (fun _ => kz) (fun q => absurd rfl q)
set_option maxRecDepth 100000 in
theorem law_14 {xs : List Int32} {i n : Nat} {A : Nat → List Int32} {I : Nat → Int32} {x : am_X} (hn : n ≤ 512) (hi : i + 6 ≤ xs.length) (hL : xs.length ≤ 3072) (hI : Iv0 n A I x) (K : ∀ A2 I2 x2, Iv0 (n + 1) A2 I2 x2 → law_G xs (1811, [some (.ref (am_RO + 15)), some (.ref 0), some (.ref 85), some (.int (Int32.ofNat i))], [], hp A2 I2 x2)) : law_G xs (762, [some (.ref (am_RO + 15)), some (.ref 0), some (.ref 85), some (.int (Int32.ofNat i))], [], hp A I x) := by
  obtain ⟨v, A1, I1, x1, A2, I2, x2, h1, h2, h3⟩ := op_text xs hn hI
  obtain ⟨hz, kz, bz⟩ := K _ _ _ h3
  refine ⟨hz, ?_, bz⟩
  refine am_Ev.go 1 rfl ?_
  refine am_Ev.callv rfl h1 ?_
  refine am_Ev.go 1 rfl ?_
  refine am_Ev.callv rfl h2 ?_
  exact am_Ev.eq rfl (fun _ => kz) (fun q => absurd rfl q)
set_option maxRecDepth 100000 in
theorem law_15 {xs : List Int32} {i n : Nat} {A : Nat → List Int32} {I : Nat → Int32} {x : am_X} (hi : i + 6 ≤ xs.length) (hL : xs.length ≤ 3072) (hI : Iv0 n A I x) (K : ∀ A2 I2 x2, Iv0 (n + 1) A2 I2 x2 → law_G xs (1811, [some (.ref (am_RO + 15)), some (.ref 0), some (.ref 85), some (.int (Int32.ofNat i))], [], hp A2 I2 x2)) : law_G xs (775, [some (.ref (am_RO + 15)), some (.ref 0), some (.ref 85), some (.int (Int32.ofNat i))], [], hp A I x) := by
  obtain ⟨v, A1, I1, x1, A2, I2, x2, h1, h2, h3⟩ := op_rule xs hI (g xs (i + 1)) (g xs (i + 2))
  obtain ⟨hz, kz, bz⟩ := K _ _ _ h3
  refine ⟨hz, ?_, bz⟩
  refine am_Ev.go 5 rfl ?_
  refine am_Ev.step (law_rd (k := i + 1) rfl i_addr ⟨by omega, hL⟩) ?_
  refine am_Ev.go 4 rfl ?_
  refine am_Ev.step (law_rd (k := i + 2) rfl i_addr ⟨by omega, hL⟩) ?_
  refine am_Ev.callv rfl h1 ?_
  refine am_Ev.go 5 rfl ?_
  refine am_Ev.step (law_rd (k := i + 1) rfl i_addr ⟨by omega, hL⟩) ?_
  refine am_Ev.go 4 rfl ?_
  refine am_Ev.step (law_rd (k := i + 2) rfl i_addr ⟨by omega, hL⟩) ?_
  refine am_Ev.callv rfl h2 ?_
  exact am_Ev.eq rfl (fun _ => kz) (fun q => absurd rfl q)
set_option maxRecDepth 100000 in
theorem law_16 {xs : List Int32} {i n : Nat} {A : Nat → List Int32} {I : Nat → Int32} {x : am_X} (hi : i + 6 ≤ xs.length) (hL : xs.length ≤ 3072) (hI : Iv0 n A I x) (K : ∀ A2 I2 x2, Iv0 (n + 1) A2 I2 x2 → law_G xs (1811, [some (.ref (am_RO + 15)), some (.ref 0), some (.ref 85), some (.int (Int32.ofNat i))], [], hp A2 I2 x2)) : law_G xs (808, [some (.ref (am_RO + 15)), some (.ref 0), some (.ref 85), some (.int (Int32.ofNat i))], [], hp A I x) := by
  obtain ⟨v, A1, I1, x1, A2, I2, x2, h1, h2, h3⟩ := op_says xs hI (g xs (i + 1)) (g xs (i + 2)) (g xs (i + 3))
  obtain ⟨hz, kz, bz⟩ := K _ _ _ h3
  refine ⟨hz, ?_, bz⟩
  refine am_Ev.go 5 rfl ?_
  refine am_Ev.step (law_rd (k := i + 1) rfl i_addr ⟨by omega, hL⟩) ?_
  refine am_Ev.go 4 rfl ?_
  refine am_Ev.step (law_rd (k := i + 2) rfl i_addr ⟨by omega, hL⟩) ?_
  refine am_Ev.go 4 rfl ?_
  refine am_Ev.step (law_rd (k := i + 3) rfl i_addr ⟨by omega, hL⟩) ?_
  refine am_Ev.callv rfl h1 ?_
  refine am_Ev.go 5 rfl ?_
  refine am_Ev.step (law_rd (k := i + 1) rfl i_addr ⟨by omega, hL⟩) ?_
  refine am_Ev.go 4 rfl ?_
  refine am_Ev.step (law_rd (k := i + 2) rfl i_addr ⟨by omega, hL⟩) ?_
  refine am_Ev.go 4 rfl ?_
  refine am_Ev.step (law_rd (k := i + 3) rfl i_addr ⟨by omega, hL⟩) ?_
  refine am_Ev.callv rfl h2 ?_
  refine am_Ev.go 1 rfl ?_
  rw [lg_cmp_self]
  exact am_Ev.eq rfl (fun _ => kz) (fun q => absurd rfl q)
set_option maxRecDepth 100000 in
theorem law_17 {xs : List Int32} {i n : Nat} {A : Nat → List Int32} {I : Nat → Int32} {x : am_X} (hi : i + 6 ≤ xs.length) (hL : xs.length ≤ 3072) (hI : Iv0 n A I x) (K : ∀ A2 I2 x2, Iv0 (n + 1) A2 I2 x2 → law_G xs (1811, [some (.ref (am_RO + 15)), some (.ref 0), some (.ref 85), some (.int (Int32.ofNat i))], [], hp A2 I2 x2)) : law_G xs (852, [some (.ref (am_RO + 15)), some (.ref 0), some (.ref 85), some (.int (Int32.ofNat i))], [], hp A I x) := by
  obtain ⟨v, A1, I1, x1, A2, I2, x2, h1, h2, h3⟩ := op_acts xs hI (g xs (i + 1)) (g xs (i + 2))
  obtain ⟨hz, kz, bz⟩ := K _ _ _ h3
  refine ⟨hz, ?_, bz⟩
  refine am_Ev.go 5 rfl ?_
  refine am_Ev.step (law_rd (k := i + 1) rfl i_addr ⟨by omega, hL⟩) ?_
  refine am_Ev.go 4 rfl ?_
  refine am_Ev.step (law_rd (k := i + 2) rfl i_addr ⟨by omega, hL⟩) ?_
  refine am_Ev.callv rfl h1 ?_
  refine am_Ev.go 5 rfl ?_
  refine am_Ev.step (law_rd (k := i + 1) rfl i_addr ⟨by omega, hL⟩) ?_
  refine am_Ev.go 4 rfl ?_
  refine am_Ev.step (law_rd (k := i + 2) rfl i_addr ⟨by omega, hL⟩) ?_
  refine am_Ev.callv rfl h2 ?_
  exact am_Ev.eq rfl (fun _ => kz) (fun q => absurd rfl q)
set_option maxRecDepth 100000 in
theorem law_18 {xs : List Int32} {i n : Nat} {A : Nat → List Int32} {I : Nat → Int32} {x : am_X} (hi : i + 6 ≤ xs.length) (hL : xs.length ≤ 3072) (hI : Iv0 n A I x) (K : ∀ A2 I2 x2, Iv0 (n + 1) A2 I2 x2 → law_G xs (1811, [some (.ref (am_RO + 15)), some (.ref 0), some (.ref 85), some (.int (Int32.ofNat i))], [], hp A2 I2 x2)) : law_G xs (885, [some (.ref (am_RO + 15)), some (.ref 0), some (.ref 85), some (.int (Int32.ofNat i))], [], hp A I x) := by
  obtain ⟨v, A1, I1, x1, A2, I2, x2, h1, h2, h3⟩ := op_felled xs hI (g xs (i + 1)) (g xs (i + 2))
  obtain ⟨hz, kz, bz⟩ := K _ _ _ h3
  refine ⟨hz, ?_, bz⟩
  refine am_Ev.go 5 rfl ?_
  refine am_Ev.step (law_rd (k := i + 1) rfl i_addr ⟨by omega, hL⟩) ?_
  refine am_Ev.go 4 rfl ?_
  refine am_Ev.step (law_rd (k := i + 2) rfl i_addr ⟨by omega, hL⟩) ?_
  refine am_Ev.callv rfl h1 ?_
  refine am_Ev.go 5 rfl ?_
  refine am_Ev.step (law_rd (k := i + 1) rfl i_addr ⟨by omega, hL⟩) ?_
  refine am_Ev.go 4 rfl ?_
  refine am_Ev.step (law_rd (k := i + 2) rfl i_addr ⟨by omega, hL⟩) ?_
  refine am_Ev.callv rfl h2 ?_
  exact am_Ev.eq rfl (fun _ => kz) (fun q => absurd rfl q)
set_option maxRecDepth 100000 in
theorem law_19 {xs : List Int32} {i n : Nat} {A : Nat → List Int32} {I : Nat → Int32} {x : am_X} (hi : i + 6 ≤ xs.length) (hL : xs.length ≤ 3072) (hI : Iv0 n A I x) (K : ∀ A2 I2 x2, Iv0 (n + 1) A2 I2 x2 → law_G xs (1811, [some (.ref (am_RO + 15)), some (.ref 0), some (.ref 85), some (.int (Int32.ofNat i))], [], hp A2 I2 x2)) : law_G xs (918, [some (.ref (am_RO + 15)), some (.ref 0), some (.ref 85), some (.int (Int32.ofNat i))], [], hp A I x) := by
  obtain ⟨v, A1, I1, x1, A2, I2, x2, h1, h2, h3⟩ := op_inForce xs hI (g xs (i + 1)) (g xs (i + 2))
  obtain ⟨hz, kz, bz⟩ := K _ _ _ h3
  refine ⟨hz, ?_, bz⟩
  refine am_Ev.go 5 rfl ?_
  refine am_Ev.step (law_rd (k := i + 1) rfl i_addr ⟨by omega, hL⟩) ?_
  refine am_Ev.go 4 rfl ?_
  refine am_Ev.step (law_rd (k := i + 2) rfl i_addr ⟨by omega, hL⟩) ?_
  refine am_Ev.callv rfl h1 ?_
  refine am_Ev.go 5 rfl ?_
  refine am_Ev.step (law_rd (k := i + 1) rfl i_addr ⟨by omega, hL⟩) ?_
  refine am_Ev.go 4 rfl ?_
  refine am_Ev.step (law_rd (k := i + 2) rfl i_addr ⟨by omega, hL⟩) ?_
  refine am_Ev.callv rfl h2 ?_
  exact am_Ev.eq rfl (fun _ => kz) (fun q => absurd rfl q)
set_option maxRecDepth 100000 in
theorem law_20 {xs : List Int32} {i n : Nat} {A : Nat → List Int32} {I : Nat → Int32} {x : am_X} (hi : i + 6 ≤ xs.length) (hL : xs.length ≤ 3072) (hI : Iv0 n A I x) (K : ∀ A2 I2 x2, Iv0 (n + 1) A2 I2 x2 → law_G xs (1811, [some (.ref (am_RO + 15)), some (.ref 0), some (.ref 85), some (.int (Int32.ofNat i))], [], hp A2 I2 x2)) : law_G xs (951, [some (.ref (am_RO + 15)), some (.ref 0), some (.ref 85), some (.int (Int32.ofNat i))], [], hp A I x) := by
  obtain ⟨v, A1, I1, x1, A2, I2, x2, h1, h2, h3⟩ := op_byRight xs hI (g xs (i + 1)) (g xs (i + 2)) (g xs (i + 3))
  obtain ⟨hz, kz, bz⟩ := K _ _ _ h3
  refine ⟨hz, ?_, bz⟩
  refine am_Ev.go 5 rfl ?_
  refine am_Ev.step (law_rd (k := i + 1) rfl i_addr ⟨by omega, hL⟩) ?_
  refine am_Ev.go 4 rfl ?_
  refine am_Ev.step (law_rd (k := i + 2) rfl i_addr ⟨by omega, hL⟩) ?_
  refine am_Ev.go 4 rfl ?_
  refine am_Ev.step (law_rd (k := i + 3) rfl i_addr ⟨by omega, hL⟩) ?_
  refine am_Ev.callv rfl h1 ?_
  refine am_Ev.go 5 rfl ?_
  refine am_Ev.step (law_rd (k := i + 1) rfl i_addr ⟨by omega, hL⟩) ?_
  refine am_Ev.go 4 rfl ?_
  refine am_Ev.step (law_rd (k := i + 2) rfl i_addr ⟨by omega, hL⟩) ?_
  refine am_Ev.go 4 rfl ?_
  refine am_Ev.step (law_rd (k := i + 3) rfl i_addr ⟨by omega, hL⟩) ?_
  refine am_Ev.callv rfl h2 ?_
  exact am_Ev.eq rfl (fun _ => kz) (fun q => absurd rfl q)
set_option maxRecDepth 100000 in
theorem law_21 {xs : List Int32} {i n : Nat} {A : Nat → List Int32} {I : Nat → Int32} {x : am_X} (hi : i + 6 ≤ xs.length) (hL : xs.length ≤ 3072) (hI : Iv0 n A I x) (K : ∀ A2 I2 x2, Iv0 (n + 1) A2 I2 x2 → law_G xs (1811, [some (.ref (am_RO + 15)), some (.ref 0), some (.ref 85), some (.int (Int32.ofNat i))], [], hp A2 I2 x2)) : law_G xs (994, [some (.ref (am_RO + 15)), some (.ref 0), some (.ref 85), some (.int (Int32.ofNat i))], [], hp A I x) := by
  obtain ⟨v, A1, I1, x1, A2, I2, x2, h1, h2, h3⟩ := op_quarrels xs hI (g xs (i + 1))
  obtain ⟨hz, kz, bz⟩ := K _ _ _ h3
  refine ⟨hz, ?_, bz⟩
  refine am_Ev.go 5 rfl ?_
  refine am_Ev.step (law_rd (k := i + 1) rfl i_addr ⟨by omega, hL⟩) ?_
  refine am_Ev.callv rfl h1 ?_
  refine am_Ev.go 5 rfl ?_
  refine am_Ev.step (law_rd (k := i + 1) rfl i_addr ⟨by omega, hL⟩) ?_
  refine am_Ev.callv rfl h2 ?_
  exact am_Ev.eq rfl (fun _ => kz) (fun q => absurd rfl q)
set_option maxRecDepth 100000 in
theorem law_22 {xs : List Int32} {i n : Nat} {A : Nat → List Int32} {I : Nat → Int32} {x : am_X} (hi : i + 6 ≤ xs.length) (hL : xs.length ≤ 3072) (hI : Iv0 n A I x) (K : ∀ A2 I2 x2, Iv0 (n + 1) A2 I2 x2 → law_G xs (1811, [some (.ref (am_RO + 15)), some (.ref 0), some (.ref 85), some (.int (Int32.ofNat i))], [], hp A2 I2 x2)) : law_G xs (1017, [some (.ref (am_RO + 15)), some (.ref 0), some (.ref 85), some (.int (Int32.ofNat i))], [], hp A I x) := by
  obtain ⟨v, A1, I1, x1, A2, I2, x2, h1, h2, h3⟩ := op_known xs hI (g xs (i + 1)) (g xs (i + 2))
  obtain ⟨hz, kz, bz⟩ := K _ _ _ h3
  refine ⟨hz, ?_, bz⟩
  refine am_Ev.go 5 rfl ?_
  refine am_Ev.step (law_rd (k := i + 1) rfl i_addr ⟨by omega, hL⟩) ?_
  refine am_Ev.go 4 rfl ?_
  refine am_Ev.step (law_rd (k := i + 2) rfl i_addr ⟨by omega, hL⟩) ?_
  refine am_Ev.callv rfl h1 ?_
  refine am_Ev.go 5 rfl ?_
  refine am_Ev.step (law_rd (k := i + 1) rfl i_addr ⟨by omega, hL⟩) ?_
  refine am_Ev.go 4 rfl ?_
  refine am_Ev.step (law_rd (k := i + 2) rfl i_addr ⟨by omega, hL⟩) ?_
  refine am_Ev.callv rfl h2 ?_
  exact am_Ev.eq rfl (fun _ => kz) (fun q => absurd rfl q)
set_option maxRecDepth 100000 in
theorem law_23 {xs : List Int32} {i n : Nat} {A : Nat → List Int32} {I : Nat → Int32} {x : am_X} (hi : i + 6 ≤ xs.length) (hL : xs.length ≤ 3072) (hI : Iv0 n A I x) (K : ∀ A2 I2 x2, Iv0 (n + 1) A2 I2 x2 → law_G xs (1811, [some (.ref (am_RO + 15)), some (.ref 0), some (.ref 85), some (.int (Int32.ofNat i))], [], hp A2 I2 x2)) : law_G xs (1050, [some (.ref (am_RO + 15)), some (.ref 0), some (.ref 85), some (.int (Int32.ofNat i))], [], hp A I x) := by
  obtain ⟨v, A1, I1, x1, A2, I2, x2, h1, h2, h3⟩ := op_crossed xs hI (g xs (i + 1)) (g xs (i + 2))
  obtain ⟨hz, kz, bz⟩ := K _ _ _ h3
  refine ⟨hz, ?_, bz⟩
  refine am_Ev.go 5 rfl ?_
  refine am_Ev.step (law_rd (k := i + 1) rfl i_addr ⟨by omega, hL⟩) ?_
  refine am_Ev.go 4 rfl ?_
  refine am_Ev.step (law_rd (k := i + 2) rfl i_addr ⟨by omega, hL⟩) ?_
  refine am_Ev.callv rfl h1 ?_
  refine am_Ev.go 5 rfl ?_
  refine am_Ev.step (law_rd (k := i + 1) rfl i_addr ⟨by omega, hL⟩) ?_
  refine am_Ev.go 4 rfl ?_
  refine am_Ev.step (law_rd (k := i + 2) rfl i_addr ⟨by omega, hL⟩) ?_
  refine am_Ev.callv rfl h2 ?_
  exact am_Ev.eq rfl (fun _ => kz) (fun q => absurd rfl q)
set_option maxRecDepth 100000 in
theorem law_24 {xs : List Int32} {i n : Nat} {A : Nat → List Int32} {I : Nat → Int32} {x : am_X} (hi : i + 6 ≤ xs.length) (hL : xs.length ≤ 3072) (hI : Iv0 n A I x) (K : ∀ A2 I2 x2, Iv0 (n + 1) A2 I2 x2 → law_G xs (1811, [some (.ref (am_RO + 15)), some (.ref 0), some (.ref 85), some (.int (Int32.ofNat i))], [], hp A2 I2 x2)) : law_G xs (1083, [some (.ref (am_RO + 15)), some (.ref 0), some (.ref 85), some (.int (Int32.ofNat i))], [], hp A I x) := by
  obtain ⟨v, A1, I1, x1, A2, I2, x2, h1, h2, h3⟩ := op_pay xs hI (g xs (i + 1)) (g xs (i + 2)) (g xs (i + 3)) (g xs (i + 4))
  obtain ⟨hz, kz, bz⟩ := K _ _ _ h3
  refine ⟨hz, ?_, bz⟩
  refine am_Ev.go 5 rfl ?_
  refine am_Ev.step (law_rd (k := i + 1) rfl i_addr ⟨by omega, hL⟩) ?_
  refine am_Ev.go 4 rfl ?_
  refine am_Ev.step (law_rd (k := i + 2) rfl i_addr ⟨by omega, hL⟩) ?_
  refine am_Ev.go 4 rfl ?_
  refine am_Ev.step (law_rd (k := i + 3) rfl i_addr ⟨by omega, hL⟩) ?_
  refine am_Ev.go 4 rfl ?_
  refine am_Ev.step (law_rd (k := i + 4) rfl i_addr ⟨by omega, hL⟩) ?_
  refine am_Ev.callv rfl h1 ?_
  refine am_Ev.go 5 rfl ?_
  refine am_Ev.step (law_rd (k := i + 1) rfl i_addr ⟨by omega, hL⟩) ?_
  refine am_Ev.go 4 rfl ?_
  refine am_Ev.step (law_rd (k := i + 2) rfl i_addr ⟨by omega, hL⟩) ?_
  refine am_Ev.go 4 rfl ?_
  refine am_Ev.step (law_rd (k := i + 3) rfl i_addr ⟨by omega, hL⟩) ?_
  refine am_Ev.go 4 rfl ?_
  refine am_Ev.step (law_rd (k := i + 4) rfl i_addr ⟨by omega, hL⟩) ?_
  refine am_Ev.callv rfl h2 ?_
  exact am_Ev.eq rfl (fun _ => kz) (fun q => absurd rfl q)
set_option maxRecDepth 100000 in
theorem law_25 {xs : List Int32} {i n : Nat} {A : Nat → List Int32} {I : Nat → Int32} {x : am_X} (hi : i + 6 ≤ xs.length) (hL : xs.length ≤ 3072) (hI : Iv0 n A I x) (K : ∀ A2 I2 x2, Iv0 (n + 1) A2 I2 x2 → law_G xs (1811, [some (.ref (am_RO + 15)), some (.ref 0), some (.ref 85), some (.int (Int32.ofNat i))], [], hp A2 I2 x2)) : law_G xs (1136, [some (.ref (am_RO + 15)), some (.ref 0), some (.ref 85), some (.int (Int32.ofNat i))], [], hp A I x) := by
  obtain ⟨v, A1, I1, x1, A2, I2, x2, h1, h2, h3⟩ := op_owed xs hI (g xs (i + 1)) (g xs (i + 2))
  obtain ⟨hz, kz, bz⟩ := K _ _ _ h3
  refine ⟨hz, ?_, bz⟩
  refine am_Ev.go 5 rfl ?_
  refine am_Ev.step (law_rd (k := i + 1) rfl i_addr ⟨by omega, hL⟩) ?_
  refine am_Ev.go 4 rfl ?_
  refine am_Ev.step (law_rd (k := i + 2) rfl i_addr ⟨by omega, hL⟩) ?_
  refine am_Ev.callv rfl h1 ?_
  refine am_Ev.go 5 rfl ?_
  refine am_Ev.step (law_rd (k := i + 1) rfl i_addr ⟨by omega, hL⟩) ?_
  refine am_Ev.go 4 rfl ?_
  refine am_Ev.step (law_rd (k := i + 2) rfl i_addr ⟨by omega, hL⟩) ?_
  refine am_Ev.callv rfl h2 ?_
  refine am_Ev.go 1 rfl ?_
  rw [lg_cmp_self]
  exact am_Ev.eq rfl (fun _ => kz) (fun q => absurd rfl q)
set_option maxRecDepth 100000 in
theorem law_26 {xs : List Int32} {i n : Nat} {A : Nat → List Int32} {I : Nat → Int32} {x : am_X} (hi : i + 6 ≤ xs.length) (hL : xs.length ≤ 3072) (hI : Iv0 n A I x) (K : ∀ A2 I2 x2, Iv0 (n + 1) A2 I2 x2 → law_G xs (1811, [some (.ref (am_RO + 15)), some (.ref 0), some (.ref 85), some (.int (Int32.ofNat i))], [], hp A2 I2 x2)) : law_G xs (1170, [some (.ref (am_RO + 15)), some (.ref 0), some (.ref 85), some (.int (Int32.ofNat i))], [], hp A I x) := by
  obtain ⟨v, A1, I1, x1, A2, I2, x2, h1, h2, h3⟩ := op_elector xs hI (g xs (i + 1)) (g xs (i + 2))
  obtain ⟨hz, kz, bz⟩ := K _ _ _ h3
  refine ⟨hz, ?_, bz⟩
  refine am_Ev.go 5 rfl ?_
  refine am_Ev.step (law_rd (k := i + 1) rfl i_addr ⟨by omega, hL⟩) ?_
  refine am_Ev.go 4 rfl ?_
  refine am_Ev.step (law_rd (k := i + 2) rfl i_addr ⟨by omega, hL⟩) ?_
  refine am_Ev.callv rfl h1 ?_
  refine am_Ev.go 5 rfl ?_
  refine am_Ev.step (law_rd (k := i + 1) rfl i_addr ⟨by omega, hL⟩) ?_
  refine am_Ev.go 4 rfl ?_
  refine am_Ev.step (law_rd (k := i + 2) rfl i_addr ⟨by omega, hL⟩) ?_
  refine am_Ev.callv rfl h2 ?_
  exact am_Ev.eq rfl (fun _ => kz) (fun q => absurd rfl q)
set_option maxRecDepth 100000 in
theorem law_27 {xs : List Int32} {i n : Nat} {A : Nat → List Int32} {I : Nat → Int32} {x : am_X} (hi : i + 6 ≤ xs.length) (hL : xs.length ≤ 3072) (hI : Iv0 n A I x) (K : ∀ A2 I2 x2, Iv0 (n + 1) A2 I2 x2 → law_G xs (1811, [some (.ref (am_RO + 15)), some (.ref 0), some (.ref 85), some (.int (Int32.ofNat i))], [], hp A2 I2 x2)) : law_G xs (1203, [some (.ref (am_RO + 15)), some (.ref 0), some (.ref 85), some (.int (Int32.ofNat i))], [], hp A I x) := by
  obtain ⟨v, A1, I1, x1, A2, I2, x2, h1, h2, h3⟩ := op_clash xs hI (g xs (i + 1)) (g xs (i + 2))
  obtain ⟨hz, kz, bz⟩ := K _ _ _ h3
  refine ⟨hz, ?_, bz⟩
  refine am_Ev.go 5 rfl ?_
  refine am_Ev.step (law_rd (k := i + 1) rfl i_addr ⟨by omega, hL⟩) ?_
  refine am_Ev.go 4 rfl ?_
  refine am_Ev.step (law_rd (k := i + 2) rfl i_addr ⟨by omega, hL⟩) ?_
  refine am_Ev.callv rfl h1 ?_
  refine am_Ev.go 5 rfl ?_
  refine am_Ev.step (law_rd (k := i + 1) rfl i_addr ⟨by omega, hL⟩) ?_
  refine am_Ev.go 4 rfl ?_
  refine am_Ev.step (law_rd (k := i + 2) rfl i_addr ⟨by omega, hL⟩) ?_
  refine am_Ev.callv rfl h2 ?_
  exact am_Ev.eq rfl (fun _ => kz) (fun q => absurd rfl q)
set_option maxRecDepth 100000 in
theorem law_28 {xs : List Int32} {i n : Nat} {A : Nat → List Int32} {I : Nat → Int32} {x : am_X} (hi : i + 6 ≤ xs.length) (hL : xs.length ≤ 3072) (hI : Iv0 n A I x) (K : ∀ A2 I2 x2, Iv0 (n + 1) A2 I2 x2 → law_G xs (1811, [some (.ref (am_RO + 15)), some (.ref 0), some (.ref 85), some (.int (Int32.ofNat i))], [], hp A2 I2 x2)) : law_G xs (1236, [some (.ref (am_RO + 15)), some (.ref 0), some (.ref 85), some (.int (Int32.ofNat i))], [], hp A I x) := by
  obtain ⟨v, A1, I1, x1, A2, I2, x2, h1, h2, h3⟩ := op_bought xs hI (g xs (i + 1))
  obtain ⟨hz, kz, bz⟩ := K _ _ _ h3
  refine ⟨hz, ?_, bz⟩
  refine am_Ev.go 5 rfl ?_
  refine am_Ev.step (law_rd (k := i + 1) rfl i_addr ⟨by omega, hL⟩) ?_
  refine am_Ev.callv rfl h1 ?_
  refine am_Ev.go 5 rfl ?_
  refine am_Ev.step (law_rd (k := i + 1) rfl i_addr ⟨by omega, hL⟩) ?_
  refine am_Ev.callv rfl h2 ?_
  exact am_Ev.eq rfl (fun _ => kz) (fun q => absurd rfl q)
set_option maxRecDepth 100000 in
theorem law_29 {xs : List Int32} {i n : Nat} {A : Nat → List Int32} {I : Nat → Int32} {x : am_X} (hi : i + 6 ≤ xs.length) (hL : xs.length ≤ 3072) (hI : Iv0 n A I x) (K : ∀ A2 I2 x2, Iv0 (n + 1) A2 I2 x2 → law_G xs (1811, [some (.ref (am_RO + 15)), some (.ref 0), some (.ref 85), some (.int (Int32.ofNat i))], [], hp A2 I2 x2)) : law_G xs (1259, [some (.ref (am_RO + 15)), some (.ref 0), some (.ref 85), some (.int (Int32.ofNat i))], [], hp A I x) := by
  obtain ⟨v, A1, I1, x1, A2, I2, x2, h1, h2, h3⟩ := op_seats xs hI (g xs (i + 1)) (g xs (i + 2))
  obtain ⟨hz, kz, bz⟩ := K _ _ _ h3
  refine ⟨hz, ?_, bz⟩
  refine am_Ev.go 5 rfl ?_
  refine am_Ev.step (law_rd (k := i + 1) rfl i_addr ⟨by omega, hL⟩) ?_
  refine am_Ev.go 4 rfl ?_
  refine am_Ev.step (law_rd (k := i + 2) rfl i_addr ⟨by omega, hL⟩) ?_
  refine am_Ev.callv rfl h1 ?_
  refine am_Ev.go 5 rfl ?_
  refine am_Ev.step (law_rd (k := i + 1) rfl i_addr ⟨by omega, hL⟩) ?_
  refine am_Ev.go 4 rfl ?_
  refine am_Ev.step (law_rd (k := i + 2) rfl i_addr ⟨by omega, hL⟩) ?_
  refine am_Ev.callv rfl h2 ?_
  exact am_Ev.eq rfl (fun _ => kz) (fun q => absurd rfl q)
set_option maxRecDepth 100000 in
theorem law_30 {xs : List Int32} {i n : Nat} {A : Nat → List Int32} {I : Nat → Int32} {x : am_X} (hi : i + 6 ≤ xs.length) (hL : xs.length ≤ 3072) (hI : Iv0 n A I x) (K : ∀ A2 I2 x2, Iv0 (n + 1) A2 I2 x2 → law_G xs (1811, [some (.ref (am_RO + 15)), some (.ref 0), some (.ref 85), some (.int (Int32.ofNat i))], [], hp A2 I2 x2)) : law_G xs (1292, [some (.ref (am_RO + 15)), some (.ref 0), some (.ref 85), some (.int (Int32.ofNat i))], [], hp A I x) := by
  obtain ⟨v, A1, I1, x1, A2, I2, x2, h1, h2, h3⟩ := op_council xs hI (g xs (i + 1)) (g xs (i + 2)) (g xs (i + 3)) (g xs (i + 4))
  obtain ⟨hz, kz, bz⟩ := K _ _ _ h3
  refine ⟨hz, ?_, bz⟩
  refine am_Ev.go 5 rfl ?_
  refine am_Ev.step (law_rd (k := i + 1) rfl i_addr ⟨by omega, hL⟩) ?_
  refine am_Ev.go 4 rfl ?_
  refine am_Ev.step (law_rd (k := i + 2) rfl i_addr ⟨by omega, hL⟩) ?_
  refine am_Ev.go 4 rfl ?_
  refine am_Ev.step (law_rd (k := i + 3) rfl i_addr ⟨by omega, hL⟩) ?_
  refine am_Ev.go 4 rfl ?_
  refine am_Ev.step (law_rd (k := i + 4) rfl i_addr ⟨by omega, hL⟩) ?_
  refine am_Ev.callv rfl h1 ?_
  refine am_Ev.go 5 rfl ?_
  refine am_Ev.step (law_rd (k := i + 1) rfl i_addr ⟨by omega, hL⟩) ?_
  refine am_Ev.go 4 rfl ?_
  refine am_Ev.step (law_rd (k := i + 2) rfl i_addr ⟨by omega, hL⟩) ?_
  refine am_Ev.go 4 rfl ?_
  refine am_Ev.step (law_rd (k := i + 3) rfl i_addr ⟨by omega, hL⟩) ?_
  refine am_Ev.go 4 rfl ?_
  refine am_Ev.step (law_rd (k := i + 4) rfl i_addr ⟨by omega, hL⟩) ?_
  refine am_Ev.callv rfl h2 ?_
  exact am_Ev.eq rfl (fun _ => kz) (fun q => absurd rfl q)
set_option maxRecDepth 100000 in
theorem law_31 {xs : List Int32} {i n : Nat} {A : Nat → List Int32} {I : Nat → Int32} {x : am_X} (hi : i + 6 ≤ xs.length) (hL : xs.length ≤ 3072) (hI : Iv0 n A I x) (K : ∀ A2 I2 x2, Iv0 (n + 1) A2 I2 x2 → law_G xs (1811, [some (.ref (am_RO + 15)), some (.ref 0), some (.ref 85), some (.int (Int32.ofNat i))], [], hp A2 I2 x2)) : law_G xs (1345, [some (.ref (am_RO + 15)), some (.ref 0), some (.ref 85), some (.int (Int32.ofNat i))], [], hp A I x) := by
  obtain ⟨v, A1, I1, x1, A2, I2, x2, h1, h2, h3⟩ := op_clause xs hI (g xs (i + 1))
  obtain ⟨hz, kz, bz⟩ := K _ _ _ h3
  refine ⟨hz, ?_, bz⟩
  refine am_Ev.go 5 rfl ?_
  refine am_Ev.step (law_rd (k := i + 1) rfl i_addr ⟨by omega, hL⟩) ?_
  refine am_Ev.callv rfl h1 ?_
  refine am_Ev.go 5 rfl ?_
  refine am_Ev.step (law_rd (k := i + 1) rfl i_addr ⟨by omega, hL⟩) ?_
  refine am_Ev.callv rfl h2 ?_
  exact am_Ev.eq rfl (fun _ => kz) (fun q => absurd rfl q)
set_option maxRecDepth 100000 in
theorem law_32 {xs : List Int32} {i n : Nat} {A : Nat → List Int32} {I : Nat → Int32} {x : am_X} (hi : i + 6 ≤ xs.length) (hL : xs.length ≤ 3072) (hI : Iv0 n A I x) (K : ∀ A2 I2 x2, Iv0 (n + 1) A2 I2 x2 → law_G xs (1811, [some (.ref (am_RO + 15)), some (.ref 0), some (.ref 85), some (.int (Int32.ofNat i))], [], hp A2 I2 x2)) : law_G xs (1368, [some (.ref (am_RO + 15)), some (.ref 0), some (.ref 85), some (.int (Int32.ofNat i))], [], hp A I x) := by
  obtain ⟨v, A1, I1, x1, A2, I2, x2, h1, h2, h3⟩ := op_worth xs hI (g xs (i + 1)) (g xs (i + 2)) (g xs (i + 3))
  obtain ⟨hz, kz, bz⟩ := K _ _ _ h3
  refine ⟨hz, ?_, bz⟩
  refine am_Ev.go 5 rfl ?_
  refine am_Ev.step (law_rd (k := i + 1) rfl i_addr ⟨by omega, hL⟩) ?_
  refine am_Ev.go 4 rfl ?_
  refine am_Ev.step (law_rd (k := i + 2) rfl i_addr ⟨by omega, hL⟩) ?_
  refine am_Ev.go 4 rfl ?_
  refine am_Ev.step (law_rd (k := i + 3) rfl i_addr ⟨by omega, hL⟩) ?_
  refine am_Ev.callv rfl h1 ?_
  refine am_Ev.go 5 rfl ?_
  refine am_Ev.step (law_rd (k := i + 1) rfl i_addr ⟨by omega, hL⟩) ?_
  refine am_Ev.go 4 rfl ?_
  refine am_Ev.step (law_rd (k := i + 2) rfl i_addr ⟨by omega, hL⟩) ?_
  refine am_Ev.go 4 rfl ?_
  refine am_Ev.step (law_rd (k := i + 3) rfl i_addr ⟨by omega, hL⟩) ?_
  refine am_Ev.callv rfl h2 ?_
  exact am_Ev.eq rfl (fun _ => kz) (fun q => absurd rfl q)
set_option maxRecDepth 100000 in
theorem law_33 {xs : List Int32} {i n : Nat} {A : Nat → List Int32} {I : Nat → Int32} {x : am_X} (hi : i + 6 ≤ xs.length) (hL : xs.length ≤ 3072) (hI : Iv0 n A I x) (K : ∀ A2 I2 x2, Iv0 (n + 1) A2 I2 x2 → law_G xs (1811, [some (.ref (am_RO + 15)), some (.ref 0), some (.ref 85), some (.int (Int32.ofNat i))], [], hp A2 I2 x2)) : law_G xs (1411, [some (.ref (am_RO + 15)), some (.ref 0), some (.ref 85), some (.int (Int32.ofNat i))], [], hp A I x) := by
  obtain ⟨v, A1, I1, x1, A2, I2, x2, h1, h2, h3⟩ := op_against xs hI (g xs (i + 1)) (g xs (i + 2))
  obtain ⟨hz, kz, bz⟩ := K _ _ _ h3
  refine ⟨hz, ?_, bz⟩
  refine am_Ev.go 5 rfl ?_
  refine am_Ev.step (law_rd (k := i + 1) rfl i_addr ⟨by omega, hL⟩) ?_
  refine am_Ev.go 4 rfl ?_
  refine am_Ev.step (law_rd (k := i + 2) rfl i_addr ⟨by omega, hL⟩) ?_
  refine am_Ev.callv rfl h1 ?_
  refine am_Ev.go 5 rfl ?_
  refine am_Ev.step (law_rd (k := i + 1) rfl i_addr ⟨by omega, hL⟩) ?_
  refine am_Ev.go 4 rfl ?_
  refine am_Ev.step (law_rd (k := i + 2) rfl i_addr ⟨by omega, hL⟩) ?_
  refine am_Ev.callv rfl h2 ?_
  exact am_Ev.eq rfl (fun _ => kz) (fun q => absurd rfl q)
set_option maxRecDepth 100000 in
theorem law_34 {xs : List Int32} {i n : Nat} {A : Nat → List Int32} {I : Nat → Int32} {x : am_X} (hi : i + 6 ≤ xs.length) (hL : xs.length ≤ 3072) (hI : Iv0 n A I x) (K : ∀ A2 I2 x2, Iv0 (n + 1) A2 I2 x2 → law_G xs (1811, [some (.ref (am_RO + 15)), some (.ref 0), some (.ref 85), some (.int (Int32.ofNat i))], [], hp A2 I2 x2)) : law_G xs (1444, [some (.ref (am_RO + 15)), some (.ref 0), some (.ref 85), some (.int (Int32.ofNat i))], [], hp A I x) := by
  obtain ⟨v, A1, I1, x1, A2, I2, x2, h1, h2, h3⟩ := op_settling xs hI (g xs (i + 1)) (g xs (i + 2))
  obtain ⟨hz, kz, bz⟩ := K _ _ _ h3
  refine ⟨hz, ?_, bz⟩
  refine am_Ev.go 5 rfl ?_
  refine am_Ev.step (law_rd (k := i + 1) rfl i_addr ⟨by omega, hL⟩) ?_
  refine am_Ev.go 4 rfl ?_
  refine am_Ev.step (law_rd (k := i + 2) rfl i_addr ⟨by omega, hL⟩) ?_
  refine am_Ev.callv rfl h1 ?_
  refine am_Ev.go 5 rfl ?_
  refine am_Ev.step (law_rd (k := i + 1) rfl i_addr ⟨by omega, hL⟩) ?_
  refine am_Ev.go 4 rfl ?_
  refine am_Ev.step (law_rd (k := i + 2) rfl i_addr ⟨by omega, hL⟩) ?_
  refine am_Ev.callv rfl h2 ?_
  exact am_Ev.eq rfl (fun _ => kz) (fun q => absurd rfl q)
set_option maxRecDepth 100000 in
theorem law_35 {xs : List Int32} {i n : Nat} {A : Nat → List Int32} {I : Nat → Int32} {x : am_X} (hi : i + 6 ≤ xs.length) (hL : xs.length ≤ 3072) (hI : Iv0 n A I x) (K : ∀ A2 I2 x2, Iv0 (n + 1) A2 I2 x2 → law_G xs (1811, [some (.ref (am_RO + 15)), some (.ref 0), some (.ref 85), some (.int (Int32.ofNat i))], [], hp A2 I2 x2)) : law_G xs (1477, [some (.ref (am_RO + 15)), some (.ref 0), some (.ref 85), some (.int (Int32.ofNat i))], [], hp A I x) := by
  obtain ⟨v, A1, I1, x1, A2, I2, x2, h1, h2, h3⟩ := op_bound xs hI (g xs (i + 1)) (g xs (i + 2))
  obtain ⟨hz, kz, bz⟩ := K _ _ _ h3
  refine ⟨hz, ?_, bz⟩
  refine am_Ev.go 5 rfl ?_
  refine am_Ev.step (law_rd (k := i + 1) rfl i_addr ⟨by omega, hL⟩) ?_
  refine am_Ev.go 4 rfl ?_
  refine am_Ev.step (law_rd (k := i + 2) rfl i_addr ⟨by omega, hL⟩) ?_
  refine am_Ev.callv rfl h1 ?_
  refine am_Ev.go 5 rfl ?_
  refine am_Ev.step (law_rd (k := i + 1) rfl i_addr ⟨by omega, hL⟩) ?_
  refine am_Ev.go 4 rfl ?_
  refine am_Ev.step (law_rd (k := i + 2) rfl i_addr ⟨by omega, hL⟩) ?_
  refine am_Ev.callv rfl h2 ?_
  exact am_Ev.eq rfl (fun _ => kz) (fun q => absurd rfl q)
set_option maxRecDepth 100000 in
theorem law_36 {xs : List Int32} {i n : Nat} {A : Nat → List Int32} {I : Nat → Int32} {x : am_X} (hi : i + 6 ≤ xs.length) (hL : xs.length ≤ 3072) (hI : Iv0 n A I x) (K : ∀ A2 I2 x2, Iv0 (n + 1) A2 I2 x2 → law_G xs (1811, [some (.ref (am_RO + 15)), some (.ref 0), some (.ref 85), some (.int (Int32.ofNat i))], [], hp A2 I2 x2)) : law_G xs (1510, [some (.ref (am_RO + 15)), some (.ref 0), some (.ref 85), some (.int (Int32.ofNat i))], [], hp A I x) := by
  obtain ⟨v, A1, I1, x1, A2, I2, x2, h1, h2, h3⟩ := op_journey xs hI (g xs (i + 1)) (g xs (i + 2)) (g xs (i + 3))
  obtain ⟨hz, kz, bz⟩ := K _ _ _ h3
  refine ⟨hz, ?_, bz⟩
  refine am_Ev.go 5 rfl ?_
  refine am_Ev.step (law_rd (k := i + 1) rfl i_addr ⟨by omega, hL⟩) ?_
  refine am_Ev.go 4 rfl ?_
  refine am_Ev.step (law_rd (k := i + 2) rfl i_addr ⟨by omega, hL⟩) ?_
  refine am_Ev.go 4 rfl ?_
  refine am_Ev.step (law_rd (k := i + 3) rfl i_addr ⟨by omega, hL⟩) ?_
  refine am_Ev.callv rfl h1 ?_
  refine am_Ev.go 5 rfl ?_
  refine am_Ev.step (law_rd (k := i + 1) rfl i_addr ⟨by omega, hL⟩) ?_
  refine am_Ev.go 4 rfl ?_
  refine am_Ev.step (law_rd (k := i + 2) rfl i_addr ⟨by omega, hL⟩) ?_
  refine am_Ev.go 4 rfl ?_
  refine am_Ev.step (law_rd (k := i + 3) rfl i_addr ⟨by omega, hL⟩) ?_
  refine am_Ev.callv rfl h2 ?_
  exact am_Ev.eq rfl (fun _ => kz) (fun q => absurd rfl q)
set_option maxRecDepth 100000 in
theorem law_37 {xs : List Int32} {i n : Nat} {A : Nat → List Int32} {I : Nat → Int32} {x : am_X} (hi : i + 6 ≤ xs.length) (hL : xs.length ≤ 3072) (hI : Iv0 n A I x) (K : ∀ A2 I2 x2, Iv0 (n + 1) A2 I2 x2 → law_G xs (1811, [some (.ref (am_RO + 15)), some (.ref 0), some (.ref 85), some (.int (Int32.ofNat i))], [], hp A2 I2 x2)) : law_G xs (1553, [some (.ref (am_RO + 15)), some (.ref 0), some (.ref 85), some (.int (Int32.ofNat i))], [], hp A I x) := by
  obtain ⟨v, A1, I1, x1, A2, I2, x2, h1, h2, h3⟩ := op_count xs hI (g xs (i + 1))
  obtain ⟨hz, kz, bz⟩ := K _ _ _ h3
  refine ⟨hz, ?_, bz⟩
  refine am_Ev.go 5 rfl ?_
  refine am_Ev.step (law_rd (k := i + 1) rfl i_addr ⟨by omega, hL⟩) ?_
  refine am_Ev.callv rfl h1 ?_
  refine am_Ev.go 5 rfl ?_
  refine am_Ev.step (law_rd (k := i + 1) rfl i_addr ⟨by omega, hL⟩) ?_
  refine am_Ev.callv rfl h2 ?_
  exact am_Ev.eq rfl (fun _ => kz) (fun q => absurd rfl q)
set_option maxRecDepth 100000 in
theorem law_38 {xs : List Int32} {i n : Nat} {A : Nat → List Int32} {I : Nat → Int32} {x : am_X} (hi : i + 6 ≤ xs.length) (hL : xs.length ≤ 3072) (hI : Iv0 n A I x) (K : ∀ A2 I2 x2, Iv0 (n + 1) A2 I2 x2 → law_G xs (1811, [some (.ref (am_RO + 15)), some (.ref 0), some (.ref 85), some (.int (Int32.ofNat i))], [], hp A2 I2 x2)) : law_G xs (1576, [some (.ref (am_RO + 15)), some (.ref 0), some (.ref 85), some (.int (Int32.ofNat i))], [], hp A I x) := by
  obtain ⟨v, A1, I1, x1, A2, I2, x2, h1, h2, h3⟩ := op_sheet xs hI (g xs (i + 1)) (g xs (i + 2)) (g xs (i + 3))
  obtain ⟨hz, kz, bz⟩ := K _ _ _ h3
  refine ⟨hz, ?_, bz⟩
  refine am_Ev.go 5 rfl ?_
  refine am_Ev.step (law_rd (k := i + 1) rfl i_addr ⟨by omega, hL⟩) ?_
  refine am_Ev.go 4 rfl ?_
  refine am_Ev.step (law_rd (k := i + 2) rfl i_addr ⟨by omega, hL⟩) ?_
  refine am_Ev.go 4 rfl ?_
  refine am_Ev.step (law_rd (k := i + 3) rfl i_addr ⟨by omega, hL⟩) ?_
  refine am_Ev.callv rfl h1 ?_
  refine am_Ev.go 5 rfl ?_
  refine am_Ev.step (law_rd (k := i + 1) rfl i_addr ⟨by omega, hL⟩) ?_
  refine am_Ev.go 4 rfl ?_
  refine am_Ev.step (law_rd (k := i + 2) rfl i_addr ⟨by omega, hL⟩) ?_
  refine am_Ev.go 4 rfl ?_
  refine am_Ev.step (law_rd (k := i + 3) rfl i_addr ⟨by omega, hL⟩) ?_
  refine am_Ev.callv rfl h2 ?_
  exact am_Ev.eq rfl (fun _ => kz) (fun q => absurd rfl q)
set_option maxRecDepth 100000 in
theorem law_39 {xs : List Int32} {i n : Nat} {A : Nat → List Int32} {I : Nat → Int32} {x : am_X} (hi : i + 6 ≤ xs.length) (hL : xs.length ≤ 3072) (hI : Iv0 n A I x) (K : ∀ A2 I2 x2, Iv0 (n + 1) A2 I2 x2 → law_G xs (1811, [some (.ref (am_RO + 15)), some (.ref 0), some (.ref 85), some (.int (Int32.ofNat i))], [], hp A2 I2 x2)) : law_G xs (1619, [some (.ref (am_RO + 15)), some (.ref 0), some (.ref 85), some (.int (Int32.ofNat i))], [], hp A I x) := by
  obtain ⟨v, A1, I1, x1, A2, I2, x2, h1, h2, h3⟩ := op_cell xs hI (g xs (i + 1)) (g xs (i + 2)) (g xs (i + 3))
  obtain ⟨hz, kz, bz⟩ := K _ _ _ h3
  refine ⟨hz, ?_, bz⟩
  refine am_Ev.go 5 rfl ?_
  refine am_Ev.step (law_rd (k := i + 1) rfl i_addr ⟨by omega, hL⟩) ?_
  refine am_Ev.go 4 rfl ?_
  refine am_Ev.step (law_rd (k := i + 2) rfl i_addr ⟨by omega, hL⟩) ?_
  refine am_Ev.go 4 rfl ?_
  refine am_Ev.step (law_rd (k := i + 3) rfl i_addr ⟨by omega, hL⟩) ?_
  refine am_Ev.callv rfl h1 ?_
  refine am_Ev.go 5 rfl ?_
  refine am_Ev.step (law_rd (k := i + 1) rfl i_addr ⟨by omega, hL⟩) ?_
  refine am_Ev.go 4 rfl ?_
  refine am_Ev.step (law_rd (k := i + 2) rfl i_addr ⟨by omega, hL⟩) ?_
  refine am_Ev.go 4 rfl ?_
  refine am_Ev.step (law_rd (k := i + 3) rfl i_addr ⟨by omega, hL⟩) ?_
  refine am_Ev.callv rfl h2 ?_
  exact am_Ev.eq rfl (fun _ => kz) (fun q => absurd rfl q)
set_option maxRecDepth 100000 in
theorem law_40 {xs : List Int32} {i n : Nat} {A : Nat → List Int32} {I : Nat → Int32} {x : am_X} (hi : i + 6 ≤ xs.length) (hL : xs.length ≤ 3072) (hI : Iv0 n A I x) (K : ∀ A2 I2 x2, Iv0 (n + 1) A2 I2 x2 → law_G xs (1811, [some (.ref (am_RO + 15)), some (.ref 0), some (.ref 85), some (.int (Int32.ofNat i))], [], hp A2 I2 x2)) : law_G xs (1662, [some (.ref (am_RO + 15)), some (.ref 0), some (.ref 85), some (.int (Int32.ofNat i))], [], hp A I x) := by
  obtain ⟨v, A1, I1, x1, A2, I2, x2, h1, h2, h3⟩ := op_copy xs hI (g xs (i + 1)) (g xs (i + 2)) (g xs (i + 3)) (g xs (i + 4)) (g xs (i + 5))
  obtain ⟨hz, kz, bz⟩ := K _ _ _ h3
  refine ⟨hz, ?_, bz⟩
  refine am_Ev.go 5 rfl ?_
  refine am_Ev.step (law_rd (k := i + 1) rfl i_addr ⟨by omega, hL⟩) ?_
  refine am_Ev.go 4 rfl ?_
  refine am_Ev.step (law_rd (k := i + 2) rfl i_addr ⟨by omega, hL⟩) ?_
  refine am_Ev.go 4 rfl ?_
  refine am_Ev.step (law_rd (k := i + 3) rfl i_addr ⟨by omega, hL⟩) ?_
  refine am_Ev.go 4 rfl ?_
  refine am_Ev.step (law_rd (k := i + 4) rfl i_addr ⟨by omega, hL⟩) ?_
  refine am_Ev.go 4 rfl ?_
  refine am_Ev.step (law_rd (k := i + 5) rfl i_addr ⟨by omega, hL⟩) ?_
  refine am_Ev.callv rfl h1 ?_
  refine am_Ev.go 5 rfl ?_
  refine am_Ev.step (law_rd (k := i + 1) rfl i_addr ⟨by omega, hL⟩) ?_
  refine am_Ev.go 4 rfl ?_
  refine am_Ev.step (law_rd (k := i + 2) rfl i_addr ⟨by omega, hL⟩) ?_
  refine am_Ev.go 4 rfl ?_
  refine am_Ev.step (law_rd (k := i + 3) rfl i_addr ⟨by omega, hL⟩) ?_
  refine am_Ev.go 4 rfl ?_
  refine am_Ev.step (law_rd (k := i + 4) rfl i_addr ⟨by omega, hL⟩) ?_
  refine am_Ev.go 4 rfl ?_
  refine am_Ev.step (law_rd (k := i + 5) rfl i_addr ⟨by omega, hL⟩) ?_
  refine am_Ev.callv rfl h2 ?_
  exact am_Ev.eq rfl (fun _ => kz) (fun q => absurd rfl q)
set_option maxRecDepth 100000 in
theorem law_41 {xs : List Int32} {i n : Nat} {A : Nat → List Int32} {I : Nat → Int32} {x : am_X} (hi : i + 6 ≤ xs.length) (hL : xs.length ≤ 3072) (hI : Iv0 n A I x) (K : ∀ A2 I2 x2, Iv0 (n + 1) A2 I2 x2 → law_G xs (1811, [some (.ref (am_RO + 15)), some (.ref 0), some (.ref 85), some (.int (Int32.ofNat i))], [], hp A2 I2 x2)) : law_G xs (1725, [some (.ref (am_RO + 15)), some (.ref 0), some (.ref 85), some (.int (Int32.ofNat i))], [], hp A I x) := by
  obtain ⟨v, A1, I1, x1, A2, I2, x2, h1, h2, h3⟩ := op_seatsRow xs hI (g xs (i + 1)) (g xs (i + 2)) (g xs (i + 3)) (g xs (i + 4))
  obtain ⟨hz, kz, bz⟩ := K _ _ _ h3
  refine ⟨hz, ?_, bz⟩
  refine am_Ev.go 5 rfl ?_
  refine am_Ev.step (law_rd (k := i + 1) rfl i_addr ⟨by omega, hL⟩) ?_
  refine am_Ev.go 4 rfl ?_
  refine am_Ev.step (law_rd (k := i + 2) rfl i_addr ⟨by omega, hL⟩) ?_
  refine am_Ev.go 4 rfl ?_
  refine am_Ev.step (law_rd (k := i + 3) rfl i_addr ⟨by omega, hL⟩) ?_
  refine am_Ev.go 4 rfl ?_
  refine am_Ev.step (law_rd (k := i + 4) rfl i_addr ⟨by omega, hL⟩) ?_
  refine am_Ev.callv rfl h1 ?_
  refine am_Ev.go 5 rfl ?_
  refine am_Ev.step (law_rd (k := i + 1) rfl i_addr ⟨by omega, hL⟩) ?_
  refine am_Ev.go 4 rfl ?_
  refine am_Ev.step (law_rd (k := i + 2) rfl i_addr ⟨by omega, hL⟩) ?_
  refine am_Ev.go 4 rfl ?_
  refine am_Ev.step (law_rd (k := i + 3) rfl i_addr ⟨by omega, hL⟩) ?_
  refine am_Ev.go 4 rfl ?_
  refine am_Ev.step (law_rd (k := i + 4) rfl i_addr ⟨by omega, hL⟩) ?_
  refine am_Ev.callv rfl h2 ?_
  exact am_Ev.eq rfl (fun _ => kz) (fun q => absurd rfl q)
set_option maxRecDepth 100000 in
theorem law_42 {xs : List Int32} {i n : Nat} {A : Nat → List Int32} {I : Nat → Int32} {x : am_X} (hi : i + 6 ≤ xs.length) (hL : xs.length ≤ 3072) (hI : Iv0 n A I x) (K : ∀ A2 I2 x2, Iv0 (n + 1) A2 I2 x2 → law_G xs (1811, [some (.ref (am_RO + 15)), some (.ref 0), some (.ref 85), some (.int (Int32.ofNat i))], [], hp A2 I2 x2)) : law_G xs (1778, [some (.ref (am_RO + 15)), some (.ref 0), some (.ref 85), some (.int (Int32.ofNat i))], [], hp A I x) := by
  obtain ⟨v, A1, I1, x1, A2, I2, x2, h1, h2, h3⟩ := op_taken xs hI (g xs (i + 1)) (g xs (i + 2))
  obtain ⟨hz, kz, bz⟩ := K _ _ _ h3
  refine ⟨hz, ?_, bz⟩
  refine am_Ev.go 5 rfl ?_
  refine am_Ev.step (law_rd (k := i + 1) rfl i_addr ⟨by omega, hL⟩) ?_
  refine am_Ev.go 4 rfl ?_
  refine am_Ev.step (law_rd (k := i + 2) rfl i_addr ⟨by omega, hL⟩) ?_
  refine am_Ev.callv rfl h1 ?_
  refine am_Ev.go 5 rfl ?_
  refine am_Ev.step (law_rd (k := i + 1) rfl i_addr ⟨by omega, hL⟩) ?_
  refine am_Ev.go 4 rfl ?_
  refine am_Ev.step (law_rd (k := i + 2) rfl i_addr ⟨by omega, hL⟩) ?_
  refine am_Ev.callv rfl h2 ?_
  exact am_Ev.eq rfl (fun _ => kz) (fun q => absurd rfl q)
theorem law_sw {v : Int32} (c : Int32) (P : Int32 → Prop) (kt : P c) (kf : ¬ v = c → P v) : P v := by
  by_cases e : v = c
  · rw [e]; exact kt
  · exact kf e
set_option maxRecDepth 100000 in
set_option maxHeartbeats 4000000 in
theorem law_body {xs : List Int32} {i n : Nat} {A : Nat → List Int32} {I : Nat → Int32} {x : am_X} (hn : n ≤ 512) (hi : i + 6 ≤ xs.length) (hL : xs.length ≤ 3072) (hI : Iv0 n A I x) (K : ∀ A2 I2 x2, Iv0 (n + 1) A2 I2 x2 → law_G xs (1811, [some (.ref (am_RO + 15)), some (.ref 0), some (.ref 85), some (.int (Int32.ofNat i))], [], hp A2 I2 x2)) : law_G xs (27, [some (.ref (am_RO + 15)), some (.ref 0), some (.ref 85), some (.int (Int32.ofNat i))], [], hp A I x) := by
  refine law_G.go 2 rfl ?_
  refine law_G.step (law_rd (k := i) rfl rfl ⟨by omega, hL⟩) ?_
  refine law_G.go (cf' := (33, [some (.ref (am_RO + 15)), some (.ref 0), some (.ref 85), some (.int (Int32.ofNat i))], [.int (g xs i &&& 63)], hp A I x)) 2 rfl ?_
  refine law_sw 0 (fun v => law_G xs (33, [some (.ref (am_RO + 15)), some (.ref 0), some (.ref 85), some (.int (Int32.ofNat i))], [.int v], hp A I x)) ?_ (fun hs0 => ?_)
  · exact law_G.go 1 rfl (law_0 hi hL hI K)
  refine law_sw 1 (fun v => law_G xs (33, [some (.ref (am_RO + 15)), some (.ref 0), some (.ref 85), some (.int (Int32.ofNat i))], [.int v], hp A I x)) ?_ (fun hs1 => ?_)
  · exact law_G.go 1 rfl (law_1 hi hL hI K)
  refine law_sw 2 (fun v => law_G xs (33, [some (.ref (am_RO + 15)), some (.ref 0), some (.ref 85), some (.int (Int32.ofNat i))], [.int v], hp A I x)) ?_ (fun hs2 => ?_)
  · exact law_G.go 1 rfl (law_2 hi hL hI K)
  refine law_sw 3 (fun v => law_G xs (33, [some (.ref (am_RO + 15)), some (.ref 0), some (.ref 85), some (.int (Int32.ofNat i))], [.int v], hp A I x)) ?_ (fun hs3 => ?_)
  · exact law_G.go 1 rfl (law_3 hi hL hI K)
  refine law_sw 4 (fun v => law_G xs (33, [some (.ref (am_RO + 15)), some (.ref 0), some (.ref 85), some (.int (Int32.ofNat i))], [.int v], hp A I x)) ?_ (fun hs4 => ?_)
  · exact law_G.go 1 rfl (law_4 hi hL hI K)
  refine law_sw 5 (fun v => law_G xs (33, [some (.ref (am_RO + 15)), some (.ref 0), some (.ref 85), some (.int (Int32.ofNat i))], [.int v], hp A I x)) ?_ (fun hs5 => ?_)
  · exact law_G.go 1 rfl (law_5 hi hL hI K)
  refine law_sw 6 (fun v => law_G xs (33, [some (.ref (am_RO + 15)), some (.ref 0), some (.ref 85), some (.int (Int32.ofNat i))], [.int v], hp A I x)) ?_ (fun hs6 => ?_)
  · exact law_G.go 1 rfl (law_6 hi hL hI K)
  refine law_sw 7 (fun v => law_G xs (33, [some (.ref (am_RO + 15)), some (.ref 0), some (.ref 85), some (.int (Int32.ofNat i))], [.int v], hp A I x)) ?_ (fun hs7 => ?_)
  · exact law_G.go 1 rfl (law_7 hi hL hI K)
  refine law_sw 8 (fun v => law_G xs (33, [some (.ref (am_RO + 15)), some (.ref 0), some (.ref 85), some (.int (Int32.ofNat i))], [.int v], hp A I x)) ?_ (fun hs8 => ?_)
  · exact law_G.go 1 rfl (law_8 hi hL hI K)
  refine law_sw 9 (fun v => law_G xs (33, [some (.ref (am_RO + 15)), some (.ref 0), some (.ref 85), some (.int (Int32.ofNat i))], [.int v], hp A I x)) ?_ (fun hs9 => ?_)
  · exact law_G.go 1 rfl (law_9 hi hL hI K)
  refine law_sw 10 (fun v => law_G xs (33, [some (.ref (am_RO + 15)), some (.ref 0), some (.ref 85), some (.int (Int32.ofNat i))], [.int v], hp A I x)) ?_ (fun hs10 => ?_)
  · exact law_G.go 1 rfl (law_10 hi hL hI K)
  refine law_sw 11 (fun v => law_G xs (33, [some (.ref (am_RO + 15)), some (.ref 0), some (.ref 85), some (.int (Int32.ofNat i))], [.int v], hp A I x)) ?_ (fun hs11 => ?_)
  · exact law_G.go 1 rfl (law_11 hi hL hI K)
  refine law_sw 12 (fun v => law_G xs (33, [some (.ref (am_RO + 15)), some (.ref 0), some (.ref 85), some (.int (Int32.ofNat i))], [.int v], hp A I x)) ?_ (fun hs12 => ?_)
  · exact law_G.go 1 rfl (law_12 hi hL hI K)
  refine law_sw 13 (fun v => law_G xs (33, [some (.ref (am_RO + 15)), some (.ref 0), some (.ref 85), some (.int (Int32.ofNat i))], [.int v], hp A I x)) ?_ (fun hs13 => ?_)
  · exact law_G.go 1 rfl (law_13 hi hL hI K)
  refine law_sw 14 (fun v => law_G xs (33, [some (.ref (am_RO + 15)), some (.ref 0), some (.ref 85), some (.int (Int32.ofNat i))], [.int v], hp A I x)) ?_ (fun hs14 => ?_)
  · exact law_G.go 1 rfl (law_14 hn hi hL hI K)
  refine law_sw 15 (fun v => law_G xs (33, [some (.ref (am_RO + 15)), some (.ref 0), some (.ref 85), some (.int (Int32.ofNat i))], [.int v], hp A I x)) ?_ (fun hs15 => ?_)
  · exact law_G.go 1 rfl (law_15 hi hL hI K)
  refine law_sw 16 (fun v => law_G xs (33, [some (.ref (am_RO + 15)), some (.ref 0), some (.ref 85), some (.int (Int32.ofNat i))], [.int v], hp A I x)) ?_ (fun hs16 => ?_)
  · exact law_G.go 1 rfl (law_16 hi hL hI K)
  refine law_sw 17 (fun v => law_G xs (33, [some (.ref (am_RO + 15)), some (.ref 0), some (.ref 85), some (.int (Int32.ofNat i))], [.int v], hp A I x)) ?_ (fun hs17 => ?_)
  · exact law_G.go 1 rfl (law_17 hi hL hI K)
  refine law_sw 18 (fun v => law_G xs (33, [some (.ref (am_RO + 15)), some (.ref 0), some (.ref 85), some (.int (Int32.ofNat i))], [.int v], hp A I x)) ?_ (fun hs18 => ?_)
  · exact law_G.go 1 rfl (law_18 hi hL hI K)
  refine law_sw 19 (fun v => law_G xs (33, [some (.ref (am_RO + 15)), some (.ref 0), some (.ref 85), some (.int (Int32.ofNat i))], [.int v], hp A I x)) ?_ (fun hs19 => ?_)
  · exact law_G.go 1 rfl (law_19 hi hL hI K)
  refine law_sw 20 (fun v => law_G xs (33, [some (.ref (am_RO + 15)), some (.ref 0), some (.ref 85), some (.int (Int32.ofNat i))], [.int v], hp A I x)) ?_ (fun hs20 => ?_)
  · exact law_G.go 1 rfl (law_20 hi hL hI K)
  refine law_sw 21 (fun v => law_G xs (33, [some (.ref (am_RO + 15)), some (.ref 0), some (.ref 85), some (.int (Int32.ofNat i))], [.int v], hp A I x)) ?_ (fun hs21 => ?_)
  · exact law_G.go 1 rfl (law_21 hi hL hI K)
  refine law_sw 22 (fun v => law_G xs (33, [some (.ref (am_RO + 15)), some (.ref 0), some (.ref 85), some (.int (Int32.ofNat i))], [.int v], hp A I x)) ?_ (fun hs22 => ?_)
  · exact law_G.go 1 rfl (law_22 hi hL hI K)
  refine law_sw 23 (fun v => law_G xs (33, [some (.ref (am_RO + 15)), some (.ref 0), some (.ref 85), some (.int (Int32.ofNat i))], [.int v], hp A I x)) ?_ (fun hs23 => ?_)
  · exact law_G.go 1 rfl (law_23 hi hL hI K)
  refine law_sw 24 (fun v => law_G xs (33, [some (.ref (am_RO + 15)), some (.ref 0), some (.ref 85), some (.int (Int32.ofNat i))], [.int v], hp A I x)) ?_ (fun hs24 => ?_)
  · exact law_G.go 1 rfl (law_24 hi hL hI K)
  refine law_sw 25 (fun v => law_G xs (33, [some (.ref (am_RO + 15)), some (.ref 0), some (.ref 85), some (.int (Int32.ofNat i))], [.int v], hp A I x)) ?_ (fun hs25 => ?_)
  · exact law_G.go 1 rfl (law_25 hi hL hI K)
  refine law_sw 26 (fun v => law_G xs (33, [some (.ref (am_RO + 15)), some (.ref 0), some (.ref 85), some (.int (Int32.ofNat i))], [.int v], hp A I x)) ?_ (fun hs26 => ?_)
  · exact law_G.go 1 rfl (law_26 hi hL hI K)
  refine law_sw 27 (fun v => law_G xs (33, [some (.ref (am_RO + 15)), some (.ref 0), some (.ref 85), some (.int (Int32.ofNat i))], [.int v], hp A I x)) ?_ (fun hs27 => ?_)
  · exact law_G.go 1 rfl (law_27 hi hL hI K)
  refine law_sw 28 (fun v => law_G xs (33, [some (.ref (am_RO + 15)), some (.ref 0), some (.ref 85), some (.int (Int32.ofNat i))], [.int v], hp A I x)) ?_ (fun hs28 => ?_)
  · exact law_G.go 1 rfl (law_28 hi hL hI K)
  refine law_sw 29 (fun v => law_G xs (33, [some (.ref (am_RO + 15)), some (.ref 0), some (.ref 85), some (.int (Int32.ofNat i))], [.int v], hp A I x)) ?_ (fun hs29 => ?_)
  · exact law_G.go 1 rfl (law_29 hi hL hI K)
  refine law_sw 30 (fun v => law_G xs (33, [some (.ref (am_RO + 15)), some (.ref 0), some (.ref 85), some (.int (Int32.ofNat i))], [.int v], hp A I x)) ?_ (fun hs30 => ?_)
  · exact law_G.go 1 rfl (law_30 hi hL hI K)
  refine law_sw 31 (fun v => law_G xs (33, [some (.ref (am_RO + 15)), some (.ref 0), some (.ref 85), some (.int (Int32.ofNat i))], [.int v], hp A I x)) ?_ (fun hs31 => ?_)
  · exact law_G.go 1 rfl (law_31 hi hL hI K)
  refine law_sw 32 (fun v => law_G xs (33, [some (.ref (am_RO + 15)), some (.ref 0), some (.ref 85), some (.int (Int32.ofNat i))], [.int v], hp A I x)) ?_ (fun hs32 => ?_)
  · exact law_G.go 1 rfl (law_32 hi hL hI K)
  refine law_sw 33 (fun v => law_G xs (33, [some (.ref (am_RO + 15)), some (.ref 0), some (.ref 85), some (.int (Int32.ofNat i))], [.int v], hp A I x)) ?_ (fun hs33 => ?_)
  · exact law_G.go 1 rfl (law_33 hi hL hI K)
  refine law_sw 34 (fun v => law_G xs (33, [some (.ref (am_RO + 15)), some (.ref 0), some (.ref 85), some (.int (Int32.ofNat i))], [.int v], hp A I x)) ?_ (fun hs34 => ?_)
  · exact law_G.go 1 rfl (law_34 hi hL hI K)
  refine law_sw 35 (fun v => law_G xs (33, [some (.ref (am_RO + 15)), some (.ref 0), some (.ref 85), some (.int (Int32.ofNat i))], [.int v], hp A I x)) ?_ (fun hs35 => ?_)
  · exact law_G.go 1 rfl (law_35 hi hL hI K)
  refine law_sw 36 (fun v => law_G xs (33, [some (.ref (am_RO + 15)), some (.ref 0), some (.ref 85), some (.int (Int32.ofNat i))], [.int v], hp A I x)) ?_ (fun hs36 => ?_)
  · exact law_G.go 1 rfl (law_36 hi hL hI K)
  refine law_sw 37 (fun v => law_G xs (33, [some (.ref (am_RO + 15)), some (.ref 0), some (.ref 85), some (.int (Int32.ofNat i))], [.int v], hp A I x)) ?_ (fun hs37 => ?_)
  · exact law_G.go 1 rfl (law_37 hi hL hI K)
  refine law_sw 38 (fun v => law_G xs (33, [some (.ref (am_RO + 15)), some (.ref 0), some (.ref 85), some (.int (Int32.ofNat i))], [.int v], hp A I x)) ?_ (fun hs38 => ?_)
  · exact law_G.go 1 rfl (law_38 hi hL hI K)
  refine law_sw 39 (fun v => law_G xs (33, [some (.ref (am_RO + 15)), some (.ref 0), some (.ref 85), some (.int (Int32.ofNat i))], [.int v], hp A I x)) ?_ (fun hs39 => ?_)
  · exact law_G.go 1 rfl (law_39 hi hL hI K)
  refine law_sw 40 (fun v => law_G xs (33, [some (.ref (am_RO + 15)), some (.ref 0), some (.ref 85), some (.int (Int32.ofNat i))], [.int v], hp A I x)) ?_ (fun hs40 => ?_)
  · exact law_G.go 1 rfl (law_40 hi hL hI K)
  refine law_sw 41 (fun v => law_G xs (33, [some (.ref (am_RO + 15)), some (.ref 0), some (.ref 85), some (.int (Int32.ofNat i))], [.int v], hp A I x)) ?_ (fun hs41 => ?_)
  · exact law_G.go 1 rfl (law_41 hi hL hI K)
  refine law_sw 42 (fun v => law_G xs (33, [some (.ref (am_RO + 15)), some (.ref 0), some (.ref 85), some (.int (Int32.ofNat i))], [.int v], hp A I x)) ?_ (fun hs42 => ?_)
  · exact law_G.go 1 rfl (law_42 hi hL hI K)
  · refine law_G.step (cf' := (1811, [some (.ref (am_RO + 15)), some (.ref 0), some (.ref 85), some (.int (Int32.ofNat i))], [], hp A I x)) ?_ (K _ _ _ (Iv0.mono hI))
    have hx : (g xs i &&& 63).toInt < 0 ∨ 42 < (g xs i &&& 63).toInt := am_out 0 42 (fun c h1 h2 q => by
      rcases (show c = 0 ∨ c = 1 ∨ c = 2 ∨ c = 3 ∨ c = 4 ∨ c = 5 ∨ c = 6 ∨ c = 7 ∨ c = 8 ∨ c = 9 ∨ c = 10 ∨ c = 11 ∨ c = 12 ∨ c = 13 ∨ c = 14 ∨ c = 15 ∨ c = 16 ∨ c = 17 ∨ c = 18 ∨ c = 19 ∨ c = 20 ∨ c = 21 ∨ c = 22 ∨ c = 23 ∨ c = 24 ∨ c = 25 ∨ c = 26 ∨ c = 27 ∨ c = 28 ∨ c = 29 ∨ c = 30 ∨ c = 31 ∨ c = 32 ∨ c = 33 ∨ c = 34 ∨ c = 35 ∨ c = 36 ∨ c = 37 ∨ c = 38 ∨ c = 39 ∨ c = 40 ∨ c = 41 ∨ c = 42 by omega) with rfl | rfl | rfl | rfl | rfl | rfl | rfl | rfl | rfl | rfl | rfl | rfl | rfl | rfl | rfl | rfl | rfl | rfl | rfl | rfl | rfl | rfl | rfl | rfl | rfl | rfl | rfl | rfl | rfl | rfl | rfl | rfl | rfl | rfl | rfl | rfl | rfl | rfl | rfl | rfl | rfl | rfl | rfl
      · exact hs0 (Int32.toInt_inj.mp (q.trans (by decide)))
      · exact hs1 (Int32.toInt_inj.mp (q.trans (by decide)))
      · exact hs2 (Int32.toInt_inj.mp (q.trans (by decide)))
      · exact hs3 (Int32.toInt_inj.mp (q.trans (by decide)))
      · exact hs4 (Int32.toInt_inj.mp (q.trans (by decide)))
      · exact hs5 (Int32.toInt_inj.mp (q.trans (by decide)))
      · exact hs6 (Int32.toInt_inj.mp (q.trans (by decide)))
      · exact hs7 (Int32.toInt_inj.mp (q.trans (by decide)))
      · exact hs8 (Int32.toInt_inj.mp (q.trans (by decide)))
      · exact hs9 (Int32.toInt_inj.mp (q.trans (by decide)))
      · exact hs10 (Int32.toInt_inj.mp (q.trans (by decide)))
      · exact hs11 (Int32.toInt_inj.mp (q.trans (by decide)))
      · exact hs12 (Int32.toInt_inj.mp (q.trans (by decide)))
      · exact hs13 (Int32.toInt_inj.mp (q.trans (by decide)))
      · exact hs14 (Int32.toInt_inj.mp (q.trans (by decide)))
      · exact hs15 (Int32.toInt_inj.mp (q.trans (by decide)))
      · exact hs16 (Int32.toInt_inj.mp (q.trans (by decide)))
      · exact hs17 (Int32.toInt_inj.mp (q.trans (by decide)))
      · exact hs18 (Int32.toInt_inj.mp (q.trans (by decide)))
      · exact hs19 (Int32.toInt_inj.mp (q.trans (by decide)))
      · exact hs20 (Int32.toInt_inj.mp (q.trans (by decide)))
      · exact hs21 (Int32.toInt_inj.mp (q.trans (by decide)))
      · exact hs22 (Int32.toInt_inj.mp (q.trans (by decide)))
      · exact hs23 (Int32.toInt_inj.mp (q.trans (by decide)))
      · exact hs24 (Int32.toInt_inj.mp (q.trans (by decide)))
      · exact hs25 (Int32.toInt_inj.mp (q.trans (by decide)))
      · exact hs26 (Int32.toInt_inj.mp (q.trans (by decide)))
      · exact hs27 (Int32.toInt_inj.mp (q.trans (by decide)))
      · exact hs28 (Int32.toInt_inj.mp (q.trans (by decide)))
      · exact hs29 (Int32.toInt_inj.mp (q.trans (by decide)))
      · exact hs30 (Int32.toInt_inj.mp (q.trans (by decide)))
      · exact hs31 (Int32.toInt_inj.mp (q.trans (by decide)))
      · exact hs32 (Int32.toInt_inj.mp (q.trans (by decide)))
      · exact hs33 (Int32.toInt_inj.mp (q.trans (by decide)))
      · exact hs34 (Int32.toInt_inj.mp (q.trans (by decide)))
      · exact hs35 (Int32.toInt_inj.mp (q.trans (by decide)))
      · exact hs36 (Int32.toInt_inj.mp (q.trans (by decide)))
      · exact hs37 (Int32.toInt_inj.mp (q.trans (by decide)))
      · exact hs38 (Int32.toInt_inj.mp (q.trans (by decide)))
      · exact hs39 (Int32.toInt_inj.mp (q.trans (by decide)))
      · exact hs40 (Int32.toInt_inj.mp (q.trans (by decide)))
      · exact hs41 (Int32.toInt_inj.mp (q.trans (by decide)))
      · exact hs42 (Int32.toInt_inj.mp (q.trans (by decide))))
    show am_onx (am_ro xs) mc_L_law 33 _ _ _ = _
    have hf : am_fi mc_L_law 33 = some (.tableswitch 1778 0 42 #[187, 230, 263, 286, 319, 352, 385, 428, 461, 504, 567, 600, 633, 666, 729, 742, 775, 819, 852, 885, 918, 961, 984, 1017, 1050, 1103, 1137, 1170, 1203, 1226, 1259, 1312, 1335, 1378, 1411, 1444, 1477, 1520, 1543, 1586, 1629, 1692, 1745], 187) := rfl
    simp only [am_onx, hf, am_kind, am_br, am_sw, if_pos hx]
    rfl
theorem hp_sl {A : Nat → List Int32} {I : Nat → Int32} {x : am_X} : am_sl0 (hp A I x) = am_sl0 (hp A I (x.1, x.2.1, x.2.2.1, x.2.2.2.1, [])) + am_sl0 x.2.2.2.2 := by
  rw [hp_app, am_sl0_app]
set_option maxRecDepth 100000 in
theorem law_end {xs : List Int32} {i n : Nat} {A : Nat → List Int32} {I : Nat → Int32} {x : am_X} (hL : xs.length ≤ 3072) (hi : ¬ i + 6 ≤ xs.length) (hi2 : i ≤ 3072) (hI : Iv0 n A I x) (hn : n ≤ 512) : law_G xs (18, [some (.ref (am_RO + 15)), some (.ref 0), some (.ref 85), some (.int (Int32.ofNat i))], [], hp A I x) := by
  refine law_G.go 4 rfl ?_
  refine law_G.go (cf' := (24, [some (.ref (am_RO + 15)), some (.ref 0), some (.ref 85), some (.int (Int32.ofNat i))], [.int (Int32.ofNat xs.length - 6), .int (Int32.ofNat i)], hp A I x)) 1 rfl ?_
  refine law_G.gt rfl ?_ ?_
  · have e : Int32.ofNat xs.length - 6 < Int32.ofNat i := by
      rw [Int32.lt_iff_toInt_lt, i_ti (by omega), Int32.sub_eq_add_neg, Int32.toInt_add, i_ti (by omega), show ((-6 : Int32).toInt) = -6 from rfl, Int.bmod_eq_of_le (by simp; omega) (by simp; omega)]
      omega
    exact e
  · refine ⟨hp A I x, am_Ev.go 1 rfl (am_Ev.ret rfl), ?_, ?_⟩
    · rw [hp_len]; have := hI.2.1; omega
    · rw [hp_sl]
      have h1 := hI.2.2
      have h2 := Iv0_sl hI
      omega
set_option maxRecDepth 100000 in
set_option maxHeartbeats 4000000 in
theorem law_loop {xs : List Int32} (hL : xs.length ≤ 3072) : ∀ (m i n : Nat) (A : Nat → List Int32) (I : Nat → Int32) (x : am_X), xs.length ≤ i + m → i = 6 * n → Iv0 n A I x → n ≤ 512 → law_G xs (18, [some (.ref (am_RO + 15)), some (.ref 0), some (.ref 85), some (.int (Int32.ofNat i))], [], hp A I x) := by
  intro m
  induction m with
  | zero =>
    intro i n A I x hm hin hI hn
    exact law_end hL (by omega) (by omega) hI hn
  | succ m ih =>
    intro i n A I x hm hin hI hn
    by_cases hi : i + 6 ≤ xs.length
    · refine law_G.go 4 rfl ?_
      refine law_G.go (cf' := (24, [some (.ref (am_RO + 15)), some (.ref 0), some (.ref 85), some (.int (Int32.ofNat i))], [.int (Int32.ofNat xs.length - 6), .int (Int32.ofNat i)], hp A I x)) 1 rfl ?_
      refine law_G.ngt rfl ?_ ?_
      · have e : ¬ Int32.ofNat xs.length - 6 < Int32.ofNat i := by
          rw [show Int32.ofNat xs.length - 6 = Int32.ofNat (xs.length - 6) from i_subr (m := xs.length) (n := 6) (by omega), i_lt (by omega) (by omega)]
          omega
        exact e
      refine law_body hn hi hL hI (fun A2 I2 x2 h2 => ?_)
      refine law_G.go (cf' := (18, [some (.ref (am_RO + 15)), some (.ref 0), some (.ref 85), some (.int (Int32.ofNat i + 6))], [], hp A2 I2 x2)) 2 rfl ?_
      rw [show Int32.ofNat i + 6 = Int32.ofNat (i + 6) from i_addr (m := i) (n := 6)]
      exact ih (i + 6) (n + 1) A2 I2 x2 (by omega) (by omega) h2 (by omega)
    · exact law_end hL (by omega) (by omega) hI hn
