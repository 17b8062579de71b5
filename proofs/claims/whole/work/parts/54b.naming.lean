/-! ===== NAMINGS: the latest of an OFFICE; who is by right ===== -/
theorem has_1 {a k : Nat} (ha : a < 2147483648) (hk : k < 31) : f_X11_has (Int32.ofNat a) (Int32.ofNat k) = some (if a.testBit k then 1 else 0) := by
  unfold f_X11_has
  rw [i_bit hk ha]
  cases a.testBit k <;> rfl
def nc (a94 a96 a97 : List Int32) (good : Nat) (o w : Int32) : Nat → Bool := fun k => decide (g a94 k = 1) && (decide (g a96 k / 12 = o) && (good.testBit k && decide (g a97 k ≤ w)))
section Nc
variable {a94 a96 a97 : List Int32} {good k : Nat} {o w : Int32}
theorem nc_t (h1 : g a94 k = 1) (h2 : g a96 k / 12 = o) (h3 : good.testBit k = true) (h4 : g a97 k ≤ w) : nc a94 a96 a97 good o w k = true := by
  unfold nc; rw [decide_eq_true h1, decide_eq_true h2, h3, decide_eq_true h4]; rfl
theorem nc_1 (h1 : ¬ g a94 k = 1) : nc a94 a96 a97 good o w k = false := by
  unfold nc; rw [decide_eq_false h1]; rfl
theorem nc_2 (h1 : ¬ g a96 k / 12 = o) : nc a94 a96 a97 good o w k = false := by
  unfold nc; rw [decide_eq_false h1, Bool.false_and, Bool.and_false]
theorem nc_3 (h1 : good.testBit k = false) : nc a94 a96 a97 good o w k = false := by
  unfold nc; rw [h1, Bool.false_and, Bool.and_false, Bool.and_false]
theorem nc_4 (h1 : ¬ g a97 k ≤ w) : nc a94 a96 a97 good o w k = false := by
  unfold nc; rw [decide_eq_false h1, Bool.and_false, Bool.and_false, Bool.and_false]
theorem nc_inv (h : nc a94 a96 a97 good o w k = true) : g a94 k = 1 ∧ g a96 k / 12 = o ∧ good.testBit k = true ∧ g a97 k ≤ w := by
  unfold nc at h
  rw [Bool.and_eq_true, Bool.and_eq_true, Bool.and_eq_true] at h
  exact ⟨of_decide_eq_true h.1, of_decide_eq_true h.2.1, h.2.2.1, of_decide_eq_true h.2.2.2⟩
end Nc
/-- the latest NAMING -/
def nm (N : Nat) (A : Nat → List Int32) (good : Nat) (o w : Int32) : Option Nat := bsf (nc (A 94) (A 96) (A 97) good o w) (g (A 97)) N
theorem nm_lt {N good b : Nat} {A : Nat → List Int32} {o w : Int32} (h : nm N A good o w = some b) : b < N ∧ g (A 94) b = 1 ∧ g (A 96) b / 12 = o ∧ good.testBit b = true := by
  obtain ⟨h1, h2⟩ := bsf_lt h
  obtain ⟨h3, h4, h5, -⟩ := nc_inv h2
  exact ⟨h1, h3, h4, h5⟩
set_option maxHeartbeats 4000000 in
theorem naming_m {N good : Nat} {A : Nat → List Int32} {I : Nat → Int32} (hA : hAct N A I) (hg : good < 16777216) (o w : Int32) : f_X12_namingOf A I o w (Int32.ofNat good) = some (eo (nm N A good o w)) := by
  obtain ⟨-, ⟨b1, b2, b3, b4, b5, b6, b7, b8⟩, c1, c2, c3, -⟩ := hA
  unfold f_X12_namingOf nm
  have key := wl_for (step := f_X12_namingOf_l1 A I o w (Int32.ofNat good)) (fun k => (eo (bsf (nc (A 94) (A 96) (A 97) good o w) (g (A 97)) k), Int32.ofNat k)) N (r := eo (bsf (nc (A 94) (A 96) (A 97) good o w) (g (A 97)) N)) (fuel := 100000) (by omega) (fun k hk => ?_) ?_
  · rw [show ((-1 : Int32), (0 : Int32)) = (eo (bsf (nc (A 94) (A 96) (A 97) good o w) (g (A 97)) 0), Int32.ofNat 0) from rfl, key]
    rfl
  · have r1 : am_at (A 94) (Int32.ofNat k) = some (g (A 94) k) := am_at_g (by omega) (by omega)
    have r2 : am_at (A 96) (Int32.ofNat k) = some (g (A 96) k) := am_at_g (by omega) (by omega)
    have r3 : am_at (A 97) (Int32.ofNat k) = some (g (A 97) k) := am_at_g (by omega) (by omega)
    show f_X12_namingOf_l1 A I o w (Int32.ofNat good) (eo (bsf _ _ k), Int32.ofNat k) = some (.inl (eo (bsf _ _ (k + 1)), Int32.ofNat (k + 1)))
    unfold f_X12_namingOf_l1
    dsimp only
    rw [c3, if_neg (by rw [i_le (by omega) (by omega)]; omega), r1, i_addr, i_bit (by omega) (by omega)]
    by_cases e1 : g (A 94) k = 1
    · by_cases e2 : g (A 96) k / 12 = o
      · cases e3 : good.testBit k with
        | false => simp only [Option.bind_some, if_pos e1, r2, if_pos e2, Bool.false_eq_true, if_false, if_neg (show ¬ (0 : Int32) = 1 by decide), bsf_no (nc_3 e3)]
        | true =>
          by_cases e4 : w < g (A 97) k
          · simp only [Option.bind_some, if_pos e1, r2, if_pos e2, if_true, r3, if_pos e4, bsf_no (nc_4 (Int32.not_le.mpr e4))]
          · have hc := nc_t e1 e2 e3 (Int32.not_lt.mp e4)
            cases hb : bsf (nc (A 94) (A 96) (A 97) good o w) (g (A 97)) k with
            | none => simp only [Option.bind_some, if_pos e1, r2, if_pos e2, if_true, r3, if_neg e4, bsf_new hc hb, eo, if_pos (show (-1 : Int32) < 0 by decide)]
            | some b =>
              obtain ⟨hb1, -⟩ := bsf_lt hb
              have r5 : am_at (A 97) (Int32.ofNat b) = some (g (A 97) b) := am_at_g (by omega) (by omega)
              have n1 : ¬ Int32.ofNat b < 0 := i_nn (by omega)
              by_cases e5 : g (A 97) k < g (A 97) b
              · simp only [Option.bind_some, if_pos e1, r2, if_pos e2, if_true, r3, if_neg e4, bsf_ol hc hb (Int32.not_le.mpr e5), eo, if_neg n1, r5, if_pos e5]
              · simp only [Option.bind_some, if_pos e1, r2, if_pos e2, if_true, r3, if_neg e4, bsf_ge hc hb (Int32.not_lt.mp e5), eo, if_neg n1, r5, if_neg e5]
      · simp only [Option.bind_some, if_pos e1, r2, if_neg e2, bsf_no (nc_2 e2)]
    · simp only [Option.bind_some, if_neg e1, bsf_no (nc_1 e1)]
  · show f_X12_namingOf_l1 A I o w (Int32.ofNat good) (_, Int32.ofNat N) = _
    unfold f_X12_namingOf_l1
    dsimp only
    rw [c3, if_pos (Int32.le_refl _)]
set_option maxHeartbeats 4000000 in
theorem naming_c {N good : Nat} {A : Nat → List Int32} {I : Nat → Int32} (hA : hAct N A I) (hg : good < 16777216) (o : Int32) {w : Nat} (hw : w ≤ 9999) : ∃ q : Option Nat, f_X1_namingOn A I (Int32.ofNat good) o (Int32.ofNat w) = some (eo q) ∧ (∀ k, q = some k ↔ nm N A good o (Int32.ofNat w) = some k ∧ f_X12_isOn A I (Int32.ofNat k) (Int32.ofNat w) = some 1) := by
  have hA2 := hA
  obtain ⟨⟨a1, a2, a3, a4, a5, a6⟩, ⟨b1, b2, b3, b4, b5, b6, b7, b8⟩, c1, c2, c3, -⟩ := hA
  unfold f_X1_namingOn nm
  have key := wl_for (step := f_X1_namingOn_l1 A I (Int32.ofNat good) o (Int32.ofNat w)) (fun k => (eo (bsf (nc (A 94) (A 96) (A 97) good o (Int32.ofNat w)) (g (A 97)) k), Int32.ofNat k)) N (r := eo (bsf (nc (A 94) (A 96) (A 97) good o (Int32.ofNat w)) (g (A 97)) N)) (fuel := 100000) (by omega) (fun k hk => ?_) ?_
  · rw [show ((-1 : Int32), (0 : Int32)) = (eo (bsf (nc (A 94) (A 96) (A 97) good o (Int32.ofNat w)) (g (A 97)) 0), Int32.ofNat 0) from rfl, key]
    cases hb : bsf (nc (A 94) (A 96) (A 97) good o (Int32.ofNat w)) (g (A 97)) N with
    | none => exact ⟨none, rfl, fun k => ⟨fun q => (by cases q), fun q => (by cases q.1)⟩⟩
    | some b =>
      obtain ⟨hb1, -⟩ := bsf_lt hb
      have n1 : ¬ Int32.ofNat b = -1 := i_nm1 (by omega)
      obtain ⟨on, o1, o2⟩ := on_1 hA2 hb1 hw
      cases on with
      | true => exact ⟨some b, by simp only [Option.bind_some, eo, if_neg n1, o1, if_true, if_neg (show ¬ (1 : Int32) = 0 by decide)], fun k => ⟨fun q => (by cases q; exact ⟨rfl, o2⟩), fun q => q.1⟩⟩
      | false =>
        refine ⟨none, by simp only [Option.bind_some, eo, if_neg n1, o1, Bool.false_eq_true, if_false, if_true], fun k => ⟨fun q => (by cases q), fun q => ?_⟩⟩
        obtain ⟨q1, q2⟩ := q
        cases q1
        rw [o2] at q2
        exact absurd q2 (by decide)
  · have r1 : am_at (A 30) (Int32.ofNat k) = some (g (A 94) k) := by rw [a1]; exact am_at_g (by omega) (by omega)
    have r2 : am_at (A 32) (Int32.ofNat k) = some (g (A 96) k) := by rw [a3]; exact am_at_g (by omega) (by omega)
    have r3 : am_at (A 33) (Int32.ofNat k) = some (g (A 97) k) := by rw [a4]; exact am_at_g (by omega) (by omega)
    show f_X1_namingOn_l1 A I (Int32.ofNat good) o (Int32.ofNat w) (eo (bsf _ _ k), Int32.ofNat k) = some (.inl (eo (bsf _ _ (k + 1)), Int32.ofNat (k + 1)))
    unfold f_X1_namingOn_l1
    dsimp only
    have z1 : ¬ (1 : Int32) = 0 := by decide
    rw [c2, if_neg (by rw [i_le (by omega) (by omega)]; omega), r1, i_addr, has_1 (by omega) (by omega)]
    by_cases e1 : g (A 94) k = 1
    · by_cases e2 : g (A 96) k / 12 = o
      · cases e3 : good.testBit k with
        | false => simp only [Option.bind_some, if_pos e1, r2, if_pos e2, Bool.false_eq_true, if_false, if_true, if_neg z1, bsf_no (nc_3 e3)]
        | true =>
          by_cases e4 : Int32.ofNat w < g (A 97) k
          · simp only [Option.bind_some, if_pos e1, r2, if_pos e2, if_true, if_neg z1, r3, if_pos e4, bsf_no (nc_4 (Int32.not_le.mpr e4))]
          · have hc := nc_t e1 e2 e3 (Int32.not_lt.mp e4)
            cases hb : bsf (nc (A 94) (A 96) (A 97) good o (Int32.ofNat w)) (g (A 97)) k with
            | none => simp only [Option.bind_some, if_pos e1, r2, if_pos e2, if_true, if_neg z1, r3, if_neg e4, bsf_new hc hb, eo]
            | some b =>
              obtain ⟨hb1, -⟩ := bsf_lt hb
              have r5 : am_at (A 33) (Int32.ofNat b) = some (g (A 97) b) := by rw [a4]; exact am_at_g (by omega) (by omega)
              have n1 : ¬ Int32.ofNat b = -1 := i_nm1 (by omega)
              by_cases e5 : g (A 97) k < g (A 97) b
              · simp only [Option.bind_some, if_pos e1, r2, if_pos e2, if_true, if_neg z1, r3, if_neg e4, bsf_ol hc hb (Int32.not_le.mpr e5), eo, if_neg n1, r5, if_pos e5]
              · simp only [Option.bind_some, if_pos e1, r2, if_pos e2, if_true, if_neg z1, r3, if_neg e4, bsf_ge hc hb (Int32.not_lt.mp e5), eo, if_neg n1, r5, if_neg e5]
      · simp only [Option.bind_some, if_pos e1, r2, if_neg e2, if_true, bsf_no (nc_2 e2)]
    · simp only [Option.bind_some, if_neg e1, if_true, bsf_no (nc_1 e1)]
  · show f_X1_namingOn_l1 A I (Int32.ofNat good) o (Int32.ofNat w) (_, Int32.ofNat N) = _
    unfold f_X1_namingOn_l1
    dsimp only
    rw [c2, if_pos (Int32.le_refl _)]
/-- who is by right, both -/
theorem right_1 {N good : Nat} {A : Nat → List Int32} {I : Nat → Int32} (hA : hAct N A I) (hg : good < 16777216) (o : Int32) {w : Nat} (hw : w ≤ 9999) : ∃ v, f_X1_rightful A I (Int32.ofNat good) o (Int32.ofNat w) = some v ∧ f_X12_rightOf A I o (Int32.ofNat w) (Int32.ofNat good) = some v ∧ (v = -1 ∨ ∃ p, p < 12 ∧ v = Int32.ofNat p) := by
  obtain ⟨q, e1, e2⟩ := naming_c hA hg o hw
  have e3 := naming_m hA hg o (Int32.ofNat w)
  have hA2 := hA
  obtain ⟨⟨a1, a2, a3, a4, a5, a6⟩, ⟨b1, b2, b3, b4, b5, b6, b7, b8⟩, c1, c2, c3, ho⟩ := hA
  unfold f_X1_rightful f_X12_rightOf
  rw [e1, e3]
  cases hn : nm N A good o (Int32.ofNat w) with
  | none =>
    have : q = none := by
      cases q with
      | none => rfl
      | some k => have := ((e2 k).mp rfl).1; rw [hn] at this; cases this
    subst this
    exact ⟨-1, rfl, rfl, Or.inl rfl⟩
  | some b =>
    obtain ⟨hb, -⟩ := nm_lt hn
    obtain ⟨on, o1, o2⟩ := on_1 hA2 hb hw
    obtain ⟨-, -, ⟨y, hy, ey, -⟩, -⟩ := ho b (by omega)
    have n1 : ¬ Int32.ofNat b < 0 := i_nn (by omega)
    have n2 : ¬ Int32.ofNat b = -1 := i_nm1 (by omega)
    cases on with
    | false =>
      have : q = none := by
        cases q with
        | none => rfl
        | some k =>
          obtain ⟨h1, h2⟩ := (e2 k).mp rfl
          rw [hn] at h1
          cases h1
          rw [o2] at h2
          exact absurd h2 (by decide)
      subst this
      exact ⟨-1, rfl, by simp only [Option.bind_some, eo, if_neg n1, o2, Bool.false_eq_true, if_false, if_true], Or.inl rfl⟩
    | true =>
      have : q = some b := (e2 b).mpr ⟨hn, o2⟩
      subst this
      have r1 : am_at (A 96) (Int32.ofNat b) = some (Int32.ofNat y) := by rw [← ey]; exact am_at_g (by omega) (by omega)
      have r2 : am_at (A 32) (Int32.ofNat b) = some (Int32.ofNat y) := by rw [a3]; exact r1
      have e : Int32.ofNat y - Int32.ofNat y / 12 * 12 = Int32.ofNat (y % 12) := by
        rw [show Int32.ofNat y / 12 = Int32.ofNat (y / 12) from i_div (by omega) (by decide), show Int32.ofNat (y / 12) * 12 = Int32.ofNat (y / 12 * 12) from i_mul, i_sub (by omega)]
        congr 1
        omega
      refine ⟨Int32.ofNat (y % 12), ?_, ?_, Or.inr ⟨y % 12, by omega, rfl⟩⟩
      · simp only [Option.bind_some, eo, if_neg n2, r2, e]
      · simp only [Option.bind_some, eo, if_neg n1, o2, if_true, if_neg (show ¬ (1 : Int32) = 0 by decide), r1, e]
