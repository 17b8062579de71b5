/-! ===== ACTS: rank, how long, on a day; LANDS: the side on a day; the latest of a row ===== -/
/-- the cells of ACTS -/
abbrev hAct (N : Nat) (A : Nat → List Int32) (I : Nat → Int32) : Prop := v_act N (A 30) (A 31) (A 32) (A 33) (A 34) (A 35) (A 36) (I 1863) (A 94) (A 95) (A 96) (A 97) (A 98) (A 99) (A 100) (I 5450)
abbrev hTrn (T : Nat) (A : Nat → List Int32) (I : Nat → Int32) : Prop := v_trn T (A 20) (A 21) (A 22) (I 69) (A 91) (A 92) (A 93) (I 5443)
abbrev hPpl (P : Nat) (A : Nat → List Int32) (I : Nat → Int32) : Prop := v_ppl P (A 26) (A 88) (I 1601) (I 5442)
def rkv (v : Int32) : Int32 := if v = 1 then 3 else if v = 2 then 2 else if v = 4 then 4 else if v = 5 then 5 else 1
theorem rank_1 {N k : Nat} {A : Nat → List Int32} {I : Nat → Int32} (hA : hAct N A I) (hk : k < 24) : f_X2_rankOf A I (Int32.ofNat k) = some (rkv (g (A 94) k)) ∧ f_X12_rankOf A I (Int32.ofNat k) = some (rkv (g (A 94) k)) := by
  obtain ⟨⟨a1, -⟩, ⟨b0, b1, -⟩, -, -, -, ho⟩ := hA
  obtain ⟨⟨q, hq, e⟩, -⟩ := ho k hk
  have r1 : am_at (A 94) (Int32.ofNat k) = some (g (A 94) k) := am_at_g (by omega) (by omega)
  unfold f_X2_rankOf f_X12_rankOf
  rw [a1, r1, e]
  rcases (show q = 0 ∨ q = 1 ∨ q = 2 ∨ q = 3 ∨ q = 4 ∨ q = 5 by omega) with rfl | rfl | rfl | rfl | rfl | rfl <;> exact ⟨rfl, rfl⟩
theorem rank_2 {N k : Nat} {A : Nat → List Int32} {I : Nat → Int32} (hA : hAct N A I) (hk : k < 24) : am_at (am_sta 1) (g (A 94) k) = some (rkv (g (A 94) k)) := by
  obtain ⟨-, -, -, -, -, ho⟩ := hA
  obtain ⟨⟨q, hq, e⟩, -⟩ := ho k hk
  rw [e]
  rcases (show q = 0 ∨ q = 1 ∨ q = 2 ∨ q = 3 ∨ q = 4 ∨ q = 5 by omega) with rfl | rfl | rfl | rfl | rfl | rfl <;> rfl
theorem lasts_1 {N k : Nat} {A : Nat → List Int32} {I : Nat → Int32} (hA : hAct N A I) (hk : k < N) : ∃ L, L ≤ 9999 ∧ f_X2_lastsFor A I (Int32.ofNat k) = some (Int32.ofNat L) ∧ f_X12_lastsOf A I (Int32.ofNat k) = some (Int32.ofNat L) := by
  obtain ⟨⟨a1, a2, a3, a4, a5, a6⟩, ⟨b1, b2, b3, b4, b5, b6, b7, b8⟩, c1, c2, c3, ho⟩ := hA
  obtain ⟨⟨q, hq, e⟩, -, -, -, -, h36, -, d, hd, ed, hl⟩ := ho k (by omega)
  have h36 := h36 hk
  have r1 : am_at (A 94) (Int32.ofNat k) = some (g (A 94) k) := am_at_g (by omega) (by omega)
  have r2 : am_at (A 36) (Int32.ofNat k) = some (g (A 36) k) := am_at_g (by omega) (by omega)
  have r3 : am_at (A 100) (Int32.ofNat k) = some (g (A 36) k) := by rw [h36]; exact am_at_g (by omega) (by omega)
  have r4 : am_at (A 97) (Int32.ofNat k) = some (g (A 97) k) := am_at_g (by omega) (by omega)
  unfold f_X2_lastsFor f_X12_lastsOf
  rw [a1, a4, r1, r2, r3, r4]
  rcases hl with e2 | ⟨e4, y, hy1, hy2, e2⟩
  · rw [e, e2]
    rcases (show q = 0 ∨ q = 1 ∨ q = 2 ∨ q = 3 ∨ q = 4 ∨ q = 5 by omega) with rfl | rfl | rfl | rfl | rfl | rfl
    · exact ⟨9999, by decide, rfl, rfl⟩
    · exact ⟨9999, by decide, rfl, rfl⟩
    · exact ⟨1000, by decide, rfl, rfl⟩
    · exact ⟨300, by decide, rfl, rfl⟩
    · exact ⟨1000, by decide, rfl, rfl⟩
    · exact ⟨900, by decide, rfl, rfl⟩
  · rw [e4, e2, ed]
    have h1 : ¬ Int32.ofNat y = -1 := i_nm1 (by omega)
    have h2 : ¬ Int32.ofNat y < 0 := i_nn (by omega)
    refine ⟨y - d, by omega, ?_, ?_⟩
    · simp only [Option.bind_some, if_neg h1, i_sub hy1]
    · simp only [Option.bind_some, if_neg h2, i_sub hy1, if_true]
theorem on_1 {N k w : Nat} {A : Nat → List Int32} {I : Nat → Int32} (hA : hAct N A I) (hk : k < N) (hw : w ≤ 9999) : ∃ b : Bool, f_X2_runsOn A I (Int32.ofNat k) (Int32.ofNat w) = some (if b then 1 else 0) ∧ f_X12_isOn A I (Int32.ofNat k) (Int32.ofNat w) = some (if b then 1 else 0) := by
  obtain ⟨L, hL, l1, l2⟩ := lasts_1 hA hk
  obtain ⟨⟨a1, a2, a3, a4, a5, a6⟩, ⟨b1, b2, b3, b4, b5, b6, b7, b8⟩, c1, c2, c3, ho⟩ := hA
  obtain ⟨-, -, -, -, -, -, -, d, hd, ed, -⟩ := ho k (by omega)
  have r4 : am_at (A 97) (Int32.ofNat k) = some (Int32.ofNat d) := by rw [← ed]; exact am_at_g (by omega) (by omega)
  unfold f_X2_runsOn f_X12_isOn
  rw [a4, r4, l1, l2]
  refine ⟨decide (d ≤ w ∧ w < d + L), ?_, ?_⟩
  · by_cases h1 : w < d
    · simp (disch := first | omega | decide | assumption | (simp [up_app]; assumption)) [-Int32.ofNat_add, -Int32.ofNat_mul, -Int32.ofNat_sub, i_lel, i_ler, i_ltl, i_ltr, i_eql, i_eqr, i_le, i_lt, i_eq, i_addl, i_addr, i_add, i_mull, i_mulr, i_mul, i_subr, i_sub, am_at_g, am_at_gl, am_up_g, am_up_gl, up_app, in_X, i_sub1, h1, show ¬ d ≤ w by omega]
    · by_cases h2 : d + L ≤ w
      · simp (disch := first | omega | decide | assumption | (simp [up_app]; assumption)) [-Int32.ofNat_add, -Int32.ofNat_mul, -Int32.ofNat_sub, i_lel, i_ler, i_ltl, i_ltr, i_eql, i_eqr, i_le, i_lt, i_eq, i_addl, i_addr, i_add, i_mull, i_mulr, i_mul, i_subr, i_sub, am_at_g, am_at_gl, am_up_g, am_up_gl, up_app, in_X, i_sub1, h1, h2, show ¬ w < d + L by omega]
      · simp (disch := first | omega | decide | assumption | (simp [up_app]; assumption)) [-Int32.ofNat_add, -Int32.ofNat_mul, -Int32.ofNat_sub, i_lel, i_ler, i_ltl, i_ltr, i_eql, i_eqr, i_le, i_lt, i_eq, i_addl, i_addr, i_add, i_mull, i_mulr, i_mul, i_subr, i_sub, am_at_g, am_at_gl, am_up_g, am_up_gl, up_app, in_X, i_sub1, h1, h2, show d ≤ w by omega, show w < d + L by omega]
  · by_cases h1 : d ≤ w
    · by_cases h2 : L ≤ w - d
      · simp (disch := first | omega | decide | assumption | (simp [up_app]; assumption)) [-Int32.ofNat_add, -Int32.ofNat_mul, -Int32.ofNat_sub, i_lel, i_ler, i_ltl, i_ltr, i_eql, i_eqr, i_le, i_lt, i_eq, i_addl, i_addr, i_add, i_mull, i_mulr, i_mul, i_subr, i_sub, am_at_g, am_at_gl, am_up_g, am_up_gl, up_app, in_X, i_sub1, h1, h2, show ¬ w < d + L by omega]
      · simp (disch := first | omega | decide | assumption | (simp [up_app]; assumption)) [-Int32.ofNat_add, -Int32.ofNat_mul, -Int32.ofNat_sub, i_lel, i_ler, i_ltl, i_ltr, i_eql, i_eqr, i_le, i_lt, i_eq, i_addl, i_addr, i_add, i_mull, i_mulr, i_mul, i_subr, i_sub, am_at_g, am_at_gl, am_up_g, am_up_gl, up_app, in_X, i_sub1, h1, h2, show w < d + L by omega]
    · simp (disch := first | omega | decide | assumption | (simp [up_app]; assumption)) [-Int32.ofNat_add, -Int32.ofNat_mul, -Int32.ofNat_sub, i_lel, i_ler, i_ltl, i_ltr, i_eql, i_eqr, i_le, i_lt, i_eq, i_addl, i_addr, i_add, i_mull, i_mulr, i_mul, i_subr, i_sub, am_at_g, am_at_gl, am_up_g, am_up_gl, up_app, in_X, i_sub1, h1]
/-- the latest one of a row for which c holds: of the greatest D, of like ones the last -/
def bsf (c : Nat → Bool) (D : Nat → Int32) : Nat → Option Nat
  | 0 => none
  | t + 1 => if c t && (match bsf c D t with | none => true | some b => decide (D b ≤ D t)) then some t else bsf c D t
def eo (o : Option Nat) : Int32 := match o with
  | none => -1
  | some k => Int32.ofNat k
theorem bsf_succ (c : Nat → Bool) (D : Nat → Int32) (t : Nat) : bsf c D (t + 1) = if c t && (match bsf c D t with | none => true | some b => decide (D b ≤ D t)) then some t else bsf c D t := rfl
section Bsf
variable {c : Nat → Bool} {D : Nat → Int32} {t b : Nat}
theorem bsf_no (h : c t = false) : bsf c D (t + 1) = bsf c D t := by
  rw [bsf_succ, h]; rfl
theorem bsf_new (h : c t = true) (hn : bsf c D t = none) : bsf c D (t + 1) = some t := by
  rw [bsf_succ, h, hn]; rfl
theorem bsf_ge (h : c t = true) (hb : bsf c D t = some b) (hD : D b ≤ D t) : bsf c D (t + 1) = some t := by
  rw [bsf_succ, h, hb, Bool.true_and, if_pos (decide_eq_true hD)]
theorem bsf_ol (h : c t = true) (hb : bsf c D t = some b) (hD : ¬ D b ≤ D t) : bsf c D (t + 1) = some b := by
  rw [bsf_succ, h, hb, Bool.true_and, if_neg (fun q => hD (of_decide_eq_true q))]
end Bsf
theorem bsf_lt {c : Nat → Bool} {D : Nat → Int32} : ∀ {t b : Nat}, bsf c D t = some b → b < t ∧ c b = true
  | 0, b, h => by cases h
  | t + 1, b, h => by
    cases hc : c t with
    | false => rw [bsf_no hc] at h; obtain ⟨h1, h2⟩ := bsf_lt h; exact ⟨by omega, h2⟩
    | true =>
      cases hb : bsf c D t with
      | none => rw [bsf_new hc hb] at h; cases h; exact ⟨by omega, hc⟩
      | some b2 =>
        by_cases hD : D b2 ≤ D t
        · rw [bsf_ge hc hb hD] at h; cases h; exact ⟨by omega, hc⟩
        · rw [bsf_ol hc hb hD, ← hb] at h; obtain ⟨h1, h2⟩ := bsf_lt h; exact ⟨by omega, h2⟩
theorem bsf_congr {c c' : Nat → Bool} {D D' : Nat → Int32} : ∀ {t : Nat}, (∀ k, k < t → c k = c' k ∧ D k = D' k) → bsf c D t = bsf c' D' t
  | 0, _ => rfl
  | t + 1, h => by
    have ih := bsf_congr (t := t) (fun k hk => h k (by omega))
    have h1 := h t (by omega)
    cases hc : c' t with
    | false => rw [bsf_no hc, bsf_no (by rw [h1.1, hc]), ih]
    | true =>
      have hc' : c t = true := by rw [h1.1, hc]
      cases hb : bsf c' D' t with
      | none => rw [bsf_new hc hb, bsf_new hc' (by rw [ih, hb])]
      | some b =>
        obtain ⟨hb1, -⟩ := bsf_lt hb
        have h2 := h b (by omega)
        by_cases hD : D' b ≤ D' t
        · rw [bsf_ge hc hb hD, bsf_ge hc' (by rw [ih, hb]) (by rw [h1.2, h2.2]; exact hD)]
        · rw [bsf_ol hc hb hD, bsf_ol hc' (by rw [ih, hb]) (by rw [h1.2, h2.2]; exact hD)]
def tc (L D : List Int32) (l d : Int32) : Nat → Bool := fun k => decide (g L k = l) && decide (g D k ≤ d)
theorem tc_t {L D : List Int32} {l d : Int32} {k : Nat} (h1 : g L k = l) (h2 : g D k ≤ d) : tc L D l d k = true := by
  unfold tc; rw [decide_eq_true h1, decide_eq_true h2]; rfl
theorem tc_f1 {L D : List Int32} {l d : Int32} {k : Nat} (h1 : ¬ g L k = l) : tc L D l d k = false := by
  unfold tc; rw [decide_eq_false h1]; rfl
theorem tc_f2 {L D : List Int32} {l d : Int32} {k : Nat} (h1 : ¬ g D k ≤ d) : tc L D l d k = false := by
  unfold tc; rw [decide_eq_false h1, Bool.and_false]
theorem turnOn_1 {T : Nat} {A : Nat → List Int32} {I : Nat → Int32} (hT : T ≤ 30) (hi : I 69 = Int32.ofNat T) (l1 : (A 20).length = 30) (l2 : (A 21).length = 30) (l d : Int32) : f_X6_turnOn A I l d = some (eo (bsf (tc (A 20) (A 21) l d) (g (A 21)) T)) := by
  unfold f_X6_turnOn
  have key := wl_for (step := f_X6_turnOn_l1 A I l d) (fun k => (eo (bsf (tc (A 20) (A 21) l d) (g (A 21)) k), Int32.ofNat k)) T (r := eo (bsf (tc (A 20) (A 21) l d) (g (A 21)) T)) (fuel := 100000) (by omega) (fun k hk => ?_) ?_
  · rw [show ((-1 : Int32), (0 : Int32)) = (eo (bsf (tc (A 20) (A 21) l d) (g (A 21)) 0), Int32.ofNat 0) from rfl, key]
    rfl
  · have r1 : am_at (A 20) (Int32.ofNat k) = some (g (A 20) k) := am_at_g (by omega) (by omega)
    have r2 : am_at (A 21) (Int32.ofNat k) = some (g (A 21) k) := am_at_g (by omega) (by omega)
    show f_X6_turnOn_l1 A I l d (eo (bsf _ _ k), Int32.ofNat k) = some (.inl (eo (bsf _ _ (k + 1)), Int32.ofNat (k + 1)))
    unfold f_X6_turnOn_l1
    dsimp only
    rw [hi, if_neg (by rw [i_le (by omega) (by omega)]; omega), r1, i_addr]
    by_cases c1 : g (A 20) k = l
    · by_cases c2 : d < g (A 21) k
      · simp only [Option.bind_some, if_pos c1, r2, if_pos c2, if_true, bsf_no (tc_f2 (Int32.not_le.mpr c2))]
      · have c3 := tc_t c1 (Int32.not_lt.mp c2)
        cases hb : bsf (tc (A 20) (A 21) l d) (g (A 21)) k with
        | none => simp only [Option.bind_some, if_pos c1, r2, if_neg c2, bsf_new c3 hb, eo, if_true, if_neg (show ¬ (1 : Int32) = 0 by decide)]
        | some b =>
          obtain ⟨hb1, -⟩ := bsf_lt hb
          have r3 : am_at (A 21) (Int32.ofNat b) = some (g (A 21) b) := am_at_g (by omega) (by omega)
          have n1 : ¬ Int32.ofNat b = -1 := i_nm1 (by omega)
          by_cases c4 : g (A 21) k < g (A 21) b
          · simp only [Option.bind_some, if_pos c1, r2, if_neg c2, bsf_ol c3 hb (Int32.not_le.mpr c4), eo, if_neg (show ¬ (1 : Int32) = 0 by decide), if_neg n1, r3, if_pos c4]
          · simp only [Option.bind_some, if_pos c1, r2, if_neg c2, bsf_ge c3 hb (Int32.not_lt.mp c4), eo, if_neg (show ¬ (1 : Int32) = 0 by decide), if_neg n1, r3, if_neg c4]
    · simp only [Option.bind_some, if_neg c1, if_true, bsf_no (tc_f1 c1)]
  · show f_X6_turnOn_l1 A I l d (_, Int32.ofNat T) = _
    unfold f_X6_turnOn_l1
    dsimp only
    rw [hi, if_pos (Int32.le_refl _)]
theorem sideOf_1 {T : Nat} {A : Nat → List Int32} {I : Nat → Int32} (hT : T ≤ 31) (hi : I 5443 = Int32.ofNat T) (l1 : (A 91).length = 31) (l2 : (A 92).length = 31) (l3 : (A 93).length = 31) (l d : Int32) : f_X12_sideOf A I l d = some (match bsf (tc (A 91) (A 92) l d) (g (A 92)) T with | none => 0 | some b => g (A 93) b) := by
  unfold f_X12_sideOf
  have key := wl_for (step := f_X12_sideOf_l1 A I l d) (fun k => (eo (bsf (tc (A 91) (A 92) l d) (g (A 92)) k), Int32.ofNat k)) T (r := eo (bsf (tc (A 91) (A 92) l d) (g (A 92)) T)) (fuel := 100000) (by omega) (fun k hk => ?_) ?_
  · rw [show ((-1 : Int32), (0 : Int32)) = (eo (bsf (tc (A 91) (A 92) l d) (g (A 92)) 0), Int32.ofNat 0) from rfl, key]
    cases hb : bsf (tc (A 91) (A 92) l d) (g (A 92)) T with
    | none => rfl
    | some b =>
      obtain ⟨hb1, -⟩ := bsf_lt hb
      have r3 : am_at (A 93) (Int32.ofNat b) = some (g (A 93) b) := am_at_g (by omega) (by omega)
      simp only [eo, Option.bind_some, if_pos (Int32.not_lt.mp (i_nn (show b < 2147483648 by omega))), r3]
  · have r1 : am_at (A 91) (Int32.ofNat k) = some (g (A 91) k) := am_at_g (by omega) (by omega)
    have r2 : am_at (A 92) (Int32.ofNat k) = some (g (A 92) k) := am_at_g (by omega) (by omega)
    show f_X12_sideOf_l1 A I l d (eo (bsf _ _ k), Int32.ofNat k) = some (.inl (eo (bsf _ _ (k + 1)), Int32.ofNat (k + 1)))
    unfold f_X12_sideOf_l1
    dsimp only
    rw [hi, if_neg (by rw [i_le (by omega) (by omega)]; omega), r1, i_addr]
    by_cases c1 : g (A 91) k = l
    · by_cases c2 : d < g (A 92) k
      · simp only [Option.bind_some, if_pos c1, r2, if_pos c2, bsf_no (tc_f2 (Int32.not_le.mpr c2))]
      · have c3 := tc_t c1 (Int32.not_lt.mp c2)
        cases hb : bsf (tc (A 91) (A 92) l d) (g (A 92)) k with
        | none => simp only [Option.bind_some, if_pos c1, r2, if_neg c2, bsf_new c3 hb, eo, if_pos (show (-1 : Int32) < 0 by decide)]
        | some b =>
          obtain ⟨hb1, -⟩ := bsf_lt hb
          have r3 : am_at (A 92) (Int32.ofNat b) = some (g (A 92) b) := am_at_g (by omega) (by omega)
          have n1 : ¬ Int32.ofNat b < 0 := i_nn (by omega)
          by_cases c4 : g (A 92) k < g (A 92) b
          · simp only [Option.bind_some, if_pos c1, r2, if_neg c2, bsf_ol c3 hb (Int32.not_le.mpr c4), eo, if_neg n1, r3, if_pos c4]
          · simp only [Option.bind_some, if_pos c1, r2, if_neg c2, bsf_ge c3 hb (Int32.not_lt.mp c4), eo, if_neg n1, r3, if_neg c4]
    · simp only [Option.bind_some, if_neg c1, bsf_no (tc_f1 c1)]
  · show f_X12_sideOf_l1 A I l d (_, Int32.ofNat T) = _
    unfold f_X12_sideOf_l1
    dsimp only
    rw [hi, if_pos (Int32.le_refl _)]
/-- the side of a LAND on a DAY, both -/
theorem side_1 {T : Nat} {A : Nat → List Int32} {I : Nat → Int32} (hT : hTrn T A I) (l d : Int32) : ∃ s, s < 2 ∧ f_X6_sideOn A I l d = some (Int32.ofNat s) ∧ f_X12_sideOf A I l d = some (Int32.ofNat s) := by
  obtain ⟨⟨t1, t2, t3, t4, t5, t6⟩, t7, t8, t9, t10⟩ := hT
  rw [sideOf_1 (by omega) t9 t4 t5 t6]
  unfold f_X6_sideOn
  rw [turnOn_1 t7 t8 t1 t2]
  have hc : bsf (tc (A 20) (A 21) l d) (g (A 21)) T = bsf (tc (A 91) (A 92) l d) (g (A 92)) T := bsf_congr (fun k hk => by
    obtain ⟨e1, e2, e3, -⟩ := t10 k hk
    unfold tc
    rw [e1, e2]
    exact ⟨rfl, rfl⟩)
  rw [hc]
  cases hb : bsf (tc (A 91) (A 92) l d) (g (A 92)) T with
  | none => exact ⟨0, by decide, rfl, rfl⟩
  | some b =>
    obtain ⟨hb1, -⟩ := bsf_lt hb
    obtain ⟨e1, e2, e3, s, hs, e4⟩ := t10 b hb1
    refine ⟨s, hs, ?_, by show some (g (A 93) b) = _; rw [e4]⟩
    have r3 : am_at (A 22) (Int32.ofNat b) = some (Int32.ofNat s) := by rw [← e4, ← e3]; exact am_at_g (by omega) (by omega)
    have n1 : ¬ Int32.ofNat b = -1 := i_nm1 (by omega)
    simp only [eo, Option.bind_some, if_neg n1, r3]
