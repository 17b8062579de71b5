/-! ===== GOOD under a SIDE; what is in force ===== -/
theorem scr_get {A : Nat → List Int32} (h : v_scr (v_scs A)) : (A 41).length = 6 ∧ (A 42).length = 40 ∧ (A 54).length = 161 ∧ (A 55).length = 161 ∧ (A 56).length = 161 ∧ (A 57).length = 160 ∧ (A 74).length = 7 ∧ (A 75).length = 7 ∧ (A 87).length = 64 ∧ (A 105).length = 161 ∧ (A 106).length = 7 ∧ (A 107).length = 6 ∧ (A 108).length = 161 ∧ (A 121).length = 7 ∧ (A 122).length = 7 ∧ (A 123).length = 7 ∧ (A 127).length = 40 := by
  unfold v_scr v_scs at h
  simp only [List.map_cons, List.map_nil, List.cons.injEq, and_true] at h
  exact h
theorem scr_mk {A : Nat → List Int32} (h : (A 41).length = 6 ∧ (A 42).length = 40 ∧ (A 54).length = 161 ∧ (A 55).length = 161 ∧ (A 56).length = 161 ∧ (A 57).length = 160 ∧ (A 74).length = 7 ∧ (A 75).length = 7 ∧ (A 87).length = 64 ∧ (A 105).length = 161 ∧ (A 106).length = 7 ∧ (A 107).length = 6 ∧ (A 108).length = 161 ∧ (A 121).length = 7 ∧ (A 122).length = 7 ∧ (A 123).length = 7 ∧ (A 127).length = 40) : v_scr (v_scs A) := by
  unfold v_scr v_scs
  simp only [List.map_cons, List.map_nil, List.cons.injEq, and_true]
  exact h
theorem scr_4 {A : Nat → List Int32} (h : v_scr (v_scs A)) {F S F2 S2 : List Int32} (h1 : F.length = 6) (h2 : S.length = 40) (h3 : F2.length = 6) (h4 : S2.length = 161) : v_scr (v_scs (up (up (up (up A 41 F) 42 S) 107 F2) 108 S2)) := by
  obtain ⟨-, -, k3, k4, k5, k6, k7, k8, k9, k10, k11, -, -, k14, k15, k16, k17⟩ := scr_get h
  exact scr_mk ⟨h1, h2, k3, k4, k5, k6, k7, k8, k9, k10, k11, h3, h4, k14, k15, k16, k17⟩
noncomputable def gd (N T : Nat) (A : Nat → List Int32) (s : Nat) : Nat := Classical.epsilon (fun G => gr N A (tr N T A s 0) (tr N T A s 1) G)
theorem gd_eq {N T s G : Nat} {A : Nat → List Int32} (h : gr N A (tr N T A s 0) (tr N T A s 1) G) : gd N T A s = G := gr_eq (Classical.epsilon_spec (p := fun G => gr N A (tr N T A s 0) (tr N T A s 1) G) ⟨G, h⟩) h
section Gd
variable {P N T X s : Nat} {A : Nat → List Int32} {I : Nat → Int32} {x : am_X}
theorem tr_lt24 {q : Nat} (hN : N ≤ 24) : tr N T A s q < 16777216 := Nat.lt_of_lt_of_le tr_lt (Nat.pow_le_pow_right (by decide) hN)
theorem tr_c0 (hP : hPpl P A I) (hT : hTrn T A I) (hA : hAct N A I) (hX : hTxt X A I x) (h41 : (A 41).length = 6) (h42 : (A 42).length = 40) (hs : s < 3) : ∃ F' S', f_X1_trueUnder A I x (Int32.ofNat s) 0 = some (Int32.ofNat (tr N T A s 0), F', S') ∧ F'.length = 6 ∧ S'.length = 40 := tr_c (q := 0) hP hT hA hX h41 h42 hs (by decide)
theorem tr_c1 (hP : hPpl P A I) (hT : hTrn T A I) (hA : hAct N A I) (hX : hTxt X A I x) (h41 : (A 41).length = 6) (h42 : (A 42).length = 40) (hs : s < 3) : ∃ F' S', f_X1_trueUnder A I x (Int32.ofNat s) 1 = some (Int32.ofNat (tr N T A s 1), F', S') ∧ F'.length = 6 ∧ S'.length = 40 := tr_c (q := 1) hP hT hA hX h41 h42 hs (by decide)
theorem gd_1 (hA : hAct N A I) : ∃ G, G < 16777216 ∧ gd N T A s = G ∧ f_X1_goodAmong A I (Int32.ofNat (tr N T A s 0)) (Int32.ofNat (tr N T A s 1)) = some (Int32.ofNat G) ∧ f_X12_goodOf A I (Int32.ofNat (tr N T A s 0)) (Int32.ofNat (tr N T A s 1)) = some (Int32.ofNat G) := by
  obtain ⟨G, e1, e2, h, hg⟩ := good_1 hA (s := tr N T A s 0) (v := tr N T A s 1) tr_lt (tr_lt24 hA.2.2.1)
  exact ⟨G, h, gd_eq hg, e1, e2⟩
theorem gd_lt (hA : hAct N A I) : gd N T A s < 16777216 := by
  obtain ⟨G, h, e, -⟩ := gd_1 (T := T) (s := s) hA
  rw [e]; exact h
theorem gd_c (hP : hPpl P A I) (hT : hTrn T A I) (hA : hAct N A I) (hX : hTxt X A I x) (h41 : (A 41).length = 6) (h42 : (A 42).length = 40) (hs : s < 3) : ∃ F' S', f_X1_goodUnder A I x (Int32.ofNat s) = some (Int32.ofNat (gd N T A s), F', S') ∧ F'.length = 6 ∧ S'.length = 40 := by
  obtain ⟨F1, S1, e1, l1, l2⟩ := tr_c0 hP hT hA hX h41 h42 hs
  obtain ⟨F2, S2, e2, l3, l4⟩ := tr_c1 (A := up (up A 41 F1) 42 S1) (I := I) (x := x) hP hT hA hX l1 l2 hs
  obtain ⟨G, -, e3, e4, -⟩ := gd_1 (T := T) (s := s) (A := up (up A 41 F2) 42 S2) (I := I) hA
  refine ⟨F2, S2, ?_, l3, l4⟩
  have e3 : gd N T A s = G := e3
  unfold f_X1_goodUnder
  rw [e1, Option.bind_some]
  dsimp only
  rw [e2, Option.bind_some]
  dsimp only
  rw [show f_X1_goodAmong (up (up A 41 F2) 42 S2) I (Int32.ofNat (tr N T A s 0)) (Int32.ofNat (tr N T (up (up A 41 F1) 42 S1) s 1)) = some (Int32.ofNat G) from e4, e3]
  rfl
theorem gd_m (hP : hPpl P A I) (hT : hTrn T A I) (hA : hAct N A I) (hX : hTxt X A I x) (h107 : (A 107).length = 6) (h108 : (A 108).length = 161) (hs : s < 3) : ∃ F' S', f_X12_goodBy A I (Int32.ofNat s) = some (Int32.ofNat (gd N T A s), F', S') ∧ F'.length = 6 ∧ S'.length = 161 := by
  obtain ⟨F1, S1, e1, l1, l2⟩ := tr_m0 hP (hTm_of hT) hA hX h107 h108 hs
  obtain ⟨F2, S2, e2, l3, l4⟩ := tr_m1 (A := up (up A 107 F1) 108 S1) (I := I) (x := x) hP (hTm_of hT) hA hX l1 l2 hs
  obtain ⟨G, -, e3, -, e4⟩ := gd_1 (T := T) (s := s) (A := up (up A 107 F2) 108 S2) (I := I) hA
  refine ⟨F2, S2, ?_, l3, l4⟩
  have e3 : gd N T A s = G := e3
  unfold f_X12_goodBy
  rw [e1, Option.bind_some]
  dsimp only
  rw [e2, Option.bind_some]
  dsimp only
  rw [show f_X12_goodOf (up (up A 107 F2) 108 S2) I (Int32.ofNat (tr N T A s 0)) (Int32.ofNat (tr N T (up (up A 107 F1) 108 S1) s 1)) = some (Int32.ofNat G) from e4, e3]
  rfl
end Gd
/-- whether ACT k runs on DAY w -/
noncomputable def onv (A : Nat → List Int32) (I : Nat → Int32) (k w : Nat) : Bool := decide (f_X12_isOn A I (Int32.ofNat k) (Int32.ofNat w) = some 1)
theorem onv_1 {N k w : Nat} {A : Nat → List Int32} {I : Nat → Int32} (hA : hAct N A I) (hk : k < N) (hw : w ≤ 9999) : f_X2_runsOn A I (Int32.ofNat k) (Int32.ofNat w) = some (if onv A I k w then 1 else 0) ∧ f_X12_isOn A I (Int32.ofNat k) (Int32.ofNat w) = some (if onv A I k w then 1 else 0) := by
  obtain ⟨b, e1, e2⟩ := on_1 hA hk hw
  have : onv A I k w = b := by
    unfold onv
    rw [e2]
    cases b <;> decide
  rw [this]
  exact ⟨e1, e2⟩
/-- the NAMING of an OFFICE that is in force -/
noncomputable def nmf (N : Nat) (A : Nat → List Int32) (I : Nat → Int32) (G : Nat) (o : Int32) (w : Nat) : Option Nat := match nm N A G o (Int32.ofNat w) with
  | none => none
  | some b => if onv A I b w then some b else none
theorem nmf_iff {N G w k : Nat} {A : Nat → List Int32} {I : Nat → Int32} {o : Int32} : nmf N A I G o w = some k ↔ nm N A G o (Int32.ofNat w) = some k ∧ onv A I k w = true := by
  unfold nmf
  cases nm N A G o (Int32.ofNat w) with
  | none => exact ⟨fun h => (by cases h), fun h => (by cases h.1)⟩
  | some b =>
    show (if onv A I b w = true then some b else none) = some k ↔ _
    constructor
    · intro h
      split at h
      · next q => cases h; exact ⟨rfl, q⟩
      · cases h
    · rintro ⟨h1, h2⟩
      cases h1
      rw [if_pos h2]
theorem nmf_c {N G w : Nat} {A : Nat → List Int32} {I : Nat → Int32} (hA : hAct N A I) (hG : G < 16777216) (o : Int32) (hw : w ≤ 9999) : f_X1_namingOn A I (Int32.ofNat G) o (Int32.ofNat w) = some (eo (nmf N A I G o w)) := by
  obtain ⟨q, e1, e2⟩ := naming_c hA hG o hw
  have : q = nmf N A I G o w := by
    apply Option.ext
    intro k
    rw [e2 k, nmf_iff]
    unfold onv
    rw [decide_eq_true_eq]
  rw [e1, this]
noncomputable def fo (N : Nat) (A : Nat → List Int32) (I : Nat → Int32) (G w : Nat) : Nat → Nat
  | 0 => bset (fun k => G.testBit k && (!decide (g (A 94) k = 1) && onv A I k w)) N
  | o + 1 => fo N A I G w o ||| (match nmf N A I G (Int32.ofNat o) w with | none => 0 | some b => 2 ^ b)
theorem fo_tb {N G w : Nat} {A : Nat → List Int32} {I : Nat → Int32} (i : Nat) : ∀ o, (fo N A I G w o).testBit i = true ↔ (i < N ∧ G.testBit i = true ∧ ¬ g (A 94) i = 1 ∧ onv A I i w = true) ∨ ∃ o', o' < o ∧ nmf N A I G (Int32.ofNat o') w = some i
  | 0 => by
    show (bset _ N).testBit i = true ↔ _
    rw [bset_tb, Bool.and_eq_true, Bool.and_eq_true, Bool.and_eq_true, decide_eq_true_eq, Bool.not_eq_true', decide_eq_false_iff_not]
    constructor
    · rintro ⟨h1, h2, h3, h4⟩; exact Or.inl ⟨h1, h2, h3, h4⟩
    · rintro (⟨h1, h2, h3, h4⟩ | ⟨o', h, -⟩)
      · exact ⟨h1, h2, h3, h4⟩
      · exact absurd h (Nat.not_lt_zero o')
  | o + 1 => by
    show (fo N A I G w o ||| _).testBit i = true ↔ _
    rw [Nat.testBit_or, Bool.or_eq_true, fo_tb i o]
    have key : ((match nmf N A I G (Int32.ofNat o) w with | none => 0 | some b => 2 ^ b : Nat)).testBit i = true ↔ nmf N A I G (Int32.ofNat o) w = some i := by
      cases nmf N A I G (Int32.ofNat o) w with
      | none => exact ⟨fun h => (by rw [Nat.zero_testBit] at h; cases h), fun h => (by cases h)⟩
      | some b =>
        constructor
        · intro h
          by_cases e : b = i
          · rw [e]
          · have h : (2 ^ b).testBit i = true := h
            rw [Nat.testBit_two_pow_of_ne e] at h; cases h
        · intro h; cases h; exact Nat.testBit_two_pow_self
    rw [key]
    constructor
    · rintro ((h | ⟨o', h1, h2⟩) | h)
      · exact Or.inl h
      · exact Or.inr ⟨o', by omega, h2⟩
      · exact Or.inr ⟨o, by omega, h⟩
    · rintro (h | ⟨o', h1, h2⟩)
      · exact Or.inl (Or.inl h)
      · by_cases e : o' = o
        · subst e; exact Or.inr h2
        · exact Or.inl (Or.inr ⟨o', by omega, h2⟩)
theorem force_c {N G w : Nat} {A : Nat → List Int32} {I : Nat → Int32} (hA : hAct N A I) (hG : G < 16777216) (hw : w ≤ 9999) : f_X1_forceOn A I (Int32.ofNat G) (Int32.ofNat w) = some (Int32.ofNat (fo N A I G w 6)) := by
  have hA2 := hA
  obtain ⟨⟨a1, -⟩, ⟨b1, b2, b3, b4, b5, b6, b7, b8⟩, c1, c2, c3, ho⟩ := hA
  unfold f_X1_forceOn
  have k1 := wl_for (step := f_X1_forceOn_l1 A I (Int32.ofNat G) (Int32.ofNat w)) (fun k => (Int32.ofNat (bset (fun k => G.testBit k && (!decide (g (A 94) k = 1) && onv A I k w)) k), Int32.ofNat k)) N (r := Int32.ofNat (fo N A I G w 0)) (fuel := 100000) (by omega) (fun k hk => ?_) ?_
  · rw [show ((0 : Int32), (0 : Int32)) = (Int32.ofNat (bset (fun k => G.testBit k && (!decide (g (A 94) k = 1) && onv A I k w)) 0), Int32.ofNat 0) from rfl, k1, Option.bind_some]
    have k2 := wl_for (step := f_X1_forceOn_l2 A I (Int32.ofNat G) (Int32.ofNat w)) (fun o => (Int32.ofNat (fo N A I G w o), Int32.ofNat o)) 6 (r := Int32.ofNat (fo N A I G w 6)) (fuel := 100000) (by omega) (fun o ho => ?_) ?_
    · show ((wl (f_X1_forceOn_l2 A I (Int32.ofNat G) (Int32.ofNat w)) 100000 (Int32.ofNat (fo N A I G w 0), Int32.ofNat 0)).bind _) = _
      rw [k2]
      rfl
    · show f_X1_forceOn_l2 A I _ _ (_, Int32.ofNat o) = some (.inl (Int32.ofNat (fo N A I G w o ||| _), Int32.ofNat (o + 1)))
      unfold f_X1_forceOn_l2
      dsimp only
      rw [if_neg (by rw [i_lel (by decide) (by omega)]; exact Nat.not_le.mpr ho), nmf_c hA2 hG _ hw, Option.bind_some, i_addr]
      cases hq : nmf N A I G (Int32.ofNat o) w with
      | none =>
        show some (Sum.inl (Int32.ofNat (fo N A I G w o) ||| 0, _)) = _
        rw [show (0 : Int32) = Int32.ofNat 0 from rfl, i_or]
      | some b =>
        have hb := (nm_lt (nmf_iff.mp hq).1).1
        have n1 : ¬ Int32.ofNat b = -1 := i_nm1 (by omega)
        show ((if Int32.ofNat b = -1 then some 0 else some (1 <<< (Int32.ofNat b &&& 31)) : Option Int32).bind _) = _
        rw [if_neg n1, Option.bind_some, i_set (show b < 32 by omega)]
    · show f_X1_forceOn_l2 A I _ _ (_, Int32.ofNat 6) = _
      unfold f_X1_forceOn_l2
      dsimp only
      rw [if_pos (by decide)]
  · show f_X1_forceOn_l1 A I _ _ (_, Int32.ofNat k) = some (.inl (Int32.ofNat (bset _ (k + 1)), Int32.ofNat (k + 1)))
    have r1 : am_at (A 30) (Int32.ofNat k) = some (g (A 94) k) := by rw [a1]; exact am_at_g (by omega) (by omega)
    unfold f_X1_forceOn_l1
    dsimp only
    rw [c2, if_neg (by rw [i_le (by omega) (by omega)]; omega), has_1 (by omega) (by omega), Option.bind_some, i_addr, ← i_bset (by omega), (onv_1 hA2 hk hw).1, r1]
    cases hb : G.testBit k with
    | false => simp only [Bool.false_eq_true, if_false, if_true, Option.bind_some, Bool.false_and]
    | true =>
      by_cases e1 : g (A 94) k = 1
      · simp only [if_neg (show ¬ (1 : Int32) = 0 by decide), if_true, Option.bind_some, if_pos e1, Bool.true_and, decide_eq_true e1, Bool.not_true, Bool.false_and, Bool.false_eq_true, if_false]
      · cases ho : onv A I k w with
        | false => simp only [if_neg (show ¬ (1 : Int32) = 0 by decide), if_true, Option.bind_some, if_neg e1, Bool.true_and, decide_eq_false e1, Bool.not_false, Bool.and_false, Bool.false_eq_true, if_false]
        | true => simp only [if_neg (show ¬ (1 : Int32) = 0 by decide), if_true, Option.bind_some, if_neg e1, Bool.true_and, decide_eq_false e1, Bool.not_false]
  · show f_X1_forceOn_l1 A I _ _ (_, Int32.ofNat N) = _
    unfold f_X1_forceOn_l1
    dsimp only
    rw [c2, if_pos (Int32.le_refl _)]
    rfl
theorem force_m {N G w : Nat} {A : Nat → List Int32} {I : Nat → Int32} (hA : hAct N A I) (hG : G < 16777216) (hw : w ≤ 9999) : wl (f_X12_inForce_l1 A I (Int32.ofNat w) (Int32.ofNat G)) 100000 (0, 0) = some (Int32.ofNat (fo N A I G w 6)) := by
  have hA2 := hA
  obtain ⟨⟨a1, -⟩, ⟨b1, b2, b3, b4, b5, b6, b7, b8⟩, c1, c2, c3, ho⟩ := hA
  have hset : fo N A I G w 6 = bset (fun k => G.testBit k && (onv A I k w && (!decide (g (A 94) k = 1) || decide (nm N A G (g (A 96) k / 12) (Int32.ofNat w) = some k)))) N := by
    apply sb_anti
    · intro i hi
      rw [fo_tb] at hi
      rw [bset_tb]
      rcases hi with ⟨h1, h2, h3, h4⟩ | ⟨o', h1, h2⟩
      · rw [decide_eq_true h1, h2, h4, decide_eq_false h3]; rfl
      · obtain ⟨h3, h4⟩ := nmf_iff.mp h2
        obtain ⟨h5, h6, h7, h8⟩ := nm_lt h3
        rw [decide_eq_true h5, h8, h4, h7, decide_eq_true h3, Bool.or_true]; rfl
    · intro i hi
      rw [bset_tb, Bool.and_eq_true, Bool.and_eq_true, Bool.and_eq_true, decide_eq_true_eq, Bool.or_eq_true, Bool.not_eq_true', decide_eq_false_iff_not, decide_eq_true_eq] at hi
      obtain ⟨h1, h2, h3, h4⟩ := hi
      rw [fo_tb]
      by_cases e : g (A 94) i = 1
      · right
        have h5 := h4.resolve_left (fun q => q e)
        obtain ⟨-, -, ⟨y, hy, ey, h72⟩, -⟩ := ho i (by omega)
        rw [ey, show Int32.ofNat y / 12 = Int32.ofNat (y / 12) from i_div (by omega) (by decide)] at h5
        exact ⟨y / 12, by have := h72 e; omega, nmf_iff.mpr ⟨h5, h3⟩⟩
      · exact Or.inl ⟨h1, h2, e, h3⟩
  rw [hset]
  refine wl_for (step := f_X12_inForce_l1 A I (Int32.ofNat w) (Int32.ofNat G)) (fun k => (Int32.ofNat (bset (fun k => G.testBit k && (onv A I k w && (!decide (g (A 94) k = 1) || decide (nm N A G (g (A 96) k / 12) (Int32.ofNat w) = some k)))) k), Int32.ofNat k)) N (fuel := 100000) (by omega) (fun k hk => ?_) ?_
  · show f_X12_inForce_l1 A I _ _ (_, Int32.ofNat k) = some (.inl (Int32.ofNat (bset _ (k + 1)), Int32.ofNat (k + 1)))
    have r1 : am_at (A 94) (Int32.ofNat k) = some (g (A 94) k) := am_at_g (by omega) (by omega)
    have r2 : am_at (A 96) (Int32.ofNat k) = some (g (A 96) k) := am_at_g (by omega) (by omega)
    unfold f_X12_inForce_l1
    dsimp only
    rw [c3, if_neg (by rw [i_le (by omega) (by omega)]; omega), i_bit (by omega) (by omega), i_addr, ← i_bset (by omega), (onv_1 hA2 hk hw).2, r1, r2]
    have z0 : ∀ y : Int32, y ||| 0 = y := fun y => by
      apply Int32.toBitVec_inj.mp
      show y.toBitVec ||| 0#32 = y.toBitVec
      exact BitVec.or_zero
    cases hb : G.testBit k with
    | false => simp only [Bool.false_eq_true, if_false, if_neg (show ¬ (0 : Int32) = 1 by decide), Option.bind_some, Bool.false_and, z0]
    | true =>
      cases ho : onv A I k w with
      | false => simp only [Bool.false_eq_true, if_false, if_true, Option.bind_some, Bool.false_and, Bool.true_and, z0]
      | true =>
        by_cases e1 : g (A 94) k = 1
        · have hn := naming_m hA2 hG (g (A 96) k / 12) (Int32.ofNat w)
          have hc : eo (nm N A G (g (A 96) k / 12) (Int32.ofNat w)) = Int32.ofNat k ↔ nm N A G (g (A 96) k / 12) (Int32.ofNat w) = some k := by
            cases hq : nm N A G (g (A 96) k / 12) (Int32.ofNat w) with
            | none => exact ⟨fun q => absurd q.symm (i_nm1 (show k < 2147483648 by omega)), fun q => (by cases q)⟩
            | some b =>
              have hb2 := (nm_lt hq).1
              exact ⟨fun q => by rw [(i_eq (by omega) (by omega)).mp q], fun q => by cases q; rfl⟩
          by_cases e2 : nm N A G (g (A 96) k / 12) (Int32.ofNat w) = some k
          · simp only [if_neg (show ¬ (1 : Int32) = 0 by decide), if_true, Option.bind_some, if_pos e1, hn, if_pos (hc.mpr e2), Bool.true_and, decide_eq_true e1, decide_eq_true e2, Bool.or_true]
          · simp only [if_neg (show ¬ (1 : Int32) = 0 by decide), if_true, Option.bind_some, if_pos e1, hn, if_neg (fun q => e2 (hc.mp q)), Bool.true_and, decide_eq_true e1, decide_eq_false e2, Bool.not_true, Bool.or_false, Bool.false_eq_true, if_false, z0]
        · simp only [if_neg (show ¬ (1 : Int32) = 0 by decide), if_true, Option.bind_some, if_neg e1, Bool.true_and, decide_eq_false e1, Bool.not_false, Bool.true_or]
  · show f_X12_inForce_l1 A I _ _ (_, Int32.ofNat N) = _
    unfold f_X12_inForce_l1
    dsimp only
    rw [c3, if_pos (Int32.le_refl _)]
