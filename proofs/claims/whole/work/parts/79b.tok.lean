/-! ===== WORDS, and one TOKEN ===== -/
section Tok
variable {A : Nat → List Int32} {I : Nat → Int32} {B : List Int32} {Z p b e : Nat}
abbrev wds (B : List Int32) (b e : Nat) (j : Nat) : Bool := wd B b e (am_str j)
def nam (B : List Int32) (b e : Nat) : Int32 := if wds B b e 0 = true then -1 else if wds B b e 1 = true then -2 else if wds B b e 2 = true then -3 else if wds B b e 3 = true then -4 else if wds B b e 4 = true then -5 else if wds B b e 5 = true then -6 else 0
def key (B : List Int32) (b e : Nat) : Int32 := if wds B b e 6 = true then 4 else if wds B b e 7 = true then 5 else if wds B b e 8 = true then 6 else if wds B b e 9 = true then 7 else if wds B b e 10 = true then 8 else 1
theorem str_len (j : Nat) : (am_str j).length < 100 := by
  unfold am_str
  split <;> decide
theorem nam8 (hA : A 53 = B) (hI : I 3332 = Int32.ofNat e) (hB : B.length = 160) (he : e ≤ 160) (hb : b ≤ e) : f_X8_nameFrom A I (Int32.ofNat b) = some (nam B b e) := by
  have k0 : f_X8_spells_s0 A I (Int32.ofNat b) = some (if wds B b e 0 = true then 1 else 0) := by
    rw [← spg_eq (str_len 0) hB he hb, ← hA, ← hI]; rfl
  have k1 : f_X8_spells_s1 A I (Int32.ofNat b) = some (if wds B b e 1 = true then 1 else 0) := by
    rw [← spg_eq (str_len 1) hB he hb, ← hA, ← hI]; rfl
  have k2 : f_X8_spells_s2 A I (Int32.ofNat b) = some (if wds B b e 2 = true then 1 else 0) := by
    rw [← spg_eq (str_len 2) hB he hb, ← hA, ← hI]; rfl
  have k3 : f_X8_spells_s3 A I (Int32.ofNat b) = some (if wds B b e 3 = true then 1 else 0) := by
    rw [← spg_eq (str_len 3) hB he hb, ← hA, ← hI]; rfl
  have k4 : f_X8_spells_s4 A I (Int32.ofNat b) = some (if wds B b e 4 = true then 1 else 0) := by
    rw [← spg_eq (str_len 4) hB he hb, ← hA, ← hI]; rfl
  have k5 : f_X8_spells_s5 A I (Int32.ofNat b) = some (if wds B b e 5 = true then 1 else 0) := by
    rw [← spg_eq (str_len 5) hB he hb, ← hA, ← hI]; rfl
  unfold f_X8_nameFrom nam
  rw [k0, k1, k2, k3, k4, k5]
  cases wds B b e 0 <;> cases wds B b e 1 <;> cases wds B b e 2 <;> cases wds B b e 3 <;> cases wds B b e 4 <;> cases wds B b e 5 <;> rfl
theorem key8 (hA : A 53 = B) (hI : I 3332 = Int32.ofNat e) (hB : B.length = 160) (he : e ≤ 160) (hb : b ≤ e) : f_X8_keyFrom A I (Int32.ofNat b) = some (key B b e) := by
  have k0 : f_X8_spells_s6 A I (Int32.ofNat b) = some (if wds B b e 6 = true then 1 else 0) := by
    rw [← spg_eq (str_len 6) hB he hb, ← hA, ← hI]; rfl
  have k1 : f_X8_spells_s7 A I (Int32.ofNat b) = some (if wds B b e 7 = true then 1 else 0) := by
    rw [← spg_eq (str_len 7) hB he hb, ← hA, ← hI]; rfl
  have k2 : f_X8_spells_s8 A I (Int32.ofNat b) = some (if wds B b e 8 = true then 1 else 0) := by
    rw [← spg_eq (str_len 8) hB he hb, ← hA, ← hI]; rfl
  have k3 : f_X8_spells_s9 A I (Int32.ofNat b) = some (if wds B b e 9 = true then 1 else 0) := by
    rw [← spg_eq (str_len 9) hB he hb, ← hA, ← hI]; rfl
  have k4 : f_X8_spells_s10 A I (Int32.ofNat b) = some (if wds B b e 10 = true then 1 else 0) := by
    rw [← spg_eq (str_len 10) hB he hb, ← hA, ← hI]; rfl
  unfold f_X8_keyFrom key
  rw [k0, k1, k2, k3, k4]
  cases wds B b e 6 <;> cases wds B b e 7 <;> cases wds B b e 8 <;> cases wds B b e 9 <;> cases wds B b e 10 <;> rfl
/-- the letters, the last one first, five bits each -/
def ich : List Int32 → Int64 → Prop
  | [], c => c = 0
  | a :: l, c => ¬ c ≤ 0 ∧ (c &&& 31) = Int32.toInt64 (a - 96) ∧ ich l (c >>> (Int32.toInt64 5 &&& 63))
theorem ich_ne {l : List Int32} {c : Int64} (h : ich l c) (hl : l ≠ []) : ¬ c = 0 := by
  cases l with
  | nil => exact absurd rfl hl
  | cons a l => intro q; exact h.1 (by rw [q]; exact Int64.le_refl _)
theorem am_at_p {q : Nat} (hq : 1 ≤ q) (h : q ≤ B.length) (h2 : B.length ≤ 100000) : am_at B (Int32.ofNat q - 1) = some (g B (q - 1)) := by
  rw [show Int32.ofNat q - 1 = Int32.ofNat (q - 1) from i_subr (n := 1) hq]
  exact am_at_g (by omega) h2
theorem pred_lt {q : Nat} (hq : q ≤ 1000) (hb : b ≤ 1000) : (Int32.ofNat q - 1 < Int32.ofNat b) ↔ q ≤ b := by
  rcases Nat.eq_zero_or_pos q with rfl | h
  · constructor
    · intro _; omega
    · intro _
      rw [Int32.lt_iff_toInt_lt, i_ti (by omega), show ((Int32.ofNat 0 - 1 : Int32).toInt) = -1 from rfl]
      omega
  · rw [show Int32.ofNat q - 1 = Int32.ofNat (q - 1) from i_subr (n := 1) h, i_lt (by omega) (by omega)]
    omega
theorem pred_eq {q : Nat} (hq : q ≤ 1000) (hb : b ≤ 1000) : (Int32.ofNat q - 1 = Int32.ofNat b - 1) ↔ q = b := by
  constructor
  · intro h
    have := congrArg (fun v => v + 1) h
    simp only [Int32.sub_add_cancel] at this
    exact (i_eq (by omega) (by omega)).mp this
  · intro h; rw [h]
theorem sub96 {v a : Int32} : Int32.toInt64 (a - 96) = Int32.toInt64 (v - 96) ↔ v = a := by
  constructor
  · intro h
    have h2 := congrArg Int64.toInt32 h
    rw [Int32.toInt32_toInt64, Int32.toInt32_toInt64] at h2
    have := congrArg (fun v => v + 96) h2
    simp only [Int32.sub_add_cancel] at this
    exact this.symm
  · intro h; rw [h]
theorem isw_1 (hA : A 101 = B) (hI : I 5467 = Int32.ofNat b) (hB : B.length = 160) : ∀ (l : List Int32) (c : Int64) (q k : Nat), ich l c → b ≤ q → q ≤ 160 → ∃ c' q', wl (f_X12_isWord_l1 A I) (l.length + 1 + k) (c, Int32.ofNat q - 1) = some (c', Int32.ofNat q' - 1) ∧ q' ≤ 160 ∧ ((c' = 0 ∧ q' = b) ↔ (q - b = l.length ∧ ∀ i, i < l.length → g B (q - 1 - i) = g l i))
  | [], c, q, k, hc, hq, hq2 => by
    refine ⟨c, q, ?_, hq2, ?_⟩
    · rw [show ([] : List Int32).length + 1 + k = k + 1 from by rw [List.length_nil]; omega]
      unfold wl f_X12_isWord_l1
      dsimp only
      rw [hI, hc]
      by_cases h : Int32.ofNat q - 1 < Int32.ofNat b
      · rw [if_pos h]
      · rw [if_neg h, if_pos ((lg_cmp_le _ _).mpr (Int64.le_refl _))]
    · constructor
      · intro h; exact ⟨by rw [h.2, List.length_nil]; omega, fun i hi => absurd hi (Nat.not_lt_zero i)⟩
      · intro h; exact ⟨hc, by have := h.1; rw [List.length_nil] at this; omega⟩
  | a :: l, c, q, k, hc, hq, hq2 => by
    obtain ⟨h1, h2, h3⟩ := hc
    have c0 : ¬ c = 0 := fun q => h1 (by rw [q]; exact Int64.le_refl _)
    by_cases hqb : q ≤ b
    · refine ⟨c, q, ?_, hq2, ?_⟩
      · rw [show (a :: l).length + 1 + k = ((a :: l).length + k) + 1 from by omega]
        unfold wl f_X12_isWord_l1
        dsimp only
        rw [hI, if_pos ((pred_lt (by omega) (by omega)).mpr hqb)]
      · constructor
        · intro h; exact absurd h.1 c0
        · intro h; exfalso; have := h.1; rw [List.length_cons] at this; omega
    · have step : f_X12_isWord_l1 A I (c, Int32.ofNat q - 1) = if g B (q - 1) = a then some (.inl (c >>> (Int32.toInt64 5 &&& 63), Int32.ofNat (q - 1) - 1)) else some (.inr (c, Int32.ofNat q - 1)) := by
        unfold f_X12_isWord_l1
        dsimp only
        rw [hI, if_neg (fun z => hqb ((pred_lt (by omega) (by omega)).mp z)), if_neg (fun z => h1 ((lg_cmp_le _ _).mp z)), hA, am_at_p (by omega) (by omega) (by omega), Option.bind_some]
        by_cases cv : g B (q - 1) = a
        · rw [if_pos cv, if_pos ((lg_cmp_eq _ _).mpr (by rw [h2, cv])), show Int32.ofNat q - 1 + -1 = Int32.ofNat (q - 1) - 1 from by rw [show Int32.ofNat q - 1 = Int32.ofNat (q - 1) from i_subr (n := 1) (by omega), Int32.sub_eq_add_neg]]
        · rw [if_neg cv, if_neg (fun z => cv (sub96.mp (by rw [← h2]; exact (lg_cmp_eq _ _).mp z)))]
      rw [show (a :: l).length + 1 + k = (l.length + 1 + k) + 1 from by rw [List.length_cons]; omega]
      unfold wl
      rw [step]
      by_cases cv : g B (q - 1) = a
      · rw [if_pos cv]
        dsimp only
        obtain ⟨c', q', e1, e2, e3⟩ := isw_1 hA hI hB l _ (q - 1) k h3 (by omega) (by omega)
        refine ⟨c', q', e1, e2, e3.trans ?_⟩
        constructor
        · intro h
          refine ⟨by rw [List.length_cons]; omega, fun i hi => ?_⟩
          cases i with
          | zero => exact cv
          | succ i => rw [show q - 1 - (i + 1) = q - 1 - 1 - i from by omega]; exact h.2 i (by rw [List.length_cons] at hi; omega)
        · intro h
          have hl := h.1
          rw [List.length_cons] at hl
          refine ⟨by omega, fun i hi => ?_⟩
          have := h.2 (i + 1) (by rw [List.length_cons]; omega)
          rw [show q - 1 - (i + 1) = q - 1 - 1 - i from by omega] at this
          exact this
      · rw [if_neg cv]
        refine ⟨c, q, rfl, hq2, ?_⟩
        constructor
        · intro h; exact absurd h.1 c0
        · intro h
          exact absurd (h.2 0 (by rw [List.length_cons]; omega)) cv
theorem g_rev {w : List Int32} {i : Nat} (h : i < w.length) : g w.reverse i = g w (w.length - 1 - i) := by
  unfold g
  rw [List.getD_eq_getElem?_getD, List.getD_eq_getElem?_getD, List.getElem?_reverse h]
theorem isw_eq (hA : A 101 = B) (hI : I 5467 = Int32.ofNat b) (hI2 : I 5464 = Int32.ofNat e) (hB : B.length = 160) (he : e ≤ 160) (hb : b ≤ e) {w : List Int32} {c : Int64} (hw : w.length < 100) (hc : ich w.reverse c) : f_X12_isWord A I c = some (if wd B b e w = true then 1 else 0) := by
  obtain ⟨c', q', e1, e2, e3⟩ := isw_1 hA hI hB w.reverse c e (100000 - (w.reverse.length + 1)) hc hb he
  rw [List.length_reverse] at e1
  rw [show w.length + 1 + (100000 - (w.length + 1)) = 100000 from by omega] at e1
  unfold f_X12_isWord
  rw [hI2, e1, hI, Option.bind_some]
  dsimp only
  have key : (c' = 0 ∧ q' = b) ↔ wd B b e w = true := by
    rw [e3, List.length_reverse]
    unfold wd
    rw [decide_eq_true_eq]
    constructor
    · rintro ⟨h1, h2⟩
      refine ⟨h1, fun i hi => ?_⟩
      have := h2 (w.length - 1 - i) (by omega)
      rw [g_rev (by omega), show w.length - 1 - (w.length - 1 - i) = i from by omega, show e - 1 - (w.length - 1 - i) = b + i from by omega] at this
      exact this
    · rintro ⟨h1, h2⟩
      refine ⟨h1, fun i hi => ?_⟩
      rw [g_rev hi, ← h2 (w.length - 1 - i) (by omega), show b + (w.length - 1 - i) = e - 1 - i from by omega]
  by_cases h : wd B b e w = true
  · have k := key.mpr h
    rw [if_pos ((lg_cmp_eq _ _).mpr k.1), if_pos ((pred_eq (by omega) (by omega)).mpr k.2), if_pos h]
  · rw [if_neg h]
    by_cases k1 : c' = 0
    · rw [if_pos ((lg_cmp_eq _ _).mpr k1), if_neg (fun z => h (key.mp ⟨k1, (pred_eq (by omega) (by omega)).mp z⟩))]
    · rw [if_neg (fun z => k1 ((lg_cmp_eq _ _).mp z))]
def ichb : List Int32 → Int64 → Bool
  | [], c => decide (c = 0)
  | a :: l, c => !(decide (c ≤ 0)) && (decide ((c &&& 31) = Int32.toInt64 (a - 96)) && ichb l (c >>> (Int32.toInt64 5 &&& 63)))
theorem ich_of : ∀ (l : List Int32) (c : Int64), ichb l c = true → ich l c
  | [], c, h => (of_decide_eq_true h : c = 0)
  | a :: l, c, h => by
    unfold ichb at h
    rw [Bool.and_eq_true, Bool.and_eq_true] at h
    obtain ⟨h1, h2, h3⟩ := h
    refine ⟨fun q => ?_, of_decide_eq_true h2, ich_of l _ h3⟩
    rw [decide_eq_true q] at h1
    cases h1
theorem isw0 (hA : A 101 = B) (hI : I 5467 = Int32.ofNat b) (hI2 : I 5464 = Int32.ofNat e) (hB : B.length = 160) (he : e ≤ 160) (hb : b ≤ e) : f_X12_isWord A I 370116 = some (if wds B b e 0 = true then 1 else 0) := isw_eq hA hI hI2 hB he hb (str_len 0) (ich_of _ _ (by decide +kernel))
theorem isw1 (hA : A 101 = B) (hI : I 5467 = Int32.ofNat b) (hI2 : I 5464 = Int32.ofNat e) (hB : B.length = 160) (he : e ≤ 160) (hb : b ≤ e) : f_X12_isWord A I 4153 = some (if wds B b e 1 = true then 1 else 0) := isw_eq hA hI hI2 hB he hb (str_len 1) (ich_of _ _ (by decide +kernel))
theorem isw2 (hA : A 101 = B) (hI : I 5467 = Int32.ofNat b) (hI2 : I 5464 = Int32.ofNat e) (hB : B.length = 160) (he : e ≤ 160) (hb : b ≤ e) : f_X12_isWord A I 591307 = some (if wds B b e 2 = true then 1 else 0) := isw_eq hA hI hI2 hB he hb (str_len 2) (ich_of _ _ (by decide +kernel))
theorem isw3 (hA : A 101 = B) (hI : I 5467 = Int32.ofNat b) (hI2 : I 5464 = Int32.ofNat e) (hB : B.length = 160) (he : e ≤ 160) (hb : b ≤ e) : f_X12_isWord A I 624037 = some (if wds B b e 3 = true then 1 else 0) := isw_eq hA hI hI2 hB he hb (str_len 3) (ich_of _ _ (by decide +kernel))
theorem isw4 (hA : A 101 = B) (hI : I 5467 = Int32.ofNat b) (hI2 : I 5464 = Int32.ofNat e) (hB : B.length = 160) (he : e ≤ 160) (hb : b ≤ e) : f_X12_isWord A I 8435955 = some (if wds B b e 4 = true then 1 else 0) := isw_eq hA hI hI2 hB he hb (str_len 4) (ich_of _ _ (by decide +kernel))
theorem isw5 (hA : A 101 = B) (hI : I 5467 = Int32.ofNat b) (hI2 : I 5464 = Int32.ofNat e) (hB : B.length = 160) (he : e ≤ 160) (hb : b ≤ e) : f_X12_isWord A I 6334088 = some (if wds B b e 5 = true then 1 else 0) := isw_eq hA hI hI2 hB he hb (str_len 5) (ich_of _ _ (by decide +kernel))
theorem isw6 (hA : A 101 = B) (hI : I 5467 = Int32.ofNat b) (hI2 : I 5464 = Int32.ofNat e) (hB : B.length = 160) (he : e ≤ 160) (hb : b ≤ e) : f_X12_isWord A I 2406547 = some (if wds B b e 6 = true then 1 else 0) := isw_eq hA hI hI2 hB he hb (str_len 6) (ich_of _ _ (by decide +kernel))
theorem isw7 (hA : A 101 = B) (hI : I 5467 = Int32.ofNat b) (hI2 : I 5464 = Int32.ofNat e) (hB : B.length = 160) (he : e ≤ 160) (hb : b ≤ e) : f_X12_isWord A I 19978404 = some (if wds B b e 7 = true then 1 else 0) := isw_eq hA hI hI2 hB he hb (str_len 7) (ich_of _ _ (by decide +kernel))
theorem isw8 (hA : A 101 = B) (hI : I 5467 = Int32.ofNat b) (hI2 : I 5464 = Int32.ofNat e) (hB : B.length = 160) (he : e ≤ 160) (hb : b ≤ e) : f_X12_isWord A I 498 = some (if wds B b e 8 = true then 1 else 0) := isw_eq hA hI hI2 hB he hb (str_len 8) (ich_of _ _ (by decide +kernel))
theorem isw9 (hA : A 101 = B) (hI : I 5467 = Int32.ofNat b) (hI2 : I 5464 = Int32.ofNat e) (hB : B.length = 160) (he : e ≤ 160) (hb : b ≤ e) : f_X12_isWord A I 1476 = some (if wds B b e 9 = true then 1 else 0) := isw_eq hA hI hI2 hB he hb (str_len 9) (ich_of _ _ (by decide +kernel))
theorem isw10 (hA : A 101 = B) (hI : I 5467 = Int32.ofNat b) (hI2 : I 5464 = Int32.ofNat e) (hB : B.length = 160) (he : e ≤ 160) (hb : b ≤ e) : f_X12_isWord A I 14836 = some (if wds B b e 10 = true then 1 else 0) := isw_eq hA hI hI2 hB he hb (str_len 10) (ich_of _ _ (by decide +kernel))
/-- what the model has for a TOKEN of the class -/
def tkr (T V t v : Int32) : Prop := (T = 0 ∧ t = 0) ∨ (T = 1 ∧ t = 5) ∨ (T = 2 ∧ t = 1 ∧ v = V ∧ ∃ n, n < 10000 ∧ V = Int32.ofNat n) ∨ (T = 3 ∧ t = 2 ∧ ((V = -1 ∧ v = 0) ∨ (V = -2 ∧ v = 1) ∨ (V = -3 ∧ v = 2) ∨ (V = -4 ∧ v = 3) ∨ (V = -5 ∧ v = 4) ∨ (V = -6 ∧ v = 5))) ∨ (t = 3 ∧ ((T = 4 ∧ v = 0) ∨ (T = 5 ∧ v = 1) ∨ (T = 6 ∧ v = 2) ∨ (T = 7 ∧ v = 3) ∨ (T = 8 ∧ v = 4))) ∨ (t = 4 ∧ v = T ∧ (T = 40 ∨ T = 41 ∨ T = 59 ∨ T = 43 ∨ T = 45 ∨ T = 42 ∨ T = 60 ∨ T = 61))
def wT (B : List Int32) (b e : Nat) : Int32 := if nam B b e < 0 then 3 else key B b e
theorem word12 (hA : A 101 = B) (hZ : I 5459 = Int32.ofNat Z) (hI : I 5467 = Int32.ofNat b) (hI2 : I 5464 = Int32.ofNat b) (hB : B.length = 160) (hZ2 : Z ≤ 160) (hb : b ≤ Z) : ∃ t v, f_X12_wordToken A I = some (Int32.ofNat (sc fL B Z b), t, v) ∧ tkr (wT B b (sc fL B Z b)) (nam B b (sc fL B Z b)) t v := by
  have hs := sc_le (f := fL) (B := B) hb
  have e0 : wl (f_X12_wordToken_l1 A I) 100000 (I 5464) = some (Int32.ofNat (sc fL B Z b)) := by
    rw [hI2, ← ltk_eq hB hZ2 hb, ← hA, ← hZ]; rfl
  unfold f_X12_wordToken wT
  rw [e0, Option.bind_some]
  generalize hE : sc fL B Z b = E at *
  have k0 := isw0 (I := up (up I 5464 (Int32.ofNat E)) 5465 2) hA hI rfl hB (by omega : E ≤ 160) hs.1
  have k1 := isw1 (I := up (up I 5464 (Int32.ofNat E)) 5465 2) hA hI rfl hB (by omega : E ≤ 160) hs.1
  have k2 := isw2 (I := up (up I 5464 (Int32.ofNat E)) 5465 2) hA hI rfl hB (by omega : E ≤ 160) hs.1
  have k3 := isw3 (I := up (up I 5464 (Int32.ofNat E)) 5465 2) hA hI rfl hB (by omega : E ≤ 160) hs.1
  have k4 := isw4 (I := up (up I 5464 (Int32.ofNat E)) 5465 2) hA hI rfl hB (by omega : E ≤ 160) hs.1
  have k5 := isw5 (I := up (up I 5464 (Int32.ofNat E)) 5465 2) hA hI rfl hB (by omega : E ≤ 160) hs.1
  have k6 := isw6 (I := up (up (up I 5464 (Int32.ofNat E)) 5465 3) 5466 (-1)) hA hI rfl hB (by omega : E ≤ 160) hs.1
  have k7 := isw7 (I := up (up (up I 5464 (Int32.ofNat E)) 5465 3) 5466 (-1)) hA hI rfl hB (by omega : E ≤ 160) hs.1
  have k8 := isw8 (I := up (up (up I 5464 (Int32.ofNat E)) 5465 3) 5466 (-1)) hA hI rfl hB (by omega : E ≤ 160) hs.1
  have k9 := isw9 (I := up (up (up I 5464 (Int32.ofNat E)) 5465 3) 5466 (-1)) hA hI rfl hB (by omega : E ≤ 160) hs.1
  have k10 := isw10 (I := up (up (up I 5464 (Int32.ofNat E)) 5465 3) 5466 (-1)) hA hI rfl hB (by omega : E ≤ 160) hs.1
  unfold nam key
  rw [k0, k1, k2, k3, k4, k5]
  cases h0 : wds B b E 0 with
  | true => exact ⟨2, 0, rfl, Or.inr (Or.inr (Or.inr (Or.inl ⟨rfl, rfl, Or.inl ⟨rfl, rfl⟩⟩)))⟩
  | false =>
    cases h1 : wds B b E 1 with
    | true => exact ⟨2, 1, rfl, Or.inr (Or.inr (Or.inr (Or.inl ⟨rfl, rfl, Or.inr (Or.inl ⟨rfl, rfl⟩)⟩)))⟩
    | false =>
      cases h2 : wds B b E 2 with
      | true => exact ⟨2, 2, rfl, Or.inr (Or.inr (Or.inr (Or.inl ⟨rfl, rfl, Or.inr (Or.inr (Or.inl ⟨rfl, rfl⟩))⟩)))⟩
      | false =>
        cases h3 : wds B b E 3 with
        | true => exact ⟨2, 3, rfl, Or.inr (Or.inr (Or.inr (Or.inl ⟨rfl, rfl, Or.inr (Or.inr (Or.inr (Or.inl ⟨rfl, rfl⟩)))⟩)))⟩
        | false =>
          cases h4 : wds B b E 4 with
          | true => exact ⟨2, 4, rfl, Or.inr (Or.inr (Or.inr (Or.inl ⟨rfl, rfl, Or.inr (Or.inr (Or.inr (Or.inr (Or.inl ⟨rfl, rfl⟩))))⟩)))⟩
          | false =>
            cases h5 : wds B b E 5 with
            | true => exact ⟨2, 5, rfl, Or.inr (Or.inr (Or.inr (Or.inl ⟨rfl, rfl, Or.inr (Or.inr (Or.inr (Or.inr (Or.inr ⟨rfl, rfl⟩))))⟩)))⟩
            | false =>
              show ∃ t v, (f_X12_isWord A (up (up (up I 5464 (Int32.ofNat E)) 5465 3) 5466 (-1)) 2406547).bind _ = _ ∧ _
              rw [k6, k7, k8, k9, k10]
              cases h6 : wds B b E 6 with
              | true => exact ⟨3, 0, rfl, Or.inr (Or.inr (Or.inr (Or.inr (Or.inl ⟨rfl, Or.inl ⟨rfl, rfl⟩⟩))))⟩
              | false =>
                cases h7 : wds B b E 7 with
                | true => exact ⟨3, 1, rfl, Or.inr (Or.inr (Or.inr (Or.inr (Or.inl ⟨rfl, Or.inr (Or.inl ⟨rfl, rfl⟩)⟩))))⟩
                | false =>
                  cases h8 : wds B b E 8 with
                  | true => exact ⟨3, 2, rfl, Or.inr (Or.inr (Or.inr (Or.inr (Or.inl ⟨rfl, Or.inr (Or.inr (Or.inl ⟨rfl, rfl⟩))⟩))))⟩
                  | false =>
                    cases h9 : wds B b E 9 with
                    | true => exact ⟨3, 3, rfl, Or.inr (Or.inr (Or.inr (Or.inr (Or.inl ⟨rfl, Or.inr (Or.inr (Or.inr (Or.inl ⟨rfl, rfl⟩)))⟩))))⟩
                    | false =>
                      cases h10 : wds B b E 10 with
                      | true => exact ⟨3, 4, rfl, Or.inr (Or.inr (Or.inr (Or.inr (Or.inl ⟨rfl, Or.inr (Or.inr (Or.inr (Or.inr ⟨rfl, rfl⟩)))⟩))))⟩
                      | false =>
                        exact ⟨5, -1, rfl, Or.inr (Or.inl ⟨rfl, rfl⟩)⟩
/-! one TOKEN: where it begins, where the next one is looked for, its kind, its worth -/
def lB (B : List Int32) (Z p : Nat) : Nat := sc fB B Z p
def lE (B : List Int32) (Z p : Nat) : Nat := if Z ≤ lB B Z p then lB B Z p else if fL (g B (lB B Z p)) = true then sc fL B Z (lB B Z p) else if fD (g B (lB B Z p)) = true then sc fD B Z (lB B Z p) else lB B Z p + 1
def lT (B : List Int32) (Z p : Nat) : Int32 := if Z ≤ lB B Z p then 0 else if fL (g B (lB B Z p)) = true then wT B (lB B Z p) (sc fL B Z (lB B Z p)) else if fD (g B (lB B Z p)) = true then (if 4 < sc fD B Z (lB B Z p) - lB B Z p then 1 else 2) else if fS (g B (lB B Z p)) = true then g B (lB B Z p) else 1
def lV (B : List Int32) (Z p : Nat) : Int32 := if fL (g B (lB B Z p)) = true then nam B (lB B Z p) (sc fL B Z (lB B Z p)) else nv B (lB B Z p) (sc fD B Z (lB B Z p) - lB B Z p)
theorem lB_le (hp : p ≤ Z) : p ≤ lB B Z p ∧ lB B Z p ≤ Z := sc_le hp
theorem lE_le (hp : p ≤ Z) : lB B Z p ≤ lE B Z p ∧ lE B Z p ≤ Z ∧ (lB B Z p < Z → lB B Z p < lE B Z p) := by
  have hb := lB_le (B := B) hp
  unfold lE
  by_cases h : Z ≤ lB B Z p
  · rw [if_pos h]; omega
  rw [if_neg h]
  by_cases h1 : fL (g B (lB B Z p)) = true
  · rw [if_pos h1, sc_step (by omega) h1]
    have := sc_le (f := fL) (B := B) (show lB B Z p + 1 ≤ Z by omega)
    omega
  rw [if_neg h1]
  by_cases h2 : fD (g B (lB B Z p)) = true
  · rw [if_pos h2, sc_step (by omega) h2]
    have := sc_le (f := fD) (B := B) (show lB B Z p + 1 ≤ Z by omega)
    omega
  rw [if_neg h2]
  omega
theorem fS_or {v : Int32} (h : fS v = true) : v = 40 ∨ v = 41 ∨ v = 59 ∨ v = 43 ∨ v = 45 ∨ v = 42 ∨ v = 60 ∨ v = 61 := by
  unfold fS at h
  simp only [Bool.or_eq_true, decide_eq_true_eq] at h
  exact h
theorem nam_or (B : List Int32) (b e : Nat) : nam B b e = 0 ∨ nam B b e < 0 := by
  unfold nam
  cases wds B b e 0 <;> cases wds B b e 1 <;> cases wds B b e 2 <;> cases wds B b e 3 <;> cases wds B b e 4 <;> cases wds B b e 5 <;> decide
theorem key_or (B : List Int32) (b e : Nat) : key B b e = 1 ∨ key B b e = 4 ∨ key B b e = 5 ∨ key B b e = 6 ∨ key B b e = 7 ∨ key B b e = 8 := by
  unfold key
  cases wds B b e 6 <;> cases wds B b e 7 <;> cases wds B b e 8 <;> cases wds B b e 9 <;> cases wds B b e 10 <;> decide
theorem lT_end (h : ¬ lT B Z p = 0) : lB B Z p < Z := by
  by_cases c : Z ≤ lB B Z p
  · exact absurd (by unfold lT; rw [if_pos c]) h
  · omega
theorem sc_dig {b i : Nat} (h1 : b ≤ i) (h2 : i < sc fD B Z b) : fD (g B i) = true := sc_all _ _ _ h1 h2
theorem next_eq (hA : A 101 = B) (hZ : I 5459 = Int32.ofNat Z) (hI : I 5464 = Int32.ofNat p) (hB : B.length = 160) (hZ2 : Z ≤ 160) (hp : p ≤ Z) : ∃ t v, f_X12_next A I = some (Int32.ofNat (lE B Z p), t, v, Int32.ofNat (lB B Z p)) ∧ tkr (lT B Z p) (lV B Z p) t v := by
  have hb := lB_le (B := B) hp
  have e0 : wl (f_X12_next_l1 A I) 100000 (I 5464) = some (Int32.ofNat (lB B Z p)) := by
    rw [hI, show lB B Z p = sc fB B Z p from rfl, ← blk_eq hB hZ2 hp, ← hA, ← hZ]; rfl
  unfold f_X12_next lE lT lV
  rw [e0, Option.bind_some, hZ]
  generalize hE : lB B Z p = b at *
  by_cases h : Z ≤ b
  · rw [if_pos (by rw [show b = Z from by omega]), if_pos h, if_pos h]
    exact ⟨_, _, rfl, Or.inl ⟨rfl, rfl⟩⟩
  rw [if_neg (fun q => h (by have := (i_eq (by omega) (by omega)).mp q; omega)), hA, am_at_g (by omega) (by omega), Option.bind_some, let12, Option.bind_some, ifz, if_neg h, if_neg h]
  by_cases h1 : fL (g B b) = true
  · rw [if_pos h1, if_pos h1, if_pos h1, if_pos h1]
    obtain ⟨t, v, e1, e2⟩ := word12 (A := A) (I := up (up (up I 5464 (Int32.ofNat b)) 5465 0) 5467 (Int32.ofNat b)) hA hZ rfl rfl hB hZ2 hb.2
    rw [e1, Option.bind_some]
    exact ⟨t, v, rfl, e2⟩
  rw [if_neg h1, if_neg h1, if_neg h1, if_neg h1, dig12, Option.bind_some, ifz]
  by_cases h2 : fD (g B b) = true
  · rw [if_pos h2, if_pos h2, if_pos h2, num12 (A := A) (I := up (up (up (up I 5464 (Int32.ofNat b)) 5465 0) 5466 0) 5467 (Int32.ofNat b)) hA hZ rfl hB hZ2 hb.2, Option.bind_some]
    dsimp only
    have hs := sc_le (f := fD) (B := B) hb.2
    rw [i_sub hs.1]
    by_cases h4 : 4 < sc fD B Z b - b
    · rw [if_neg (fun q => absurd ((i_ler (n := 4) (by omega) (by decide)).mp q) (by omega)), if_pos h4]
      exact ⟨_, _, rfl, Or.inr (Or.inl ⟨rfl, rfl⟩)⟩
    · rw [if_pos ((i_ler (n := 4) (by omega) (by decide)).mpr (by omega)), if_neg h4, show min (sc fD B Z b - b) 4 = sc fD B Z b - b from by omega]
      obtain ⟨n, hn, en⟩ := nv_lt B b (sc fD B Z b - b) (by omega) (fun j hj => sc_dig (Z := Z) (b := b) (by omega) (by omega))
      have hp4 : 10 ^ (sc fD B Z b - b) ≤ 10000 := by
        have : ∀ i : Fin 5, 10 ^ i.val ≤ 10000 := by decide
        exact this ⟨sc fD B Z b - b, by omega⟩
      exact ⟨_, _, rfl, Or.inr (Or.inr (Or.inl ⟨rfl, rfl, rfl, n, by omega, en⟩))⟩
  rw [if_neg h2, if_neg h2, if_neg h2, show Int32.ofNat b + 1 = Int32.ofNat (b + 1) from i_addr (n := 1)]
  cases h3 : fS (g B b) with
  | true =>
    rw [if_pos rfl]
    have := fS_or h3
    refine ⟨4, g B b, ?_, Or.inr (Or.inr (Or.inr (Or.inr (Or.inr ⟨rfl, rfl, this⟩))))⟩
    rcases this with q | q | q | q | q | q | q | q <;> rw [q] <;> rfl
  | false =>
    rw [if_neg (show ¬ (false = true) by decide)]
    refine ⟨5, g B b, ?_, Or.inr (Or.inl ⟨rfl, rfl⟩)⟩
    unfold fS at h3
    simp only [Bool.or_eq_false_iff, decide_eq_false_iff_not] at h3
    obtain ⟨q1, q2, q3, q4, q5, q6, q7, q8⟩ := h3
    rw [if_neg q1, if_neg q2, if_neg q3, if_neg q4, if_neg q5, if_neg q6, if_neg q7, if_neg q8]
    rfl
/-- what the class finds -/
theorem findToken_eq {i : Nat} (hA : A 53 = B) (hZ : I 3329 = Int32.ofNat Z) (hI : I 3332 = Int32.ofNat (lB B Z p)) (hB : B.length = 160) (hZ2 : Z ≤ 160) (hp : p ≤ Z) (hi : i < 161) (h55 : (A 55).length = 161) (h56 : (A 56).length = 161) (h55i : g (A 55) i = Int32.ofNat (lB B Z p)) : ∃ Y, f_X8_findToken A I (Int32.ofNat i) = some (lT B Z p, Y, Int32.ofNat (lE B Z p)) ∧ Y.length = 161 ∧ (lT B Z p = 2 ∨ lT B Z p = 3 → g Y i = lV B Z p) ∧ ∀ j, j ≠ i → g Y j = g (A 56) j := by
  have hb := lB_le (B := B) hp
  unfold f_X8_findToken lE lT lV
  generalize hE : lB B Z p = b at *
  rw [hI, hZ]
  by_cases h : Z ≤ b
  · rw [if_neg (fun q => absurd ((i_lt (by omega) (by omega)).mp q) (by omega)), if_pos h, if_pos h]
    exact ⟨_, rfl, h56, fun q => by rcases q with q | q <;> exact absurd q (by decide), fun j _ => rfl⟩
  rw [if_pos ((i_lt (by omega) (by omega)).mpr (by omega)), hA, am_at_g (by omega) (by omega), Option.bind_some, let8, Option.bind_some, ifz, if_neg h, if_neg h]
  by_cases h1 : fL (g B b) = true
  · rw [if_pos h1, if_pos h1, if_pos h1, if_pos h1]
    have hs := sc_le (f := fL) (B := B) hb.2
    have e0 : wl (f_X8_findWord_l1 A I (Int32.ofNat i)) 100000 (I 3332) = some (Int32.ofNat (sc fL B Z b)) := by
      rw [hI, ← ltk_eq hB hZ2 hb.2, ← hA, ← hZ]; rfl
    unfold f_X8_findWord
    rw [e0, Option.bind_some, am_at_g (by omega) (by omega), Option.bind_some, h55i, nam8 (I := up I 3332 (Int32.ofNat (sc fL B Z b))) hA rfl hB (by omega) hs.1, Option.bind_some, am_up_g (by omega) (by omega), Option.bind_some, am_at_g (by rw [List.length_set]; omega) (by rw [List.length_set]; omega), Option.bind_some, g_set_eq (by omega)]
    have hY : ((A 56).set i (nam B b (sc fL B Z b))).length = 161 := by rw [List.length_set]; exact h56
    unfold wT
    rcases nam_or B b (sc fL B Z b) with q | q
    · rw [if_pos (by rw [q]; exact Int32.le_refl _), Option.bind_some, key8 (A := up A 56 _) (I := up I 3332 (Int32.ofNat (sc fL B Z b))) hA rfl hB (by omega) hs.1, Option.bind_some, Option.bind_some, if_neg (by rw [q]; decide)]
      exact ⟨_, rfl, hY, fun _ => g_set_eq (by omega), fun j hj => g_set_ne hj⟩
    · rw [if_neg (Int32.not_le.mpr q), Option.bind_some, if_pos q]
      exact ⟨_, rfl, hY, fun _ => g_set_eq (by omega), fun j hj => g_set_ne hj⟩
  rw [if_neg h1, if_neg h1, if_neg h1, if_neg h1, Option.bind_some, dig8, Option.bind_some, ifz]
  by_cases h2 : fD (g B b) = true
  · rw [if_pos h2, if_pos h2, if_pos h2]
    have hs := sc_le (f := fD) (B := B) hb.2
    unfold f_X8_findNumber
    rw [hI, num8 hA hZ hB hZ2 hb.2, Option.bind_some]
    dsimp only
    have hY : ((A 56).set i (nv B b (sc fD B Z b - b))).length = 161 := by rw [List.length_set]; exact h56
    rw [am_up_g (by omega) (by omega), Option.bind_some, am_at_g (by omega) (by omega), Option.bind_some, h55i, i_sub hs.1]
    by_cases h4 : 4 < sc fD B Z b - b
    · rw [if_pos ((i_ltl (m := 4) (by decide) (by omega)).mpr h4), if_pos h4, Option.bind_some]
      exact ⟨_, rfl, hY, fun _ => g_set_eq (by omega), fun j hj => g_set_ne hj⟩
    · rw [if_neg (fun q => h4 ((i_ltl (m := 4) (by decide) (by omega)).mp q)), if_neg h4, Option.bind_some]
      exact ⟨_, rfl, hY, fun _ => g_set_eq (by omega), fun j hj => g_set_ne hj⟩
  rw [if_neg h2, if_neg h2, if_neg h2, Option.bind_some, sig8, Option.bind_some, ifz, i_addr]
  cases h3 : fS (g B b) with
  | true =>
    rw [if_pos rfl, if_pos rfl]
    refine ⟨_, rfl, h56, fun q => ?_, fun j _ => rfl⟩
    rcases fS_or h3 with r | r | r | r | r | r | r | r <;> rw [r] at q <;> rcases q with q | q <;> exact absurd q (by decide)
  | false =>
    rw [if_neg (by decide), if_neg (by decide)]
    exact ⟨_, rfl, h56, fun q => by rcases q with q | q <;> exact absurd q (by decide), fun j _ => rfl⟩
/-- where TOKEN k is looked for -/
def ps (B : List Int32) (Z : Nat) : Nat → Nat
  | 0 => 0
  | k + 1 => lE B Z (ps B Z k)
theorem ps_le (B : List Int32) (Z : Nat) : ∀ k, ps B Z k ≤ Z
  | 0 => Nat.zero_le _
  | k + 1 => (lE_le (B := B) (ps_le B Z k)).2.1
abbrev kT (B : List Int32) (Z k : Nat) : Int32 := lT B Z (ps B Z k)
abbrev kV (B : List Int32) (Z k : Nat) : Int32 := lV B Z (ps B Z k)
abbrev kB (B : List Int32) (Z k : Nat) : Nat := lB B Z (ps B Z k)
theorem ps_ge : ∀ k, (∀ j, j < k → ¬ kT B Z j = 0) → k ≤ ps B Z k
  | 0, _ => Nat.zero_le _
  | k + 1, h => by
    have h1 := ps_ge k (fun j hj => h j (by omega))
    have h2 := lT_end (h k (by omega))
    have h3 := lE_le (B := B) (ps_le B Z k)
    have h4 := lB_le (B := B) (ps_le B Z k)
    show k + 1 ≤ lE B Z (ps B Z k)
    have := h3.2.2 h2
    omega
/-- the class's three rows hold the TOKENS up to m, which is the END or WRONG -/
def toks (B : List Int32) (Z m : Nat) (a54 a55 a56 : List Int32) : Prop := m ≤ 160 ∧ a54.length = 161 ∧ a55.length = 161 ∧ a56.length = 161 ∧ (kT B Z m = 0 ∨ kT B Z m = 1) ∧ (∀ j, j < m → ¬ kT B Z j = 0 ∧ ¬ kT B Z j = 1) ∧ ∀ j, j ≤ m → g a54 j = kT B Z j ∧ g a55 j = Int32.ofNat (kB B Z j) ∧ (kT B Z j = 2 ∨ kT B Z j = 3 → g a56 j = kV B Z j)
theorem tokens_eq (hA : A 53 = B) (hZ : I 3329 = Int32.ofNat Z) (hB : B.length = 160) (hZ2 : Z ≤ 160) (h54 : (A 54).length = 161) (h55 : (A 55).length = 161) (h56 : (A 56).length = 161) : ∃ m q, f_X8_findTokens A I = some q ∧ toks B Z m q.1 q.2.1 q.2.2.1 := by
  obtain ⟨r, e, Q⟩ := wl_inv (s1 := f_X8_findTokens_l1 A (up I 3332 0)) (fun n y => ∃ i s2 s3 s4, y = (Int32.ofNat i, s2, s3, s4, Int32.ofNat (ps B Z i)) ∧ n + i = 161 ∧ s2.length = 161 ∧ s3.length = 161 ∧ s4.length = 161 ∧ ∀ j, j < i → (¬ kT B Z j = 0 ∧ ¬ kT B Z j = 1) ∧ g s2 j = kT B Z j ∧ g s3 j = Int32.ofNat (kB B Z j) ∧ (kT B Z j = 2 ∨ kT B Z j = 3 → g s4 j = kV B Z j)) (fun r => ∃ m q, r = .inr q ∧ toks B Z m q.1 q.2.1 q.2.2.1) (fun n y => by
    rintro ⟨i, s2, s3, s4, rfl, hn, l2, l3, l4, hk⟩
    have hge := ps_ge (B := B) (Z := Z) i (fun j hj => (hk j hj).1.1)
    have hle := ps_le B Z i
    unfold f_X8_findTokens_l1
    dsimp only
    rw [if_neg (fun q => absurd ((i_ltl (m := 160) (by decide) (by omega)).mp q) (by omega))]
    have e1 : f_X8_skipBlanks (up (up (up A 54 s2) 55 s3) 56 s4) (up (up I 3332 0) 3332 (Int32.ofNat (ps B Z i))) = some (Int32.ofNat (kB B Z i)) := by
      unfold f_X8_skipBlanks
      have : wl (f_X8_skipBlanks_l1 (up (up (up A 54 s2) 55 s3) 56 s4) (up (up I 3332 0) 3332 (Int32.ofNat (ps B Z i)))) 100000 (Int32.ofNat (ps B Z i)) = some (Int32.ofNat (kB B Z i)) := by
        rw [show kB B Z i = sc fB B Z (ps B Z i) from rfl, ← blk_eq hB hZ2 hle, ← hA, ← hZ]; rfl
      show (wl _ 100000 (Int32.ofNat (ps B Z i))).bind _ = _
      rw [this, Option.bind_some]
    rw [e1, Option.bind_some, am_up_g (by omega) (by omega), Option.bind_some]
    obtain ⟨Y, e2, y1, y2, y3⟩ := findToken_eq (A := up (up (up A 54 s2) 55 (s3.set i (Int32.ofNat (kB B Z i)))) 56 s4) (I := up (up I 3332 0) 3332 (Int32.ofNat (kB B Z i))) (i := i) hA hZ rfl hB hZ2 hle (by omega) (by show (s3.set _ _).length = _; rw [List.length_set]; exact l3) l4 (g_set_eq (by omega))
    rw [e2, Option.bind_some, am_up_g (by omega) (by omega), Option.bind_some, am_at_g (by rw [List.length_set]; omega) (by rw [List.length_set]; omega), Option.bind_some, g_set_eq (by omega)]
    have hall : ∀ j, j ≤ i → g (s2.set i (kT B Z i)) j = kT B Z j ∧ g (s3.set i (Int32.ofNat (kB B Z i))) j = Int32.ofNat (kB B Z j) ∧ (kT B Z j = 2 ∨ kT B Z j = 3 → g Y j = kV B Z j) := fun j hj => by
      by_cases c : j = i
      · rw [c, g_set_eq (by omega), g_set_eq (by omega)]; exact ⟨rfl, rfl, y2⟩
      · rw [g_set_ne c, g_set_ne c, y3 j c]; exact (hk j (by omega)).2
    by_cases c0 : kT B Z i = 0
    · right
      rw [if_pos c0]
      exact ⟨_, rfl, i, _, rfl, by omega, by rw [List.length_set]; exact l2, by rw [List.length_set]; exact l3, y1, Or.inl c0, fun j hj => (hk j hj).1, hall⟩
    rw [if_neg c0, Option.bind_some]
    by_cases c1 : kT B Z i = 1
    · right
      rw [if_pos c1]
      exact ⟨_, rfl, i, _, rfl, by omega, by rw [List.length_set]; exact l2, by rw [List.length_set]; exact l3, y1, Or.inr c1, fun j hj => (hk j hj).1, hall⟩
    left
    rw [if_neg c1, i_addr]
    have hi : i < 160 := by
      have h2 := lT_end c0
      have h4 := lB_le (B := B) hle
      omega
    refine ⟨_, rfl, n - 1, by omega, i + 1, _, _, Y, rfl, by omega, by rw [List.length_set]; exact l2, by rw [List.length_set]; exact l3, y1, fun j hj => ?_⟩
    by_cases c : j = i
    · rw [c]; exact ⟨⟨c0, c1⟩, hall i (Nat.le_refl _)⟩
    · exact ⟨(hk j (by omega)).1, hall j (by omega)⟩) 161 100000 (0, A 54, A 55, A 56, 0) ⟨0, _, _, _, rfl, rfl, h54, h55, h56, fun j hj => absurd hj (Nat.not_lt_zero j)⟩ (by omega)
  obtain ⟨m, q, rfl, hq⟩ := Q
  refine ⟨m, q, ?_, hq⟩
  unfold f_X8_findTokens
  rw [e, Option.bind_some]
end Tok
