/-! ===== the least council ===== -/
theorem within_1 {A : Nat → List Int32} {I : Nat → Int32} {F : List Int32} {L : Nat} (hL : L < 8) (hr : ∀ a, a < 8 → (A (12 + a)).length = 8 ∧ ∀ b, b < 8 → g (A (12 + a)) b = g F (8 * a + b)) (a2 : Int32) : f_X6_within A I (Int32.ofNat L) a2 = some (Int32.ofNat (bset (fun j => decide (¬ g F (8 * j + L) = 999 ∧ ¬ a2 < g F (8 * j + L))) 8)) := by
  obtain ⟨c, hc⟩ : ∃ c, c = fun j => decide (¬ g F (8 * j + L) = 999 ∧ ¬ a2 < g F (8 * j + L)) := ⟨_, rfl⟩
  rw [← hc]
  have key := wl_for (step := f_X6_within_l1 A I (Int32.ofNat L) a2) (fun k => (Int32.ofNat (bset c k), Int32.ofNat k)) 8 (r := Int32.ofNat (bset c 8)) (fuel := 100000) (by omega) (fun k hk => ?_) rfl
  · unfold f_X6_within
    rw [show ((0 : Int32), (0 : Int32)) = (Int32.ofNat (bset c 0), Int32.ofNat 0) from rfl, key]
    rfl
  · show f_X6_within_l1 A I _ a2 (Int32.ofNat (bset c k), Int32.ofNat k) = _
    obtain ⟨r1, r2⟩ := hr k hk
    unfold f_X6_within_l1
    dsimp only
    rw [if_neg (fun z => by have := (i_le (m := 8) (by decide) (by omega)).mp z; omega), am_row_g 12 hk, Option.bind_some, am_at_g (by omega) (by omega), Option.bind_some, r2 L hL, i_addr]
    have e : (if g F (8 * k + L) = 999 then some (0 : Int32) else if a2 < g F (8 * k + L) then some 0 else some ((1 : Int32) <<< (Int32.ofNat k &&& 31))) = some (if c k then (1 : Int32) <<< (Int32.ofNat k &&& 31) else 0) := by
      rw [hc]
      by_cases q1 : g F (8 * k + L) = 999 <;> by_cases q2 : a2 < g F (8 * k + L) <;> simp [q1, q2]
    rw [e, Option.bind_some, i_bset (by omega)]
theorem within_2 {A : Nat → List Int32} {I : Nat → Int32} {F : List Int32} {L : Nat} (hL : L < 8) (hnb : nb F) (h87 : A 87 = F) (a2 a3 a4 : Int32) : wl (f_X12_council_l1 A I (Int32.ofNat L) a2 a3 a4) 100000 (0, 0) = some (Int32.ofNat (bset (fun j => decide (¬ g F (8 * j + L) = 999 ∧ ¬ a2 < g F (8 * j + L))) 8)) := by
  obtain ⟨c, hc⟩ : ∃ c, c = fun j => decide (¬ g F (8 * j + L) = 999 ∧ ¬ a2 < g F (8 * j + L)) := ⟨_, rfl⟩
  rw [← hc]
  have key := wl_for (step := f_X12_council_l1 A I (Int32.ofNat L) a2 a3 a4) (fun k => (Int32.ofNat (bset c k), Int32.ofNat k)) 8 (r := Int32.ofNat (bset c 8)) (fuel := 100000) (by omega) (fun k hk => ?_) rfl
  · exact key
  · show f_X12_council_l1 A I _ a2 a3 a4 (Int32.ofNat (bset c k), Int32.ofNat k) = _
    obtain ⟨d, hd, hg⟩ := hnb.2 (8 * k + L) (by omega)
    have hl := hnb.1
    have hix : (8 : Int32) * Int32.ofNat k + Int32.ofNat L = Int32.ofNat (8 * k + L) := by rw [show (8 : Int32) * Int32.ofNat k = Int32.ofNat (8 * k) from i_mull (m := 8), i_add]
    unfold f_X12_council_l1
    dsimp only
    rw [if_neg (fun z => by have := (i_le (m := 8) (by decide) (by omega)).mp z; omega), h87, hix, am_at_g (by omega) (by omega), Option.bind_some, Option.bind_some, i_addr]
    have e : (if (999 : Int32) ≤ g F (8 * k + L) then some (0 : Int32) else if a2 < g F (8 * k + L) then some 0 else some ((1 : Int32) <<< (Int32.ofNat k &&& 31))) = some (if c k then (1 : Int32) <<< (Int32.ofNat k &&& 31) else 0) := by
      rw [hc]
      have h9 : ((999 : Int32) ≤ g F (8 * k + L)) ↔ g F (8 * k + L) = 999 := by
        rw [hg]
        constructor
        · intro z
          have := (i_le (m := 999) (n := d) (by decide) (by omega)).mp z
          have : d = 999 := by omega
          rw [this]; rfl
        · intro z
          rw [z]; decide
      by_cases q1 : g F (8 * k + L) = 999 <;> by_cases q2 : a2 < g F (8 * k + L) <;> simp [q1, q2, h9]
    rw [e, Option.bind_some, i_bset (by omega)]
theorem hold_1 {T : Nat} {A : Nat → List Int32} {I : Nat → Int32} (hT : hTrn T A I) (a4 : Int32) : f_X6_holdingToOne A I a4 = some (Int32.ofNat (bset (fun j => decide (sd T A (Int32.ofNat j) a4 = 1)) 8)) := by
  obtain ⟨c, hc⟩ : ∃ c, c = fun j => decide (sd T A (Int32.ofNat j) a4 = 1) := ⟨_, rfl⟩
  rw [← hc]
  have key := wl_for (step := f_X6_holdingToOne_l1 A I a4) (fun k => (Int32.ofNat (bset c k), Int32.ofNat k)) 8 (r := Int32.ofNat (bset c 8)) (fuel := 100000) (by omega) (fun k hk => ?_) rfl
  · unfold f_X6_holdingToOne
    rw [show ((0 : Int32), (0 : Int32)) = (Int32.ofNat (bset c 0), Int32.ofNat 0) from rfl, key]
    rfl
  · show f_X6_holdingToOne_l1 A I a4 (Int32.ofNat (bset c k), Int32.ofNat k) = _
    obtain ⟨s1, -, s, hs, s3⟩ := side_c hT (Int32.ofNat k) a4
    unfold f_X6_holdingToOne_l1
    dsimp only
    rw [if_neg (fun z => by have := (i_le (m := 8) (by decide) (by omega)).mp z; omega), s1, Option.bind_some, i_addr]
    have e : sd T A (Int32.ofNat k) a4 <<< (Int32.ofNat k &&& 31) = (if c k then (1 : Int32) <<< (Int32.ofNat k &&& 31) else 0) := by
      have hcc : c k = decide (s = 1) := by
        rw [hc]
        apply decide_eq_decide.mpr
        rw [s3]
        exact i_eqr (by omega) (by decide)
      rw [s3, hcc]
      have : s = 0 ∨ s = 1 := by omega
      rcases this with rfl | rfl
      · rw [if_neg (by decide), i_shl (by omega), Nat.zero_shiftLeft]; rfl
      · rw [if_pos (by decide)]; rfl
    rw [e, i_bset (by omega)]
theorem alg1 {a b c : Int32} : a - b + c = a + c - b := by
  rw [Int32.sub_eq_add_neg, Int32.sub_eq_add_neg]
  ac_rfl
theorem alg2 {a b c : Int32} : a + c - (b + c) = a - b := by
  rw [Int32.sub_eq_add_neg, Int32.sub_eq_add_neg, Int32.neg_add, Int32.sub_eq_add_neg, show a + c + (-b + -c) = a + -b + (c + -c) by ac_rfl, Int32.add_right_neg, Int32.add_zero]
theorem tb_and {a b k : Nat} : (a &&& b).testBit k = (a.testBit k && b.testBit k) := Nat.testBit_and a b k
/-- the three ways to count seats -/
theorem seatsOf_1 {T s h : Nat} {A : Nat → List Int32} {I : Nat → Int32} (hT : hTrn T A I) (hl : (A 116).length = 8) (hs : s < 256) (a4 : Int32) (hh : ∀ j, j < 8 → h.testBit j = decide (sd T A (Int32.ofNat j) a4 = 1)) : f_X12_seatsOf A I (Int32.ofNat s) (-1) a4 = some (psum (g (A 116)) s 8) ∧ f_X12_seatsOf A I (Int32.ofNat s) 0 a4 = some (psum (g (A 116)) s 8 - psum (g (A 116)) (s &&& h) 8) ∧ f_X12_seatsOf A I (Int32.ofNat s) 1 a4 = some (psum (g (A 116)) (s &&& h) 8) := by
  obtain ⟨f, hf⟩ : ∃ f, f = g (A 116) := ⟨_, rfl⟩
  rw [← hf]
  have hg : ∀ k, k < 8 → ¬ (8 : Int32) ≤ Int32.ofNat k := fun k hk z => by have := (i_le (m := 8) (by decide) (by omega)).mp z; omega
  refine ⟨?_, ?_, ?_⟩
  · have key := wl_for (step := f_X12_seatsOf_l1 A I (Int32.ofNat s) (-1) a4) (fun k => (psum f s k, Int32.ofNat k)) 8 (r := psum f s 8) (fuel := 100000) (by omega) (fun k hk => ?_) rfl
    · unfold f_X12_seatsOf
      rw [show ((0 : Int32), (0 : Int32)) = (psum f s 0, Int32.ofNat 0) from rfl, key]
      rfl
    · show f_X12_seatsOf_l1 A I _ (-1) a4 (psum f s k, Int32.ofNat k) = some (.inl (psum f s k + _, Int32.ofNat (k + 1)))
      unfold f_X12_seatsOf_l1
      dsimp only
      rw [if_neg (hg k hk), i_bit (by omega) (by omega), i_addr, am_at_g (by omega) (by omega), ← hf]
      cases s.testBit k with
      | true => simp only [if_true, Option.bind_some, if_pos (show (-1 : Int32) < 0 by decide)]
      | false => simp only [Bool.false_eq_true, if_false, if_neg (show ¬ (0 : Int32) = 1 by decide), Option.bind_some]
  · have key := wl_for (step := f_X12_seatsOf_l1 A I (Int32.ofNat s) 0 a4) (fun k => (psum f s k - psum f (s &&& h) k, Int32.ofNat k)) 8 (r := psum f s 8 - psum f (s &&& h) 8) (fuel := 100000) (by omega) (fun k hk => ?_) rfl
    · unfold f_X12_seatsOf
      rw [show ((0 : Int32), (0 : Int32)) = (psum f s 0 - psum f (s &&& h) 0, Int32.ofNat 0) from (by show ((0 : Int32), (0 : Int32)) = ((0 : Int32) - 0, Int32.ofNat 0); rw [Int32.sub_self]; rfl), key]
      rfl
    · show f_X12_seatsOf_l1 A I _ 0 a4 (psum f s k - psum f (s &&& h) k, Int32.ofNat k) = some (.inl (psum f s k + (if s.testBit k then f k else 0) - (psum f (s &&& h) k + (if (s &&& h).testBit k then f k else 0)), Int32.ofNat (k + 1)))
      obtain ⟨-, s2, v, hv, s3⟩ := side_c hT (Int32.ofNat k) a4
      have hh := hh k hk
      unfold f_X12_seatsOf_l1
      dsimp only
      rw [if_neg (hg k hk), i_bit (by omega) (by omega), i_addr, am_at_g (by omega) (by omega), ← hf, s2, tb_and, hh, s3]
      have : v = 0 ∨ v = 1 := by omega
      rcases this with rfl | rfl
      · cases s.testBit k with
        | true => simp [alg1]
        | false => simp
      · cases s.testBit k with
        | true =>
          simp [alg2]
        | false => simp
  · have key := wl_for (step := f_X12_seatsOf_l1 A I (Int32.ofNat s) 1 a4) (fun k => (psum f (s &&& h) k, Int32.ofNat k)) 8 (r := psum f (s &&& h) 8) (fuel := 100000) (by omega) (fun k hk => ?_) rfl
    · unfold f_X12_seatsOf
      rw [show ((0 : Int32), (0 : Int32)) = (psum f (s &&& h) 0, Int32.ofNat 0) from rfl, key]
      rfl
    · show f_X12_seatsOf_l1 A I _ 1 a4 (psum f (s &&& h) k, Int32.ofNat k) = some (.inl (psum f (s &&& h) k + (if (s &&& h).testBit k then f k else 0), Int32.ofNat (k + 1)))
      obtain ⟨-, s2, v, hv, s3⟩ := side_c hT (Int32.ofNat k) a4
      have hh := hh k hk
      unfold f_X12_seatsOf_l1
      dsimp only
      rw [if_neg (hg k hk), i_bit (by omega) (by omega), i_addr, am_at_g (by omega) (by omega), ← hf, s2, tb_and, hh, s3]
      have : v = 0 ∨ v = 1 := by omega
      rcases this with rfl | rfl
      · cases s.testBit k with
        | true => simp
        | false => simp
      · cases s.testBit k with
        | true => simp
        | false => simp
def cOK (f : Nat → Int32) (W h k : Nat) (a3 : Int32) : Bool := decide (Int32.ofNat k &&& (Int32.ofNat W ^^^ (-1)) = 0 ∧ ¬ psum f k 8 < a3 ∧ ¬ psum f k 8 - psum f (k &&& h) 8 < a3 / 3 ∧ ¬ psum f (k &&& h) 8 < a3 / 3)
theorem cal_1 {W h k : Nat} {A : Nat → List Int32} {I : Nat → Int32} (hl : (A 23).length = 8) (hk : k < 256) (a3 s1 s2 s3 : Int32) : f_X6_call_l1 A I (Int32.ofNat W) (Int32.ofNat h) a3 (s1, s2, s3, Int32.ofNat k) = some (.inl (if cOK (g (A 23)) W h k a3 ∧ Int32.ofNat (pc k) ≤ s2 ∧ (Int32.ofNat (pc k) < s2 ∨ ¬ psum (g (A 23)) k 8 ≤ s3) then (Int32.ofNat k, Int32.ofNat (pc k), psum (g (A 23)) k 8, Int32.ofNat (k + 1)) else (s1, s2, s3, Int32.ofNat (k + 1)))) := by
  have hkh : k &&& h < 2147483648 := Nat.lt_of_le_of_lt Nat.and_le_left (by omega)
  unfold f_X6_call_l1
  dsimp only
  rw [if_neg (fun z => by have := (i_le (m := 256) (by decide) (by omega)).mp z; omega), bc_1 (by omega), i_and (a := k) (b := h), sumOver_1 (by omega) (by omega), sumOver_1 (by omega) hkh, hl, i_addr, Option.bind_some, Option.bind_some, Option.bind_some]
  unfold cOK
  generalize psum (g (A 23)) k 8 = p
  generalize psum (g (A 23)) (k &&& h) 8 = q
  have hmin : (if p - q < q then p - q else q) < a3 / 3 ↔ (p - q < a3 / 3 ∨ q < a3 / 3) := by
    by_cases c : p - q < q
    · rw [if_pos c]
      exact ⟨Or.inl, fun z => z.elim id (fun y => Int32.lt_trans c y)⟩
    · rw [if_neg c]
      exact ⟨Or.inr, fun z => z.elim (fun y => Int32.lt_of_le_of_lt (Int32.not_lt.mp c) y) id⟩
  by_cases c1 : Int32.ofNat k &&& (Int32.ofNat W ^^^ (-1)) = 0 <;> by_cases c2 : Int32.ofNat (pc k) ≤ s2 <;> by_cases c3 : p < a3 <;> by_cases c4 : p - q < a3 / 3 <;> by_cases c5 : q < a3 / 3 <;> by_cases c6 : Int32.ofNat (pc k) < s2 <;> by_cases c7 : p ≤ s3 <;> simp [-Int32.ofNat_add, -Int32.xor_neg_one, c1, c2, c3, c4, c5, c6, c7, hmin]
theorem col_1 {T W h k : Nat} {A : Nat → List Int32} {I : Nat → Int32} (hT : hTrn T A I) (hl : (A 116).length = 8) (a3 a4 : Int32) (hh : ∀ j, j < 8 → h.testBit j = decide (sd T A (Int32.ofNat j) a4 = 1)) (hk : k < 256) : f_X12_council_l2 A I a3 a4 (Int32.ofNat W) (-1, Int32.ofNat k) = some (.inl (if cOK (g (A 116)) W h k a3 then (Int32.ofNat k, Int32.ofNat (k + 1)) else (-1, Int32.ofNat (k + 1)))) ∧ ∀ b, b < 256 → f_X12_council_l2 A I a3 a4 (Int32.ofNat W) (Int32.ofNat b, Int32.ofNat k) = some (.inl (if cOK (g (A 116)) W h k a3 ∧ (Int32.ofNat (pc k) < Int32.ofNat (pc b) ∨ (Int32.ofNat (pc k) = Int32.ofNat (pc b) ∧ ¬ psum (g (A 116)) k 8 ≤ psum (g (A 116)) b 8)) then (Int32.ofNat k, Int32.ofNat (k + 1)) else (Int32.ofNat b, Int32.ofNat (k + 1)))) := by
  obtain ⟨s1, s2, s3⟩ := seatsOf_1 hT hl hk a4 hh
  have hg : ¬ (256 : Int32) ≤ Int32.ofNat k := fun z => by have := (i_le (m := 256) (by decide) (by omega)).mp z; omega
  constructor
  · unfold f_X12_council_l2
    dsimp only
    rw [if_neg hg, s1, s2, s3, Option.bind_some, Option.bind_some, Option.bind_some, i_addr]
    unfold cOK
    generalize psum (g (A 116)) k 8 = p
    generalize psum (g (A 116)) (k &&& h) 8 = q
    have hle : a3 / 3 ≤ q ↔ ¬ q < a3 / 3 := Int32.not_lt.symm
    by_cases c1 : Int32.ofNat k &&& (Int32.ofNat W ^^^ (-1)) = 0 <;> by_cases c3 : p < a3 <;> by_cases c4 : p - q < a3 / 3 <;> by_cases c5 : q < a3 / 3 <;> simp [-Int32.ofNat_add, -Int32.xor_neg_one, -Int32.not_lt, c1, c3, c4, c5, hle]
  · intro b hb
    obtain ⟨t1, -, -⟩ := seatsOf_1 hT hl hb a4 hh
    unfold f_X12_council_l2
    dsimp only
    rw [if_neg hg, s1, s2, s3, t1, ones_1 (by omega), ones_1 (by omega), if_neg (i_nn (k := b) (by omega))]
    simp only [Option.bind_some]
    rw [i_addr]
    unfold cOK
    generalize psum (g (A 116)) k 8 = p
    generalize psum (g (A 116)) (k &&& h) 8 = q
    generalize psum (g (A 116)) b 8 = r
    have hle : a3 / 3 ≤ q ↔ ¬ q < a3 / 3 := Int32.not_lt.symm
    by_cases c1 : Int32.ofNat k &&& (Int32.ofNat W ^^^ (-1)) = 0 <;> by_cases c3 : p < a3 <;> by_cases c4 : p - q < a3 / 3 <;> by_cases c5 : q < a3 / 3 <;> by_cases c6 : Int32.ofNat (pc k) < Int32.ofNat (pc b) <;> by_cases c7 : Int32.ofNat (pc k) = Int32.ofNat (pc b) <;> by_cases c8 : p ≤ r <;> simp [-Int32.ofNat_add, -Int32.xor_neg_one, -Int32.not_lt, -Int32.not_le, c1, c3, c4, c5, c6, c7, c8, hle]
theorem pc8 {k : Nat} (h : k < 256) : pc k ≤ 8 := by
  rw [pc_at (n := 8) h (by decide)]
  have : ∀ n s, pcf n s ≤ n := fun n => by
    induction n with
    | zero => intro s; exact Nat.le_refl _
    | succ n ih =>
      intro s
      show s % 2 + pcf n (s / 2) ≤ n + 1
      have := ih (s / 2)
      omega
  exact this 8 k
theorem council_1 {T W h : Nat} {A B : Nat → List Int32} {I : Nat → Int32} (hT : hTrn T B I) (hl : (B 116).length = 8) (hAB : A 23 = B 116) (a3 a4 : Int32) (hh : ∀ j, j < 8 → h.testBit j = decide (sd T B (Int32.ofNat j) a4 = 1)) : ∃ z, f_X6_call A I (Int32.ofNat W) (Int32.ofNat h) a3 = some z ∧ wl (f_X12_council_l2 B I a3 a4 (Int32.ofNat W)) 100000 (-1, 1) = some z := by
  have hl' : (A 23).length = 8 := by rw [hAB, hl]
  obtain ⟨r, s, e1, e2, Q⟩ := wl_two (s1 := f_X6_call_l1 A I (Int32.ofNat W) (Int32.ofNat h) a3) (s2 := f_X12_council_l2 B I a3 a4 (Int32.ofNat W)) (fun n x y => ∃ k, n + k = 256 ∧ ((x = (-1, 9, 0, Int32.ofNat k) ∧ y = (-1, Int32.ofNat k)) ∨ (∃ b, b < 256 ∧ x = (Int32.ofNat b, Int32.ofNat (pc b), psum (g (B 116)) b 8, Int32.ofNat k) ∧ y = (Int32.ofNat b, Int32.ofNat k)))) (fun r s => r = s) (fun n x y => by
    rintro ⟨k, hn, hxy⟩
    by_cases hk : 256 ≤ k
    · right
      have hg : (256 : Int32) ≤ Int32.ofNat k := (i_le (m := 256) (by decide) (by omega)).mpr hk
      rcases hxy with ⟨rfl, rfl⟩ | ⟨b, hb', rfl, rfl⟩
      · refine ⟨-1, -1, ?_, ?_, rfl⟩
        · unfold f_X6_call_l1
          dsimp only
          rw [if_pos hg]
        · unfold f_X12_council_l2
          dsimp only
          rw [if_pos hg]
      · refine ⟨Int32.ofNat b, Int32.ofNat b, ?_, ?_, rfl⟩
        · unfold f_X6_call_l1
          dsimp only
          rw [if_pos hg]
        · unfold f_X12_council_l2
          dsimp only
          rw [if_pos hg]
    · left
      have hk : k < 256 := by omega
      have m := col_1 (W := W) hT hl a3 a4 hh hk
      have c := fun s1 s2 s3 => cal_1 (W := W) (h := h) (I := I) hl' hk a3 s1 s2 s3
      rw [hAB] at c
      have p8 := pc8 hk
      rcases hxy with ⟨rfl, rfl⟩ | ⟨b, hb', rfl, rfl⟩
      · refine ⟨_, _, c _ _ _, m.1, n - 1, by omega, k + 1, by omega, ?_⟩
        have h9 : Int32.ofNat (pc k) ≤ 9 := (i_le (n := 9) (by omega) (by decide)).mpr (by omega)
        have h9' : Int32.ofNat (pc k) < 9 := (i_lt (n := 9) (by omega) (by decide)).mpr (by omega)
        by_cases q : cOK (g (B 116)) W h k a3
        · right
          refine ⟨k, hk, ?_, ?_⟩
          · rw [if_pos ⟨q, h9, Or.inl h9'⟩]
          · rw [if_pos q]
        · left
          refine ⟨?_, ?_⟩
          · rw [if_neg (fun z => q z.1)]
          · rw [if_neg q]
      · refine ⟨_, _, c _ _ _, m.2 b hb', n - 1, by omega, k + 1, by omega, Or.inr ?_⟩
        have pb8 := pc8 hb'
        have e1 : Int32.ofNat (pc k) ≤ Int32.ofNat (pc b) ↔ pc k ≤ pc b := i_le (by omega) (by omega)
        have e2 : Int32.ofNat (pc k) < Int32.ofNat (pc b) ↔ pc k < pc b := i_lt (by omega) (by omega)
        have e3 : Int32.ofNat (pc k) = Int32.ofNat (pc b) ↔ pc k = pc b := i_eq (by omega) (by omega)
        simp only [e1, e2, e3]
        by_cases q : cOK (g (B 116)) W h k a3 ∧ (pc k < pc b ∨ pc k = pc b ∧ ¬ psum (g (B 116)) k 8 ≤ psum (g (B 116)) b 8)
        · refine ⟨k, hk, ?_, ?_⟩
          · rw [if_pos]
            rcases q with ⟨q1, q2 | ⟨q2, q3⟩⟩
            · exact ⟨q1, by omega, Or.inl q2⟩
            · exact ⟨q1, by omega, Or.inr q3⟩
          · rw [if_pos q]
        · refine ⟨b, hb', ?_, ?_⟩
          · rw [if_neg]
            rintro ⟨q1, q2, q3 | q3⟩
            · exact q ⟨q1, Or.inl q3⟩
            · by_cases q4 : pc k < pc b
              · exact q ⟨q1, Or.inl q4⟩
              · exact q ⟨q1, Or.inr ⟨by omega, q3⟩⟩
          · rw [if_neg q]) 255 100000 100000 (-1, 9, 0, 1) (-1, 1) ⟨1, rfl, Or.inl ⟨rfl, rfl⟩⟩ (by omega) (by omega)
  refine ⟨r, ?_, by rw [Q]; exact e2⟩
  unfold f_X6_call
  rw [e1]
  rfl
theorem sd_up87 {T : Nat} {A : Nat → List Int32} {F : List Int32} (l d : Int32) : sd T (up A 87 F) l d = sd T A l d := rfl
theorem op_council (xs : List Int32) {n : Nat} {A : Nat → List Int32} {I : Nat → Int32} {x : am_X} (h : Iv0 n A I x) (a1 : Int32) (a2 : Int32) (a3 : Int32) (a4 : Int32) : am_op xs n ix_X11_council ix_X12_council [.int a1, .int a2, .int a3, .int a4] A I x := by
  obtain ⟨⟨P, N, T, R, E, C, X, Z, hI⟩, hx⟩ := h
  obtain ⟨hnb, hdg, hrow⟩ := rod_get hI.2.2.2.2.2.2.2.2.2.1
  have h87 := (scr_get hI.2.2.2.2.2.2.2.2.2.2.2.2).2.2.2.2.2.2.2.2.1
  obtain ⟨F, hF⟩ : ∃ F, F = fw (A 86) := ⟨_, rfl⟩
  have hff : f_X12_findFar A I = some F := by rw [hF]; exact findFar_1 hnb.1 h87
  have hfl : F.length = 64 := by rw [hF, fw_len]; exact hnb.1
  have hfn : nb F := by rw [hF]; exact nb_fw hnb
  rw [← hF] at hrow
  suffices hh : ∃ z G, f_X11_council A I a1 a2 a3 a4 = some z ∧ f_X12_council A I a1 a2 a3 a4 = some (z, G) ∧ G.length = 64 by
    obtain ⟨z, G, e1, e2, hG⟩ := hh
    have q9 := scr_87 hI.2.2.2.2.2.2.2.2.2.2.2.2 hG
    have c1 := t_X11_council (xs := xs) A I x a1 a2 a3 a4 e1
    have c2 := t_X12_council (xs := xs) A I x a1 a2 a3 a4 e2
    exact am_op.mk hx c1 (by decide) c2 (by decide) ⟨P, N, T, R, E, C, X, Z, ⟨hI.1, hI.2.1, hI.2.2.1, hI.2.2.2.1, hI.2.2.2.2.1, hI.2.2.2.2.2.1, hI.2.2.2.2.2.2.1, hI.2.2.2.2.2.2.2.1, hI.2.2.2.2.2.2.2.2.1, hI.2.2.2.2.2.2.2.2.2.1, hI.2.2.2.2.2.2.2.2.2.2.1, hI.2.2.2.2.2.2.2.2.2.2.2.1, q9⟩⟩
  unfold f_X11_council f_X12_council f_X11_isLand f_X12_isLand f_X11_isDay f_X12_isDay
  rw [in_X, in_X, in_X, in_X]
  rcases wi_l 7 (by decide) a1 with w | ⟨L, hL, rfl, w⟩
  · rw [show f_X11_isWithin a1 0 7 = some 0 from w]
    exact ⟨-2, A 87, rfl, rfl, h87⟩
  rw [show f_X11_isWithin (Int32.ofNat L) 0 7 = some 1 from w]
  simp only [Option.bind_some, if_neg (show ¬ (1 : Int32) = 0 by decide)]
  rcases wi_l 999 (by decide) a2 with w2 | ⟨M, hM, rfl, w2⟩
  · rw [show f_X11_isWithin a2 0 999 = some 0 from w2]
    exact ⟨-2, A 87, rfl, rfl, h87⟩
  rw [show f_X11_isWithin (Int32.ofNat M) 0 999 = some 1 from w2]
  simp only [Option.bind_some, if_neg (show ¬ (1 : Int32) = 0 by decide)]
  rcases wi_1 999 (by decide) a3 with w3 | ⟨S, hS1, hS, rfl, w3⟩
  · rw [show f_X11_isWithin a3 1 999 = some 0 from w3]
    exact ⟨-2, A 87, rfl, rfl, h87⟩
  rw [show f_X11_isWithin (Int32.ofNat S) 1 999 = some 1 from w3]
  simp only [Option.bind_some, if_neg (show ¬ (1 : Int32) = 0 by decide)]
  rcases wi_l 9999 (by decide) a4 with w4 | ⟨D, hD, rfl, w4⟩
  · rw [show f_X11_isWithin a4 0 9999 = some 0 from w4]
    exact ⟨-2, A 87, rfl, rfl, h87⟩
  rw [show f_X11_isWithin (Int32.ofNat D) 0 9999 = some 1 from w4]
  simp only [Option.bind_some, if_neg (show ¬ (1 : Int32) = 0 by decide)]
  have hT := hI.2.2.1
  have hS' := hI.2.2.2.2.2.2.2.1
  have hTB : hTrn T (up A 87 F) I := hT
  rw [within_1 (F := F) (by omega) (fun a ha => ⟨(hrow a ha).2.1, fun b hb => ((hrow a ha).2.2 b hb).2⟩), hff, hold_1 hT]
  simp only [Option.bind_some]
  rw [within_2 (A := up A 87 F) (F := F) (by omega) hfn rfl]
  simp only [Option.bind_some]
  obtain ⟨z, e1, e2⟩ := council_1 (A := A) (B := up A 87 F) (I := I) (W := bset (fun j => decide (¬ g F (8 * j + L) = 999 ∧ ¬ Int32.ofNat M < g F (8 * j + L))) 8) (h := bset (fun j => decide (sd T A (Int32.ofNat j) (Int32.ofNat D) = 1)) 8) hTB hS'.2.2.1 hS'.1 (Int32.ofNat S) (Int32.ofNat D) (fun j hj => by
    rw [bset_tb, decide_eq_true hj, Bool.true_and, sd_up87])
  rw [e1, e2]
  exact ⟨z, F, rfl, rfl, hfl⟩
