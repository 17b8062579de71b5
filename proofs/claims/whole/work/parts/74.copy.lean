/-! ===== calls: copy (by wip/whole/gen_ops8.py) ===== -/
theorem g_cpy {xs ys : List Int32} {i j n : Nat} (h1 : i + n ≤ xs.length) (h2 : j + n ≤ ys.length) : (am_cpy xs ys i j n).length = ys.length ∧ ∀ q, g (am_cpy xs ys i j n) q = if j ≤ q ∧ q < j + n then g xs (i + (q - j)) else g ys q := by
  constructor
  · unfold am_cpy
    rw [List.length_append, List.length_append, List.length_take, List.length_take, List.length_drop, List.length_drop]
    omega
  · intro q
    unfold am_cpy g
    simp only [List.getD_eq_getElem?_getD]
    rw [List.append_assoc]
    by_cases c1 : q < j
    · rw [if_neg (by omega), List.getElem?_append_left (by rw [List.length_take]; omega), List.getElem?_take, if_pos c1]
    · rw [List.getElem?_append_right (by rw [List.length_take]; omega), List.length_take, Nat.min_eq_left (by omega)]
      by_cases c2 : q < j + n
      · rw [if_pos (by omega), List.getElem?_append_left (by rw [List.length_take, List.length_drop]; omega), List.getElem?_take, if_pos (by omega), List.getElem?_drop]
      · rw [if_neg (by omega), List.getElem?_append_right (by rw [List.length_take, List.length_drop]; omega), List.length_take, List.length_drop, List.getElem?_drop]
        congr 2
        omega
def hld (sz a n : Int32) : Option Int32 := if a < 0 then some 0 else (if n < 0 then some 0 else (if sz < n then some 0 else (if sz - n < a then some 0 else some 1)))
theorem hld_1 {m : Nat} (hm : m ≤ 40) (a b : Int32) : (∃ i n, a = Int32.ofNat i ∧ b = Int32.ofNat n ∧ i + n ≤ m ∧ hld (Int32.ofNat m) a b = some 1) ∨ (hld (Int32.ofNat m) a b = some 0 ∧ (a < 0 ∨ b < 0 ∨ Int32.ofNat m - b < a)) := by
  unfold hld
  by_cases c1 : a < 0
  · right; rw [if_pos c1]; exact ⟨rfl, Or.inl c1⟩
  by_cases c2 : b < 0
  · right; rw [if_neg c1, if_pos c2]; exact ⟨rfl, Or.inr (Or.inl c2)⟩
  obtain ⟨i, hi, rfl⟩ := i_of (Int32.not_lt.mp c1)
  obtain ⟨n, hn, rfl⟩ := i_of (Int32.not_lt.mp c2)
  rw [if_neg c1, if_neg c2]
  by_cases c3 : m < n
  · right
    rw [if_pos ((i_lt (by omega) hn).mpr c3)]
    refine ⟨rfl, Or.inr (Or.inr ?_)⟩
    rw [Int32.lt_iff_toInt_lt, Int32.toInt_sub, i_ti (by omega), i_ti hn, i_ti hi, Int.bmod_eq_of_le (by omega) (by omega)]
    omega
  · rw [if_neg (fun z => c3 ((i_lt (by omega) hn).mp z)), i_sub (by omega)]
    by_cases c4 : m - n < i
    · right
      have := (i_lt (m := m - n) (n := i) (by omega) hi).mpr c4
      rw [if_pos this]
      exact ⟨rfl, Or.inr (Or.inr this)⟩
    · left
      rw [if_neg (fun z => c4 ((i_lt (by omega) hi).mp z))]
      exact ⟨i, n, rfl, rfl, by omega, rfl⟩
theorem cpl_1 {B : Nat → List Int32} {I : Nat → Int32} {s i n : Nat} (a3 a4 : Int32) (h6 : (B 126).length = 160) (h7 : (B 127).length = 40) (hs : s < 4) (hi : i + n ≤ 40) : ∃ Y, wl (f_X12_copy_l1 B I (Int32.ofNat s) (Int32.ofNat i) a3 a4 (Int32.ofNat n)) 100000 (0, B 127) = some Y ∧ Y.length = 40 ∧ ∀ k, k < n → g Y k = g (B 126) (40 * s + i + k) := by
  obtain ⟨r, e, Q⟩ := wl_inv (s1 := f_X12_copy_l1 B I (Int32.ofNat s) (Int32.ofNat i) a3 a4 (Int32.ofNat n)) (fun m y => ∃ k M, y = (Int32.ofNat k, M) ∧ m + k = n ∧ M.length = 40 ∧ ∀ j, j < k → g M j = g (B 126) (40 * s + i + j)) (fun Y => Y.length = 40 ∧ ∀ k, k < n → g Y k = g (B 126) (40 * s + i + k)) (fun m y => by
    rintro ⟨k, M, rfl, hn, hl, hk⟩
    unfold f_X12_copy_l1
    dsimp only
    by_cases h : n ≤ k
    · right
      have e : k = n := by omega
      subst e
      rw [if_pos (Int32.le_refl _)]
      exact ⟨M, rfl, hl, hk⟩
    · left
      have hix : (40 : Int32) * Int32.ofNat s + Int32.ofNat i + Int32.ofNat k = Int32.ofNat (40 * s + i + k) := by rw [show (40 : Int32) * Int32.ofNat s = Int32.ofNat (40 * s) from i_mull (m := 40), i_add, i_add]
      rw [if_neg (nge (by omega) (by omega)), hix, am_at_g (by omega) (by omega), Option.bind_some, am_up_g (by omega) (by omega), Option.bind_some, i_addr]
      refine ⟨_, rfl, m - 1, by omega, k + 1, _, rfl, by omega, by rw [List.length_set]; exact hl, fun j hj => ?_⟩
      rw [g_set (by omega)]
      by_cases e : j = k
      · rw [if_pos e, e]
      · rw [if_neg e]; exact hk j (by omega)) n 100000 (0, B 127) ⟨0, B 127, rfl, rfl, h7, fun j hj => absurd hj (Nat.not_lt_zero j)⟩ (by omega)
  exact ⟨r, e, Q⟩
theorem cpl_2 {B : Nat → List Int32} {I : Nat → Int32} {t j n : Nat} (h6 : (B 126).length = 160) (h7 : (B 127).length = 40) (ht : t < 4) (hj : j + n ≤ 40) : ∃ Z, wl (f_X12_copy_l2 B I (Int32.ofNat t) (Int32.ofNat j) (Int32.ofNat n)) 100000 (0, B 126) = some Z ∧ Z.length = 160 ∧ ∀ q, q < 160 → g Z q = if 40 * t + j ≤ q ∧ q < 40 * t + j + n then g (B 127) (q - (40 * t + j)) else g (B 126) q := by
  obtain ⟨r, e, Q⟩ := wl_inv (s1 := f_X12_copy_l2 B I (Int32.ofNat t) (Int32.ofNat j) (Int32.ofNat n)) (fun m y => ∃ k M, y = (Int32.ofNat k, M) ∧ m + k = n ∧ M.length = 160 ∧ ∀ q, q < 160 → g M q = if 40 * t + j ≤ q ∧ q < 40 * t + j + k then g (B 127) (q - (40 * t + j)) else g (B 126) q) (fun Z => Z.length = 160 ∧ ∀ q, q < 160 → g Z q = if 40 * t + j ≤ q ∧ q < 40 * t + j + n then g (B 127) (q - (40 * t + j)) else g (B 126) q) (fun m y => by
    rintro ⟨k, M, rfl, hn, hl, hk⟩
    unfold f_X12_copy_l2
    dsimp only
    by_cases h : n ≤ k
    · right
      have e : k = n := by omega
      subst e
      rw [if_pos (Int32.le_refl _)]
      exact ⟨M, rfl, hl, hk⟩
    · left
      have hix : (40 : Int32) * Int32.ofNat t + Int32.ofNat j + Int32.ofNat k = Int32.ofNat (40 * t + j + k) := by rw [show (40 : Int32) * Int32.ofNat t = Int32.ofNat (40 * t) from i_mull (m := 40), i_add, i_add]
      rw [if_neg (nge (by omega) (by omega)), hix, am_at_g (by omega) (by omega), Option.bind_some, am_up_g (by omega) (by omega), Option.bind_some, i_addr]
      refine ⟨_, rfl, m - 1, by omega, k + 1, _, rfl, by omega, by rw [List.length_set]; exact hl, fun q hq => ?_⟩
      rw [g_set (by omega)]
      by_cases e : q = 40 * t + j + k
      · rw [if_pos e, if_pos (by omega), show q - (40 * t + j) = k by omega]
      · rw [if_neg e, hk q hq]
        by_cases c : 40 * t + j ≤ q ∧ q < 40 * t + j + k
        · rw [if_pos c, if_pos (by omega)]
        · rw [if_neg c, if_neg (by omega)]) n 100000 (0, B 126) ⟨0, B 126, rfl, rfl, h6, fun q hq => by rw [if_neg (by omega)]⟩ (by omega)
  exact ⟨r, e, Q⟩
theorem sh1_cpy {it M m1 ys : List Int32} {s t i j n d : Nat} {xs : List Int32} (hd : d < 40) (hi : i + n ≤ 40) (hj : j + n ≤ 40) (h1 : g it d = if j ≤ d ∧ d < j + n then g xs (i + (d - j)) else g ys d) (h2 : g M (40 * t + d) = if 40 * t + j ≤ 40 * t + d ∧ 40 * t + d < 40 * t + j + n then g m1 (40 * s + i + (40 * t + d - (40 * t + j))) else g m1 (40 * t + d)) (u : ∀ k, k < 40 → g xs k = g m1 (40 * s + k)) (o : ∀ k, k < 40 → g ys k = g m1 (40 * t + k)) : g it d = g M (40 * t + d) := by
  rw [h1, h2]
  by_cases c : j ≤ d ∧ d < j + n
  · rw [if_pos c, if_pos (by omega), u _ (by omega)]
    congr 1
    omega
  · rw [if_neg c, if_neg (by omega), o d hd]
theorem isS {s : Nat} (hs : s < 4) (A : Nat → List Int32) (I : Nat → Int32) : f_X12_isSheet A I (Int32.ofNat s) = some 1 := by
  have : s = 0 ∨ s = 1 ∨ s = 2 ∨ s = 3 := by omega
  rcases this with rfl | rfl | rfl | rfl <;> rfl
/-- the model's copy -/
theorem cpm_1 {B : Nat → List Int32} {I : Nat → Int32} {s t ms mt : Nat} {so to : Int32} (a2 a4 a5 : Int32) (hs : s < 4) (ht : t < 4) (h4 : (B 124).length = 4) (h5 : (B 125).length = 4) (h6 : (B 126).length = 160) (h7 : (B 127).length = 40) (s1 : so = g (B 124) s) (s2 : Int32.ofNat ms = g (B 125) s) (s3 : so = -1 ∨ ∃ q, q < 3 ∧ so = Int32.ofNat q) (s4 : ms ≤ 40) (t1 : to = g (B 124) t) (t2 : Int32.ofNat mt = g (B 125) t) (t3 : to = -1 ∨ ∃ q, q < 3 ∧ to = Int32.ofNat q) (t4 : mt ≤ 40) :
    (so = -1 ∨ to = -1 → f_X12_copy B I (Int32.ofNat s) a2 (Int32.ofNat t) a4 a5 = some (-11, B 126, B 127)) ∧
    (¬ so = -1 → ¬ to = -1 → ¬ so = to → f_X12_copy B I (Int32.ofNat s) a2 (Int32.ofNat t) a4 a5 = some (-13, B 126, B 127)) ∧
    (¬ so = -1 → ¬ to = -1 → so = to → (a2 < 0 ∨ a5 < 0 ∨ Int32.ofNat ms - a5 < a2) ∨ (a4 < 0 ∨ a5 < 0 ∨ Int32.ofNat mt - a5 < a4) → f_X12_copy B I (Int32.ofNat s) a2 (Int32.ofNat t) a4 a5 = some (-12, B 126, B 127)) ∧
    (¬ so = -1 → ¬ to = -1 → so = to → ∀ i j n, a2 = Int32.ofNat i → a4 = Int32.ofNat j → a5 = Int32.ofNat n → i + n ≤ ms → j + n ≤ mt → ∃ Z Y, f_X12_copy B I (Int32.ofNat s) a2 (Int32.ofNat t) a4 a5 = some (a5, Z, Y) ∧ Z.length = 160 ∧ Y.length = 40 ∧ ∀ q, q < 160 → g Z q = if 40 * t + j ≤ q ∧ q < 40 * t + j + n then g (B 126) (40 * s + i + (q - (40 * t + j))) else g (B 126) q) := by
  have hsn : so < 0 ↔ so = -1 := by
    rcases s3 with rfl | ⟨q, hq, rfl⟩
    · exact ⟨fun _ => rfl, fun _ => by decide⟩
    · exact ⟨fun z => absurd z (i_nn (by omega)), fun z => absurd z (i_nm1 (by omega))⟩
  have htn : 0 ≤ to ↔ ¬ to = -1 := by
    rcases t3 with rfl | ⟨q, hq, rfl⟩
    · exact ⟨fun z => absurd z (by decide), fun z => absurd rfl z⟩
    · exact ⟨fun _ => i_nm1 (by omega), fun _ => Int32.not_lt.mp (i_nn (by omega))⟩
  have e0 : f_X12_copy B I (Int32.ofNat s) a2 (Int32.ofNat t) a4 a5 = if so < 0 then some (-11, B 126, B 127) else (if 0 ≤ to then (if so = to then (if a5 < 0 then some (-12, B 126, B 127) else (if a2 < 0 then some (-12, B 126, B 127) else (if a4 < 0 then some (-12, B 126, B 127) else (if Int32.ofNat ms - a5 < a2 then some (-12, B 126, B 127) else (if a4 ≤ Int32.ofNat mt - a5 then ((wl (f_X12_copy_l1 B I (Int32.ofNat s) a2 (Int32.ofNat t) a4 a5) 100000 (0, (B 127))).bind (fun e13 => ((wl (f_X12_copy_l2 (up B 127 e13) I (Int32.ofNat t) a4 a5) 100000 (0, (B 126))).bind (fun e18 => some (a5, e18, e13))))) else some (-12, B 126, B 127)))))) else some (-13, B 126, B 127)) else some (-11, B 126, B 127)) := by
    unfold f_X12_copy
    rw [isS hs, Option.bind_some, if_neg (show ¬ (1 : Int32) = 0 by decide), isS ht, Option.bind_some, if_neg (show ¬ (1 : Int32) = 0 by decide), am_at_g (k := s) (by omega) (by omega), am_at_g (k := t) (by omega) (by omega), am_at_g (k := s) (by omega) (by omega), am_at_g (k := t) (by omega) (by omega), ← s1, ← s2, ← t1, ← t2]
    rfl
  rw [e0]
  refine ⟨fun z => ?_, fun z1 z2 z3 => ?_, fun z1 z2 z3 z4 => ?_, fun z1 z2 z3 i j n hi hj hn hin hjn => ?_⟩
  · by_cases c : so = -1
    · rw [if_pos (hsn.mpr c)]
    · rw [if_neg (fun y => c (hsn.mp y)), if_neg (fun y => (htn.mp y) (z.resolve_left c))]
  · rw [if_neg (fun y => z1 (hsn.mp y)), if_pos (htn.mpr z2), if_neg z3]
  · rw [if_neg (fun y => z1 (hsn.mp y)), if_pos (htn.mpr z2), if_pos z3]
    by_cases c1 : a5 < 0
    · rw [if_pos c1]
    by_cases c2 : a2 < 0
    · rw [if_neg c1, if_pos c2]
    by_cases c3 : a4 < 0
    · rw [if_neg c1, if_neg c2, if_pos c3]
    by_cases c4 : Int32.ofNat ms - a5 < a2
    · rw [if_neg c1, if_neg c2, if_neg c3, if_pos c4]
    rw [if_neg c1, if_neg c2, if_neg c3, if_neg c4, if_neg]
    intro c5
    rcases z4 with (z | z | z) | (z | z | z)
    · exact c2 z
    · exact c1 z
    · exact c4 z
    · exact c3 z
    · exact c1 z
    · exact Int32.not_lt.mpr c5 z
  · subst hi hj hn
    rw [if_neg (fun y => z1 (hsn.mp y)), if_pos (htn.mpr z2), if_pos z3, if_neg (i_nn (k := n) (by omega)), if_neg (i_nn (k := i) (by omega)), if_neg (i_nn (k := j) (by omega)), i_sub (by omega), i_sub (by omega), if_neg (by rw [i_lt (by omega) (by omega)]; omega), if_pos (by rw [i_le (by omega) (by omega)]; omega)]
    obtain ⟨Y, y1, y2, y3⟩ := cpl_1 (B := B) (I := I) (s := s) (i := i) (n := n) (Int32.ofNat t) (Int32.ofNat j) h6 h7 hs (by omega)
    obtain ⟨Z, w1, w2, w3⟩ := cpl_2 (B := up B 127 Y) (I := I) (t := t) (j := j) (n := n) h6 y2 ht (by omega)
    have w1 : wl (f_X12_copy_l2 (up B 127 Y) I (Int32.ofNat t) (Int32.ofNat j) (Int32.ofNat n)) 100000 (0, B 126) = some Z := w1
    rw [y1, Option.bind_some, w1, Option.bind_some]
    refine ⟨Z, Y, rfl, w2, y2, fun q hq => ?_⟩
    rw [w3 q hq]
    by_cases c : 40 * t + j ≤ q ∧ q < 40 * t + j + n
    · rw [if_pos c, if_pos c]
      exact y3 (q - (40 * t + j)) (by omega)
    · rw [if_neg c, if_neg c]
      rfl
theorem scr_127 {A : Nat → List Int32} (h : v_scr (v_scs A)) {F : List Int32} (h1 : F.length = 40) : v_scr (v_scs (up A 127 F)) := by
  obtain ⟨k1, k2, k3, k4, k5, k6, k7, k8, k9, k10, k11, k12, k13, k14, k15, k16, k17⟩ := scr_get h
  exact scr_mk ⟨k1, k2, k3, k4, k5, k6, k7, k8, k9, k10, k11, k12, k13, k14, k15, k16, h1⟩
theorem cpb_00 (A : Nat → List Int32) (I : Nat → Int32) (a2 a4 a5 : Int32) : f_X11_copy A I (Int32.ofNat 0) a2 (Int32.ofNat 0) a4 a5 = ((f_X10_isMissing_77 A I).bind fun r1 => (if r1 = 0 then ((f_X10_isMissing_77 A I).bind fun r2 => (if r2 = 0 then (if (I 4928) = (I 4928) then ((f_X10_holds_77 A I a2 a5).bind fun r3 => (if r3 = 0 then some ((-12), (A 78), (A 80), (A 82), (A 84)) else ((f_X10_holds_77 A I a4 a5).bind fun r4 => (if r4 = 0 then some ((-12), (A 78), (A 80), (A 82), (A 84)) else ((am_acq (A 78) (A 78) a2 a4 a5).bind fun y => some (a5, y, (A 80), (A 82), (A 84))))))) else some ((-13), (A 78), (A 80), (A 82), (A 84))) else some ((-11), (A 78), (A 80), (A 82), (A 84)))) else some ((-11), (A 78), (A 80), (A 82), (A 84)))) := rfl
theorem cpb_01 (A : Nat → List Int32) (I : Nat → Int32) (a2 a4 a5 : Int32) : f_X11_copy A I (Int32.ofNat 0) a2 (Int32.ofNat 1) a4 a5 = ((f_X10_isMissing_77 A I).bind fun r1 => (if r1 = 0 then ((f_X10_isMissing_79 A I).bind fun r2 => (if r2 = 0 then (if (I 4928) = (I 5056) then ((f_X10_holds_77 A I a2 a5).bind fun r3 => (if r3 = 0 then some ((-12), (A 78), (A 80), (A 82), (A 84)) else ((f_X10_holds_79 A I a4 a5).bind fun r4 => (if r4 = 0 then some ((-12), (A 78), (A 80), (A 82), (A 84)) else ((am_acq (A 78) (A 80) a2 a4 a5).bind fun y => some (a5, (A 78), y, (A 82), (A 84))))))) else some ((-13), (A 78), (A 80), (A 82), (A 84))) else some ((-11), (A 78), (A 80), (A 82), (A 84)))) else some ((-11), (A 78), (A 80), (A 82), (A 84)))) := rfl
theorem cpb_02 (A : Nat → List Int32) (I : Nat → Int32) (a2 a4 a5 : Int32) : f_X11_copy A I (Int32.ofNat 0) a2 (Int32.ofNat 2) a4 a5 = ((f_X10_isMissing_77 A I).bind fun r1 => (if r1 = 0 then ((f_X10_isMissing_81 A I).bind fun r2 => (if r2 = 0 then (if (I 4928) = (I 5184) then ((f_X10_holds_77 A I a2 a5).bind fun r3 => (if r3 = 0 then some ((-12), (A 78), (A 80), (A 82), (A 84)) else ((f_X10_holds_81 A I a4 a5).bind fun r4 => (if r4 = 0 then some ((-12), (A 78), (A 80), (A 82), (A 84)) else ((am_acq (A 78) (A 82) a2 a4 a5).bind fun y => some (a5, (A 78), (A 80), y, (A 84))))))) else some ((-13), (A 78), (A 80), (A 82), (A 84))) else some ((-11), (A 78), (A 80), (A 82), (A 84)))) else some ((-11), (A 78), (A 80), (A 82), (A 84)))) := rfl
theorem cpb_03 (A : Nat → List Int32) (I : Nat → Int32) (a2 a4 a5 : Int32) : f_X11_copy A I (Int32.ofNat 0) a2 (Int32.ofNat 3) a4 a5 = ((f_X10_isMissing_77 A I).bind fun r1 => (if r1 = 0 then ((f_X10_isMissing_83 A I).bind fun r2 => (if r2 = 0 then (if (I 4928) = (I 5312) then ((f_X10_holds_77 A I a2 a5).bind fun r3 => (if r3 = 0 then some ((-12), (A 78), (A 80), (A 82), (A 84)) else ((f_X10_holds_83 A I a4 a5).bind fun r4 => (if r4 = 0 then some ((-12), (A 78), (A 80), (A 82), (A 84)) else ((am_acq (A 78) (A 84) a2 a4 a5).bind fun y => some (a5, (A 78), (A 80), (A 82), y)))))) else some ((-13), (A 78), (A 80), (A 82), (A 84))) else some ((-11), (A 78), (A 80), (A 82), (A 84)))) else some ((-11), (A 78), (A 80), (A 82), (A 84)))) := rfl
theorem cpb_10 (A : Nat → List Int32) (I : Nat → Int32) (a2 a4 a5 : Int32) : f_X11_copy A I (Int32.ofNat 1) a2 (Int32.ofNat 0) a4 a5 = ((f_X10_isMissing_79 A I).bind fun r1 => (if r1 = 0 then ((f_X10_isMissing_77 A I).bind fun r2 => (if r2 = 0 then (if (I 5056) = (I 4928) then ((f_X10_holds_79 A I a2 a5).bind fun r3 => (if r3 = 0 then some ((-12), (A 78), (A 80), (A 82), (A 84)) else ((f_X10_holds_77 A I a4 a5).bind fun r4 => (if r4 = 0 then some ((-12), (A 78), (A 80), (A 82), (A 84)) else ((am_acq (A 80) (A 78) a2 a4 a5).bind fun y => some (a5, y, (A 80), (A 82), (A 84))))))) else some ((-13), (A 78), (A 80), (A 82), (A 84))) else some ((-11), (A 78), (A 80), (A 82), (A 84)))) else some ((-11), (A 78), (A 80), (A 82), (A 84)))) := rfl
theorem cpb_11 (A : Nat → List Int32) (I : Nat → Int32) (a2 a4 a5 : Int32) : f_X11_copy A I (Int32.ofNat 1) a2 (Int32.ofNat 1) a4 a5 = ((f_X10_isMissing_79 A I).bind fun r1 => (if r1 = 0 then ((f_X10_isMissing_79 A I).bind fun r2 => (if r2 = 0 then (if (I 5056) = (I 5056) then ((f_X10_holds_79 A I a2 a5).bind fun r3 => (if r3 = 0 then some ((-12), (A 78), (A 80), (A 82), (A 84)) else ((f_X10_holds_79 A I a4 a5).bind fun r4 => (if r4 = 0 then some ((-12), (A 78), (A 80), (A 82), (A 84)) else ((am_acq (A 80) (A 80) a2 a4 a5).bind fun y => some (a5, (A 78), y, (A 82), (A 84))))))) else some ((-13), (A 78), (A 80), (A 82), (A 84))) else some ((-11), (A 78), (A 80), (A 82), (A 84)))) else some ((-11), (A 78), (A 80), (A 82), (A 84)))) := rfl
theorem cpb_12 (A : Nat → List Int32) (I : Nat → Int32) (a2 a4 a5 : Int32) : f_X11_copy A I (Int32.ofNat 1) a2 (Int32.ofNat 2) a4 a5 = ((f_X10_isMissing_79 A I).bind fun r1 => (if r1 = 0 then ((f_X10_isMissing_81 A I).bind fun r2 => (if r2 = 0 then (if (I 5056) = (I 5184) then ((f_X10_holds_79 A I a2 a5).bind fun r3 => (if r3 = 0 then some ((-12), (A 78), (A 80), (A 82), (A 84)) else ((f_X10_holds_81 A I a4 a5).bind fun r4 => (if r4 = 0 then some ((-12), (A 78), (A 80), (A 82), (A 84)) else ((am_acq (A 80) (A 82) a2 a4 a5).bind fun y => some (a5, (A 78), (A 80), y, (A 84))))))) else some ((-13), (A 78), (A 80), (A 82), (A 84))) else some ((-11), (A 78), (A 80), (A 82), (A 84)))) else some ((-11), (A 78), (A 80), (A 82), (A 84)))) := rfl
theorem cpb_13 (A : Nat → List Int32) (I : Nat → Int32) (a2 a4 a5 : Int32) : f_X11_copy A I (Int32.ofNat 1) a2 (Int32.ofNat 3) a4 a5 = ((f_X10_isMissing_79 A I).bind fun r1 => (if r1 = 0 then ((f_X10_isMissing_83 A I).bind fun r2 => (if r2 = 0 then (if (I 5056) = (I 5312) then ((f_X10_holds_79 A I a2 a5).bind fun r3 => (if r3 = 0 then some ((-12), (A 78), (A 80), (A 82), (A 84)) else ((f_X10_holds_83 A I a4 a5).bind fun r4 => (if r4 = 0 then some ((-12), (A 78), (A 80), (A 82), (A 84)) else ((am_acq (A 80) (A 84) a2 a4 a5).bind fun y => some (a5, (A 78), (A 80), (A 82), y)))))) else some ((-13), (A 78), (A 80), (A 82), (A 84))) else some ((-11), (A 78), (A 80), (A 82), (A 84)))) else some ((-11), (A 78), (A 80), (A 82), (A 84)))) := rfl
theorem cpb_20 (A : Nat → List Int32) (I : Nat → Int32) (a2 a4 a5 : Int32) : f_X11_copy A I (Int32.ofNat 2) a2 (Int32.ofNat 0) a4 a5 = ((f_X10_isMissing_81 A I).bind fun r1 => (if r1 = 0 then ((f_X10_isMissing_77 A I).bind fun r2 => (if r2 = 0 then (if (I 5184) = (I 4928) then ((f_X10_holds_81 A I a2 a5).bind fun r3 => (if r3 = 0 then some ((-12), (A 78), (A 80), (A 82), (A 84)) else ((f_X10_holds_77 A I a4 a5).bind fun r4 => (if r4 = 0 then some ((-12), (A 78), (A 80), (A 82), (A 84)) else ((am_acq (A 82) (A 78) a2 a4 a5).bind fun y => some (a5, y, (A 80), (A 82), (A 84))))))) else some ((-13), (A 78), (A 80), (A 82), (A 84))) else some ((-11), (A 78), (A 80), (A 82), (A 84)))) else some ((-11), (A 78), (A 80), (A 82), (A 84)))) := rfl
theorem cpb_21 (A : Nat → List Int32) (I : Nat → Int32) (a2 a4 a5 : Int32) : f_X11_copy A I (Int32.ofNat 2) a2 (Int32.ofNat 1) a4 a5 = ((f_X10_isMissing_81 A I).bind fun r1 => (if r1 = 0 then ((f_X10_isMissing_79 A I).bind fun r2 => (if r2 = 0 then (if (I 5184) = (I 5056) then ((f_X10_holds_81 A I a2 a5).bind fun r3 => (if r3 = 0 then some ((-12), (A 78), (A 80), (A 82), (A 84)) else ((f_X10_holds_79 A I a4 a5).bind fun r4 => (if r4 = 0 then some ((-12), (A 78), (A 80), (A 82), (A 84)) else ((am_acq (A 82) (A 80) a2 a4 a5).bind fun y => some (a5, (A 78), y, (A 82), (A 84))))))) else some ((-13), (A 78), (A 80), (A 82), (A 84))) else some ((-11), (A 78), (A 80), (A 82), (A 84)))) else some ((-11), (A 78), (A 80), (A 82), (A 84)))) := rfl
theorem cpb_22 (A : Nat → List Int32) (I : Nat → Int32) (a2 a4 a5 : Int32) : f_X11_copy A I (Int32.ofNat 2) a2 (Int32.ofNat 2) a4 a5 = ((f_X10_isMissing_81 A I).bind fun r1 => (if r1 = 0 then ((f_X10_isMissing_81 A I).bind fun r2 => (if r2 = 0 then (if (I 5184) = (I 5184) then ((f_X10_holds_81 A I a2 a5).bind fun r3 => (if r3 = 0 then some ((-12), (A 78), (A 80), (A 82), (A 84)) else ((f_X10_holds_81 A I a4 a5).bind fun r4 => (if r4 = 0 then some ((-12), (A 78), (A 80), (A 82), (A 84)) else ((am_acq (A 82) (A 82) a2 a4 a5).bind fun y => some (a5, (A 78), (A 80), y, (A 84))))))) else some ((-13), (A 78), (A 80), (A 82), (A 84))) else some ((-11), (A 78), (A 80), (A 82), (A 84)))) else some ((-11), (A 78), (A 80), (A 82), (A 84)))) := rfl
theorem cpb_23 (A : Nat → List Int32) (I : Nat → Int32) (a2 a4 a5 : Int32) : f_X11_copy A I (Int32.ofNat 2) a2 (Int32.ofNat 3) a4 a5 = ((f_X10_isMissing_81 A I).bind fun r1 => (if r1 = 0 then ((f_X10_isMissing_83 A I).bind fun r2 => (if r2 = 0 then (if (I 5184) = (I 5312) then ((f_X10_holds_81 A I a2 a5).bind fun r3 => (if r3 = 0 then some ((-12), (A 78), (A 80), (A 82), (A 84)) else ((f_X10_holds_83 A I a4 a5).bind fun r4 => (if r4 = 0 then some ((-12), (A 78), (A 80), (A 82), (A 84)) else ((am_acq (A 82) (A 84) a2 a4 a5).bind fun y => some (a5, (A 78), (A 80), (A 82), y)))))) else some ((-13), (A 78), (A 80), (A 82), (A 84))) else some ((-11), (A 78), (A 80), (A 82), (A 84)))) else some ((-11), (A 78), (A 80), (A 82), (A 84)))) := rfl
theorem cpb_30 (A : Nat → List Int32) (I : Nat → Int32) (a2 a4 a5 : Int32) : f_X11_copy A I (Int32.ofNat 3) a2 (Int32.ofNat 0) a4 a5 = ((f_X10_isMissing_83 A I).bind fun r1 => (if r1 = 0 then ((f_X10_isMissing_77 A I).bind fun r2 => (if r2 = 0 then (if (I 5312) = (I 4928) then ((f_X10_holds_83 A I a2 a5).bind fun r3 => (if r3 = 0 then some ((-12), (A 78), (A 80), (A 82), (A 84)) else ((f_X10_holds_77 A I a4 a5).bind fun r4 => (if r4 = 0 then some ((-12), (A 78), (A 80), (A 82), (A 84)) else ((am_acq (A 84) (A 78) a2 a4 a5).bind fun y => some (a5, y, (A 80), (A 82), (A 84))))))) else some ((-13), (A 78), (A 80), (A 82), (A 84))) else some ((-11), (A 78), (A 80), (A 82), (A 84)))) else some ((-11), (A 78), (A 80), (A 82), (A 84)))) := rfl
theorem cpb_31 (A : Nat → List Int32) (I : Nat → Int32) (a2 a4 a5 : Int32) : f_X11_copy A I (Int32.ofNat 3) a2 (Int32.ofNat 1) a4 a5 = ((f_X10_isMissing_83 A I).bind fun r1 => (if r1 = 0 then ((f_X10_isMissing_79 A I).bind fun r2 => (if r2 = 0 then (if (I 5312) = (I 5056) then ((f_X10_holds_83 A I a2 a5).bind fun r3 => (if r3 = 0 then some ((-12), (A 78), (A 80), (A 82), (A 84)) else ((f_X10_holds_79 A I a4 a5).bind fun r4 => (if r4 = 0 then some ((-12), (A 78), (A 80), (A 82), (A 84)) else ((am_acq (A 84) (A 80) a2 a4 a5).bind fun y => some (a5, (A 78), y, (A 82), (A 84))))))) else some ((-13), (A 78), (A 80), (A 82), (A 84))) else some ((-11), (A 78), (A 80), (A 82), (A 84)))) else some ((-11), (A 78), (A 80), (A 82), (A 84)))) := rfl
theorem cpb_32 (A : Nat → List Int32) (I : Nat → Int32) (a2 a4 a5 : Int32) : f_X11_copy A I (Int32.ofNat 3) a2 (Int32.ofNat 2) a4 a5 = ((f_X10_isMissing_83 A I).bind fun r1 => (if r1 = 0 then ((f_X10_isMissing_81 A I).bind fun r2 => (if r2 = 0 then (if (I 5312) = (I 5184) then ((f_X10_holds_83 A I a2 a5).bind fun r3 => (if r3 = 0 then some ((-12), (A 78), (A 80), (A 82), (A 84)) else ((f_X10_holds_81 A I a4 a5).bind fun r4 => (if r4 = 0 then some ((-12), (A 78), (A 80), (A 82), (A 84)) else ((am_acq (A 84) (A 82) a2 a4 a5).bind fun y => some (a5, (A 78), (A 80), y, (A 84))))))) else some ((-13), (A 78), (A 80), (A 82), (A 84))) else some ((-11), (A 78), (A 80), (A 82), (A 84)))) else some ((-11), (A 78), (A 80), (A 82), (A 84)))) := rfl
theorem cpb_33 (A : Nat → List Int32) (I : Nat → Int32) (a2 a4 a5 : Int32) : f_X11_copy A I (Int32.ofNat 3) a2 (Int32.ofNat 3) a4 a5 = ((f_X10_isMissing_83 A I).bind fun r1 => (if r1 = 0 then ((f_X10_isMissing_83 A I).bind fun r2 => (if r2 = 0 then (if (I 5312) = (I 5312) then ((f_X10_holds_83 A I a2 a5).bind fun r3 => (if r3 = 0 then some ((-12), (A 78), (A 80), (A 82), (A 84)) else ((f_X10_holds_83 A I a4 a5).bind fun r4 => (if r4 = 0 then some ((-12), (A 78), (A 80), (A 82), (A 84)) else ((am_acq (A 84) (A 84) a2 a4 a5).bind fun y => some (a5, (A 78), (A 80), (A 82), y)))))) else some ((-13), (A 78), (A 80), (A 82), (A 84))) else some ((-11), (A 78), (A 80), (A 82), (A 84)))) else some ((-11), (A 78), (A 80), (A 82), (A 84)))) := rfl
theorem op_copy (xs : List Int32) {n : Nat} {A : Nat → List Int32} {I : Nat → Int32} {x : am_X} (h : Iv0 n A I x) (a1 : Int32) (a2 : Int32) (a3 : Int32) (a4 : Int32) (a5 : Int32) : am_op xs n ix_X11_copy ix_X12_copy [.int a1, .int a2, .int a3, .int a4, .int a5] A I x := by
  obtain ⟨⟨P, N, T, R, E, C, X, Z, hI⟩, hx⟩ := h
  obtain ⟨⟨l4, l5, l6⟩, v0, v1, v2, v3⟩ := id hI.2.2.2.2.2.2.2.2.2.2.1
  have h7 : (A 127).length = 40 := (scr_get hI.2.2.2.2.2.2.2.2.2.2.2.2).2.2.2.2.2.2.2.2.2.2.2.2.2.2.2.2
  have no : ∀ (z : Int32) (e1 : f_X11_copy A I a1 a2 a3 a4 a5 = some (z, (A 78), (A 80), (A 82), (A 84))) (e2 : f_X12_copy (up (up (up (up A 78 (A 78)) 80 (A 80)) 82 (A 82)) 84 (A 84)) I a1 a2 a3 a4 a5 = some (z, A 126, A 127)), am_op xs n ix_X11_copy ix_X12_copy [.int a1, .int a2, .int a3, .int a4, .int a5] A I x := fun z e1 e2 => by
    have c1 := t_X11_copy (xs := xs) A I x a1 a2 a3 a4 a5 e1
    have c2 := t_X12_copy (xs := xs) (up (up (up (up A 78 (A 78)) 80 (A 80)) 82 (A 82)) 84 (A 84)) I x a1 a2 a3 a4 a5 e2
    exact am_op.mk hx c1 (by decide) c2 (by decide) ⟨P, N, T, R, E, C, X, Z, ⟨hI.1, hI.2.1, hI.2.2.1, hI.2.2.2.1, hI.2.2.2.2.1, hI.2.2.2.2.2.1, hI.2.2.2.2.2.2.1, hI.2.2.2.2.2.2.2.1, hI.2.2.2.2.2.2.2.2.1, hI.2.2.2.2.2.2.2.2.2.1, hI.2.2.2.2.2.2.2.2.2.2.1, hI.2.2.2.2.2.2.2.2.2.2.2.1, hI.2.2.2.2.2.2.2.2.2.2.2.2⟩⟩
  rcases wi_l 3 (by decide) a1 with w | ⟨s, hs, rfl, w⟩
  · have w : f_X11_isWithin a1 0 3 = some 0 := w
    refine no (-2) ?_ ?_
    · unfold f_X11_copy f_X11_isSheet; rw [w]; rfl
    · unfold f_X12_copy f_X12_isSheet; rw [in_X, w]; rfl
  have w : f_X11_isWithin (Int32.ofNat s) 0 3 = some 1 := w
  rcases wi_l 3 (by decide) a3 with w2 | ⟨t, ht, rfl, w2⟩
  · have w2 : f_X11_isWithin a3 0 3 = some 0 := w2
    refine no (-2) ?_ ?_
    · unfold f_X11_copy f_X11_isSheet; rw [w, Option.bind_some, Option.bind_some, if_neg (show ¬ (1 : Int32) = 0 by decide), w2]; rfl
    · unfold f_X12_copy f_X12_isSheet; rw [in_X, w, Option.bind_some, Option.bind_some, if_neg (show ¬ (1 : Int32) = 0 by decide), in_X, w2]; rfl
  have hcs : s = 0 ∨ s = 1 ∨ s = 2 ∨ s = 3 := by omega
  have hct : t = 0 ∨ t = 1 ∨ t = 2 ∨ t = 3 := by omega
  rcases hcs with rfl | rfl | rfl | rfl <;> rcases hct with rfl | rfl | rfl | rfl
  · obtain ⟨u1, u2, u3, u4, u5, ms, hms, u6⟩ := id v0
    obtain ⟨o1, o2, o3, o4, o5, mt, hmt, o6⟩ := id v0
    have M := fun (B : Nat → List Int32) h4 h5 h6 h7 s1 s2 t1 t2 => cpm_1 (B := B) (I := I) (s := 0) (t := 0) (ms := ms) (mt := mt) (so := I 4928) (to := I 4928) a2 a4 a5 (by decide) (by decide) h4 h5 h6 h7 s1 s2 u5 hms t1 t2 o5 hmt
    have s2 : Int32.ofNat ms = g (A 125) 0 := by rw [← u6]; exact u3
    have t2 : Int32.ofNat mt = g (A 125) 0 := by rw [← o6]; exact o3
    by_cases c1 : I 4928 = -1
    · refine no (-11) ?_ ((M (up (up (up (up A 78 (A 78)) 80 (A 80)) 82 (A 82)) 84 (A 84)) l4 l5 l6 h7 u2 s2 o2 t2).1 (Or.inl c1))
      rw [cpb_00]
      unfold f_X10_isMissing_77
      rw [if_pos c1]; rfl
    have m1 : f_X10_isMissing_77 A I = some 0 := by unfold f_X10_isMissing_77; rw [if_neg c1]
    by_cases c2 : I 4928 = -1
    · refine no (-11) ?_ ((M (up (up (up (up A 78 (A 78)) 80 (A 80)) 82 (A 82)) 84 (A 84)) l4 l5 l6 h7 u2 s2 o2 t2).1 (Or.inr c2))
      exact absurd c2 c1
    have m2 : f_X10_isMissing_77 A I = some 0 := by unfold f_X10_isMissing_77; rw [if_neg c2]
    by_cases c3 : I 4928 = I 4928
    case neg =>
      refine no (-13) ?_ ((M (up (up (up (up A 78 (A 78)) 80 (A 80)) 82 (A 82)) 84 (A 84)) l4 l5 l6 h7 u2 s2 o2 t2).2.1 c1 c2 c3)
      exact absurd rfl c3
    have k1 : f_X10_holds_77 A I a2 a5 = hld (Int32.ofNat ms) a2 a5 := by rw [← u6]; rfl
    have k2 : f_X10_holds_77 A I a4 a5 = hld (Int32.ofNat mt) a4 a5 := by rw [← o6]; rfl
    rcases hld_1 hms a2 a5 with ⟨i, n, rfl, rfl, hin, d1⟩ | ⟨d1, d2⟩
    case inr =>
      refine no (-12) ?_ ((M (up (up (up (up A 78 (A 78)) 80 (A 80)) 82 (A 82)) 84 (A 84)) l4 l5 l6 h7 u2 s2 o2 t2).2.2.1 c1 c2 c3 (Or.inl d2))
      rw [cpb_00, m1, Option.bind_some, if_pos rfl, Option.bind_some, if_pos rfl, if_pos c3, k1, d1]; rfl
    rcases hld_1 hmt a4 (Int32.ofNat n) with ⟨j, n', rfl, hnn, hjn, d2⟩ | ⟨d2, d3⟩
    case inr =>
      refine no (-12) ?_ ((M (up (up (up (up A 78 (A 78)) 80 (A 80)) 82 (A 82)) 84 (A 84)) l4 l5 l6 h7 u2 s2 o2 t2).2.2.1 c1 c2 c3 (Or.inr d3))
      rw [cpb_00, m1, Option.bind_some, if_pos rfl, Option.bind_some, if_pos rfl, if_pos c3, k1, d1, Option.bind_some, if_neg (show ¬ (1 : Int32) = 0 by decide), k2, d2]; rfl
    have hnn : n = n' := (i_eq (by omega) (by omega)).mp hnn
    subst hnn
    have ha : am_acq (A 78) (A 78) (Int32.ofNat i) (Int32.ofNat j) (Int32.ofNat n) = some (am_cpy (A 78) (A 78) i j n) := by
      unfold am_acq
      rw [i_tn (by omega), i_tn (by omega), i_tn (by omega), if_neg]
      rintro (z | z | z | z | z)
      · exact i_nn (by omega) z
      · exact i_nn (by omega) z
      · exact i_nn (by omega) z
      · omega
      · omega
    have e1 : f_X11_copy A I (Int32.ofNat 0) (Int32.ofNat i) (Int32.ofNat 0) (Int32.ofNat j) (Int32.ofNat n) = some (Int32.ofNat n, (am_cpy (A 78) (A 78) i j n), (A 80), (A 82), (A 84)) := by
      rw [cpb_00, m1, Option.bind_some, if_pos rfl, Option.bind_some, if_pos rfl, if_pos c3, k1, d1, Option.bind_some, if_neg (show ¬ (1 : Int32) = 0 by decide), k2, d2, Option.bind_some, if_neg (show ¬ (1 : Int32) = 0 by decide), ha]; rfl
    obtain ⟨Z1, Y1, e2, w2, w3, w4⟩ := (M (up (up (up (up A 78 (am_cpy (A 78) (A 78) i j n)) 80 (A 80)) 82 (A 82)) 84 (A 84)) l4 l5 l6 h7 u2 s2 o2 t2).2.2.2 c1 c2 c3 i j n rfl rfl rfl hin hjn
    have w4 : ∀ q, q < 160 → g Z1 q = if 40 * 0 + j ≤ q ∧ q < 40 * 0 + j + n then g (A 126) (40 * 0 + i + (q - (40 * 0 + j))) else g (A 126) q := w4
    obtain ⟨y1, y2⟩ := g_cpy (xs := A 78) (ys := A 78) (i := i) (j := j) (n := n) (by omega) (by omega)
    have c1 := t_X11_copy (xs := xs) A I x (Int32.ofNat 0) (Int32.ofNat i) (Int32.ofNat 0) (Int32.ofNat j) (Int32.ofNat n) e1
    have c2 := t_X12_copy (xs := xs) (up (up (up (up A 78 (am_cpy (A 78) (A 78) i j n)) 80 (A 80)) 82 (A 82)) 84 (A 84)) I x (Int32.ofNat 0) (Int32.ofNat i) (Int32.ofNat 0) (Int32.ofNat j) (Int32.ofNat n) e2
    have q : v_sht (I 4928) (I 4929) (I 5056) (I 5057) (I 5184) (I 5185) (I 5312) (I 5313) (am_cpy (A 78) (A 78) i j n) (A 80) (A 82) (A 84) (A 124) (A 125) Z1 := ⟨⟨l4, l5, w2⟩, sh1_new (y1.trans o1) o2.symm o3.symm (fun d hd => sh1_cpy hd (by omega) (by omega) (y2 d) (w4 (40 * 0 + d) (by omega)) u4 o4) o5 ⟨mt, hmt, o6⟩, sh1_oth v1 (s := 0) (by decide) (by decide) rfl rfl (fun q hq hn => by rw [w4 q hq, if_neg (by omega)]), sh1_oth v2 (s := 0) (by decide) (by decide) rfl rfl (fun q hq hn => by rw [w4 q hq, if_neg (by omega)]), sh1_oth v3 (s := 0) (by decide) (by decide) rfl rfl (fun q hq hn => by rw [w4 q hq, if_neg (by omega)])⟩
    have q9 : v_scr (v_scs (up A 127 Y1)) := scr_127 hI.2.2.2.2.2.2.2.2.2.2.2.2 w3
    exact am_op.mk hx c1 (by decide) c2 (by decide) ⟨P, N, T, R, E, C, X, Z, ⟨hI.1, hI.2.1, hI.2.2.1, hI.2.2.2.1, hI.2.2.2.2.1, hI.2.2.2.2.2.1, hI.2.2.2.2.2.2.1, hI.2.2.2.2.2.2.2.1, hI.2.2.2.2.2.2.2.2.1, hI.2.2.2.2.2.2.2.2.2.1, q, hI.2.2.2.2.2.2.2.2.2.2.2.1, q9⟩⟩
  · obtain ⟨u1, u2, u3, u4, u5, ms, hms, u6⟩ := id v0
    obtain ⟨o1, o2, o3, o4, o5, mt, hmt, o6⟩ := id v1
    have M := fun (B : Nat → List Int32) h4 h5 h6 h7 s1 s2 t1 t2 => cpm_1 (B := B) (I := I) (s := 0) (t := 1) (ms := ms) (mt := mt) (so := I 4928) (to := I 5056) a2 a4 a5 (by decide) (by decide) h4 h5 h6 h7 s1 s2 u5 hms t1 t2 o5 hmt
    have s2 : Int32.ofNat ms = g (A 125) 0 := by rw [← u6]; exact u3
    have t2 : Int32.ofNat mt = g (A 125) 1 := by rw [← o6]; exact o3
    by_cases c1 : I 4928 = -1
    · refine no (-11) ?_ ((M (up (up (up (up A 78 (A 78)) 80 (A 80)) 82 (A 82)) 84 (A 84)) l4 l5 l6 h7 u2 s2 o2 t2).1 (Or.inl c1))
      rw [cpb_01]
      unfold f_X10_isMissing_77
      rw [if_pos c1]; rfl
    have m1 : f_X10_isMissing_77 A I = some 0 := by unfold f_X10_isMissing_77; rw [if_neg c1]
    by_cases c2 : I 5056 = -1
    · refine no (-11) ?_ ((M (up (up (up (up A 78 (A 78)) 80 (A 80)) 82 (A 82)) 84 (A 84)) l4 l5 l6 h7 u2 s2 o2 t2).1 (Or.inr c2))
      rw [cpb_01, m1, Option.bind_some, if_pos rfl]
      unfold f_X10_isMissing_79
      rw [if_pos c2]; rfl
    have m2 : f_X10_isMissing_79 A I = some 0 := by unfold f_X10_isMissing_79; rw [if_neg c2]
    by_cases c3 : I 4928 = I 5056
    case neg =>
      refine no (-13) ?_ ((M (up (up (up (up A 78 (A 78)) 80 (A 80)) 82 (A 82)) 84 (A 84)) l4 l5 l6 h7 u2 s2 o2 t2).2.1 c1 c2 c3)
      rw [cpb_01, m1, Option.bind_some, if_pos rfl, m2, Option.bind_some, if_pos rfl, if_neg c3]
    have k1 : f_X10_holds_77 A I a2 a5 = hld (Int32.ofNat ms) a2 a5 := by rw [← u6]; rfl
    have k2 : f_X10_holds_79 A I a4 a5 = hld (Int32.ofNat mt) a4 a5 := by rw [← o6]; rfl
    rcases hld_1 hms a2 a5 with ⟨i, n, rfl, rfl, hin, d1⟩ | ⟨d1, d2⟩
    case inr =>
      refine no (-12) ?_ ((M (up (up (up (up A 78 (A 78)) 80 (A 80)) 82 (A 82)) 84 (A 84)) l4 l5 l6 h7 u2 s2 o2 t2).2.2.1 c1 c2 c3 (Or.inl d2))
      rw [cpb_01, m1, Option.bind_some, if_pos rfl, m2, Option.bind_some, if_pos rfl, if_pos c3, k1, d1]; rfl
    rcases hld_1 hmt a4 (Int32.ofNat n) with ⟨j, n', rfl, hnn, hjn, d2⟩ | ⟨d2, d3⟩
    case inr =>
      refine no (-12) ?_ ((M (up (up (up (up A 78 (A 78)) 80 (A 80)) 82 (A 82)) 84 (A 84)) l4 l5 l6 h7 u2 s2 o2 t2).2.2.1 c1 c2 c3 (Or.inr d3))
      rw [cpb_01, m1, Option.bind_some, if_pos rfl, m2, Option.bind_some, if_pos rfl, if_pos c3, k1, d1, Option.bind_some, if_neg (show ¬ (1 : Int32) = 0 by decide), k2, d2]; rfl
    have hnn : n = n' := (i_eq (by omega) (by omega)).mp hnn
    subst hnn
    have ha : am_acq (A 78) (A 80) (Int32.ofNat i) (Int32.ofNat j) (Int32.ofNat n) = some (am_cpy (A 78) (A 80) i j n) := by
      unfold am_acq
      rw [i_tn (by omega), i_tn (by omega), i_tn (by omega), if_neg]
      rintro (z | z | z | z | z)
      · exact i_nn (by omega) z
      · exact i_nn (by omega) z
      · exact i_nn (by omega) z
      · omega
      · omega
    have e1 : f_X11_copy A I (Int32.ofNat 0) (Int32.ofNat i) (Int32.ofNat 1) (Int32.ofNat j) (Int32.ofNat n) = some (Int32.ofNat n, (A 78), (am_cpy (A 78) (A 80) i j n), (A 82), (A 84)) := by
      rw [cpb_01, m1, Option.bind_some, if_pos rfl, m2, Option.bind_some, if_pos rfl, if_pos c3, k1, d1, Option.bind_some, if_neg (show ¬ (1 : Int32) = 0 by decide), k2, d2, Option.bind_some, if_neg (show ¬ (1 : Int32) = 0 by decide), ha]; rfl
    obtain ⟨Z1, Y1, e2, w2, w3, w4⟩ := (M (up (up (up (up A 78 (A 78)) 80 (am_cpy (A 78) (A 80) i j n)) 82 (A 82)) 84 (A 84)) l4 l5 l6 h7 u2 s2 o2 t2).2.2.2 c1 c2 c3 i j n rfl rfl rfl hin hjn
    have w4 : ∀ q, q < 160 → g Z1 q = if 40 * 1 + j ≤ q ∧ q < 40 * 1 + j + n then g (A 126) (40 * 0 + i + (q - (40 * 1 + j))) else g (A 126) q := w4
    obtain ⟨y1, y2⟩ := g_cpy (xs := A 78) (ys := A 80) (i := i) (j := j) (n := n) (by omega) (by omega)
    have c1 := t_X11_copy (xs := xs) A I x (Int32.ofNat 0) (Int32.ofNat i) (Int32.ofNat 1) (Int32.ofNat j) (Int32.ofNat n) e1
    have c2 := t_X12_copy (xs := xs) (up (up (up (up A 78 (A 78)) 80 (am_cpy (A 78) (A 80) i j n)) 82 (A 82)) 84 (A 84)) I x (Int32.ofNat 0) (Int32.ofNat i) (Int32.ofNat 1) (Int32.ofNat j) (Int32.ofNat n) e2
    have q : v_sht (I 4928) (I 4929) (I 5056) (I 5057) (I 5184) (I 5185) (I 5312) (I 5313) (A 78) (am_cpy (A 78) (A 80) i j n) (A 82) (A 84) (A 124) (A 125) Z1 := ⟨⟨l4, l5, w2⟩, sh1_oth v0 (s := 1) (by decide) (by decide) rfl rfl (fun q hq hn => by rw [w4 q hq, if_neg (by omega)]), sh1_new (y1.trans o1) o2.symm o3.symm (fun d hd => sh1_cpy hd (by omega) (by omega) (y2 d) (w4 (40 * 1 + d) (by omega)) u4 o4) o5 ⟨mt, hmt, o6⟩, sh1_oth v2 (s := 1) (by decide) (by decide) rfl rfl (fun q hq hn => by rw [w4 q hq, if_neg (by omega)]), sh1_oth v3 (s := 1) (by decide) (by decide) rfl rfl (fun q hq hn => by rw [w4 q hq, if_neg (by omega)])⟩
    have q9 : v_scr (v_scs (up A 127 Y1)) := scr_127 hI.2.2.2.2.2.2.2.2.2.2.2.2 w3
    exact am_op.mk hx c1 (by decide) c2 (by decide) ⟨P, N, T, R, E, C, X, Z, ⟨hI.1, hI.2.1, hI.2.2.1, hI.2.2.2.1, hI.2.2.2.2.1, hI.2.2.2.2.2.1, hI.2.2.2.2.2.2.1, hI.2.2.2.2.2.2.2.1, hI.2.2.2.2.2.2.2.2.1, hI.2.2.2.2.2.2.2.2.2.1, q, hI.2.2.2.2.2.2.2.2.2.2.2.1, q9⟩⟩
  · obtain ⟨u1, u2, u3, u4, u5, ms, hms, u6⟩ := id v0
    obtain ⟨o1, o2, o3, o4, o5, mt, hmt, o6⟩ := id v2
    have M := fun (B : Nat → List Int32) h4 h5 h6 h7 s1 s2 t1 t2 => cpm_1 (B := B) (I := I) (s := 0) (t := 2) (ms := ms) (mt := mt) (so := I 4928) (to := I 5184) a2 a4 a5 (by decide) (by decide) h4 h5 h6 h7 s1 s2 u5 hms t1 t2 o5 hmt
    have s2 : Int32.ofNat ms = g (A 125) 0 := by rw [← u6]; exact u3
    have t2 : Int32.ofNat mt = g (A 125) 2 := by rw [← o6]; exact o3
    by_cases c1 : I 4928 = -1
    · refine no (-11) ?_ ((M (up (up (up (up A 78 (A 78)) 80 (A 80)) 82 (A 82)) 84 (A 84)) l4 l5 l6 h7 u2 s2 o2 t2).1 (Or.inl c1))
      rw [cpb_02]
      unfold f_X10_isMissing_77
      rw [if_pos c1]; rfl
    have m1 : f_X10_isMissing_77 A I = some 0 := by unfold f_X10_isMissing_77; rw [if_neg c1]
    by_cases c2 : I 5184 = -1
    · refine no (-11) ?_ ((M (up (up (up (up A 78 (A 78)) 80 (A 80)) 82 (A 82)) 84 (A 84)) l4 l5 l6 h7 u2 s2 o2 t2).1 (Or.inr c2))
      rw [cpb_02, m1, Option.bind_some, if_pos rfl]
      unfold f_X10_isMissing_81
      rw [if_pos c2]; rfl
    have m2 : f_X10_isMissing_81 A I = some 0 := by unfold f_X10_isMissing_81; rw [if_neg c2]
    by_cases c3 : I 4928 = I 5184
    case neg =>
      refine no (-13) ?_ ((M (up (up (up (up A 78 (A 78)) 80 (A 80)) 82 (A 82)) 84 (A 84)) l4 l5 l6 h7 u2 s2 o2 t2).2.1 c1 c2 c3)
      rw [cpb_02, m1, Option.bind_some, if_pos rfl, m2, Option.bind_some, if_pos rfl, if_neg c3]
    have k1 : f_X10_holds_77 A I a2 a5 = hld (Int32.ofNat ms) a2 a5 := by rw [← u6]; rfl
    have k2 : f_X10_holds_81 A I a4 a5 = hld (Int32.ofNat mt) a4 a5 := by rw [← o6]; rfl
    rcases hld_1 hms a2 a5 with ⟨i, n, rfl, rfl, hin, d1⟩ | ⟨d1, d2⟩
    case inr =>
      refine no (-12) ?_ ((M (up (up (up (up A 78 (A 78)) 80 (A 80)) 82 (A 82)) 84 (A 84)) l4 l5 l6 h7 u2 s2 o2 t2).2.2.1 c1 c2 c3 (Or.inl d2))
      rw [cpb_02, m1, Option.bind_some, if_pos rfl, m2, Option.bind_some, if_pos rfl, if_pos c3, k1, d1]; rfl
    rcases hld_1 hmt a4 (Int32.ofNat n) with ⟨j, n', rfl, hnn, hjn, d2⟩ | ⟨d2, d3⟩
    case inr =>
      refine no (-12) ?_ ((M (up (up (up (up A 78 (A 78)) 80 (A 80)) 82 (A 82)) 84 (A 84)) l4 l5 l6 h7 u2 s2 o2 t2).2.2.1 c1 c2 c3 (Or.inr d3))
      rw [cpb_02, m1, Option.bind_some, if_pos rfl, m2, Option.bind_some, if_pos rfl, if_pos c3, k1, d1, Option.bind_some, if_neg (show ¬ (1 : Int32) = 0 by decide), k2, d2]; rfl
    have hnn : n = n' := (i_eq (by omega) (by omega)).mp hnn
    subst hnn
    have ha : am_acq (A 78) (A 82) (Int32.ofNat i) (Int32.ofNat j) (Int32.ofNat n) = some (am_cpy (A 78) (A 82) i j n) := by
      unfold am_acq
      rw [i_tn (by omega), i_tn (by omega), i_tn (by omega), if_neg]
      rintro (z | z | z | z | z)
      · exact i_nn (by omega) z
      · exact i_nn (by omega) z
      · exact i_nn (by omega) z
      · omega
      · omega
    have e1 : f_X11_copy A I (Int32.ofNat 0) (Int32.ofNat i) (Int32.ofNat 2) (Int32.ofNat j) (Int32.ofNat n) = some (Int32.ofNat n, (A 78), (A 80), (am_cpy (A 78) (A 82) i j n), (A 84)) := by
      rw [cpb_02, m1, Option.bind_some, if_pos rfl, m2, Option.bind_some, if_pos rfl, if_pos c3, k1, d1, Option.bind_some, if_neg (show ¬ (1 : Int32) = 0 by decide), k2, d2, Option.bind_some, if_neg (show ¬ (1 : Int32) = 0 by decide), ha]; rfl
    obtain ⟨Z1, Y1, e2, w2, w3, w4⟩ := (M (up (up (up (up A 78 (A 78)) 80 (A 80)) 82 (am_cpy (A 78) (A 82) i j n)) 84 (A 84)) l4 l5 l6 h7 u2 s2 o2 t2).2.2.2 c1 c2 c3 i j n rfl rfl rfl hin hjn
    have w4 : ∀ q, q < 160 → g Z1 q = if 40 * 2 + j ≤ q ∧ q < 40 * 2 + j + n then g (A 126) (40 * 0 + i + (q - (40 * 2 + j))) else g (A 126) q := w4
    obtain ⟨y1, y2⟩ := g_cpy (xs := A 78) (ys := A 82) (i := i) (j := j) (n := n) (by omega) (by omega)
    have c1 := t_X11_copy (xs := xs) A I x (Int32.ofNat 0) (Int32.ofNat i) (Int32.ofNat 2) (Int32.ofNat j) (Int32.ofNat n) e1
    have c2 := t_X12_copy (xs := xs) (up (up (up (up A 78 (A 78)) 80 (A 80)) 82 (am_cpy (A 78) (A 82) i j n)) 84 (A 84)) I x (Int32.ofNat 0) (Int32.ofNat i) (Int32.ofNat 2) (Int32.ofNat j) (Int32.ofNat n) e2
    have q : v_sht (I 4928) (I 4929) (I 5056) (I 5057) (I 5184) (I 5185) (I 5312) (I 5313) (A 78) (A 80) (am_cpy (A 78) (A 82) i j n) (A 84) (A 124) (A 125) Z1 := ⟨⟨l4, l5, w2⟩, sh1_oth v0 (s := 2) (by decide) (by decide) rfl rfl (fun q hq hn => by rw [w4 q hq, if_neg (by omega)]), sh1_oth v1 (s := 2) (by decide) (by decide) rfl rfl (fun q hq hn => by rw [w4 q hq, if_neg (by omega)]), sh1_new (y1.trans o1) o2.symm o3.symm (fun d hd => sh1_cpy hd (by omega) (by omega) (y2 d) (w4 (40 * 2 + d) (by omega)) u4 o4) o5 ⟨mt, hmt, o6⟩, sh1_oth v3 (s := 2) (by decide) (by decide) rfl rfl (fun q hq hn => by rw [w4 q hq, if_neg (by omega)])⟩
    have q9 : v_scr (v_scs (up A 127 Y1)) := scr_127 hI.2.2.2.2.2.2.2.2.2.2.2.2 w3
    exact am_op.mk hx c1 (by decide) c2 (by decide) ⟨P, N, T, R, E, C, X, Z, ⟨hI.1, hI.2.1, hI.2.2.1, hI.2.2.2.1, hI.2.2.2.2.1, hI.2.2.2.2.2.1, hI.2.2.2.2.2.2.1, hI.2.2.2.2.2.2.2.1, hI.2.2.2.2.2.2.2.2.1, hI.2.2.2.2.2.2.2.2.2.1, q, hI.2.2.2.2.2.2.2.2.2.2.2.1, q9⟩⟩
  · obtain ⟨u1, u2, u3, u4, u5, ms, hms, u6⟩ := id v0
    obtain ⟨o1, o2, o3, o4, o5, mt, hmt, o6⟩ := id v3
    have M := fun (B : Nat → List Int32) h4 h5 h6 h7 s1 s2 t1 t2 => cpm_1 (B := B) (I := I) (s := 0) (t := 3) (ms := ms) (mt := mt) (so := I 4928) (to := I 5312) a2 a4 a5 (by decide) (by decide) h4 h5 h6 h7 s1 s2 u5 hms t1 t2 o5 hmt
    have s2 : Int32.ofNat ms = g (A 125) 0 := by rw [← u6]; exact u3
    have t2 : Int32.ofNat mt = g (A 125) 3 := by rw [← o6]; exact o3
    by_cases c1 : I 4928 = -1
    · refine no (-11) ?_ ((M (up (up (up (up A 78 (A 78)) 80 (A 80)) 82 (A 82)) 84 (A 84)) l4 l5 l6 h7 u2 s2 o2 t2).1 (Or.inl c1))
      rw [cpb_03]
      unfold f_X10_isMissing_77
      rw [if_pos c1]; rfl
    have m1 : f_X10_isMissing_77 A I = some 0 := by unfold f_X10_isMissing_77; rw [if_neg c1]
    by_cases c2 : I 5312 = -1
    · refine no (-11) ?_ ((M (up (up (up (up A 78 (A 78)) 80 (A 80)) 82 (A 82)) 84 (A 84)) l4 l5 l6 h7 u2 s2 o2 t2).1 (Or.inr c2))
      rw [cpb_03, m1, Option.bind_some, if_pos rfl]
      unfold f_X10_isMissing_83
      rw [if_pos c2]; rfl
    have m2 : f_X10_isMissing_83 A I = some 0 := by unfold f_X10_isMissing_83; rw [if_neg c2]
    by_cases c3 : I 4928 = I 5312
    case neg =>
      refine no (-13) ?_ ((M (up (up (up (up A 78 (A 78)) 80 (A 80)) 82 (A 82)) 84 (A 84)) l4 l5 l6 h7 u2 s2 o2 t2).2.1 c1 c2 c3)
      rw [cpb_03, m1, Option.bind_some, if_pos rfl, m2, Option.bind_some, if_pos rfl, if_neg c3]
    have k1 : f_X10_holds_77 A I a2 a5 = hld (Int32.ofNat ms) a2 a5 := by rw [← u6]; rfl
    have k2 : f_X10_holds_83 A I a4 a5 = hld (Int32.ofNat mt) a4 a5 := by rw [← o6]; rfl
    rcases hld_1 hms a2 a5 with ⟨i, n, rfl, rfl, hin, d1⟩ | ⟨d1, d2⟩
    case inr =>
      refine no (-12) ?_ ((M (up (up (up (up A 78 (A 78)) 80 (A 80)) 82 (A 82)) 84 (A 84)) l4 l5 l6 h7 u2 s2 o2 t2).2.2.1 c1 c2 c3 (Or.inl d2))
      rw [cpb_03, m1, Option.bind_some, if_pos rfl, m2, Option.bind_some, if_pos rfl, if_pos c3, k1, d1]; rfl
    rcases hld_1 hmt a4 (Int32.ofNat n) with ⟨j, n', rfl, hnn, hjn, d2⟩ | ⟨d2, d3⟩
    case inr =>
      refine no (-12) ?_ ((M (up (up (up (up A 78 (A 78)) 80 (A 80)) 82 (A 82)) 84 (A 84)) l4 l5 l6 h7 u2 s2 o2 t2).2.2.1 c1 c2 c3 (Or.inr d3))
      rw [cpb_03, m1, Option.bind_some, if_pos rfl, m2, Option.bind_some, if_pos rfl, if_pos c3, k1, d1, Option.bind_some, if_neg (show ¬ (1 : Int32) = 0 by decide), k2, d2]; rfl
    have hnn : n = n' := (i_eq (by omega) (by omega)).mp hnn
    subst hnn
    have ha : am_acq (A 78) (A 84) (Int32.ofNat i) (Int32.ofNat j) (Int32.ofNat n) = some (am_cpy (A 78) (A 84) i j n) := by
      unfold am_acq
      rw [i_tn (by omega), i_tn (by omega), i_tn (by omega), if_neg]
      rintro (z | z | z | z | z)
      · exact i_nn (by omega) z
      · exact i_nn (by omega) z
      · exact i_nn (by omega) z
      · omega
      · omega
    have e1 : f_X11_copy A I (Int32.ofNat 0) (Int32.ofNat i) (Int32.ofNat 3) (Int32.ofNat j) (Int32.ofNat n) = some (Int32.ofNat n, (A 78), (A 80), (A 82), (am_cpy (A 78) (A 84) i j n)) := by
      rw [cpb_03, m1, Option.bind_some, if_pos rfl, m2, Option.bind_some, if_pos rfl, if_pos c3, k1, d1, Option.bind_some, if_neg (show ¬ (1 : Int32) = 0 by decide), k2, d2, Option.bind_some, if_neg (show ¬ (1 : Int32) = 0 by decide), ha]; rfl
    obtain ⟨Z1, Y1, e2, w2, w3, w4⟩ := (M (up (up (up (up A 78 (A 78)) 80 (A 80)) 82 (A 82)) 84 (am_cpy (A 78) (A 84) i j n)) l4 l5 l6 h7 u2 s2 o2 t2).2.2.2 c1 c2 c3 i j n rfl rfl rfl hin hjn
    have w4 : ∀ q, q < 160 → g Z1 q = if 40 * 3 + j ≤ q ∧ q < 40 * 3 + j + n then g (A 126) (40 * 0 + i + (q - (40 * 3 + j))) else g (A 126) q := w4
    obtain ⟨y1, y2⟩ := g_cpy (xs := A 78) (ys := A 84) (i := i) (j := j) (n := n) (by omega) (by omega)
    have c1 := t_X11_copy (xs := xs) A I x (Int32.ofNat 0) (Int32.ofNat i) (Int32.ofNat 3) (Int32.ofNat j) (Int32.ofNat n) e1
    have c2 := t_X12_copy (xs := xs) (up (up (up (up A 78 (A 78)) 80 (A 80)) 82 (A 82)) 84 (am_cpy (A 78) (A 84) i j n)) I x (Int32.ofNat 0) (Int32.ofNat i) (Int32.ofNat 3) (Int32.ofNat j) (Int32.ofNat n) e2
    have q : v_sht (I 4928) (I 4929) (I 5056) (I 5057) (I 5184) (I 5185) (I 5312) (I 5313) (A 78) (A 80) (A 82) (am_cpy (A 78) (A 84) i j n) (A 124) (A 125) Z1 := ⟨⟨l4, l5, w2⟩, sh1_oth v0 (s := 3) (by decide) (by decide) rfl rfl (fun q hq hn => by rw [w4 q hq, if_neg (by omega)]), sh1_oth v1 (s := 3) (by decide) (by decide) rfl rfl (fun q hq hn => by rw [w4 q hq, if_neg (by omega)]), sh1_oth v2 (s := 3) (by decide) (by decide) rfl rfl (fun q hq hn => by rw [w4 q hq, if_neg (by omega)]), sh1_new (y1.trans o1) o2.symm o3.symm (fun d hd => sh1_cpy hd (by omega) (by omega) (y2 d) (w4 (40 * 3 + d) (by omega)) u4 o4) o5 ⟨mt, hmt, o6⟩⟩
    have q9 : v_scr (v_scs (up A 127 Y1)) := scr_127 hI.2.2.2.2.2.2.2.2.2.2.2.2 w3
    exact am_op.mk hx c1 (by decide) c2 (by decide) ⟨P, N, T, R, E, C, X, Z, ⟨hI.1, hI.2.1, hI.2.2.1, hI.2.2.2.1, hI.2.2.2.2.1, hI.2.2.2.2.2.1, hI.2.2.2.2.2.2.1, hI.2.2.2.2.2.2.2.1, hI.2.2.2.2.2.2.2.2.1, hI.2.2.2.2.2.2.2.2.2.1, q, hI.2.2.2.2.2.2.2.2.2.2.2.1, q9⟩⟩
  · obtain ⟨u1, u2, u3, u4, u5, ms, hms, u6⟩ := id v1
    obtain ⟨o1, o2, o3, o4, o5, mt, hmt, o6⟩ := id v0
    have M := fun (B : Nat → List Int32) h4 h5 h6 h7 s1 s2 t1 t2 => cpm_1 (B := B) (I := I) (s := 1) (t := 0) (ms := ms) (mt := mt) (so := I 5056) (to := I 4928) a2 a4 a5 (by decide) (by decide) h4 h5 h6 h7 s1 s2 u5 hms t1 t2 o5 hmt
    have s2 : Int32.ofNat ms = g (A 125) 1 := by rw [← u6]; exact u3
    have t2 : Int32.ofNat mt = g (A 125) 0 := by rw [← o6]; exact o3
    by_cases c1 : I 5056 = -1
    · refine no (-11) ?_ ((M (up (up (up (up A 78 (A 78)) 80 (A 80)) 82 (A 82)) 84 (A 84)) l4 l5 l6 h7 u2 s2 o2 t2).1 (Or.inl c1))
      rw [cpb_10]
      unfold f_X10_isMissing_79
      rw [if_pos c1]; rfl
    have m1 : f_X10_isMissing_79 A I = some 0 := by unfold f_X10_isMissing_79; rw [if_neg c1]
    by_cases c2 : I 4928 = -1
    · refine no (-11) ?_ ((M (up (up (up (up A 78 (A 78)) 80 (A 80)) 82 (A 82)) 84 (A 84)) l4 l5 l6 h7 u2 s2 o2 t2).1 (Or.inr c2))
      rw [cpb_10, m1, Option.bind_some, if_pos rfl]
      unfold f_X10_isMissing_77
      rw [if_pos c2]; rfl
    have m2 : f_X10_isMissing_77 A I = some 0 := by unfold f_X10_isMissing_77; rw [if_neg c2]
    by_cases c3 : I 5056 = I 4928
    case neg =>
      refine no (-13) ?_ ((M (up (up (up (up A 78 (A 78)) 80 (A 80)) 82 (A 82)) 84 (A 84)) l4 l5 l6 h7 u2 s2 o2 t2).2.1 c1 c2 c3)
      rw [cpb_10, m1, Option.bind_some, if_pos rfl, m2, Option.bind_some, if_pos rfl, if_neg c3]
    have k1 : f_X10_holds_79 A I a2 a5 = hld (Int32.ofNat ms) a2 a5 := by rw [← u6]; rfl
    have k2 : f_X10_holds_77 A I a4 a5 = hld (Int32.ofNat mt) a4 a5 := by rw [← o6]; rfl
    rcases hld_1 hms a2 a5 with ⟨i, n, rfl, rfl, hin, d1⟩ | ⟨d1, d2⟩
    case inr =>
      refine no (-12) ?_ ((M (up (up (up (up A 78 (A 78)) 80 (A 80)) 82 (A 82)) 84 (A 84)) l4 l5 l6 h7 u2 s2 o2 t2).2.2.1 c1 c2 c3 (Or.inl d2))
      rw [cpb_10, m1, Option.bind_some, if_pos rfl, m2, Option.bind_some, if_pos rfl, if_pos c3, k1, d1]; rfl
    rcases hld_1 hmt a4 (Int32.ofNat n) with ⟨j, n', rfl, hnn, hjn, d2⟩ | ⟨d2, d3⟩
    case inr =>
      refine no (-12) ?_ ((M (up (up (up (up A 78 (A 78)) 80 (A 80)) 82 (A 82)) 84 (A 84)) l4 l5 l6 h7 u2 s2 o2 t2).2.2.1 c1 c2 c3 (Or.inr d3))
      rw [cpb_10, m1, Option.bind_some, if_pos rfl, m2, Option.bind_some, if_pos rfl, if_pos c3, k1, d1, Option.bind_some, if_neg (show ¬ (1 : Int32) = 0 by decide), k2, d2]; rfl
    have hnn : n = n' := (i_eq (by omega) (by omega)).mp hnn
    subst hnn
    have ha : am_acq (A 80) (A 78) (Int32.ofNat i) (Int32.ofNat j) (Int32.ofNat n) = some (am_cpy (A 80) (A 78) i j n) := by
      unfold am_acq
      rw [i_tn (by omega), i_tn (by omega), i_tn (by omega), if_neg]
      rintro (z | z | z | z | z)
      · exact i_nn (by omega) z
      · exact i_nn (by omega) z
      · exact i_nn (by omega) z
      · omega
      · omega
    have e1 : f_X11_copy A I (Int32.ofNat 1) (Int32.ofNat i) (Int32.ofNat 0) (Int32.ofNat j) (Int32.ofNat n) = some (Int32.ofNat n, (am_cpy (A 80) (A 78) i j n), (A 80), (A 82), (A 84)) := by
      rw [cpb_10, m1, Option.bind_some, if_pos rfl, m2, Option.bind_some, if_pos rfl, if_pos c3, k1, d1, Option.bind_some, if_neg (show ¬ (1 : Int32) = 0 by decide), k2, d2, Option.bind_some, if_neg (show ¬ (1 : Int32) = 0 by decide), ha]; rfl
    obtain ⟨Z1, Y1, e2, w2, w3, w4⟩ := (M (up (up (up (up A 78 (am_cpy (A 80) (A 78) i j n)) 80 (A 80)) 82 (A 82)) 84 (A 84)) l4 l5 l6 h7 u2 s2 o2 t2).2.2.2 c1 c2 c3 i j n rfl rfl rfl hin hjn
    have w4 : ∀ q, q < 160 → g Z1 q = if 40 * 0 + j ≤ q ∧ q < 40 * 0 + j + n then g (A 126) (40 * 1 + i + (q - (40 * 0 + j))) else g (A 126) q := w4
    obtain ⟨y1, y2⟩ := g_cpy (xs := A 80) (ys := A 78) (i := i) (j := j) (n := n) (by omega) (by omega)
    have c1 := t_X11_copy (xs := xs) A I x (Int32.ofNat 1) (Int32.ofNat i) (Int32.ofNat 0) (Int32.ofNat j) (Int32.ofNat n) e1
    have c2 := t_X12_copy (xs := xs) (up (up (up (up A 78 (am_cpy (A 80) (A 78) i j n)) 80 (A 80)) 82 (A 82)) 84 (A 84)) I x (Int32.ofNat 1) (Int32.ofNat i) (Int32.ofNat 0) (Int32.ofNat j) (Int32.ofNat n) e2
    have q : v_sht (I 4928) (I 4929) (I 5056) (I 5057) (I 5184) (I 5185) (I 5312) (I 5313) (am_cpy (A 80) (A 78) i j n) (A 80) (A 82) (A 84) (A 124) (A 125) Z1 := ⟨⟨l4, l5, w2⟩, sh1_new (y1.trans o1) o2.symm o3.symm (fun d hd => sh1_cpy hd (by omega) (by omega) (y2 d) (w4 (40 * 0 + d) (by omega)) u4 o4) o5 ⟨mt, hmt, o6⟩, sh1_oth v1 (s := 0) (by decide) (by decide) rfl rfl (fun q hq hn => by rw [w4 q hq, if_neg (by omega)]), sh1_oth v2 (s := 0) (by decide) (by decide) rfl rfl (fun q hq hn => by rw [w4 q hq, if_neg (by omega)]), sh1_oth v3 (s := 0) (by decide) (by decide) rfl rfl (fun q hq hn => by rw [w4 q hq, if_neg (by omega)])⟩
    have q9 : v_scr (v_scs (up A 127 Y1)) := scr_127 hI.2.2.2.2.2.2.2.2.2.2.2.2 w3
    exact am_op.mk hx c1 (by decide) c2 (by decide) ⟨P, N, T, R, E, C, X, Z, ⟨hI.1, hI.2.1, hI.2.2.1, hI.2.2.2.1, hI.2.2.2.2.1, hI.2.2.2.2.2.1, hI.2.2.2.2.2.2.1, hI.2.2.2.2.2.2.2.1, hI.2.2.2.2.2.2.2.2.1, hI.2.2.2.2.2.2.2.2.2.1, q, hI.2.2.2.2.2.2.2.2.2.2.2.1, q9⟩⟩
  · obtain ⟨u1, u2, u3, u4, u5, ms, hms, u6⟩ := id v1
    obtain ⟨o1, o2, o3, o4, o5, mt, hmt, o6⟩ := id v1
    have M := fun (B : Nat → List Int32) h4 h5 h6 h7 s1 s2 t1 t2 => cpm_1 (B := B) (I := I) (s := 1) (t := 1) (ms := ms) (mt := mt) (so := I 5056) (to := I 5056) a2 a4 a5 (by decide) (by decide) h4 h5 h6 h7 s1 s2 u5 hms t1 t2 o5 hmt
    have s2 : Int32.ofNat ms = g (A 125) 1 := by rw [← u6]; exact u3
    have t2 : Int32.ofNat mt = g (A 125) 1 := by rw [← o6]; exact o3
    by_cases c1 : I 5056 = -1
    · refine no (-11) ?_ ((M (up (up (up (up A 78 (A 78)) 80 (A 80)) 82 (A 82)) 84 (A 84)) l4 l5 l6 h7 u2 s2 o2 t2).1 (Or.inl c1))
      rw [cpb_11]
      unfold f_X10_isMissing_79
      rw [if_pos c1]; rfl
    have m1 : f_X10_isMissing_79 A I = some 0 := by unfold f_X10_isMissing_79; rw [if_neg c1]
    by_cases c2 : I 5056 = -1
    · refine no (-11) ?_ ((M (up (up (up (up A 78 (A 78)) 80 (A 80)) 82 (A 82)) 84 (A 84)) l4 l5 l6 h7 u2 s2 o2 t2).1 (Or.inr c2))
      exact absurd c2 c1
    have m2 : f_X10_isMissing_79 A I = some 0 := by unfold f_X10_isMissing_79; rw [if_neg c2]
    by_cases c3 : I 5056 = I 5056
    case neg =>
      refine no (-13) ?_ ((M (up (up (up (up A 78 (A 78)) 80 (A 80)) 82 (A 82)) 84 (A 84)) l4 l5 l6 h7 u2 s2 o2 t2).2.1 c1 c2 c3)
      exact absurd rfl c3
    have k1 : f_X10_holds_79 A I a2 a5 = hld (Int32.ofNat ms) a2 a5 := by rw [← u6]; rfl
    have k2 : f_X10_holds_79 A I a4 a5 = hld (Int32.ofNat mt) a4 a5 := by rw [← o6]; rfl
    rcases hld_1 hms a2 a5 with ⟨i, n, rfl, rfl, hin, d1⟩ | ⟨d1, d2⟩
    case inr =>
      refine no (-12) ?_ ((M (up (up (up (up A 78 (A 78)) 80 (A 80)) 82 (A 82)) 84 (A 84)) l4 l5 l6 h7 u2 s2 o2 t2).2.2.1 c1 c2 c3 (Or.inl d2))
      rw [cpb_11, m1, Option.bind_some, if_pos rfl, Option.bind_some, if_pos rfl, if_pos c3, k1, d1]; rfl
    rcases hld_1 hmt a4 (Int32.ofNat n) with ⟨j, n', rfl, hnn, hjn, d2⟩ | ⟨d2, d3⟩
    case inr =>
      refine no (-12) ?_ ((M (up (up (up (up A 78 (A 78)) 80 (A 80)) 82 (A 82)) 84 (A 84)) l4 l5 l6 h7 u2 s2 o2 t2).2.2.1 c1 c2 c3 (Or.inr d3))
      rw [cpb_11, m1, Option.bind_some, if_pos rfl, Option.bind_some, if_pos rfl, if_pos c3, k1, d1, Option.bind_some, if_neg (show ¬ (1 : Int32) = 0 by decide), k2, d2]; rfl
    have hnn : n = n' := (i_eq (by omega) (by omega)).mp hnn
    subst hnn
    have ha : am_acq (A 80) (A 80) (Int32.ofNat i) (Int32.ofNat j) (Int32.ofNat n) = some (am_cpy (A 80) (A 80) i j n) := by
      unfold am_acq
      rw [i_tn (by omega), i_tn (by omega), i_tn (by omega), if_neg]
      rintro (z | z | z | z | z)
      · exact i_nn (by omega) z
      · exact i_nn (by omega) z
      · exact i_nn (by omega) z
      · omega
      · omega
    have e1 : f_X11_copy A I (Int32.ofNat 1) (Int32.ofNat i) (Int32.ofNat 1) (Int32.ofNat j) (Int32.ofNat n) = some (Int32.ofNat n, (A 78), (am_cpy (A 80) (A 80) i j n), (A 82), (A 84)) := by
      rw [cpb_11, m1, Option.bind_some, if_pos rfl, Option.bind_some, if_pos rfl, if_pos c3, k1, d1, Option.bind_some, if_neg (show ¬ (1 : Int32) = 0 by decide), k2, d2, Option.bind_some, if_neg (show ¬ (1 : Int32) = 0 by decide), ha]; rfl
    obtain ⟨Z1, Y1, e2, w2, w3, w4⟩ := (M (up (up (up (up A 78 (A 78)) 80 (am_cpy (A 80) (A 80) i j n)) 82 (A 82)) 84 (A 84)) l4 l5 l6 h7 u2 s2 o2 t2).2.2.2 c1 c2 c3 i j n rfl rfl rfl hin hjn
    have w4 : ∀ q, q < 160 → g Z1 q = if 40 * 1 + j ≤ q ∧ q < 40 * 1 + j + n then g (A 126) (40 * 1 + i + (q - (40 * 1 + j))) else g (A 126) q := w4
    obtain ⟨y1, y2⟩ := g_cpy (xs := A 80) (ys := A 80) (i := i) (j := j) (n := n) (by omega) (by omega)
    have c1 := t_X11_copy (xs := xs) A I x (Int32.ofNat 1) (Int32.ofNat i) (Int32.ofNat 1) (Int32.ofNat j) (Int32.ofNat n) e1
    have c2 := t_X12_copy (xs := xs) (up (up (up (up A 78 (A 78)) 80 (am_cpy (A 80) (A 80) i j n)) 82 (A 82)) 84 (A 84)) I x (Int32.ofNat 1) (Int32.ofNat i) (Int32.ofNat 1) (Int32.ofNat j) (Int32.ofNat n) e2
    have q : v_sht (I 4928) (I 4929) (I 5056) (I 5057) (I 5184) (I 5185) (I 5312) (I 5313) (A 78) (am_cpy (A 80) (A 80) i j n) (A 82) (A 84) (A 124) (A 125) Z1 := ⟨⟨l4, l5, w2⟩, sh1_oth v0 (s := 1) (by decide) (by decide) rfl rfl (fun q hq hn => by rw [w4 q hq, if_neg (by omega)]), sh1_new (y1.trans o1) o2.symm o3.symm (fun d hd => sh1_cpy hd (by omega) (by omega) (y2 d) (w4 (40 * 1 + d) (by omega)) u4 o4) o5 ⟨mt, hmt, o6⟩, sh1_oth v2 (s := 1) (by decide) (by decide) rfl rfl (fun q hq hn => by rw [w4 q hq, if_neg (by omega)]), sh1_oth v3 (s := 1) (by decide) (by decide) rfl rfl (fun q hq hn => by rw [w4 q hq, if_neg (by omega)])⟩
    have q9 : v_scr (v_scs (up A 127 Y1)) := scr_127 hI.2.2.2.2.2.2.2.2.2.2.2.2 w3
    exact am_op.mk hx c1 (by decide) c2 (by decide) ⟨P, N, T, R, E, C, X, Z, ⟨hI.1, hI.2.1, hI.2.2.1, hI.2.2.2.1, hI.2.2.2.2.1, hI.2.2.2.2.2.1, hI.2.2.2.2.2.2.1, hI.2.2.2.2.2.2.2.1, hI.2.2.2.2.2.2.2.2.1, hI.2.2.2.2.2.2.2.2.2.1, q, hI.2.2.2.2.2.2.2.2.2.2.2.1, q9⟩⟩
  · obtain ⟨u1, u2, u3, u4, u5, ms, hms, u6⟩ := id v1
    obtain ⟨o1, o2, o3, o4, o5, mt, hmt, o6⟩ := id v2
    have M := fun (B : Nat → List Int32) h4 h5 h6 h7 s1 s2 t1 t2 => cpm_1 (B := B) (I := I) (s := 1) (t := 2) (ms := ms) (mt := mt) (so := I 5056) (to := I 5184) a2 a4 a5 (by decide) (by decide) h4 h5 h6 h7 s1 s2 u5 hms t1 t2 o5 hmt
    have s2 : Int32.ofNat ms = g (A 125) 1 := by rw [← u6]; exact u3
    have t2 : Int32.ofNat mt = g (A 125) 2 := by rw [← o6]; exact o3
    by_cases c1 : I 5056 = -1
    · refine no (-11) ?_ ((M (up (up (up (up A 78 (A 78)) 80 (A 80)) 82 (A 82)) 84 (A 84)) l4 l5 l6 h7 u2 s2 o2 t2).1 (Or.inl c1))
      rw [cpb_12]
      unfold f_X10_isMissing_79
      rw [if_pos c1]; rfl
    have m1 : f_X10_isMissing_79 A I = some 0 := by unfold f_X10_isMissing_79; rw [if_neg c1]
    by_cases c2 : I 5184 = -1
    · refine no (-11) ?_ ((M (up (up (up (up A 78 (A 78)) 80 (A 80)) 82 (A 82)) 84 (A 84)) l4 l5 l6 h7 u2 s2 o2 t2).1 (Or.inr c2))
      rw [cpb_12, m1, Option.bind_some, if_pos rfl]
      unfold f_X10_isMissing_81
      rw [if_pos c2]; rfl
    have m2 : f_X10_isMissing_81 A I = some 0 := by unfold f_X10_isMissing_81; rw [if_neg c2]
    by_cases c3 : I 5056 = I 5184
    case neg =>
      refine no (-13) ?_ ((M (up (up (up (up A 78 (A 78)) 80 (A 80)) 82 (A 82)) 84 (A 84)) l4 l5 l6 h7 u2 s2 o2 t2).2.1 c1 c2 c3)
      rw [cpb_12, m1, Option.bind_some, if_pos rfl, m2, Option.bind_some, if_pos rfl, if_neg c3]
    have k1 : f_X10_holds_79 A I a2 a5 = hld (Int32.ofNat ms) a2 a5 := by rw [← u6]; rfl
    have k2 : f_X10_holds_81 A I a4 a5 = hld (Int32.ofNat mt) a4 a5 := by rw [← o6]; rfl
    rcases hld_1 hms a2 a5 with ⟨i, n, rfl, rfl, hin, d1⟩ | ⟨d1, d2⟩
    case inr =>
      refine no (-12) ?_ ((M (up (up (up (up A 78 (A 78)) 80 (A 80)) 82 (A 82)) 84 (A 84)) l4 l5 l6 h7 u2 s2 o2 t2).2.2.1 c1 c2 c3 (Or.inl d2))
      rw [cpb_12, m1, Option.bind_some, if_pos rfl, m2, Option.bind_some, if_pos rfl, if_pos c3, k1, d1]; rfl
    rcases hld_1 hmt a4 (Int32.ofNat n) with ⟨j, n', rfl, hnn, hjn, d2⟩ | ⟨d2, d3⟩
    case inr =>
      refine no (-12) ?_ ((M (up (up (up (up A 78 (A 78)) 80 (A 80)) 82 (A 82)) 84 (A 84)) l4 l5 l6 h7 u2 s2 o2 t2).2.2.1 c1 c2 c3 (Or.inr d3))
      rw [cpb_12, m1, Option.bind_some, if_pos rfl, m2, Option.bind_some, if_pos rfl, if_pos c3, k1, d1, Option.bind_some, if_neg (show ¬ (1 : Int32) = 0 by decide), k2, d2]; rfl
    have hnn : n = n' := (i_eq (by omega) (by omega)).mp hnn
    subst hnn
    have ha : am_acq (A 80) (A 82) (Int32.ofNat i) (Int32.ofNat j) (Int32.ofNat n) = some (am_cpy (A 80) (A 82) i j n) := by
      unfold am_acq
      rw [i_tn (by omega), i_tn (by omega), i_tn (by omega), if_neg]
      rintro (z | z | z | z | z)
      · exact i_nn (by omega) z
      · exact i_nn (by omega) z
      · exact i_nn (by omega) z
      · omega
      · omega
    have e1 : f_X11_copy A I (Int32.ofNat 1) (Int32.ofNat i) (Int32.ofNat 2) (Int32.ofNat j) (Int32.ofNat n) = some (Int32.ofNat n, (A 78), (A 80), (am_cpy (A 80) (A 82) i j n), (A 84)) := by
      rw [cpb_12, m1, Option.bind_some, if_pos rfl, m2, Option.bind_some, if_pos rfl, if_pos c3, k1, d1, Option.bind_some, if_neg (show ¬ (1 : Int32) = 0 by decide), k2, d2, Option.bind_some, if_neg (show ¬ (1 : Int32) = 0 by decide), ha]; rfl
    obtain ⟨Z1, Y1, e2, w2, w3, w4⟩ := (M (up (up (up (up A 78 (A 78)) 80 (A 80)) 82 (am_cpy (A 80) (A 82) i j n)) 84 (A 84)) l4 l5 l6 h7 u2 s2 o2 t2).2.2.2 c1 c2 c3 i j n rfl rfl rfl hin hjn
    have w4 : ∀ q, q < 160 → g Z1 q = if 40 * 2 + j ≤ q ∧ q < 40 * 2 + j + n then g (A 126) (40 * 1 + i + (q - (40 * 2 + j))) else g (A 126) q := w4
    obtain ⟨y1, y2⟩ := g_cpy (xs := A 80) (ys := A 82) (i := i) (j := j) (n := n) (by omega) (by omega)
    have c1 := t_X11_copy (xs := xs) A I x (Int32.ofNat 1) (Int32.ofNat i) (Int32.ofNat 2) (Int32.ofNat j) (Int32.ofNat n) e1
    have c2 := t_X12_copy (xs := xs) (up (up (up (up A 78 (A 78)) 80 (A 80)) 82 (am_cpy (A 80) (A 82) i j n)) 84 (A 84)) I x (Int32.ofNat 1) (Int32.ofNat i) (Int32.ofNat 2) (Int32.ofNat j) (Int32.ofNat n) e2
    have q : v_sht (I 4928) (I 4929) (I 5056) (I 5057) (I 5184) (I 5185) (I 5312) (I 5313) (A 78) (A 80) (am_cpy (A 80) (A 82) i j n) (A 84) (A 124) (A 125) Z1 := ⟨⟨l4, l5, w2⟩, sh1_oth v0 (s := 2) (by decide) (by decide) rfl rfl (fun q hq hn => by rw [w4 q hq, if_neg (by omega)]), sh1_oth v1 (s := 2) (by decide) (by decide) rfl rfl (fun q hq hn => by rw [w4 q hq, if_neg (by omega)]), sh1_new (y1.trans o1) o2.symm o3.symm (fun d hd => sh1_cpy hd (by omega) (by omega) (y2 d) (w4 (40 * 2 + d) (by omega)) u4 o4) o5 ⟨mt, hmt, o6⟩, sh1_oth v3 (s := 2) (by decide) (by decide) rfl rfl (fun q hq hn => by rw [w4 q hq, if_neg (by omega)])⟩
    have q9 : v_scr (v_scs (up A 127 Y1)) := scr_127 hI.2.2.2.2.2.2.2.2.2.2.2.2 w3
    exact am_op.mk hx c1 (by decide) c2 (by decide) ⟨P, N, T, R, E, C, X, Z, ⟨hI.1, hI.2.1, hI.2.2.1, hI.2.2.2.1, hI.2.2.2.2.1, hI.2.2.2.2.2.1, hI.2.2.2.2.2.2.1, hI.2.2.2.2.2.2.2.1, hI.2.2.2.2.2.2.2.2.1, hI.2.2.2.2.2.2.2.2.2.1, q, hI.2.2.2.2.2.2.2.2.2.2.2.1, q9⟩⟩
  · obtain ⟨u1, u2, u3, u4, u5, ms, hms, u6⟩ := id v1
    obtain ⟨o1, o2, o3, o4, o5, mt, hmt, o6⟩ := id v3
    have M := fun (B : Nat → List Int32) h4 h5 h6 h7 s1 s2 t1 t2 => cpm_1 (B := B) (I := I) (s := 1) (t := 3) (ms := ms) (mt := mt) (so := I 5056) (to := I 5312) a2 a4 a5 (by decide) (by decide) h4 h5 h6 h7 s1 s2 u5 hms t1 t2 o5 hmt
    have s2 : Int32.ofNat ms = g (A 125) 1 := by rw [← u6]; exact u3
    have t2 : Int32.ofNat mt = g (A 125) 3 := by rw [← o6]; exact o3
    by_cases c1 : I 5056 = -1
    · refine no (-11) ?_ ((M (up (up (up (up A 78 (A 78)) 80 (A 80)) 82 (A 82)) 84 (A 84)) l4 l5 l6 h7 u2 s2 o2 t2).1 (Or.inl c1))
      rw [cpb_13]
      unfold f_X10_isMissing_79
      rw [if_pos c1]; rfl
    have m1 : f_X10_isMissing_79 A I = some 0 := by unfold f_X10_isMissing_79; rw [if_neg c1]
    by_cases c2 : I 5312 = -1
    · refine no (-11) ?_ ((M (up (up (up (up A 78 (A 78)) 80 (A 80)) 82 (A 82)) 84 (A 84)) l4 l5 l6 h7 u2 s2 o2 t2).1 (Or.inr c2))
      rw [cpb_13, m1, Option.bind_some, if_pos rfl]
      unfold f_X10_isMissing_83
      rw [if_pos c2]; rfl
    have m2 : f_X10_isMissing_83 A I = some 0 := by unfold f_X10_isMissing_83; rw [if_neg c2]
    by_cases c3 : I 5056 = I 5312
    case neg =>
      refine no (-13) ?_ ((M (up (up (up (up A 78 (A 78)) 80 (A 80)) 82 (A 82)) 84 (A 84)) l4 l5 l6 h7 u2 s2 o2 t2).2.1 c1 c2 c3)
      rw [cpb_13, m1, Option.bind_some, if_pos rfl, m2, Option.bind_some, if_pos rfl, if_neg c3]
    have k1 : f_X10_holds_79 A I a2 a5 = hld (Int32.ofNat ms) a2 a5 := by rw [← u6]; rfl
    have k2 : f_X10_holds_83 A I a4 a5 = hld (Int32.ofNat mt) a4 a5 := by rw [← o6]; rfl
    rcases hld_1 hms a2 a5 with ⟨i, n, rfl, rfl, hin, d1⟩ | ⟨d1, d2⟩
    case inr =>
      refine no (-12) ?_ ((M (up (up (up (up A 78 (A 78)) 80 (A 80)) 82 (A 82)) 84 (A 84)) l4 l5 l6 h7 u2 s2 o2 t2).2.2.1 c1 c2 c3 (Or.inl d2))
      rw [cpb_13, m1, Option.bind_some, if_pos rfl, m2, Option.bind_some, if_pos rfl, if_pos c3, k1, d1]; rfl
    rcases hld_1 hmt a4 (Int32.ofNat n) with ⟨j, n', rfl, hnn, hjn, d2⟩ | ⟨d2, d3⟩
    case inr =>
      refine no (-12) ?_ ((M (up (up (up (up A 78 (A 78)) 80 (A 80)) 82 (A 82)) 84 (A 84)) l4 l5 l6 h7 u2 s2 o2 t2).2.2.1 c1 c2 c3 (Or.inr d3))
      rw [cpb_13, m1, Option.bind_some, if_pos rfl, m2, Option.bind_some, if_pos rfl, if_pos c3, k1, d1, Option.bind_some, if_neg (show ¬ (1 : Int32) = 0 by decide), k2, d2]; rfl
    have hnn : n = n' := (i_eq (by omega) (by omega)).mp hnn
    subst hnn
    have ha : am_acq (A 80) (A 84) (Int32.ofNat i) (Int32.ofNat j) (Int32.ofNat n) = some (am_cpy (A 80) (A 84) i j n) := by
      unfold am_acq
      rw [i_tn (by omega), i_tn (by omega), i_tn (by omega), if_neg]
      rintro (z | z | z | z | z)
      · exact i_nn (by omega) z
      · exact i_nn (by omega) z
      · exact i_nn (by omega) z
      · omega
      · omega
    have e1 : f_X11_copy A I (Int32.ofNat 1) (Int32.ofNat i) (Int32.ofNat 3) (Int32.ofNat j) (Int32.ofNat n) = some (Int32.ofNat n, (A 78), (A 80), (A 82), (am_cpy (A 80) (A 84) i j n)) := by
      rw [cpb_13, m1, Option.bind_some, if_pos rfl, m2, Option.bind_some, if_pos rfl, if_pos c3, k1, d1, Option.bind_some, if_neg (show ¬ (1 : Int32) = 0 by decide), k2, d2, Option.bind_some, if_neg (show ¬ (1 : Int32) = 0 by decide), ha]; rfl
    obtain ⟨Z1, Y1, e2, w2, w3, w4⟩ := (M (up (up (up (up A 78 (A 78)) 80 (A 80)) 82 (A 82)) 84 (am_cpy (A 80) (A 84) i j n)) l4 l5 l6 h7 u2 s2 o2 t2).2.2.2 c1 c2 c3 i j n rfl rfl rfl hin hjn
    have w4 : ∀ q, q < 160 → g Z1 q = if 40 * 3 + j ≤ q ∧ q < 40 * 3 + j + n then g (A 126) (40 * 1 + i + (q - (40 * 3 + j))) else g (A 126) q := w4
    obtain ⟨y1, y2⟩ := g_cpy (xs := A 80) (ys := A 84) (i := i) (j := j) (n := n) (by omega) (by omega)
    have c1 := t_X11_copy (xs := xs) A I x (Int32.ofNat 1) (Int32.ofNat i) (Int32.ofNat 3) (Int32.ofNat j) (Int32.ofNat n) e1
    have c2 := t_X12_copy (xs := xs) (up (up (up (up A 78 (A 78)) 80 (A 80)) 82 (A 82)) 84 (am_cpy (A 80) (A 84) i j n)) I x (Int32.ofNat 1) (Int32.ofNat i) (Int32.ofNat 3) (Int32.ofNat j) (Int32.ofNat n) e2
    have q : v_sht (I 4928) (I 4929) (I 5056) (I 5057) (I 5184) (I 5185) (I 5312) (I 5313) (A 78) (A 80) (A 82) (am_cpy (A 80) (A 84) i j n) (A 124) (A 125) Z1 := ⟨⟨l4, l5, w2⟩, sh1_oth v0 (s := 3) (by decide) (by decide) rfl rfl (fun q hq hn => by rw [w4 q hq, if_neg (by omega)]), sh1_oth v1 (s := 3) (by decide) (by decide) rfl rfl (fun q hq hn => by rw [w4 q hq, if_neg (by omega)]), sh1_oth v2 (s := 3) (by decide) (by decide) rfl rfl (fun q hq hn => by rw [w4 q hq, if_neg (by omega)]), sh1_new (y1.trans o1) o2.symm o3.symm (fun d hd => sh1_cpy hd (by omega) (by omega) (y2 d) (w4 (40 * 3 + d) (by omega)) u4 o4) o5 ⟨mt, hmt, o6⟩⟩
    have q9 : v_scr (v_scs (up A 127 Y1)) := scr_127 hI.2.2.2.2.2.2.2.2.2.2.2.2 w3
    exact am_op.mk hx c1 (by decide) c2 (by decide) ⟨P, N, T, R, E, C, X, Z, ⟨hI.1, hI.2.1, hI.2.2.1, hI.2.2.2.1, hI.2.2.2.2.1, hI.2.2.2.2.2.1, hI.2.2.2.2.2.2.1, hI.2.2.2.2.2.2.2.1, hI.2.2.2.2.2.2.2.2.1, hI.2.2.2.2.2.2.2.2.2.1, q, hI.2.2.2.2.2.2.2.2.2.2.2.1, q9⟩⟩
  · obtain ⟨u1, u2, u3, u4, u5, ms, hms, u6⟩ := id v2
    obtain ⟨o1, o2, o3, o4, o5, mt, hmt, o6⟩ := id v0
    have M := fun (B : Nat → List Int32) h4 h5 h6 h7 s1 s2 t1 t2 => cpm_1 (B := B) (I := I) (s := 2) (t := 0) (ms := ms) (mt := mt) (so := I 5184) (to := I 4928) a2 a4 a5 (by decide) (by decide) h4 h5 h6 h7 s1 s2 u5 hms t1 t2 o5 hmt
    have s2 : Int32.ofNat ms = g (A 125) 2 := by rw [← u6]; exact u3
    have t2 : Int32.ofNat mt = g (A 125) 0 := by rw [← o6]; exact o3
    by_cases c1 : I 5184 = -1
    · refine no (-11) ?_ ((M (up (up (up (up A 78 (A 78)) 80 (A 80)) 82 (A 82)) 84 (A 84)) l4 l5 l6 h7 u2 s2 o2 t2).1 (Or.inl c1))
      rw [cpb_20]
      unfold f_X10_isMissing_81
      rw [if_pos c1]; rfl
    have m1 : f_X10_isMissing_81 A I = some 0 := by unfold f_X10_isMissing_81; rw [if_neg c1]
    by_cases c2 : I 4928 = -1
    · refine no (-11) ?_ ((M (up (up (up (up A 78 (A 78)) 80 (A 80)) 82 (A 82)) 84 (A 84)) l4 l5 l6 h7 u2 s2 o2 t2).1 (Or.inr c2))
      rw [cpb_20, m1, Option.bind_some, if_pos rfl]
      unfold f_X10_isMissing_77
      rw [if_pos c2]; rfl
    have m2 : f_X10_isMissing_77 A I = some 0 := by unfold f_X10_isMissing_77; rw [if_neg c2]
    by_cases c3 : I 5184 = I 4928
    case neg =>
      refine no (-13) ?_ ((M (up (up (up (up A 78 (A 78)) 80 (A 80)) 82 (A 82)) 84 (A 84)) l4 l5 l6 h7 u2 s2 o2 t2).2.1 c1 c2 c3)
      rw [cpb_20, m1, Option.bind_some, if_pos rfl, m2, Option.bind_some, if_pos rfl, if_neg c3]
    have k1 : f_X10_holds_81 A I a2 a5 = hld (Int32.ofNat ms) a2 a5 := by rw [← u6]; rfl
    have k2 : f_X10_holds_77 A I a4 a5 = hld (Int32.ofNat mt) a4 a5 := by rw [← o6]; rfl
    rcases hld_1 hms a2 a5 with ⟨i, n, rfl, rfl, hin, d1⟩ | ⟨d1, d2⟩
    case inr =>
      refine no (-12) ?_ ((M (up (up (up (up A 78 (A 78)) 80 (A 80)) 82 (A 82)) 84 (A 84)) l4 l5 l6 h7 u2 s2 o2 t2).2.2.1 c1 c2 c3 (Or.inl d2))
      rw [cpb_20, m1, Option.bind_some, if_pos rfl, m2, Option.bind_some, if_pos rfl, if_pos c3, k1, d1]; rfl
    rcases hld_1 hmt a4 (Int32.ofNat n) with ⟨j, n', rfl, hnn, hjn, d2⟩ | ⟨d2, d3⟩
    case inr =>
      refine no (-12) ?_ ((M (up (up (up (up A 78 (A 78)) 80 (A 80)) 82 (A 82)) 84 (A 84)) l4 l5 l6 h7 u2 s2 o2 t2).2.2.1 c1 c2 c3 (Or.inr d3))
      rw [cpb_20, m1, Option.bind_some, if_pos rfl, m2, Option.bind_some, if_pos rfl, if_pos c3, k1, d1, Option.bind_some, if_neg (show ¬ (1 : Int32) = 0 by decide), k2, d2]; rfl
    have hnn : n = n' := (i_eq (by omega) (by omega)).mp hnn
    subst hnn
    have ha : am_acq (A 82) (A 78) (Int32.ofNat i) (Int32.ofNat j) (Int32.ofNat n) = some (am_cpy (A 82) (A 78) i j n) := by
      unfold am_acq
      rw [i_tn (by omega), i_tn (by omega), i_tn (by omega), if_neg]
      rintro (z | z | z | z | z)
      · exact i_nn (by omega) z
      · exact i_nn (by omega) z
      · exact i_nn (by omega) z
      · omega
      · omega
    have e1 : f_X11_copy A I (Int32.ofNat 2) (Int32.ofNat i) (Int32.ofNat 0) (Int32.ofNat j) (Int32.ofNat n) = some (Int32.ofNat n, (am_cpy (A 82) (A 78) i j n), (A 80), (A 82), (A 84)) := by
      rw [cpb_20, m1, Option.bind_some, if_pos rfl, m2, Option.bind_some, if_pos rfl, if_pos c3, k1, d1, Option.bind_some, if_neg (show ¬ (1 : Int32) = 0 by decide), k2, d2, Option.bind_some, if_neg (show ¬ (1 : Int32) = 0 by decide), ha]; rfl
    obtain ⟨Z1, Y1, e2, w2, w3, w4⟩ := (M (up (up (up (up A 78 (am_cpy (A 82) (A 78) i j n)) 80 (A 80)) 82 (A 82)) 84 (A 84)) l4 l5 l6 h7 u2 s2 o2 t2).2.2.2 c1 c2 c3 i j n rfl rfl rfl hin hjn
    have w4 : ∀ q, q < 160 → g Z1 q = if 40 * 0 + j ≤ q ∧ q < 40 * 0 + j + n then g (A 126) (40 * 2 + i + (q - (40 * 0 + j))) else g (A 126) q := w4
    obtain ⟨y1, y2⟩ := g_cpy (xs := A 82) (ys := A 78) (i := i) (j := j) (n := n) (by omega) (by omega)
    have c1 := t_X11_copy (xs := xs) A I x (Int32.ofNat 2) (Int32.ofNat i) (Int32.ofNat 0) (Int32.ofNat j) (Int32.ofNat n) e1
    have c2 := t_X12_copy (xs := xs) (up (up (up (up A 78 (am_cpy (A 82) (A 78) i j n)) 80 (A 80)) 82 (A 82)) 84 (A 84)) I x (Int32.ofNat 2) (Int32.ofNat i) (Int32.ofNat 0) (Int32.ofNat j) (Int32.ofNat n) e2
    have q : v_sht (I 4928) (I 4929) (I 5056) (I 5057) (I 5184) (I 5185) (I 5312) (I 5313) (am_cpy (A 82) (A 78) i j n) (A 80) (A 82) (A 84) (A 124) (A 125) Z1 := ⟨⟨l4, l5, w2⟩, sh1_new (y1.trans o1) o2.symm o3.symm (fun d hd => sh1_cpy hd (by omega) (by omega) (y2 d) (w4 (40 * 0 + d) (by omega)) u4 o4) o5 ⟨mt, hmt, o6⟩, sh1_oth v1 (s := 0) (by decide) (by decide) rfl rfl (fun q hq hn => by rw [w4 q hq, if_neg (by omega)]), sh1_oth v2 (s := 0) (by decide) (by decide) rfl rfl (fun q hq hn => by rw [w4 q hq, if_neg (by omega)]), sh1_oth v3 (s := 0) (by decide) (by decide) rfl rfl (fun q hq hn => by rw [w4 q hq, if_neg (by omega)])⟩
    have q9 : v_scr (v_scs (up A 127 Y1)) := scr_127 hI.2.2.2.2.2.2.2.2.2.2.2.2 w3
    exact am_op.mk hx c1 (by decide) c2 (by decide) ⟨P, N, T, R, E, C, X, Z, ⟨hI.1, hI.2.1, hI.2.2.1, hI.2.2.2.1, hI.2.2.2.2.1, hI.2.2.2.2.2.1, hI.2.2.2.2.2.2.1, hI.2.2.2.2.2.2.2.1, hI.2.2.2.2.2.2.2.2.1, hI.2.2.2.2.2.2.2.2.2.1, q, hI.2.2.2.2.2.2.2.2.2.2.2.1, q9⟩⟩
  · obtain ⟨u1, u2, u3, u4, u5, ms, hms, u6⟩ := id v2
    obtain ⟨o1, o2, o3, o4, o5, mt, hmt, o6⟩ := id v1
    have M := fun (B : Nat → List Int32) h4 h5 h6 h7 s1 s2 t1 t2 => cpm_1 (B := B) (I := I) (s := 2) (t := 1) (ms := ms) (mt := mt) (so := I 5184) (to := I 5056) a2 a4 a5 (by decide) (by decide) h4 h5 h6 h7 s1 s2 u5 hms t1 t2 o5 hmt
    have s2 : Int32.ofNat ms = g (A 125) 2 := by rw [← u6]; exact u3
    have t2 : Int32.ofNat mt = g (A 125) 1 := by rw [← o6]; exact o3
    by_cases c1 : I 5184 = -1
    · refine no (-11) ?_ ((M (up (up (up (up A 78 (A 78)) 80 (A 80)) 82 (A 82)) 84 (A 84)) l4 l5 l6 h7 u2 s2 o2 t2).1 (Or.inl c1))
      rw [cpb_21]
      unfold f_X10_isMissing_81
      rw [if_pos c1]; rfl
    have m1 : f_X10_isMissing_81 A I = some 0 := by unfold f_X10_isMissing_81; rw [if_neg c1]
    by_cases c2 : I 5056 = -1
    · refine no (-11) ?_ ((M (up (up (up (up A 78 (A 78)) 80 (A 80)) 82 (A 82)) 84 (A 84)) l4 l5 l6 h7 u2 s2 o2 t2).1 (Or.inr c2))
      rw [cpb_21, m1, Option.bind_some, if_pos rfl]
      unfold f_X10_isMissing_79
      rw [if_pos c2]; rfl
    have m2 : f_X10_isMissing_79 A I = some 0 := by unfold f_X10_isMissing_79; rw [if_neg c2]
    by_cases c3 : I 5184 = I 5056
    case neg =>
      refine no (-13) ?_ ((M (up (up (up (up A 78 (A 78)) 80 (A 80)) 82 (A 82)) 84 (A 84)) l4 l5 l6 h7 u2 s2 o2 t2).2.1 c1 c2 c3)
      rw [cpb_21, m1, Option.bind_some, if_pos rfl, m2, Option.bind_some, if_pos rfl, if_neg c3]
    have k1 : f_X10_holds_81 A I a2 a5 = hld (Int32.ofNat ms) a2 a5 := by rw [← u6]; rfl
    have k2 : f_X10_holds_79 A I a4 a5 = hld (Int32.ofNat mt) a4 a5 := by rw [← o6]; rfl
    rcases hld_1 hms a2 a5 with ⟨i, n, rfl, rfl, hin, d1⟩ | ⟨d1, d2⟩
    case inr =>
      refine no (-12) ?_ ((M (up (up (up (up A 78 (A 78)) 80 (A 80)) 82 (A 82)) 84 (A 84)) l4 l5 l6 h7 u2 s2 o2 t2).2.2.1 c1 c2 c3 (Or.inl d2))
      rw [cpb_21, m1, Option.bind_some, if_pos rfl, m2, Option.bind_some, if_pos rfl, if_pos c3, k1, d1]; rfl
    rcases hld_1 hmt a4 (Int32.ofNat n) with ⟨j, n', rfl, hnn, hjn, d2⟩ | ⟨d2, d3⟩
    case inr =>
      refine no (-12) ?_ ((M (up (up (up (up A 78 (A 78)) 80 (A 80)) 82 (A 82)) 84 (A 84)) l4 l5 l6 h7 u2 s2 o2 t2).2.2.1 c1 c2 c3 (Or.inr d3))
      rw [cpb_21, m1, Option.bind_some, if_pos rfl, m2, Option.bind_some, if_pos rfl, if_pos c3, k1, d1, Option.bind_some, if_neg (show ¬ (1 : Int32) = 0 by decide), k2, d2]; rfl
    have hnn : n = n' := (i_eq (by omega) (by omega)).mp hnn
    subst hnn
    have ha : am_acq (A 82) (A 80) (Int32.ofNat i) (Int32.ofNat j) (Int32.ofNat n) = some (am_cpy (A 82) (A 80) i j n) := by
      unfold am_acq
      rw [i_tn (by omega), i_tn (by omega), i_tn (by omega), if_neg]
      rintro (z | z | z | z | z)
      · exact i_nn (by omega) z
      · exact i_nn (by omega) z
      · exact i_nn (by omega) z
      · omega
      · omega
    have e1 : f_X11_copy A I (Int32.ofNat 2) (Int32.ofNat i) (Int32.ofNat 1) (Int32.ofNat j) (Int32.ofNat n) = some (Int32.ofNat n, (A 78), (am_cpy (A 82) (A 80) i j n), (A 82), (A 84)) := by
      rw [cpb_21, m1, Option.bind_some, if_pos rfl, m2, Option.bind_some, if_pos rfl, if_pos c3, k1, d1, Option.bind_some, if_neg (show ¬ (1 : Int32) = 0 by decide), k2, d2, Option.bind_some, if_neg (show ¬ (1 : Int32) = 0 by decide), ha]; rfl
    obtain ⟨Z1, Y1, e2, w2, w3, w4⟩ := (M (up (up (up (up A 78 (A 78)) 80 (am_cpy (A 82) (A 80) i j n)) 82 (A 82)) 84 (A 84)) l4 l5 l6 h7 u2 s2 o2 t2).2.2.2 c1 c2 c3 i j n rfl rfl rfl hin hjn
    have w4 : ∀ q, q < 160 → g Z1 q = if 40 * 1 + j ≤ q ∧ q < 40 * 1 + j + n then g (A 126) (40 * 2 + i + (q - (40 * 1 + j))) else g (A 126) q := w4
    obtain ⟨y1, y2⟩ := g_cpy (xs := A 82) (ys := A 80) (i := i) (j := j) (n := n) (by omega) (by omega)
    have c1 := t_X11_copy (xs := xs) A I x (Int32.ofNat 2) (Int32.ofNat i) (Int32.ofNat 1) (Int32.ofNat j) (Int32.ofNat n) e1
    have c2 := t_X12_copy (xs := xs) (up (up (up (up A 78 (A 78)) 80 (am_cpy (A 82) (A 80) i j n)) 82 (A 82)) 84 (A 84)) I x (Int32.ofNat 2) (Int32.ofNat i) (Int32.ofNat 1) (Int32.ofNat j) (Int32.ofNat n) e2
    have q : v_sht (I 4928) (I 4929) (I 5056) (I 5057) (I 5184) (I 5185) (I 5312) (I 5313) (A 78) (am_cpy (A 82) (A 80) i j n) (A 82) (A 84) (A 124) (A 125) Z1 := ⟨⟨l4, l5, w2⟩, sh1_oth v0 (s := 1) (by decide) (by decide) rfl rfl (fun q hq hn => by rw [w4 q hq, if_neg (by omega)]), sh1_new (y1.trans o1) o2.symm o3.symm (fun d hd => sh1_cpy hd (by omega) (by omega) (y2 d) (w4 (40 * 1 + d) (by omega)) u4 o4) o5 ⟨mt, hmt, o6⟩, sh1_oth v2 (s := 1) (by decide) (by decide) rfl rfl (fun q hq hn => by rw [w4 q hq, if_neg (by omega)]), sh1_oth v3 (s := 1) (by decide) (by decide) rfl rfl (fun q hq hn => by rw [w4 q hq, if_neg (by omega)])⟩
    have q9 : v_scr (v_scs (up A 127 Y1)) := scr_127 hI.2.2.2.2.2.2.2.2.2.2.2.2 w3
    exact am_op.mk hx c1 (by decide) c2 (by decide) ⟨P, N, T, R, E, C, X, Z, ⟨hI.1, hI.2.1, hI.2.2.1, hI.2.2.2.1, hI.2.2.2.2.1, hI.2.2.2.2.2.1, hI.2.2.2.2.2.2.1, hI.2.2.2.2.2.2.2.1, hI.2.2.2.2.2.2.2.2.1, hI.2.2.2.2.2.2.2.2.2.1, q, hI.2.2.2.2.2.2.2.2.2.2.2.1, q9⟩⟩
  · obtain ⟨u1, u2, u3, u4, u5, ms, hms, u6⟩ := id v2
    obtain ⟨o1, o2, o3, o4, o5, mt, hmt, o6⟩ := id v2
    have M := fun (B : Nat → List Int32) h4 h5 h6 h7 s1 s2 t1 t2 => cpm_1 (B := B) (I := I) (s := 2) (t := 2) (ms := ms) (mt := mt) (so := I 5184) (to := I 5184) a2 a4 a5 (by decide) (by decide) h4 h5 h6 h7 s1 s2 u5 hms t1 t2 o5 hmt
    have s2 : Int32.ofNat ms = g (A 125) 2 := by rw [← u6]; exact u3
    have t2 : Int32.ofNat mt = g (A 125) 2 := by rw [← o6]; exact o3
    by_cases c1 : I 5184 = -1
    · refine no (-11) ?_ ((M (up (up (up (up A 78 (A 78)) 80 (A 80)) 82 (A 82)) 84 (A 84)) l4 l5 l6 h7 u2 s2 o2 t2).1 (Or.inl c1))
      rw [cpb_22]
      unfold f_X10_isMissing_81
      rw [if_pos c1]; rfl
    have m1 : f_X10_isMissing_81 A I = some 0 := by unfold f_X10_isMissing_81; rw [if_neg c1]
    by_cases c2 : I 5184 = -1
    · refine no (-11) ?_ ((M (up (up (up (up A 78 (A 78)) 80 (A 80)) 82 (A 82)) 84 (A 84)) l4 l5 l6 h7 u2 s2 o2 t2).1 (Or.inr c2))
      exact absurd c2 c1
    have m2 : f_X10_isMissing_81 A I = some 0 := by unfold f_X10_isMissing_81; rw [if_neg c2]
    by_cases c3 : I 5184 = I 5184
    case neg =>
      refine no (-13) ?_ ((M (up (up (up (up A 78 (A 78)) 80 (A 80)) 82 (A 82)) 84 (A 84)) l4 l5 l6 h7 u2 s2 o2 t2).2.1 c1 c2 c3)
      exact absurd rfl c3
    have k1 : f_X10_holds_81 A I a2 a5 = hld (Int32.ofNat ms) a2 a5 := by rw [← u6]; rfl
    have k2 : f_X10_holds_81 A I a4 a5 = hld (Int32.ofNat mt) a4 a5 := by rw [← o6]; rfl
    rcases hld_1 hms a2 a5 with ⟨i, n, rfl, rfl, hin, d1⟩ | ⟨d1, d2⟩
    case inr =>
      refine no (-12) ?_ ((M (up (up (up (up A 78 (A 78)) 80 (A 80)) 82 (A 82)) 84 (A 84)) l4 l5 l6 h7 u2 s2 o2 t2).2.2.1 c1 c2 c3 (Or.inl d2))
      rw [cpb_22, m1, Option.bind_some, if_pos rfl, Option.bind_some, if_pos rfl, if_pos c3, k1, d1]; rfl
    rcases hld_1 hmt a4 (Int32.ofNat n) with ⟨j, n', rfl, hnn, hjn, d2⟩ | ⟨d2, d3⟩
    case inr =>
      refine no (-12) ?_ ((M (up (up (up (up A 78 (A 78)) 80 (A 80)) 82 (A 82)) 84 (A 84)) l4 l5 l6 h7 u2 s2 o2 t2).2.2.1 c1 c2 c3 (Or.inr d3))
      rw [cpb_22, m1, Option.bind_some, if_pos rfl, Option.bind_some, if_pos rfl, if_pos c3, k1, d1, Option.bind_some, if_neg (show ¬ (1 : Int32) = 0 by decide), k2, d2]; rfl
    have hnn : n = n' := (i_eq (by omega) (by omega)).mp hnn
    subst hnn
    have ha : am_acq (A 82) (A 82) (Int32.ofNat i) (Int32.ofNat j) (Int32.ofNat n) = some (am_cpy (A 82) (A 82) i j n) := by
      unfold am_acq
      rw [i_tn (by omega), i_tn (by omega), i_tn (by omega), if_neg]
      rintro (z | z | z | z | z)
      · exact i_nn (by omega) z
      · exact i_nn (by omega) z
      · exact i_nn (by omega) z
      · omega
      · omega
    have e1 : f_X11_copy A I (Int32.ofNat 2) (Int32.ofNat i) (Int32.ofNat 2) (Int32.ofNat j) (Int32.ofNat n) = some (Int32.ofNat n, (A 78), (A 80), (am_cpy (A 82) (A 82) i j n), (A 84)) := by
      rw [cpb_22, m1, Option.bind_some, if_pos rfl, Option.bind_some, if_pos rfl, if_pos c3, k1, d1, Option.bind_some, if_neg (show ¬ (1 : Int32) = 0 by decide), k2, d2, Option.bind_some, if_neg (show ¬ (1 : Int32) = 0 by decide), ha]; rfl
    obtain ⟨Z1, Y1, e2, w2, w3, w4⟩ := (M (up (up (up (up A 78 (A 78)) 80 (A 80)) 82 (am_cpy (A 82) (A 82) i j n)) 84 (A 84)) l4 l5 l6 h7 u2 s2 o2 t2).2.2.2 c1 c2 c3 i j n rfl rfl rfl hin hjn
    have w4 : ∀ q, q < 160 → g Z1 q = if 40 * 2 + j ≤ q ∧ q < 40 * 2 + j + n then g (A 126) (40 * 2 + i + (q - (40 * 2 + j))) else g (A 126) q := w4
    obtain ⟨y1, y2⟩ := g_cpy (xs := A 82) (ys := A 82) (i := i) (j := j) (n := n) (by omega) (by omega)
    have c1 := t_X11_copy (xs := xs) A I x (Int32.ofNat 2) (Int32.ofNat i) (Int32.ofNat 2) (Int32.ofNat j) (Int32.ofNat n) e1
    have c2 := t_X12_copy (xs := xs) (up (up (up (up A 78 (A 78)) 80 (A 80)) 82 (am_cpy (A 82) (A 82) i j n)) 84 (A 84)) I x (Int32.ofNat 2) (Int32.ofNat i) (Int32.ofNat 2) (Int32.ofNat j) (Int32.ofNat n) e2
    have q : v_sht (I 4928) (I 4929) (I 5056) (I 5057) (I 5184) (I 5185) (I 5312) (I 5313) (A 78) (A 80) (am_cpy (A 82) (A 82) i j n) (A 84) (A 124) (A 125) Z1 := ⟨⟨l4, l5, w2⟩, sh1_oth v0 (s := 2) (by decide) (by decide) rfl rfl (fun q hq hn => by rw [w4 q hq, if_neg (by omega)]), sh1_oth v1 (s := 2) (by decide) (by decide) rfl rfl (fun q hq hn => by rw [w4 q hq, if_neg (by omega)]), sh1_new (y1.trans o1) o2.symm o3.symm (fun d hd => sh1_cpy hd (by omega) (by omega) (y2 d) (w4 (40 * 2 + d) (by omega)) u4 o4) o5 ⟨mt, hmt, o6⟩, sh1_oth v3 (s := 2) (by decide) (by decide) rfl rfl (fun q hq hn => by rw [w4 q hq, if_neg (by omega)])⟩
    have q9 : v_scr (v_scs (up A 127 Y1)) := scr_127 hI.2.2.2.2.2.2.2.2.2.2.2.2 w3
    exact am_op.mk hx c1 (by decide) c2 (by decide) ⟨P, N, T, R, E, C, X, Z, ⟨hI.1, hI.2.1, hI.2.2.1, hI.2.2.2.1, hI.2.2.2.2.1, hI.2.2.2.2.2.1, hI.2.2.2.2.2.2.1, hI.2.2.2.2.2.2.2.1, hI.2.2.2.2.2.2.2.2.1, hI.2.2.2.2.2.2.2.2.2.1, q, hI.2.2.2.2.2.2.2.2.2.2.2.1, q9⟩⟩
  · obtain ⟨u1, u2, u3, u4, u5, ms, hms, u6⟩ := id v2
    obtain ⟨o1, o2, o3, o4, o5, mt, hmt, o6⟩ := id v3
    have M := fun (B : Nat → List Int32) h4 h5 h6 h7 s1 s2 t1 t2 => cpm_1 (B := B) (I := I) (s := 2) (t := 3) (ms := ms) (mt := mt) (so := I 5184) (to := I 5312) a2 a4 a5 (by decide) (by decide) h4 h5 h6 h7 s1 s2 u5 hms t1 t2 o5 hmt
    have s2 : Int32.ofNat ms = g (A 125) 2 := by rw [← u6]; exact u3
    have t2 : Int32.ofNat mt = g (A 125) 3 := by rw [← o6]; exact o3
    by_cases c1 : I 5184 = -1
    · refine no (-11) ?_ ((M (up (up (up (up A 78 (A 78)) 80 (A 80)) 82 (A 82)) 84 (A 84)) l4 l5 l6 h7 u2 s2 o2 t2).1 (Or.inl c1))
      rw [cpb_23]
      unfold f_X10_isMissing_81
      rw [if_pos c1]; rfl
    have m1 : f_X10_isMissing_81 A I = some 0 := by unfold f_X10_isMissing_81; rw [if_neg c1]
    by_cases c2 : I 5312 = -1
    · refine no (-11) ?_ ((M (up (up (up (up A 78 (A 78)) 80 (A 80)) 82 (A 82)) 84 (A 84)) l4 l5 l6 h7 u2 s2 o2 t2).1 (Or.inr c2))
      rw [cpb_23, m1, Option.bind_some, if_pos rfl]
      unfold f_X10_isMissing_83
      rw [if_pos c2]; rfl
    have m2 : f_X10_isMissing_83 A I = some 0 := by unfold f_X10_isMissing_83; rw [if_neg c2]
    by_cases c3 : I 5184 = I 5312
    case neg =>
      refine no (-13) ?_ ((M (up (up (up (up A 78 (A 78)) 80 (A 80)) 82 (A 82)) 84 (A 84)) l4 l5 l6 h7 u2 s2 o2 t2).2.1 c1 c2 c3)
      rw [cpb_23, m1, Option.bind_some, if_pos rfl, m2, Option.bind_some, if_pos rfl, if_neg c3]
    have k1 : f_X10_holds_81 A I a2 a5 = hld (Int32.ofNat ms) a2 a5 := by rw [← u6]; rfl
    have k2 : f_X10_holds_83 A I a4 a5 = hld (Int32.ofNat mt) a4 a5 := by rw [← o6]; rfl
    rcases hld_1 hms a2 a5 with ⟨i, n, rfl, rfl, hin, d1⟩ | ⟨d1, d2⟩
    case inr =>
      refine no (-12) ?_ ((M (up (up (up (up A 78 (A 78)) 80 (A 80)) 82 (A 82)) 84 (A 84)) l4 l5 l6 h7 u2 s2 o2 t2).2.2.1 c1 c2 c3 (Or.inl d2))
      rw [cpb_23, m1, Option.bind_some, if_pos rfl, m2, Option.bind_some, if_pos rfl, if_pos c3, k1, d1]; rfl
    rcases hld_1 hmt a4 (Int32.ofNat n) with ⟨j, n', rfl, hnn, hjn, d2⟩ | ⟨d2, d3⟩
    case inr =>
      refine no (-12) ?_ ((M (up (up (up (up A 78 (A 78)) 80 (A 80)) 82 (A 82)) 84 (A 84)) l4 l5 l6 h7 u2 s2 o2 t2).2.2.1 c1 c2 c3 (Or.inr d3))
      rw [cpb_23, m1, Option.bind_some, if_pos rfl, m2, Option.bind_some, if_pos rfl, if_pos c3, k1, d1, Option.bind_some, if_neg (show ¬ (1 : Int32) = 0 by decide), k2, d2]; rfl
    have hnn : n = n' := (i_eq (by omega) (by omega)).mp hnn
    subst hnn
    have ha : am_acq (A 82) (A 84) (Int32.ofNat i) (Int32.ofNat j) (Int32.ofNat n) = some (am_cpy (A 82) (A 84) i j n) := by
      unfold am_acq
      rw [i_tn (by omega), i_tn (by omega), i_tn (by omega), if_neg]
      rintro (z | z | z | z | z)
      · exact i_nn (by omega) z
      · exact i_nn (by omega) z
      · exact i_nn (by omega) z
      · omega
      · omega
    have e1 : f_X11_copy A I (Int32.ofNat 2) (Int32.ofNat i) (Int32.ofNat 3) (Int32.ofNat j) (Int32.ofNat n) = some (Int32.ofNat n, (A 78), (A 80), (A 82), (am_cpy (A 82) (A 84) i j n)) := by
      rw [cpb_23, m1, Option.bind_some, if_pos rfl, m2, Option.bind_some, if_pos rfl, if_pos c3, k1, d1, Option.bind_some, if_neg (show ¬ (1 : Int32) = 0 by decide), k2, d2, Option.bind_some, if_neg (show ¬ (1 : Int32) = 0 by decide), ha]; rfl
    obtain ⟨Z1, Y1, e2, w2, w3, w4⟩ := (M (up (up (up (up A 78 (A 78)) 80 (A 80)) 82 (A 82)) 84 (am_cpy (A 82) (A 84) i j n)) l4 l5 l6 h7 u2 s2 o2 t2).2.2.2 c1 c2 c3 i j n rfl rfl rfl hin hjn
    have w4 : ∀ q, q < 160 → g Z1 q = if 40 * 3 + j ≤ q ∧ q < 40 * 3 + j + n then g (A 126) (40 * 2 + i + (q - (40 * 3 + j))) else g (A 126) q := w4
    obtain ⟨y1, y2⟩ := g_cpy (xs := A 82) (ys := A 84) (i := i) (j := j) (n := n) (by omega) (by omega)
    have c1 := t_X11_copy (xs := xs) A I x (Int32.ofNat 2) (Int32.ofNat i) (Int32.ofNat 3) (Int32.ofNat j) (Int32.ofNat n) e1
    have c2 := t_X12_copy (xs := xs) (up (up (up (up A 78 (A 78)) 80 (A 80)) 82 (A 82)) 84 (am_cpy (A 82) (A 84) i j n)) I x (Int32.ofNat 2) (Int32.ofNat i) (Int32.ofNat 3) (Int32.ofNat j) (Int32.ofNat n) e2
    have q : v_sht (I 4928) (I 4929) (I 5056) (I 5057) (I 5184) (I 5185) (I 5312) (I 5313) (A 78) (A 80) (A 82) (am_cpy (A 82) (A 84) i j n) (A 124) (A 125) Z1 := ⟨⟨l4, l5, w2⟩, sh1_oth v0 (s := 3) (by decide) (by decide) rfl rfl (fun q hq hn => by rw [w4 q hq, if_neg (by omega)]), sh1_oth v1 (s := 3) (by decide) (by decide) rfl rfl (fun q hq hn => by rw [w4 q hq, if_neg (by omega)]), sh1_oth v2 (s := 3) (by decide) (by decide) rfl rfl (fun q hq hn => by rw [w4 q hq, if_neg (by omega)]), sh1_new (y1.trans o1) o2.symm o3.symm (fun d hd => sh1_cpy hd (by omega) (by omega) (y2 d) (w4 (40 * 3 + d) (by omega)) u4 o4) o5 ⟨mt, hmt, o6⟩⟩
    have q9 : v_scr (v_scs (up A 127 Y1)) := scr_127 hI.2.2.2.2.2.2.2.2.2.2.2.2 w3
    exact am_op.mk hx c1 (by decide) c2 (by decide) ⟨P, N, T, R, E, C, X, Z, ⟨hI.1, hI.2.1, hI.2.2.1, hI.2.2.2.1, hI.2.2.2.2.1, hI.2.2.2.2.2.1, hI.2.2.2.2.2.2.1, hI.2.2.2.2.2.2.2.1, hI.2.2.2.2.2.2.2.2.1, hI.2.2.2.2.2.2.2.2.2.1, q, hI.2.2.2.2.2.2.2.2.2.2.2.1, q9⟩⟩
  · obtain ⟨u1, u2, u3, u4, u5, ms, hms, u6⟩ := id v3
    obtain ⟨o1, o2, o3, o4, o5, mt, hmt, o6⟩ := id v0
    have M := fun (B : Nat → List Int32) h4 h5 h6 h7 s1 s2 t1 t2 => cpm_1 (B := B) (I := I) (s := 3) (t := 0) (ms := ms) (mt := mt) (so := I 5312) (to := I 4928) a2 a4 a5 (by decide) (by decide) h4 h5 h6 h7 s1 s2 u5 hms t1 t2 o5 hmt
    have s2 : Int32.ofNat ms = g (A 125) 3 := by rw [← u6]; exact u3
    have t2 : Int32.ofNat mt = g (A 125) 0 := by rw [← o6]; exact o3
    by_cases c1 : I 5312 = -1
    · refine no (-11) ?_ ((M (up (up (up (up A 78 (A 78)) 80 (A 80)) 82 (A 82)) 84 (A 84)) l4 l5 l6 h7 u2 s2 o2 t2).1 (Or.inl c1))
      rw [cpb_30]
      unfold f_X10_isMissing_83
      rw [if_pos c1]; rfl
    have m1 : f_X10_isMissing_83 A I = some 0 := by unfold f_X10_isMissing_83; rw [if_neg c1]
    by_cases c2 : I 4928 = -1
    · refine no (-11) ?_ ((M (up (up (up (up A 78 (A 78)) 80 (A 80)) 82 (A 82)) 84 (A 84)) l4 l5 l6 h7 u2 s2 o2 t2).1 (Or.inr c2))
      rw [cpb_30, m1, Option.bind_some, if_pos rfl]
      unfold f_X10_isMissing_77
      rw [if_pos c2]; rfl
    have m2 : f_X10_isMissing_77 A I = some 0 := by unfold f_X10_isMissing_77; rw [if_neg c2]
    by_cases c3 : I 5312 = I 4928
    case neg =>
      refine no (-13) ?_ ((M (up (up (up (up A 78 (A 78)) 80 (A 80)) 82 (A 82)) 84 (A 84)) l4 l5 l6 h7 u2 s2 o2 t2).2.1 c1 c2 c3)
      rw [cpb_30, m1, Option.bind_some, if_pos rfl, m2, Option.bind_some, if_pos rfl, if_neg c3]
    have k1 : f_X10_holds_83 A I a2 a5 = hld (Int32.ofNat ms) a2 a5 := by rw [← u6]; rfl
    have k2 : f_X10_holds_77 A I a4 a5 = hld (Int32.ofNat mt) a4 a5 := by rw [← o6]; rfl
    rcases hld_1 hms a2 a5 with ⟨i, n, rfl, rfl, hin, d1⟩ | ⟨d1, d2⟩
    case inr =>
      refine no (-12) ?_ ((M (up (up (up (up A 78 (A 78)) 80 (A 80)) 82 (A 82)) 84 (A 84)) l4 l5 l6 h7 u2 s2 o2 t2).2.2.1 c1 c2 c3 (Or.inl d2))
      rw [cpb_30, m1, Option.bind_some, if_pos rfl, m2, Option.bind_some, if_pos rfl, if_pos c3, k1, d1]; rfl
    rcases hld_1 hmt a4 (Int32.ofNat n) with ⟨j, n', rfl, hnn, hjn, d2⟩ | ⟨d2, d3⟩
    case inr =>
      refine no (-12) ?_ ((M (up (up (up (up A 78 (A 78)) 80 (A 80)) 82 (A 82)) 84 (A 84)) l4 l5 l6 h7 u2 s2 o2 t2).2.2.1 c1 c2 c3 (Or.inr d3))
      rw [cpb_30, m1, Option.bind_some, if_pos rfl, m2, Option.bind_some, if_pos rfl, if_pos c3, k1, d1, Option.bind_some, if_neg (show ¬ (1 : Int32) = 0 by decide), k2, d2]; rfl
    have hnn : n = n' := (i_eq (by omega) (by omega)).mp hnn
    subst hnn
    have ha : am_acq (A 84) (A 78) (Int32.ofNat i) (Int32.ofNat j) (Int32.ofNat n) = some (am_cpy (A 84) (A 78) i j n) := by
      unfold am_acq
      rw [i_tn (by omega), i_tn (by omega), i_tn (by omega), if_neg]
      rintro (z | z | z | z | z)
      · exact i_nn (by omega) z
      · exact i_nn (by omega) z
      · exact i_nn (by omega) z
      · omega
      · omega
    have e1 : f_X11_copy A I (Int32.ofNat 3) (Int32.ofNat i) (Int32.ofNat 0) (Int32.ofNat j) (Int32.ofNat n) = some (Int32.ofNat n, (am_cpy (A 84) (A 78) i j n), (A 80), (A 82), (A 84)) := by
      rw [cpb_30, m1, Option.bind_some, if_pos rfl, m2, Option.bind_some, if_pos rfl, if_pos c3, k1, d1, Option.bind_some, if_neg (show ¬ (1 : Int32) = 0 by decide), k2, d2, Option.bind_some, if_neg (show ¬ (1 : Int32) = 0 by decide), ha]; rfl
    obtain ⟨Z1, Y1, e2, w2, w3, w4⟩ := (M (up (up (up (up A 78 (am_cpy (A 84) (A 78) i j n)) 80 (A 80)) 82 (A 82)) 84 (A 84)) l4 l5 l6 h7 u2 s2 o2 t2).2.2.2 c1 c2 c3 i j n rfl rfl rfl hin hjn
    have w4 : ∀ q, q < 160 → g Z1 q = if 40 * 0 + j ≤ q ∧ q < 40 * 0 + j + n then g (A 126) (40 * 3 + i + (q - (40 * 0 + j))) else g (A 126) q := w4
    obtain ⟨y1, y2⟩ := g_cpy (xs := A 84) (ys := A 78) (i := i) (j := j) (n := n) (by omega) (by omega)
    have c1 := t_X11_copy (xs := xs) A I x (Int32.ofNat 3) (Int32.ofNat i) (Int32.ofNat 0) (Int32.ofNat j) (Int32.ofNat n) e1
    have c2 := t_X12_copy (xs := xs) (up (up (up (up A 78 (am_cpy (A 84) (A 78) i j n)) 80 (A 80)) 82 (A 82)) 84 (A 84)) I x (Int32.ofNat 3) (Int32.ofNat i) (Int32.ofNat 0) (Int32.ofNat j) (Int32.ofNat n) e2
    have q : v_sht (I 4928) (I 4929) (I 5056) (I 5057) (I 5184) (I 5185) (I 5312) (I 5313) (am_cpy (A 84) (A 78) i j n) (A 80) (A 82) (A 84) (A 124) (A 125) Z1 := ⟨⟨l4, l5, w2⟩, sh1_new (y1.trans o1) o2.symm o3.symm (fun d hd => sh1_cpy hd (by omega) (by omega) (y2 d) (w4 (40 * 0 + d) (by omega)) u4 o4) o5 ⟨mt, hmt, o6⟩, sh1_oth v1 (s := 0) (by decide) (by decide) rfl rfl (fun q hq hn => by rw [w4 q hq, if_neg (by omega)]), sh1_oth v2 (s := 0) (by decide) (by decide) rfl rfl (fun q hq hn => by rw [w4 q hq, if_neg (by omega)]), sh1_oth v3 (s := 0) (by decide) (by decide) rfl rfl (fun q hq hn => by rw [w4 q hq, if_neg (by omega)])⟩
    have q9 : v_scr (v_scs (up A 127 Y1)) := scr_127 hI.2.2.2.2.2.2.2.2.2.2.2.2 w3
    exact am_op.mk hx c1 (by decide) c2 (by decide) ⟨P, N, T, R, E, C, X, Z, ⟨hI.1, hI.2.1, hI.2.2.1, hI.2.2.2.1, hI.2.2.2.2.1, hI.2.2.2.2.2.1, hI.2.2.2.2.2.2.1, hI.2.2.2.2.2.2.2.1, hI.2.2.2.2.2.2.2.2.1, hI.2.2.2.2.2.2.2.2.2.1, q, hI.2.2.2.2.2.2.2.2.2.2.2.1, q9⟩⟩
  · obtain ⟨u1, u2, u3, u4, u5, ms, hms, u6⟩ := id v3
    obtain ⟨o1, o2, o3, o4, o5, mt, hmt, o6⟩ := id v1
    have M := fun (B : Nat → List Int32) h4 h5 h6 h7 s1 s2 t1 t2 => cpm_1 (B := B) (I := I) (s := 3) (t := 1) (ms := ms) (mt := mt) (so := I 5312) (to := I 5056) a2 a4 a5 (by decide) (by decide) h4 h5 h6 h7 s1 s2 u5 hms t1 t2 o5 hmt
    have s2 : Int32.ofNat ms = g (A 125) 3 := by rw [← u6]; exact u3
    have t2 : Int32.ofNat mt = g (A 125) 1 := by rw [← o6]; exact o3
    by_cases c1 : I 5312 = -1
    · refine no (-11) ?_ ((M (up (up (up (up A 78 (A 78)) 80 (A 80)) 82 (A 82)) 84 (A 84)) l4 l5 l6 h7 u2 s2 o2 t2).1 (Or.inl c1))
      rw [cpb_31]
      unfold f_X10_isMissing_83
      rw [if_pos c1]; rfl
    have m1 : f_X10_isMissing_83 A I = some 0 := by unfold f_X10_isMissing_83; rw [if_neg c1]
    by_cases c2 : I 5056 = -1
    · refine no (-11) ?_ ((M (up (up (up (up A 78 (A 78)) 80 (A 80)) 82 (A 82)) 84 (A 84)) l4 l5 l6 h7 u2 s2 o2 t2).1 (Or.inr c2))
      rw [cpb_31, m1, Option.bind_some, if_pos rfl]
      unfold f_X10_isMissing_79
      rw [if_pos c2]; rfl
    have m2 : f_X10_isMissing_79 A I = some 0 := by unfold f_X10_isMissing_79; rw [if_neg c2]
    by_cases c3 : I 5312 = I 5056
    case neg =>
      refine no (-13) ?_ ((M (up (up (up (up A 78 (A 78)) 80 (A 80)) 82 (A 82)) 84 (A 84)) l4 l5 l6 h7 u2 s2 o2 t2).2.1 c1 c2 c3)
      rw [cpb_31, m1, Option.bind_some, if_pos rfl, m2, Option.bind_some, if_pos rfl, if_neg c3]
    have k1 : f_X10_holds_83 A I a2 a5 = hld (Int32.ofNat ms) a2 a5 := by rw [← u6]; rfl
    have k2 : f_X10_holds_79 A I a4 a5 = hld (Int32.ofNat mt) a4 a5 := by rw [← o6]; rfl
    rcases hld_1 hms a2 a5 with ⟨i, n, rfl, rfl, hin, d1⟩ | ⟨d1, d2⟩
    case inr =>
      refine no (-12) ?_ ((M (up (up (up (up A 78 (A 78)) 80 (A 80)) 82 (A 82)) 84 (A 84)) l4 l5 l6 h7 u2 s2 o2 t2).2.2.1 c1 c2 c3 (Or.inl d2))
      rw [cpb_31, m1, Option.bind_some, if_pos rfl, m2, Option.bind_some, if_pos rfl, if_pos c3, k1, d1]; rfl
    rcases hld_1 hmt a4 (Int32.ofNat n) with ⟨j, n', rfl, hnn, hjn, d2⟩ | ⟨d2, d3⟩
    case inr =>
      refine no (-12) ?_ ((M (up (up (up (up A 78 (A 78)) 80 (A 80)) 82 (A 82)) 84 (A 84)) l4 l5 l6 h7 u2 s2 o2 t2).2.2.1 c1 c2 c3 (Or.inr d3))
      rw [cpb_31, m1, Option.bind_some, if_pos rfl, m2, Option.bind_some, if_pos rfl, if_pos c3, k1, d1, Option.bind_some, if_neg (show ¬ (1 : Int32) = 0 by decide), k2, d2]; rfl
    have hnn : n = n' := (i_eq (by omega) (by omega)).mp hnn
    subst hnn
    have ha : am_acq (A 84) (A 80) (Int32.ofNat i) (Int32.ofNat j) (Int32.ofNat n) = some (am_cpy (A 84) (A 80) i j n) := by
      unfold am_acq
      rw [i_tn (by omega), i_tn (by omega), i_tn (by omega), if_neg]
      rintro (z | z | z | z | z)
      · exact i_nn (by omega) z
      · exact i_nn (by omega) z
      · exact i_nn (by omega) z
      · omega
      · omega
    have e1 : f_X11_copy A I (Int32.ofNat 3) (Int32.ofNat i) (Int32.ofNat 1) (Int32.ofNat j) (Int32.ofNat n) = some (Int32.ofNat n, (A 78), (am_cpy (A 84) (A 80) i j n), (A 82), (A 84)) := by
      rw [cpb_31, m1, Option.bind_some, if_pos rfl, m2, Option.bind_some, if_pos rfl, if_pos c3, k1, d1, Option.bind_some, if_neg (show ¬ (1 : Int32) = 0 by decide), k2, d2, Option.bind_some, if_neg (show ¬ (1 : Int32) = 0 by decide), ha]; rfl
    obtain ⟨Z1, Y1, e2, w2, w3, w4⟩ := (M (up (up (up (up A 78 (A 78)) 80 (am_cpy (A 84) (A 80) i j n)) 82 (A 82)) 84 (A 84)) l4 l5 l6 h7 u2 s2 o2 t2).2.2.2 c1 c2 c3 i j n rfl rfl rfl hin hjn
    have w4 : ∀ q, q < 160 → g Z1 q = if 40 * 1 + j ≤ q ∧ q < 40 * 1 + j + n then g (A 126) (40 * 3 + i + (q - (40 * 1 + j))) else g (A 126) q := w4
    obtain ⟨y1, y2⟩ := g_cpy (xs := A 84) (ys := A 80) (i := i) (j := j) (n := n) (by omega) (by omega)
    have c1 := t_X11_copy (xs := xs) A I x (Int32.ofNat 3) (Int32.ofNat i) (Int32.ofNat 1) (Int32.ofNat j) (Int32.ofNat n) e1
    have c2 := t_X12_copy (xs := xs) (up (up (up (up A 78 (A 78)) 80 (am_cpy (A 84) (A 80) i j n)) 82 (A 82)) 84 (A 84)) I x (Int32.ofNat 3) (Int32.ofNat i) (Int32.ofNat 1) (Int32.ofNat j) (Int32.ofNat n) e2
    have q : v_sht (I 4928) (I 4929) (I 5056) (I 5057) (I 5184) (I 5185) (I 5312) (I 5313) (A 78) (am_cpy (A 84) (A 80) i j n) (A 82) (A 84) (A 124) (A 125) Z1 := ⟨⟨l4, l5, w2⟩, sh1_oth v0 (s := 1) (by decide) (by decide) rfl rfl (fun q hq hn => by rw [w4 q hq, if_neg (by omega)]), sh1_new (y1.trans o1) o2.symm o3.symm (fun d hd => sh1_cpy hd (by omega) (by omega) (y2 d) (w4 (40 * 1 + d) (by omega)) u4 o4) o5 ⟨mt, hmt, o6⟩, sh1_oth v2 (s := 1) (by decide) (by decide) rfl rfl (fun q hq hn => by rw [w4 q hq, if_neg (by omega)]), sh1_oth v3 (s := 1) (by decide) (by decide) rfl rfl (fun q hq hn => by rw [w4 q hq, if_neg (by omega)])⟩
    have q9 : v_scr (v_scs (up A 127 Y1)) := scr_127 hI.2.2.2.2.2.2.2.2.2.2.2.2 w3
    exact am_op.mk hx c1 (by decide) c2 (by decide) ⟨P, N, T, R, E, C, X, Z, ⟨hI.1, hI.2.1, hI.2.2.1, hI.2.2.2.1, hI.2.2.2.2.1, hI.2.2.2.2.2.1, hI.2.2.2.2.2.2.1, hI.2.2.2.2.2.2.2.1, hI.2.2.2.2.2.2.2.2.1, hI.2.2.2.2.2.2.2.2.2.1, q, hI.2.2.2.2.2.2.2.2.2.2.2.1, q9⟩⟩
  · obtain ⟨u1, u2, u3, u4, u5, ms, hms, u6⟩ := id v3
    obtain ⟨o1, o2, o3, o4, o5, mt, hmt, o6⟩ := id v2
    have M := fun (B : Nat → List Int32) h4 h5 h6 h7 s1 s2 t1 t2 => cpm_1 (B := B) (I := I) (s := 3) (t := 2) (ms := ms) (mt := mt) (so := I 5312) (to := I 5184) a2 a4 a5 (by decide) (by decide) h4 h5 h6 h7 s1 s2 u5 hms t1 t2 o5 hmt
    have s2 : Int32.ofNat ms = g (A 125) 3 := by rw [← u6]; exact u3
    have t2 : Int32.ofNat mt = g (A 125) 2 := by rw [← o6]; exact o3
    by_cases c1 : I 5312 = -1
    · refine no (-11) ?_ ((M (up (up (up (up A 78 (A 78)) 80 (A 80)) 82 (A 82)) 84 (A 84)) l4 l5 l6 h7 u2 s2 o2 t2).1 (Or.inl c1))
      rw [cpb_32]
      unfold f_X10_isMissing_83
      rw [if_pos c1]; rfl
    have m1 : f_X10_isMissing_83 A I = some 0 := by unfold f_X10_isMissing_83; rw [if_neg c1]
    by_cases c2 : I 5184 = -1
    · refine no (-11) ?_ ((M (up (up (up (up A 78 (A 78)) 80 (A 80)) 82 (A 82)) 84 (A 84)) l4 l5 l6 h7 u2 s2 o2 t2).1 (Or.inr c2))
      rw [cpb_32, m1, Option.bind_some, if_pos rfl]
      unfold f_X10_isMissing_81
      rw [if_pos c2]; rfl
    have m2 : f_X10_isMissing_81 A I = some 0 := by unfold f_X10_isMissing_81; rw [if_neg c2]
    by_cases c3 : I 5312 = I 5184
    case neg =>
      refine no (-13) ?_ ((M (up (up (up (up A 78 (A 78)) 80 (A 80)) 82 (A 82)) 84 (A 84)) l4 l5 l6 h7 u2 s2 o2 t2).2.1 c1 c2 c3)
      rw [cpb_32, m1, Option.bind_some, if_pos rfl, m2, Option.bind_some, if_pos rfl, if_neg c3]
    have k1 : f_X10_holds_83 A I a2 a5 = hld (Int32.ofNat ms) a2 a5 := by rw [← u6]; rfl
    have k2 : f_X10_holds_81 A I a4 a5 = hld (Int32.ofNat mt) a4 a5 := by rw [← o6]; rfl
    rcases hld_1 hms a2 a5 with ⟨i, n, rfl, rfl, hin, d1⟩ | ⟨d1, d2⟩
    case inr =>
      refine no (-12) ?_ ((M (up (up (up (up A 78 (A 78)) 80 (A 80)) 82 (A 82)) 84 (A 84)) l4 l5 l6 h7 u2 s2 o2 t2).2.2.1 c1 c2 c3 (Or.inl d2))
      rw [cpb_32, m1, Option.bind_some, if_pos rfl, m2, Option.bind_some, if_pos rfl, if_pos c3, k1, d1]; rfl
    rcases hld_1 hmt a4 (Int32.ofNat n) with ⟨j, n', rfl, hnn, hjn, d2⟩ | ⟨d2, d3⟩
    case inr =>
      refine no (-12) ?_ ((M (up (up (up (up A 78 (A 78)) 80 (A 80)) 82 (A 82)) 84 (A 84)) l4 l5 l6 h7 u2 s2 o2 t2).2.2.1 c1 c2 c3 (Or.inr d3))
      rw [cpb_32, m1, Option.bind_some, if_pos rfl, m2, Option.bind_some, if_pos rfl, if_pos c3, k1, d1, Option.bind_some, if_neg (show ¬ (1 : Int32) = 0 by decide), k2, d2]; rfl
    have hnn : n = n' := (i_eq (by omega) (by omega)).mp hnn
    subst hnn
    have ha : am_acq (A 84) (A 82) (Int32.ofNat i) (Int32.ofNat j) (Int32.ofNat n) = some (am_cpy (A 84) (A 82) i j n) := by
      unfold am_acq
      rw [i_tn (by omega), i_tn (by omega), i_tn (by omega), if_neg]
      rintro (z | z | z | z | z)
      · exact i_nn (by omega) z
      · exact i_nn (by omega) z
      · exact i_nn (by omega) z
      · omega
      · omega
    have e1 : f_X11_copy A I (Int32.ofNat 3) (Int32.ofNat i) (Int32.ofNat 2) (Int32.ofNat j) (Int32.ofNat n) = some (Int32.ofNat n, (A 78), (A 80), (am_cpy (A 84) (A 82) i j n), (A 84)) := by
      rw [cpb_32, m1, Option.bind_some, if_pos rfl, m2, Option.bind_some, if_pos rfl, if_pos c3, k1, d1, Option.bind_some, if_neg (show ¬ (1 : Int32) = 0 by decide), k2, d2, Option.bind_some, if_neg (show ¬ (1 : Int32) = 0 by decide), ha]; rfl
    obtain ⟨Z1, Y1, e2, w2, w3, w4⟩ := (M (up (up (up (up A 78 (A 78)) 80 (A 80)) 82 (am_cpy (A 84) (A 82) i j n)) 84 (A 84)) l4 l5 l6 h7 u2 s2 o2 t2).2.2.2 c1 c2 c3 i j n rfl rfl rfl hin hjn
    have w4 : ∀ q, q < 160 → g Z1 q = if 40 * 2 + j ≤ q ∧ q < 40 * 2 + j + n then g (A 126) (40 * 3 + i + (q - (40 * 2 + j))) else g (A 126) q := w4
    obtain ⟨y1, y2⟩ := g_cpy (xs := A 84) (ys := A 82) (i := i) (j := j) (n := n) (by omega) (by omega)
    have c1 := t_X11_copy (xs := xs) A I x (Int32.ofNat 3) (Int32.ofNat i) (Int32.ofNat 2) (Int32.ofNat j) (Int32.ofNat n) e1
    have c2 := t_X12_copy (xs := xs) (up (up (up (up A 78 (A 78)) 80 (A 80)) 82 (am_cpy (A 84) (A 82) i j n)) 84 (A 84)) I x (Int32.ofNat 3) (Int32.ofNat i) (Int32.ofNat 2) (Int32.ofNat j) (Int32.ofNat n) e2
    have q : v_sht (I 4928) (I 4929) (I 5056) (I 5057) (I 5184) (I 5185) (I 5312) (I 5313) (A 78) (A 80) (am_cpy (A 84) (A 82) i j n) (A 84) (A 124) (A 125) Z1 := ⟨⟨l4, l5, w2⟩, sh1_oth v0 (s := 2) (by decide) (by decide) rfl rfl (fun q hq hn => by rw [w4 q hq, if_neg (by omega)]), sh1_oth v1 (s := 2) (by decide) (by decide) rfl rfl (fun q hq hn => by rw [w4 q hq, if_neg (by omega)]), sh1_new (y1.trans o1) o2.symm o3.symm (fun d hd => sh1_cpy hd (by omega) (by omega) (y2 d) (w4 (40 * 2 + d) (by omega)) u4 o4) o5 ⟨mt, hmt, o6⟩, sh1_oth v3 (s := 2) (by decide) (by decide) rfl rfl (fun q hq hn => by rw [w4 q hq, if_neg (by omega)])⟩
    have q9 : v_scr (v_scs (up A 127 Y1)) := scr_127 hI.2.2.2.2.2.2.2.2.2.2.2.2 w3
    exact am_op.mk hx c1 (by decide) c2 (by decide) ⟨P, N, T, R, E, C, X, Z, ⟨hI.1, hI.2.1, hI.2.2.1, hI.2.2.2.1, hI.2.2.2.2.1, hI.2.2.2.2.2.1, hI.2.2.2.2.2.2.1, hI.2.2.2.2.2.2.2.1, hI.2.2.2.2.2.2.2.2.1, hI.2.2.2.2.2.2.2.2.2.1, q, hI.2.2.2.2.2.2.2.2.2.2.2.1, q9⟩⟩
  · obtain ⟨u1, u2, u3, u4, u5, ms, hms, u6⟩ := id v3
    obtain ⟨o1, o2, o3, o4, o5, mt, hmt, o6⟩ := id v3
    have M := fun (B : Nat → List Int32) h4 h5 h6 h7 s1 s2 t1 t2 => cpm_1 (B := B) (I := I) (s := 3) (t := 3) (ms := ms) (mt := mt) (so := I 5312) (to := I 5312) a2 a4 a5 (by decide) (by decide) h4 h5 h6 h7 s1 s2 u5 hms t1 t2 o5 hmt
    have s2 : Int32.ofNat ms = g (A 125) 3 := by rw [← u6]; exact u3
    have t2 : Int32.ofNat mt = g (A 125) 3 := by rw [← o6]; exact o3
    by_cases c1 : I 5312 = -1
    · refine no (-11) ?_ ((M (up (up (up (up A 78 (A 78)) 80 (A 80)) 82 (A 82)) 84 (A 84)) l4 l5 l6 h7 u2 s2 o2 t2).1 (Or.inl c1))
      rw [cpb_33]
      unfold f_X10_isMissing_83
      rw [if_pos c1]; rfl
    have m1 : f_X10_isMissing_83 A I = some 0 := by unfold f_X10_isMissing_83; rw [if_neg c1]
    by_cases c2 : I 5312 = -1
    · refine no (-11) ?_ ((M (up (up (up (up A 78 (A 78)) 80 (A 80)) 82 (A 82)) 84 (A 84)) l4 l5 l6 h7 u2 s2 o2 t2).1 (Or.inr c2))
      exact absurd c2 c1
    have m2 : f_X10_isMissing_83 A I = some 0 := by unfold f_X10_isMissing_83; rw [if_neg c2]
    by_cases c3 : I 5312 = I 5312
    case neg =>
      refine no (-13) ?_ ((M (up (up (up (up A 78 (A 78)) 80 (A 80)) 82 (A 82)) 84 (A 84)) l4 l5 l6 h7 u2 s2 o2 t2).2.1 c1 c2 c3)
      exact absurd rfl c3
    have k1 : f_X10_holds_83 A I a2 a5 = hld (Int32.ofNat ms) a2 a5 := by rw [← u6]; rfl
    have k2 : f_X10_holds_83 A I a4 a5 = hld (Int32.ofNat mt) a4 a5 := by rw [← o6]; rfl
    rcases hld_1 hms a2 a5 with ⟨i, n, rfl, rfl, hin, d1⟩ | ⟨d1, d2⟩
    case inr =>
      refine no (-12) ?_ ((M (up (up (up (up A 78 (A 78)) 80 (A 80)) 82 (A 82)) 84 (A 84)) l4 l5 l6 h7 u2 s2 o2 t2).2.2.1 c1 c2 c3 (Or.inl d2))
      rw [cpb_33, m1, Option.bind_some, if_pos rfl, Option.bind_some, if_pos rfl, if_pos c3, k1, d1]; rfl
    rcases hld_1 hmt a4 (Int32.ofNat n) with ⟨j, n', rfl, hnn, hjn, d2⟩ | ⟨d2, d3⟩
    case inr =>
      refine no (-12) ?_ ((M (up (up (up (up A 78 (A 78)) 80 (A 80)) 82 (A 82)) 84 (A 84)) l4 l5 l6 h7 u2 s2 o2 t2).2.2.1 c1 c2 c3 (Or.inr d3))
      rw [cpb_33, m1, Option.bind_some, if_pos rfl, Option.bind_some, if_pos rfl, if_pos c3, k1, d1, Option.bind_some, if_neg (show ¬ (1 : Int32) = 0 by decide), k2, d2]; rfl
    have hnn : n = n' := (i_eq (by omega) (by omega)).mp hnn
    subst hnn
    have ha : am_acq (A 84) (A 84) (Int32.ofNat i) (Int32.ofNat j) (Int32.ofNat n) = some (am_cpy (A 84) (A 84) i j n) := by
      unfold am_acq
      rw [i_tn (by omega), i_tn (by omega), i_tn (by omega), if_neg]
      rintro (z | z | z | z | z)
      · exact i_nn (by omega) z
      · exact i_nn (by omega) z
      · exact i_nn (by omega) z
      · omega
      · omega
    have e1 : f_X11_copy A I (Int32.ofNat 3) (Int32.ofNat i) (Int32.ofNat 3) (Int32.ofNat j) (Int32.ofNat n) = some (Int32.ofNat n, (A 78), (A 80), (A 82), (am_cpy (A 84) (A 84) i j n)) := by
      rw [cpb_33, m1, Option.bind_some, if_pos rfl, Option.bind_some, if_pos rfl, if_pos c3, k1, d1, Option.bind_some, if_neg (show ¬ (1 : Int32) = 0 by decide), k2, d2, Option.bind_some, if_neg (show ¬ (1 : Int32) = 0 by decide), ha]; rfl
    obtain ⟨Z1, Y1, e2, w2, w3, w4⟩ := (M (up (up (up (up A 78 (A 78)) 80 (A 80)) 82 (A 82)) 84 (am_cpy (A 84) (A 84) i j n)) l4 l5 l6 h7 u2 s2 o2 t2).2.2.2 c1 c2 c3 i j n rfl rfl rfl hin hjn
    have w4 : ∀ q, q < 160 → g Z1 q = if 40 * 3 + j ≤ q ∧ q < 40 * 3 + j + n then g (A 126) (40 * 3 + i + (q - (40 * 3 + j))) else g (A 126) q := w4
    obtain ⟨y1, y2⟩ := g_cpy (xs := A 84) (ys := A 84) (i := i) (j := j) (n := n) (by omega) (by omega)
    have c1 := t_X11_copy (xs := xs) A I x (Int32.ofNat 3) (Int32.ofNat i) (Int32.ofNat 3) (Int32.ofNat j) (Int32.ofNat n) e1
    have c2 := t_X12_copy (xs := xs) (up (up (up (up A 78 (A 78)) 80 (A 80)) 82 (A 82)) 84 (am_cpy (A 84) (A 84) i j n)) I x (Int32.ofNat 3) (Int32.ofNat i) (Int32.ofNat 3) (Int32.ofNat j) (Int32.ofNat n) e2
    have q : v_sht (I 4928) (I 4929) (I 5056) (I 5057) (I 5184) (I 5185) (I 5312) (I 5313) (A 78) (A 80) (A 82) (am_cpy (A 84) (A 84) i j n) (A 124) (A 125) Z1 := ⟨⟨l4, l5, w2⟩, sh1_oth v0 (s := 3) (by decide) (by decide) rfl rfl (fun q hq hn => by rw [w4 q hq, if_neg (by omega)]), sh1_oth v1 (s := 3) (by decide) (by decide) rfl rfl (fun q hq hn => by rw [w4 q hq, if_neg (by omega)]), sh1_oth v2 (s := 3) (by decide) (by decide) rfl rfl (fun q hq hn => by rw [w4 q hq, if_neg (by omega)]), sh1_new (y1.trans o1) o2.symm o3.symm (fun d hd => sh1_cpy hd (by omega) (by omega) (y2 d) (w4 (40 * 3 + d) (by omega)) u4 o4) o5 ⟨mt, hmt, o6⟩⟩
    have q9 : v_scr (v_scs (up A 127 Y1)) := scr_127 hI.2.2.2.2.2.2.2.2.2.2.2.2 w3
    exact am_op.mk hx c1 (by decide) c2 (by decide) ⟨P, N, T, R, E, C, X, Z, ⟨hI.1, hI.2.1, hI.2.2.1, hI.2.2.2.1, hI.2.2.2.2.1, hI.2.2.2.2.2.1, hI.2.2.2.2.2.2.1, hI.2.2.2.2.2.2.2.1, hI.2.2.2.2.2.2.2.2.1, hI.2.2.2.2.2.2.2.2.2.1, q, hI.2.2.2.2.2.2.2.2.2.2.2.1, q9⟩⟩
