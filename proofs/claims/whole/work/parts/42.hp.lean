/-! ===== the heap behind both constructors: arrays by their cells (A), int fields by 64 * cell + field (I), what text makes (x) ===== -/
abbrev am_X : Type := List (Option Nat) × List (Option Nat) × Value × Value × am_H
def hp (A : Nat → List Int32) (I : Nat → Int32) (x : am_X) : am_H :=
  .inr (.inr (11, [.ref 1, .ref 25, .ref 29, .ref 37, .ref 47, .ref 52, .ref 58, .ref 61, .ref 73, .ref 76])) ::
  .inr (.inr (6, [.ref 2, .ref 11, .ref 20, .ref 21, .ref 22, .int (I 69), .ref 23, .ref 24])) ::
  .inr (.inl (3, [some 3, some 4, some 5, some 6, some 7, some 8, some 9, some 10])) ::
  .inl (0, A 3) ::
  .inl (0, A 4) ::
  .inl (0, A 5) ::
  .inl (0, A 6) ::
  .inl (0, A 7) ::
  .inl (0, A 8) ::
  .inl (0, A 9) ::
  .inl (0, A 10) ::
  .inr (.inl (3, [some 12, some 13, some 14, some 15, some 16, some 17, some 18, some 19])) ::
  .inl (0, A 12) ::
  .inl (0, A 13) ::
  .inl (0, A 14) ::
  .inl (0, A 15) ::
  .inl (0, A 16) ::
  .inl (0, A 17) ::
  .inl (0, A 18) ::
  .inl (0, A 19) ::
  .inl (0, A 20) ::
  .inl (0, A 21) ::
  .inl (0, A 22) ::
  .inl (0, A 23) ::
  .inl (0, A 24) ::
  .inr (.inr (7, [.ref 26, .int (I 1601), .ref 27, .ref 28])) ::
  .inl (0, A 26) ::
  .inl (0, A 27) ::
  .inl (0, A 28) ::
  .inr (.inr (2, [.ref 30, .ref 31, .ref 32, .ref 33, .ref 34, .ref 35, .ref 36, .int (I 1863)])) ::
  .inl (0, A 30) ::
  .inl (0, A 31) ::
  .inl (0, A 32) ::
  .inl (0, A 33) ::
  .inl (0, A 34) ::
  .inl (0, A 35) ::
  .inl (0, A 36) ::
  .inr (.inr (1, [.ref 1, .ref 25, .ref 29, .ref 38, .ref 39, .int (I 2373), .ref 40, .ref 41, .ref 42])) ::
  .inr (.inl (4, x.1)) ::
  .inr (.inl (4, x.2.1)) ::
  .inl (0, A 40) ::
  .inl (0, A 41) ::
  .inl (0, A 42) ::
  .inr (.inr (5, [.ref 44])) ::
  .inl (0, A 44) ::
  .inr (.inr (5, [.ref 46])) ::
  .inl (0, A 46) ::
  .inr (.inr (9, [.ref 48, .ref 49, .ref 50, .ref 51, .int (I 3012)])) ::
  .inl (0, A 48) ::
  .inl (0, A 49) ::
  .inl (0, A 50) ::
  .inl (0, A 51) ::
  .inr (.inr (8, [.ref 53, .int (I 3329), x.2.2.1, x.2.2.2.1, .int (I 3332), .ref 54, .ref 55, .ref 56, .int (I 3336), .int (I 3337), .int (I 3338), .ref 57, .int (I 3340)])) ::
  .inl (1, A 53) ::
  .inl (0, A 54) ::
  .inl (0, A 55) ::
  .inl (0, A 56) ::
  .inl (0, A 57) ::
  .inr (.inr (3, [.ref 59, .ref 60, .int (I 3714), .int (I 3715)])) ::
  .inl (0, A 59) ::
  .inl (0, A 60) ::
  .inr (.inr (0, [.ref 62, .ref 63, .ref 64, .int (I 3907)])) ::
  .inl (0, A 62) ::
  .inl (0, A 63) ::
  .inr (.inl (3, [some 65, some 66, some 67, some 68, some 69, some 70, some 71, some 72])) ::
  .inl (0, A 65) ::
  .inl (0, A 66) ::
  .inl (0, A 67) ::
  .inl (0, A 68) ::
  .inl (0, A 69) ::
  .inl (0, A 70) ::
  .inl (0, A 71) ::
  .inl (0, A 72) ::
  .inr (.inr (4, [.ref 1, .ref 74, .ref 75, .int (I 4675), .int (I 4676)])) ::
  .inl (0, A 74) ::
  .inl (0, A 75) ::
  .inr (.inl (5, [some 77, some 79, some 81, some 83])) ::
  .inr (.inr (10, [.int (I 4928), .int (I 4929), .ref 78])) ::
  .inl (0, A 78) ::
  .inr (.inr (10, [.int (I 5056), .int (I 5057), .ref 80])) ::
  .inl (0, A 80) ::
  .inr (.inr (10, [.int (I 5184), .int (I 5185), .ref 82])) ::
  .inl (0, A 82) ::
  .inr (.inr (10, [.int (I 5312), .int (I 5313), .ref 84])) ::
  .inl (0, A 84) ::
  .inr (.inr (12, [.ref 86, .ref 87, .int (I 5442), .int (I 5443), .ref 88, .ref 89, .ref 90, .ref 91, .ref 92, .ref 93, .int (I 5450), .ref 94, .ref 95, .ref 96, .ref 97, .ref 98, .ref 99, .ref 100, .ref 101, .int (I 5459), .int (I 5460), .ref 102, .ref 103, .ref 104, .int (I 5464), .int (I 5465), .int (I 5466), .int (I 5467), .ref 105, .ref 106, .int (I 5470), .int (I 5471), .int (I 5472), .int (I 5473), .ref 107, .ref 108, .int (I 5476), .ref 109, .ref 110, .ref 111, .ref 112, .int (I 5481), .ref 113, .ref 114, .ref 115, .ref 116, .int (I 5486), .ref 117, .ref 118, .ref 119, .ref 120, .ref 121, .ref 122, .ref 123, .int (I 5494), .ref 124, .ref 125, .ref 126, .ref 127])) ::
  .inl (0, A 86) ::
  .inl (0, A 87) ::
  .inl (0, A 88) ::
  .inl (0, A 89) ::
  .inl (0, A 90) ::
  .inl (0, A 91) ::
  .inl (0, A 92) ::
  .inl (0, A 93) ::
  .inl (0, A 94) ::
  .inl (0, A 95) ::
  .inl (0, A 96) ::
  .inl (0, A 97) ::
  .inl (0, A 98) ::
  .inl (0, A 99) ::
  .inl (0, A 100) ::
  .inl (1, A 101) ::
  .inl (0, A 102) ::
  .inl (0, A 103) ::
  .inl (0, A 104) ::
  .inl (0, A 105) ::
  .inl (2, A 106) ::
  .inl (0, A 107) ::
  .inl (0, A 108) ::
  .inl (0, A 109) ::
  .inl (0, A 110) ::
  .inl (0, A 111) ::
  .inl (0, A 112) ::
  .inl (0, A 113) ::
  .inl (0, A 114) ::
  .inl (0, A 115) ::
  .inl (0, A 116) ::
  .inl (0, A 117) ::
  .inl (0, A 118) ::
  .inl (0, A 119) ::
  .inl (0, A 120) ::
  .inl (0, A 121) ::
  .inl (0, A 122) ::
  .inl (0, A 123) ::
  .inl (0, A 124) ::
  .inl (0, A 125) ::
  .inl (0, A 126) ::
  .inl (0, A 127) :: x.2.2.2.2
/-! ===== rows, lengths, copies, switches ===== -/
def am_row (base : Nat) (i : Int32) : Option Nat := if i < 0 then none else if i.toNatClampNeg < 8 then some (base + i.toNatClampNeg) else none
def am_isrow (base w : Nat) : Prop := (base = 3 ∨ base = 12 ∨ base = 65) ∧ base ≤ w ∧ w < base + 8
theorem am_rlt {base w : Nat} (h : am_isrow base w) : w < am_RO := by
  obtain ⟨h1, h2, h3⟩ := h
  have : (100 : Nat) < am_RO := Nat.le_of_ble_eq_true rfl
  omega
theorem hp_row {A : Nat → List Int32} {I : Nat → Int32} {x : am_X} {base w : Nat} (h : am_isrow base w) : (hp A I x)[w]? = some (.inl (0, A w)) := by
  obtain ⟨h1, h2, h3⟩ := h
  obtain ⟨j, hj, rfl⟩ : ∃ j, j < 8 ∧ w = base + j := ⟨w - base, by omega, by omega⟩
  rcases h1 with rfl | rfl | rfl
  all_goals
    match j, hj with
    | 0, _ => rfl
    | 1, _ => rfl
    | 2, _ => rfl
    | 3, _ => rfl
    | 4, _ => rfl
    | 5, _ => rfl
    | 6, _ => rfl
    | 7, _ => rfl
theorem hp_row_set {A : Nat → List Int32} {I : Nat → Int32} {x : am_X} {base w : Nat} {ys : List Int32} (h : am_isrow base w) : (hp A I x).set w (.inl (0, ys)) = hp (up A w ys) I x := by
  obtain ⟨h1, h2, h3⟩ := h
  obtain ⟨j, hj, rfl⟩ : ∃ j, j < 8 ∧ w = base + j := ⟨w - base, by omega, by omega⟩
  rcases h1 with rfl | rfl | rfl
  all_goals
    match j, hj with
    | 0, _ => rfl
    | 1, _ => rfl
    | 2, _ => rfl
    | 3, _ => rfl
    | 4, _ => rfl
    | 5, _ => rfl
    | 6, _ => rfl
    | 7, _ => rfl
def am_acq (xs ys : List Int32) (i j n : Int32) : Option (List Int32) := if n < 0 ∨ i < 0 ∨ j < 0 ∨ xs.length < i.toNatClampNeg + n.toNatClampNeg ∨ ys.length < j.toNatClampNeg + n.toNatClampNeg then none else some (am_cpy xs ys i.toNatClampNeg j.toNatClampNeg n.toNatClampNeg)
section AmJ2
variable {ro : Nat → Option (List Int32)} {d : Nat} {M : am_M} {r : am_An} {α : Type} {pc : Nat} {L : am_L} {st : List Value} {h : am_H} {cf : am_Cf} {o o1 o2 : Option α} {K : α → Prop} {i j n v : Int32} {a b : Nat}
theorem am_J.row {base : Nat} {f : Nat → Option α} (hf : am_fi M pc = some (.aaload, 1)) (hh : h[a]? = some (.inr (.inl (3, (List.range 8).map (fun q => some (base + q)))))) (hb : base = 3 ∨ base = 12 ∨ base = 65) (k : ∀ w, am_isrow base w → am_J ro d M r (pc + 1, L, .ref w :: st, h) (f w) K) : am_J ro d M r (pc, L, .int i :: .ref a :: st, h) ((am_row base i).bind f) K := fun z hz hk => by
  unfold am_row at hz
  split at hz
  · cases hz
  · next h0 =>
    split at hz
    · next h1 =>
      refine am_Ev.step ?_ (k (base + i.toNatClampNeg) ⟨hb, by omega, by omega⟩ z hz hk)
      show am_onx ro M pc L _ h = _
      have e : am_atr ((List.range 8).map (fun q => some (base + q))) i = some (some (base + i.toNatClampNeg)) := by
        unfold am_atr
        rw [if_neg h0, List.getElem?_map, List.getElem?_range h1]
        rfl
      simp only [am_onx, hf, am_kind, am_heap, am_aal, hh, e]
      rfl
    · cases hz
theorem am_J.len {xs : List Int32} (hf : am_fi M pc = some (.arraylength, 1)) (ha : a < am_RO) (hh : h[a]? = some (.inl (0, xs))) (k : am_J ro d M r (pc + 1, L, .int (Int32.ofNat xs.length) :: st, h) o K) : am_J ro d M r (pc, L, .ref a :: st, h) o K := fun z hz hk => by
  refine am_Ev.step ?_ (k z hz hk)
  show am_onx ro M pc L _ h = _
  simp only [am_onx, hf, am_kind, am_heap, am_len, if_pos ha, hh]
theorem am_J.acp {xs ys : List Int32} {f : List Int32 → Option α} {h' : List Int32 → am_H} (hf : am_fi M pc = some (.invokedynamic 0, 3)) (hh : h[a]? = some (.inl (0, xs))) (hy : h[b]? = some (.inl (0, ys))) (hw : am_w st ≤ 8) (hs : ∀ zs, h.set b (.inl (0, zs)) = h' zs) (k : ∀ zs, am_J ro d M r (pc + 3, L, st, h' zs) (f zs) K) : am_J ro d M r (pc, L, .int n :: .int j :: .ref b :: .int i :: .ref a :: st, h) ((am_acq xs ys i j n).bind f) K := fun z hz hk => by
  unfold am_acq at hz
  split at hz
  · cases hz
  · next h0 =>
    refine am_Ev.step ?_ (k _ z hz hk)
    show am_onx ro M pc L _ h = _
    have h1 : ¬ (n < 0 ∨ i < 0 ∨ j < 0 ∨ xs.length < i.toNatClampNeg + n.toNatClampNeg ∨ ys.length < j.toNatClampNeg + n.toNatClampNeg ∨ 8 < am_w st) := by
      rintro (q | q | q | q | q | q)
      · exact h0 (Or.inl q)
      · exact h0 (Or.inr (Or.inl q))
      · exact h0 (Or.inr (Or.inr (Or.inl q)))
      · exact h0 (Or.inr (Or.inr (Or.inr (Or.inl q))))
      · exact h0 (Or.inr (Or.inr (Or.inr (Or.inr q))))
      · omega
    simp only [am_onx, hf, am_kind, am_heap, am_acp, hh, hy, if_neg h1, hs]
/-- a switch: one of its numbers -/
theorem am_J.sw {c : Int32} (cf : Int32 → am_Cf) (kt : am_J ro d M r (cf c) o1 K) (kf : ¬ v = c → am_J ro d M r (cf v) o2 K) : am_J ro d M r (cf v) (if v = c then o1 else o2) K := by
  by_cases e : v = c
  · rw [if_pos e, e]; exact kt
  · rw [if_neg e]; exact kf e
/-- a switch: none of its numbers -/
theorem am_J.swd {df lo hi : Int} {offs : Array Int} {n : Nat} (hf : am_fi M pc = some (.tableswitch df lo hi offs, n)) (hx : v.toInt < lo ∨ hi < v.toInt) (hok : am_ok pc df = true) (k : am_J ro d M r (am_tg pc df, L, st, h) o K) : am_J ro d M r (pc, L, .int v :: st, h) o K := fun z hz hk => by
  refine am_Ev.step ?_ (k z hz hk)
  show am_onx ro M pc L _ h = _
  simp only [am_onx, hf, am_kind, am_br, am_sw, if_pos hx, if_pos hok]
theorem am_out {v : Int32} (lo hi : Int) (h : ∀ c : Int, lo ≤ c → c ≤ hi → ¬ v.toInt = c) : v.toInt < lo ∨ hi < v.toInt := by
  rcases Int.lt_or_le v.toInt lo with q | q
  · exact Or.inl q
  · rcases Int.lt_or_le hi v.toInt with w | w
    · exact Or.inr w
    · exact absurd rfl (h v.toInt q w)
end AmJ2
theorem am_J.retc {ro : Nat → Option (List Int32)} {d : Nat} {M : am_M} {r : am_An} {α : Type} {pc : Nat} {L : am_L} {h : am_H} {K : α → Prop} {v : Int32} {z : α} (hi : am_fi M pc = some (.ireturn, 1)) (e : K z → r = (some (.int v), h)) : am_J ro d M r (pc, L, [.int v], h) (if v = 0 ∨ v = 1 then some z else none) K := fun q hq hk => by
  split at hq
  · next hz => exact am_J.retz hi hz e q hq hk
  · cases hq
