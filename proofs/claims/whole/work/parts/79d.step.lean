/-! ===== the model's reading of an E: its steps ===== -/
abbrev Q13 : Type := Int32 × Int32 × (List Int32) × (List Int32) × (List Int32) × (List Int32) × Int32 × Int32 × Int32 × Int32 × Int32 × Int32 × Int32
abbrev Z11 : Type := (List Int32) × (List Int32) × (List Int32) × (List Int32) × Int32 × Int32 × Int32 × Int32 × Int32 × Int32 × Int32
abbrev Z12 : Type := Int32 × (List Int32) × (List Int32) × (List Int32) × (List Int32) × Int32 × Int32 × Int32 × Int32 × Int32 × Int32 × Int32
/-- the model at TOKEN k: whether it wants a ONE, whether a not may stand; the row, what waits, which brackets have compared -/
def Rf (p : Nat) (M0 L0 B : List Int32) (Z k : Nat) (w b : Int32) (R W C : List Int32) (q : Q13) : Prop := ∃ M L Y D t v, q = (w, b, M, L, Y, D, Int32.ofNat (ps B Z (k + 1)), t, v, Int32.ofNat (kB B Z k), Int32.ofNat W.length, Int32.ofNat (brk W), Int32.ofNat (op W)) ∧ rowS p M0 L0 R M L ∧ Y.length = 161 ∧ stc Y W ∧ D.length = 7 ∧ stc D C ∧ C.length = brk W + 1 ∧ tkr (kT B Z k) (kV B Z k) t v ∧ R.length + W.length ≤ k ∧ op W ≤ 5
/-- the model gives up at TOKEN j -/
def Fl (p : Nat) (M0 L0 B : List Int32) (Z j : Nat) (z : Z12) : Prop := ∃ M L Y D a t v h br o R, z = (0, M, L, Y, D, a, t, v, Int32.ofNat (kB B Z j), h, br, o) ∧ rowS p M0 L0 R M L ∧ Y.length = 161 ∧ D.length = 7
def Ev (A : Nat → List Int32) (I : Nat → Int32) (B : List Int32) (Z p : Nat) : Prop := A 101 = B ∧ I 5459 = Int32.ofNat Z ∧ B.length = 160 ∧ Z ≤ 160 ∧ I 5473 = Int32.ofNat p ∧ p < 12
abbrev a4 (A : Nat → List Int32) (M L Y D : List Int32) : Nat → List Int32 := up (up (up (up A 103 M) 104 L) 105 Y) 106 D
abbrev i7 (I : Nat → Int32) (a t v bg h br o : Int32) : Nat → Int32 := up (up (up (up (up (up (up I 5464 a) 5465 t) 5466 v) 5467 bg) 5470 h) 5471 br) 5472 o
def mv (T V : Int32) : Int32 := if T = 2 then V else 9999 - V
section Step
variable {A : Nat → List Int32} {I : Nat → Int32} {B M0 L0 R W C : List Int32} {Z p k : Nat} {b c : Int32} {q : Q13}
theorem next_a (he : Ev A I B Z p) (M L Y D : List Int32) (t v bg h br o : Int32) : ∃ t' v', f_X12_next (a4 A M L Y D) (i7 I (Int32.ofNat (ps B Z (k + 1))) t v bg h br o) = some (Int32.ofNat (ps B Z (k + 1 + 1)), t', v', Int32.ofNat (kB B Z (k + 1))) ∧ tkr (kT B Z (k + 1)) (kV B Z (k + 1)) t' v' := by
  obtain ⟨h1, h2, h3, h4, h5, h6⟩ := he
  exact next_eq (A := a4 A M L Y D) (I := i7 I (Int32.ofNat (ps B Z (k + 1))) t v bg h br o) h1 h2 rfl h3 h4 (ps_le B Z (k + 1))
theorem settle_a (he : Ev A I B Z p) {r : Nat} (hr : 1 ≤ r) (hr2 : r ≤ 7) {M L Y : List Int32} (hrow : rowS p M0 L0 R M L) (hs : stc Y W) (hY : Y.length = 161) (hl : R.length + W.length ≤ 160) (D : List Int32) (a t v bg br : Int32) : ∃ M' L', f_X12_settle (a4 A M L Y D) (i7 I a t v bg (Int32.ofNat W.length) br (Int32.ofNat (op W))) (Int32.ofNat r) = some (M', L', Int32.ofNat (stl r R W).2.length, Int32.ofNat (op (stl r R W).2)) ∧ rowS p M0 L0 (stl r R W).1 M' L' := by
  obtain ⟨h1, h2, h3, h4, h5, h6⟩ := he
  exact settle_eq (A := a4 A M L Y D) (I := i7 I a t v bg (Int32.ofNat W.length) br (Int32.ofNat (op W))) hr hr2 hrow h5 h6 hs hY rfl rfl hl
theorem put_a (he : Ev A I B Z p) {M L : List Int32} (hrow : rowS p M0 L0 R M L) (hR : R.length < 160) (w : Int32) (Y D : List Int32) (a t v bg h br o : Int32) : ∃ M' L', f_X12_put (a4 A M L Y D) (i7 I a t v bg h br o) w = some (M', L') ∧ rowS p M0 L0 (R ++ [w]) M' L' := by
  obtain ⟨h1, h2, h3, h4, h5, h6⟩ := he
  exact put_eq (A := a4 A M L Y D) (I := i7 I a t v bg h br o) hrow h5 h6 hR
theorem hold_a {Y : List Int32} (hY : Y.length = 161) (hW : W.length < 161) (s : Int32) (M L D : List Int32) (a t v bg br : Int32) : f_X12_hold (a4 A M L Y D) (i7 I a t v bg (Int32.ofNat W.length) br (Int32.ofNat (op W))) s = some (Y.set W.length s, Int32.ofNat (s :: W).length, Int32.ofNat (op (s :: W))) := hold_eq (A := a4 A M L Y D) (I := i7 I a t v bg (Int32.ofNat W.length) br (Int32.ofNat (op W))) rfl hY hW rfl rfl
theorem ahead_a {t v : Int32} (h : tkr (kT B Z k) (kV B Z k) t v) (ho : op W ≤ 5) (hb : b = 0 ∨ b = 1) (M L Y D : List Int32) (a bg hh br : Int32) : f_X12_ahead (a4 A M L Y D) (i7 I a t v bg hh br (Int32.ofNat (op W))) b = some (if kT B Z k = 2 then 1 else if kT B Z k = 3 then 1 else if op W = 5 then 0 else if kT B Z k = 8 then b else if kT B Z k = 40 then 1 else if kT B Z k = 45 then 1 else 0) := tahead (A := a4 A M L Y D) (I := i7 I a t v bg hh br (Int32.ofNat (op W))) h rfl ho hb
/-- a NUMBER, a NAME -/
theorem st_one (he : Ev A I B Z p) (hk : k < 160) (h : Rf p M0 L0 B Z k 1 b R W C q) (hb : b = 0 ∨ b = 1) (hT : kT B Z k = 2 ∨ kT B Z k = 3) : ∃ q', f_X12_part_l1 A I q = some (.inl q') ∧ Rf p M0 L0 B Z (k + 1) 0 b (stl 7 (R ++ [mv (kT B Z k) (kV B Z k)]) W).1 (stl 7 (R ++ [mv (kT B Z k) (kV B Z k)]) W).2 C q' := by
  obtain ⟨M, L, Y, D, t, v, rfl, hrow, hY, hst, hD, hsd, hC, htr, hlen, hop⟩ := h
  have hlen' : (R ++ [mv (kT B Z k) (kV B Z k)]).length + W.length ≤ k + 1 := by rw [List.length_append, List.length_singleton]; omega
  obtain ⟨M1, L1, e1, hrow1⟩ := put_a (R := R) he hrow (by omega) (mv (kT B Z k) (kV B Z k)) Y D (Int32.ofNat (ps B Z (k + 1))) t v (Int32.ofNat (kB B Z k)) (Int32.ofNat W.length) (Int32.ofNat (brk W)) (Int32.ofNat (op W))
  obtain ⟨M2, L2, e2, hrow2⟩ := settle_a he (r := 7) (by decide) (by decide) hrow1 hst hY (by omega) D (Int32.ofNat (ps B Z (k + 1))) t v (Int32.ofNat (kB B Z k)) (Int32.ofNat (brk W))
  obtain ⟨t', v', e3, htr'⟩ := next_a (k := k) he M2 L2 Y D t v (Int32.ofNat (kB B Z k)) (Int32.ofNat (stl 7 (R ++ [mv (kT B Z k) (kV B Z k)]) W).2.length) (Int32.ofNat (brk W)) (Int32.ofNat (op (stl 7 (R ++ [mv (kT B Z k) (kV B Z k)]) W).2))
  have hmv : ((if t = 1 then some v else some (10000 + v)) : Option Int32) = some (mv (kT B Z k) (kV B Z k)) := by
    unfold mv
    rcases htr with ⟨h0, h1⟩ | ⟨h0, h1⟩ | ⟨h0, h1, h2, -⟩ | ⟨h0, h1, h2⟩ | ⟨h1, h0⟩ | ⟨h1, h2, h0⟩
    · rw [h0] at hT; rcases hT with hT | hT <;> exact absurd hT (by decide)
    · rw [h0] at hT; rcases hT with hT | hT <;> exact absurd hT (by decide)
    · rw [h0, if_pos h1, if_pos rfl, h2]
    · rw [h0, h1, if_neg (by decide), if_neg (by decide)]
      rcases h2 with ⟨r1, r2⟩ | ⟨r1, r2⟩ | ⟨r1, r2⟩ | ⟨r1, r2⟩ | ⟨r1, r2⟩ | ⟨r1, r2⟩ <;> rw [r1, r2] <;> rfl
    · rcases h0 with ⟨h0, -⟩ | ⟨h0, -⟩ | ⟨h0, -⟩ | ⟨h0, -⟩ | ⟨h0, -⟩ <;> rw [h0] at hT <;> rcases hT with hT | hT <;> exact absurd hT (by decide)
    · rcases h0 with h0 | h0 | h0 | h0 | h0 | h0 | h0 | h0 <;> rw [h0] at hT <;> rcases hT with hT | hT <;> exact absurd hT (by decide)
  have n8 : ¬ kT B Z k = 8 := fun e => by rw [e] at hT; rcases hT with hT | hT <;> exact absurd hT (by decide)
  have n45 : ¬ kT B Z k = 45 := fun e => by rw [e] at hT; rcases hT with hT | hT <;> exact absurd hT (by decide)
  have n40 : ¬ kT B Z k = 40 := fun e => by rw [e] at hT; rcases hT with hT | hT <;> exact absurd hT (by decide)
  have ha : (if kT B Z k = 2 then 1 else if kT B Z k = 3 then 1 else if op W = 5 then 0 else if kT B Z k = 8 then b else if kT B Z k = 40 then 1 else if kT B Z k = 45 then 1 else 0 : Int32) = 1 := by
    rcases hT with hT | hT <;> rw [hT] <;> rfl
  unfold f_X12_part_l1
  dsimp only
  rw [if_neg (show ¬ (1 : Int32) = 0 by decide), ahead_a htr hop hb, ha, Option.bind_some, if_neg (show ¬ (1 : Int32) = 0 by decide), tkey4 (T := kT B Z k) (V := kV B Z k) htr, Option.bind_some, ifp, if_neg n8, tsig45 (T := kT B Z k) (V := kV B Z k) htr, Option.bind_some, ifp, if_neg n45, tsig40 (T := kT B Z k) (V := kV B Z k) htr, Option.bind_some, ifp, if_neg n40, hmv, Option.bind_some, e1, Option.bind_some]
  have e2' : f_X12_settle (a4 A M1 L1 Y D) (i7 I (Int32.ofNat (ps B Z (k + 1))) t v (Int32.ofNat (kB B Z k)) (Int32.ofNat W.length) (Int32.ofNat (brk W)) (Int32.ofNat (op W))) 7 = _ := e2
  rw [e2', Option.bind_some, Option.bind_some]
  dsimp only
  rw [e3, Option.bind_some]
  have hl := stl_len 7 W (R ++ [mv (kT B Z k) (kV B Z k)])
  have ho := stl_op 7 W (R ++ [mv (kT B Z k) (kV B Z k)])
  have hbr := stl_brk 7 (by decide) W (R ++ [mv (kT B Z k) (kV B Z k)])
  exact ⟨_, rfl, M2, L2, Y, D, t', v', by rw [hbr], hrow2, hY, stl_stk 7 W _ hst, hD, hsd, by rw [hbr]; exact hC, htr', by omega, by omega⟩
/-- not, -, ( -/
theorem st_held (he : Ev A I B Z p) (hk : k < 160) (h : Rf p M0 L0 B Z k 1 b R W C q) (hb : b = 0 ∨ b = 1) (ho5 : op W < 5) {s b' : Int32} {C' : List Int32} (hT : (kT B Z k = 8 ∧ b = 1 ∧ s = -3 ∧ b' = b ∧ C' = C) ∨ (kT B Z k = 45 ∧ s = -9 ∧ b' = 0 ∧ C' = C) ∨ (kT B Z k = 40 ∧ s = -10 ∧ b' = 1 ∧ C' = 0 :: C)) : ∃ q', f_X12_part_l1 A I q = some (.inl q') ∧ Rf p M0 L0 B Z (k + 1) 1 b' R (s :: W) C' q' := by
  obtain ⟨M, L, Y, D, t, v, rfl, hrow, hY, hst, hD, hsd, hC, htr, hlen, hop⟩ := h
  have hbl := brk_le W
  have hh := hold_a (A := A) (I := I) (W := W) hY (by omega) s M L D (Int32.ofNat (ps B Z (k + 1))) t v (Int32.ofNat (kB B Z k)) (Int32.ofNat (brk W))
  have ha : (if kT B Z k = 2 then 1 else if kT B Z k = 3 then 1 else if op W = 5 then 0 else if kT B Z k = 8 then b else if kT B Z k = 40 then 1 else if kT B Z k = 45 then 1 else 0 : Int32) = 1 := by
    rw [if_neg (show ¬ op W = 5 by omega)]
    rcases hT with ⟨hT, hb1, -⟩ | ⟨hT, -⟩ | ⟨hT, -⟩ <;> rw [hT]
    · rw [hb1]; rfl
    · rfl
    · rfl
  have hopn : op (s :: W) = op W + 1 := by
    rcases hT with ⟨-, -, hs, -⟩ | ⟨-, hs, -⟩ | ⟨-, hs, -⟩ <;> rw [hs] <;> rfl
  have hlen' : R.length + (s :: W).length ≤ k + 1 := by rw [List.length_cons]; omega
  unfold f_X12_part_l1
  dsimp only
  rw [if_neg (show ¬ (1 : Int32) = 0 by decide), ahead_a htr hop hb, ha, Option.bind_some, if_neg (show ¬ (1 : Int32) = 0 by decide), tkey4 (T := kT B Z k) (V := kV B Z k) htr, Option.bind_some, ifp]
  rcases hT with ⟨hT, hb1, hs, rfl, rfl⟩ | ⟨hT, hs, rfl, rfl⟩ | ⟨hT, hs, rfl, rfl⟩
  · rw [hs] at hh hopn hlen' ⊢
    rw [if_pos hT, hh, Option.bind_some, Option.bind_some]
    dsimp only
    obtain ⟨t', v', e3, htr'⟩ := next_a (k := k) he M L (Y.set W.length (-3)) D t v (Int32.ofNat (kB B Z k)) (Int32.ofNat (-3 :: W).length) (Int32.ofNat (brk W)) (Int32.ofNat (op (-3 :: W)))
    rw [e3, Option.bind_some]
    exact ⟨_, rfl, M, L, _, D, t', v', rfl, hrow, by rw [List.length_set]; exact hY, stc_push (by omega) hst, hD, hsd, hC, htr', hlen', by omega⟩
  · rw [hs] at hh hopn hlen' ⊢
    rw [if_neg (by rw [hT]; decide), tsig45 (T := kT B Z k) (V := kV B Z k) htr, Option.bind_some, ifp, if_pos hT, hh, Option.bind_some, Option.bind_some]
    dsimp only
    obtain ⟨t', v', e3, htr'⟩ := next_a (k := k) he M L (Y.set W.length (-9)) D t v (Int32.ofNat (kB B Z k)) (Int32.ofNat (-9 :: W).length) (Int32.ofNat (brk W)) (Int32.ofNat (op (-9 :: W)))
    rw [e3, Option.bind_some]
    exact ⟨_, rfl, M, L, _, D, t', v', rfl, hrow, by rw [List.length_set]; exact hY, stc_push (by omega) hst, hD, hsd, hC, htr', hlen', by omega⟩
  · rw [hs] at hh hopn hlen' ⊢
    rw [if_neg (by rw [hT]; decide), tsig45 (T := kT B Z k) (V := kV B Z k) htr, Option.bind_some, ifp, if_neg (by rw [hT]; decide), tsig40 (T := kT B Z k) (V := kV B Z k) htr, Option.bind_some, ifp, if_pos hT, hh, Option.bind_some, show Int32.ofNat (brk W) + 1 = Int32.ofNat (brk W + 1) from i_addr (n := 1), am_up_g (by omega) (by omega), Option.bind_some, Option.bind_some]
    dsimp only
    obtain ⟨t', v', e3, htr'⟩ := next_a (k := k) he M L (Y.set W.length (-10)) (D.set (brk W + 1) (am_nar 2 0)) t v (Int32.ofNat (kB B Z k)) (Int32.ofNat (-10 :: W).length) (Int32.ofNat (brk W + 1)) (Int32.ofNat (op (-10 :: W)))
    rw [e3, Option.bind_some]
    refine ⟨_, rfl, M, L, _, _, t', v', rfl, hrow, by rw [List.length_set]; exact hY, stc_push (by omega) hst, by rw [List.length_set]; exact hD, ?_, by rw [List.length_cons, hC]; rfl, htr', hlen', by omega⟩
    rw [← hC]
    exact stc_push (by omega) hsd
/-- nothing that may stand where a ONE is wanted -/
theorem st_bad (h : Rf p M0 L0 B Z k 1 b R W C q) (hb : b = 0 ∨ b = 1) (hT : ¬ kT B Z k = 2 ∧ ¬ kT B Z k = 3 ∧ (op W = 5 ∨ ((b = 0 ∨ ¬ kT B Z k = 8) ∧ ¬ kT B Z k = 40 ∧ ¬ kT B Z k = 45))) : ∃ z, f_X12_part_l1 A I q = some (.inr (.inr z)) ∧ Fl p M0 L0 B Z k z := by
  obtain ⟨M, L, Y, D, t, v, rfl, hrow, hY, hst, hD, hsd, hC, htr, hlen, hop⟩ := h
  have ha : (if kT B Z k = 2 then 1 else if kT B Z k = 3 then 1 else if op W = 5 then 0 else if kT B Z k = 8 then b else if kT B Z k = 40 then 1 else if kT B Z k = 45 then 1 else 0 : Int32) = 0 := by
    rw [if_neg hT.1, if_neg hT.2.1]
    rcases hT.2.2 with h | ⟨h1, h2, h3⟩
    · rw [if_pos h]
    · by_cases c5 : op W = 5
      · rw [if_pos c5]
      rw [if_neg c5, if_neg h2, if_neg h3]
      by_cases c8 : kT B Z k = 8
      · rw [if_pos c8]
        rcases h1 with h1 | h1
        · exact h1
        · exact absurd c8 h1
      · rw [if_neg c8]
  unfold f_X12_part_l1
  dsimp only
  rw [if_neg (show ¬ (1 : Int32) = 0 by decide), ahead_a htr hop hb, ha, Option.bind_some, if_pos rfl]
  exact ⟨_, rfl, M, L, Y, D, _, _, _, _, _, _, R, rfl, hrow, hY, hD⟩
theorem sg_59 : sg 59 = 0 := by decide
theorem sg_41 : sg 41 = 0 := by decide
/-- ; -/
theorem st_end (h : Rf p M0 L0 B Z k 0 b R W C q) (hT : kT B Z k = 59) : ∃ M L Y D t v, f_X12_part_l1 A I q = some (.inr (.inl (M, L, Y, D, Int32.ofNat (ps B Z (k + 1)), t, v, Int32.ofNat (kB B Z k), Int32.ofNat W.length, Int32.ofNat (brk W), Int32.ofNat (op W)))) ∧ rowS p M0 L0 R M L ∧ Y.length = 161 ∧ stc Y W ∧ D.length = 7 ∧ R.length + W.length ≤ k := by
  obtain ⟨M, L, Y, D, t, v, rfl, hrow, hY, hst, hD, hsd, hC, htr, hlen, hop⟩ := h
  unfold f_X12_part_l1
  dsimp only
  rw [if_pos rfl, tsig59 (T := kT B Z k) (V := kV B Z k) htr, Option.bind_some, ifp, if_pos hT]
  exact ⟨M, L, Y, D, t, v, rfl, hrow, hY, hst, hD, hlen⟩
/-- ) with no ( ahead; what is no sign -/
theorem st_no (h : Rf p M0 L0 B Z k 0 b R W C q) (hT : (kT B Z k = 41 ∧ brk W = 0) ∨ (¬ kT B Z k = 59 ∧ ¬ kT B Z k = 41 ∧ sg (kT B Z k) = 0)) : ∃ z, f_X12_part_l1 A I q = some (.inr (.inr z)) ∧ Fl p M0 L0 B Z k z := by
  obtain ⟨M, L, Y, D, t, v, rfl, hrow, hY, hst, hD, hsd, hC, htr, hlen, hop⟩ := h
  unfold f_X12_part_l1
  dsimp only
  rw [if_pos rfl, tsig59 (T := kT B Z k) (V := kV B Z k) htr, Option.bind_some, ifp]
  rcases hT with ⟨hT, hbr⟩ | ⟨h1, h2, h3⟩
  · rw [if_neg (by rw [hT]; decide), tsig41 (T := kT B Z k) (V := kV B Z k) htr, Option.bind_some, ifp, if_pos hT, if_pos (by rw [hbr]; rfl)]
    exact ⟨_, rfl, M, L, Y, D, _, _, _, _, _, _, R, rfl, hrow, hY, hD⟩
  · rw [if_neg h1, tsig41 (T := kT B Z k) (V := kV B Z k) htr, Option.bind_some, ifp, if_neg h2, tsgn (T := kT B Z k) (V := kV B Z k) htr, Option.bind_some, if_pos h3]
    exact ⟨_, rfl, M, L, Y, D, _, _, _, _, _, _, R, rfl, hrow, hY, hD⟩
/-- ) -/
theorem st_close (he : Ev A I B Z p) (hk : k < 160) {R1 W1 : List Int32} (h : Rf p M0 L0 B Z k 0 b R W (c :: C) q) (hT : kT B Z k = 41) (hs : stl 1 R W = (R1, -10 :: W1)) : ∃ q', f_X12_part_l1 A I q = some (.inl q') ∧ Rf p M0 L0 B Z (k + 1) 0 b (stl 7 R1 W1).1 (stl 7 R1 W1).2 C q' := by
  obtain ⟨M, L, Y, D, t, v, rfl, hrow, hY, hst, hD, hsd, hC, htr, hlen, hop⟩ := h
  obtain ⟨M1, L1, e1, hrow1⟩ := settle_a he (r := 1) (by decide) (by decide) hrow hst hY (by omega) D (Int32.ofNat (ps B Z (k + 1))) t v (Int32.ofNat (kB B Z k)) (Int32.ofNat (brk W))
  have hl1 := stl_len 1 W R
  have ho1 := stl_op 1 W R
  have hb1 := stl_brk 1 (by decide) W R
  have hk1 := stl_stk (Y := Y) 1 W R hst
  rw [hs] at e1 hrow1 hl1 ho1 hb1 hk1
  dsimp only at e1 hrow1 hl1 ho1 hb1 hk1
  rw [List.length_cons] at hl1
  have hb2 : brk W = brk W1 + 1 := hb1.symm
  have ho2 : op W1 + 1 ≤ op W := ho1
  have hbl := brk_le W
  obtain ⟨M2, L2, e2, hrow2⟩ := settle_a he (r := 7) (R := R1) (W := W1) (by decide) (by decide) hrow1 hk1.2 hY (by omega) D (Int32.ofNat (ps B Z (k + 1))) t v (Int32.ofNat (kB B Z k)) (Int32.ofNat (brk W1))
  obtain ⟨t', v', e3, htr'⟩ := next_a (k := k) he M2 L2 Y D t v (Int32.ofNat (kB B Z k)) (Int32.ofNat (stl 7 R1 W1).2.length) (Int32.ofNat (brk W1)) (Int32.ofNat (op (stl 7 R1 W1).2))
  have e1' : f_X12_settle (a4 A M L Y D) (i7 I (Int32.ofNat (ps B Z (k + 1))) t v (Int32.ofNat (kB B Z k)) (Int32.ofNat W.length) (Int32.ofNat (brk W)) (Int32.ofNat (op W))) 1 = _ := e1
  have e2' : f_X12_settle (a4 A M1 L1 Y D) (i7 I (Int32.ofNat (ps B Z (k + 1))) t v (Int32.ofNat (kB B Z k)) (Int32.ofNat W1.length) (Int32.ofNat (brk W1)) (Int32.ofNat (op W1))) 7 = _ := e2
  unfold f_X12_part_l1
  dsimp only
  rw [if_pos rfl, tsig59 (T := kT B Z k) (V := kV B Z k) htr, Option.bind_some, ifp, if_neg (by rw [hT]; decide), tsig41 (T := kT B Z k) (V := kV B Z k) htr, Option.bind_some, ifp, if_pos hT, if_neg (fun z => absurd ((i_eqr (n := 0) (by omega) (by decide)).mp z) (by omega)), e1', Option.bind_some]
  dsimp only
  rw [show Int32.ofNat (-10 :: W1).length - 1 = Int32.ofNat W1.length from i_sub1, show Int32.ofNat (brk W) - 1 = Int32.ofNat (brk W1) from by rw [hb2]; exact i_sub1, show Int32.ofNat (op (-10 :: W1)) - 1 = Int32.ofNat (op W1) from i_sub1, e2', Option.bind_some]
  dsimp only
  rw [e3, Option.bind_some]
  have hl := stl_len 7 W1 R1
  have ho := stl_op 7 W1 R1
  have hbr := stl_brk 7 (by decide) W1 R1
  rw [List.length_cons] at hC
  exact ⟨_, rfl, M2, L2, Y, D, t', v', by rw [hbr], hrow2, hY, stl_stk 7 W1 _ hk1.2, hD, hsd.2, by rw [hbr]; omega, htr', by omega, by omega⟩
theorem sg_or (T : Int32) : sg T = 0 ∨ (1 ≤ rk (sg T) ∧ rk (sg T) ≤ 6 ∧ opn (sg T) = 0 ∧ ¬ sg T = -10) := by
  unfold sg
  by_cases c1 : T = 6
  · rw [if_pos c1]; decide
  rw [if_neg c1]
  by_cases c2 : T = 7
  · rw [if_pos c2]; decide
  rw [if_neg c2]
  by_cases c3 : T = 60
  · rw [if_pos c3]; decide
  rw [if_neg c3]
  by_cases c4 : T = 61
  · rw [if_pos c4]; decide
  rw [if_neg c4]
  by_cases c5 : T = 43
  · rw [if_pos c5]; decide
  rw [if_neg c5]
  by_cases c6 : T = 45
  · rw [if_pos c6]; decide
  rw [if_neg c6]
  by_cases c7 : T = 42
  · rw [if_pos c7]; decide
  rw [if_neg c7]
  left; rfl
def ncp (s c : Int32) : Int32 := if rk s = 4 then 1 else if rk s ≤ 2 then 0 else c
/-- a sign between two -/
theorem st_cmp2 (h : Rf p M0 L0 B Z k 0 b R W (1 :: C) q) (hs : rk (sg (kT B Z k)) = 4) : ∃ z, f_X12_part_l1 A I q = some (.inr (.inr z)) ∧ Fl p M0 L0 B Z k z := by
  obtain ⟨M, L, Y, D, t, v, rfl, hrow, hY, hst, hD, hsd, hC, htr, hlen, hop⟩ := h
  have hbl := brk_le W
  rw [List.length_cons] at hC
  have n59 : ¬ kT B Z k = 59 := fun e => by rw [e] at hs; exact absurd hs (by decide)
  have n41 : ¬ kT B Z k = 41 := fun e => by rw [e] at hs; exact absurd hs (by decide)
  have n0 : ¬ sg (kT B Z k) = 0 := fun e => by rw [e] at hs; exact absurd hs (by decide)
  have hd : am_at D (Int32.ofNat (brk W)) = some 1 := by
    rw [am_at_g (by omega) (by omega), show brk W = C.length from by omega, hsd.1]
  unfold f_X12_part_l1
  dsimp only
  rw [if_pos rfl, tsig59 (T := kT B Z k) (V := kV B Z k) htr, Option.bind_some, ifp, if_neg n59, tsig41 (T := kT B Z k) (V := kV B Z k) htr, Option.bind_some, ifp, if_neg n41, tsgn (T := kT B Z k) (V := kV B Z k) htr, Option.bind_some, if_neg n0, rank_eq, Option.bind_some, hs, if_pos (show Int32.ofNat 4 = 4 from rfl), hd, Option.bind_some, if_neg (by decide)]
  exact ⟨_, rfl, M, L, Y, D, _, _, _, _, _, _, R, rfl, hrow, hY, hD⟩
theorem st_sign (he : Ev A I B Z p) (hk : k < 160) (h : Rf p M0 L0 B Z k 0 b R W (c :: C) q) (hc : c = 0 ∨ c = 1) (n0 : ¬ sg (kT B Z k) = 0) (hc2 : ¬ (rk (sg (kT B Z k)) = 4 ∧ c = 1)) : ∃ q', f_X12_part_l1 A I q = some (.inl q') ∧ Rf p M0 L0 B Z (k + 1) 1 (if 3 ≤ rk (sg (kT B Z k)) then 0 else 1) (stl (rk (sg (kT B Z k))) R W).1 (sg (kT B Z k) :: (stl (rk (sg (kT B Z k))) R W).2) (ncp (sg (kT B Z k)) c :: C) q' := by
  obtain ⟨M, L, Y, D, t, v, rfl, hrow, hY, hst, hD, hsd, hC, htr, hlen, hop⟩ := h
  have hbl := brk_le W
  rw [List.length_cons] at hC
  have n59 : ¬ kT B Z k = 59 := fun e => n0 (by rw [e]; exact sg_59)
  have n41 : ¬ kT B Z k = 41 := fun e => n0 (by rw [e]; exact sg_41)
  have hd : am_at D (Int32.ofNat (brk W)) = some c := by
    rw [am_at_g (by omega) (by omega), show brk W = C.length from by omega, hsd.1]
  obtain ⟨s, hs⟩ : ∃ s, s = sg (kT B Z k) := ⟨_, rfl⟩
  have hso := sg_or (kT B Z k)
  rw [← hs] at n0 hc2 hso ⊢
  rcases hso with q | ⟨hr1, hr6, hon, h10⟩
  · exact absurd q n0
  obtain ⟨M1, L1, e1, hrow1⟩ := settle_a he (r := rk s) hr1 (by omega) hrow hst hY (by omega) (D.set (brk W) (ncp s c)) (Int32.ofNat (ps B Z (k + 1))) t v (Int32.ofNat (kB B Z k)) (Int32.ofNat (brk W))
  have hl1 := stl_len (rk s) W R
  have ho1 := stl_op (rk s) W R
  have hb1 := stl_brk (rk s) hr1 W R
  have hk1 := stl_stk (Y := Y) (rk s) W R hst
  have e2 := hold_a (A := A) (I := I) (W := (stl (rk s) R W).2) hY (by omega) s M1 L1 (D.set (brk W) (ncp s c)) (Int32.ofNat (ps B Z (k + 1))) t v (Int32.ofNat (kB B Z k)) (Int32.ofNat (brk W))
  obtain ⟨t', v', e3, htr'⟩ := next_a (k := k) he M1 L1 (Y.set (stl (rk s) R W).2.length s) (D.set (brk W) (ncp s c)) t v (Int32.ofNat (kB B Z k)) (Int32.ofNat (s :: (stl (rk s) R W).2).length) (Int32.ofNat (brk W)) (Int32.ofNat (op (s :: (stl (rk s) R W).2)))
  have hj : ((if 3 ≤ Int32.ofNat (rk s) then some 0 else some 1) : Option Int32) = some (if 3 ≤ rk s then 0 else 1) := by
    by_cases c3 : 3 ≤ rk s
    · rw [if_pos c3, if_pos ((i_lel (m := 3) (by decide) (by omega)).mpr c3)]
    · rw [if_neg c3, if_neg (fun z => c3 ((i_lel (m := 3) (by decide) (by omega)).mp z))]
  have hon' : op (s :: (stl (rk s) R W).2) ≤ 5 := by show op _ + opn s ≤ 5; omega
  have hbr' : brk (s :: (stl (rk s) R W).2) = brk W := by show brk _ + _ = _; rw [if_neg h10, hb1]; rfl
  have hfin : Rf p M0 L0 B Z (k + 1) 1 (if 3 ≤ rk s then 0 else 1) (stl (rk s) R W).1 (s :: (stl (rk s) R W).2) (ncp s c :: C) (1, (if 3 ≤ rk s then 0 else 1), M1, L1, Y.set (stl (rk s) R W).2.length s, D.set (brk W) (ncp s c), Int32.ofNat (ps B Z (k + 1 + 1)), t', v', Int32.ofNat (kB B Z (k + 1)), Int32.ofNat (s :: (stl (rk s) R W).2).length, Int32.ofNat (brk W), Int32.ofNat (op (s :: (stl (rk s) R W).2))) := by
    refine ⟨M1, L1, _, _, t', v', by rw [hbr'], hrow1, by rw [List.length_set]; exact hY, stc_push (by omega) hk1, by rw [List.length_set]; exact hD, ?_, by rw [List.length_cons, hbr']; omega, htr', by rw [List.length_cons]; omega, hon'⟩
    rw [show brk W = C.length from by omega]
    exact stc_push (by omega) hsd.2
  unfold f_X12_part_l1
  dsimp only
  rw [if_pos rfl, tsig59 (T := kT B Z k) (V := kV B Z k) htr, Option.bind_some, ifp, if_neg n59, tsig41 (T := kT B Z k) (V := kV B Z k) htr, Option.bind_some, ifp, if_neg n41, tsgn (T := kT B Z k) (V := kV B Z k) htr, Option.bind_some, ← hs, if_neg n0, rank_eq, Option.bind_some]
  by_cases c4 : rk s = 4
  · have hc0 : c = 0 := by
      rcases hc with z | z
      · exact z
      · exact absurd ⟨c4, z⟩ hc2
    have i4 : Int32.ofNat (rk s) = 4 := by rw [c4]; rfl
    have hnc : am_nar 2 1 = ncp s c := by unfold ncp; rw [if_pos c4]; rfl
    rw [if_pos i4, hd, Option.bind_some, if_pos hc0, Option.bind_some, if_pos i4, Option.bind_some, hnc, am_up_g (by omega) (by omega), Option.bind_some, rank_eq, Option.bind_some, e1, Option.bind_some]
    dsimp only
    rw [e2, Option.bind_some]
    dsimp only
    rw [rank_eq, Option.bind_some, hj, Option.bind_some, e3, Option.bind_some]
    exact ⟨_, rfl, hfin⟩
  · have i4 : ¬ Int32.ofNat (rk s) = 4 := fun z => c4 ((i_eqr (n := 4) (by omega) (by decide)).mp z)
    have hnc : ((if Int32.ofNat (rk s) ≤ 2 then some 0 else ((am_at D (Int32.ofNat (brk W))).bind fun v22 => (if v22 = 0 then some 0 else some 1))) : Option Int32) = some (ncp s c) := by
      unfold ncp
      rw [if_neg c4, hd, Option.bind_some]
      by_cases c2 : rk s ≤ 2
      · rw [if_pos c2, if_pos ((i_ler (n := 2) (by omega) (by decide)).mpr c2)]
      · rw [if_neg c2, if_neg (fun z => c2 ((i_ler (n := 2) (by omega) (by decide)).mp z))]
        rcases hc with rfl | rfl <;> rfl
    have hna : am_nar 2 (ncp s c) = ncp s c := by
      have : ncp s c = 0 ∨ ncp s c = 1 := by
        unfold ncp
        rw [if_neg c4]
        by_cases c2 : rk s ≤ 2
        · rw [if_pos c2]; exact Or.inl rfl
        · rw [if_neg c2]; exact hc
      rcases this with z | z <;> rw [z] <;> rfl
    rw [if_neg i4, Option.bind_some, if_neg i4, Option.bind_some, hnc, Option.bind_some, hna, am_up_g (by omega) (by omega), Option.bind_some, rank_eq, Option.bind_some, e1, Option.bind_some]
    dsimp only
    rw [e2, Option.bind_some]
    dsimp only
    rw [rank_eq, Option.bind_some, hj, Option.bind_some, e3, Option.bind_some]
    exact ⟨_, rfl, hfin⟩
end Step
