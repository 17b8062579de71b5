/-! ===== THE TAPE, both programs ===== -/
theorem tkr_end {T V t v : Int32} (h : tkr T V t v) : t = 0 ↔ T = 0 := by
  rcases h with ⟨rfl, h1⟩ | ⟨rfl, h1⟩ | ⟨rfl, h1, h2, -⟩ | ⟨rfl, h1, h2⟩ | ⟨h1, ⟨rfl, h2⟩ | ⟨rfl, h2⟩ | ⟨rfl, h2⟩ | ⟨rfl, h2⟩ | ⟨rfl, h2⟩⟩ | ⟨h1, h2, rfl | rfl | rfl | rfl | rfl | rfl | rfl | rfl⟩
  all_goals first | (rw [h1]; done) | (rw [h1]; decide)
def fo_ok (o : Option (List Int32)) : Prop := ∀ ys, o = some ys → ys.length ≤ 160
theorem fo_none : fo_ok none := fun ys h => by cases h
theorem fo_some {R : List Int32} (h : R.length ≤ 160) : fo_ok (some (R.map cm)) := fun ys e => by cases e; rw [List.length_map]; exact h
theorem rows_lt {p : Nat} {M L R M' L' : List Int32} (hM : M.length = 12) (hL : L.length = 1920) (h : (M' = M ∧ L' = L) ∨ rowS p M L R M' L') : M'.length = 12 ∧ L'.length = 1920 ∧ (∀ i, i < p → g M' i = g M i) ∧ ∀ i, i < 160 * p → g L' i = g L i := by
  rcases h with ⟨rfl, rfl⟩ | ⟨h1, h2, h3, h4, h5, h6⟩
  · exact ⟨hM, hL, fun _ _ => rfl, fun _ _ => rfl⟩
  · exact ⟨h1, h2, fun i hi => h5 i (by omega), fun i hi => h6 i (by omega)⟩
section Tape
variable {A : Nat → List Int32} {I : Nat → Int32} {A2 : Nat → List Int32} {I2 : Nat → Int32} {B : List Int32} {Z X : Nat}
theorem tape_both (hB : B.length = 160) (hZ : Z ≤ 160) (hA53 : A 53 = B) (hI : I 3329 = Int32.ofNat Z) (h54 : (A 54).length = 161) (h55 : (A 55).length = 161) (h56 : (A 56).length = 161) (h57 : (A 57).length = 160) (hA : A2 101 = B) (hI2 : I2 5459 = Int32.ofNat Z) (hX : I2 5460 = Int32.ofNat X) (hX6 : X < 6) (hM : (A2 103).length = 12) (hL : (A2 104).length = 1920) (hY : (A2 105).length = 161) (hD : (A2 106).length = 7) : ∃ z1 z2 q P1 P2 r0 M L Y D a t v bg h br o fo, f_X8_readTape A I = some (z1, z2, q, P1, P2) ∧ f_X12_isText A2 I2 = some (r0, M, L, Y, D, a, t, v, bg, h, br, o, fo) ∧ (q.1.length = 161 ∧ q.2.1.length = 161 ∧ q.2.2.1.length = 161 ∧ P2.1.length = 160 ∧ fo_ok P1.2.2.2.2.2 ∧ fo_ok P2.2.2.2.2.2) ∧ (M.length = 12 ∧ L.length = 1920 ∧ Y.length = 161 ∧ D.length = 7 ∧ (∀ i, i < 2 * X → g M i = g (A2 103) i) ∧ ∀ i, i < 160 * (2 * X) → g L i = g (A2 104) i) ∧ ((∃ j, z1 = Int32.ofNat (kB B Z j) ∧ r0 = 0 ∧ bg = Int32.ofNat (kB B Z j)) ∨ (z1 = -1 ∧ r0 = 1 ∧ ∃ R1 R2, P1.2.2.2.2.2 = some (R1.map cm) ∧ P2.2.2.2.2.2 = some (R2.map cm) ∧ R1.length ≤ 160 ∧ R2.length ≤ 160 ∧ rp R1 0 = some 1 ∧ rp R2 0 = some 1 ∧ g M (2 * X) = Int32.ofNat R1.length ∧ g M (2 * X + 1) = Int32.ofNat R2.length ∧ (∀ i, i < R1.length → g L (160 * (2 * X) + i) = g R1 i) ∧ ∀ i, i < R2.length → g L (160 * (2 * X + 1) + i) = g R2 i)) := by
  obtain ⟨m, q, hq, ht⟩ := tokens_eq (A := A) (I := I) hA53 hI hB hZ h54 h55 h56
  have ht' := ht
  obtain ⟨t1, t2, t3, t4, t5, t6, t7⟩ := ht'
  have hv : am_at q.1 0 = some (kT B Z 0) := by
    rw [show am_at q.1 0 = some (g q.1 0) from am_at_g (k := 0) (by omega) (by omega), (t7 0 (Nat.zero_le _)).1]
  obtain ⟨t0, v0, e0, htr0⟩ := next_eq (A := A2) (I := up I2 5464 0) (p := 0) hA hI2 rfl hB hZ (Nat.zero_le _)
  have dead2 : ∀ (c1 : List Int32) (j : Nat) (CI : Nat → Int32), c1.length = 160 → (∃ i, i ≤ 160 ∧ CI 3336 = Int32.ofNat i) → CI 3337 = 1 → CI 3338 = Int32.ofNat (kB B Z j) → rd_pd B Z j (f_X8_readPart (up (up (up (up A 54 q.1) 55 q.2.1) 56 q.2.2.1) 57 c1) CI 5) := fun c1 j CI l1 ⟨i, hi, h1⟩ h2 h3 => by
    refine pd_of (i := i) hZ l1 hi ?_
    rw [exp_dead (B := B) (j := j) hZ (a := 5) (I := up CI 3340 0) h2 h3 (by decide)]
    rw [show (up CI 3340 0) 3336 = Int32.ofNat i from h1]
  have failT : ∀ (CA : Nat → List Int32) (CI : Nat → Int32) (j : Nat), CI 3338 = Int32.ofNat (kB B Z j) → f_X8_fail CA CI = some (1, Int32.ofNat (kB B Z j)) := fun CA CI j h => by
    have hk := kB_le (B := B) (k := j) hZ
    exact rd_fail2 (by omega) h
  have s1 := isT_step (A := up (up (up A 54 q.1) 55 q.2.1) 56 q.2.2.1) (I := up (up (up (up (up I 3329 0) 3332 q.2.2.2) 3336 0) 3337 (kT B Z 0)) 3338 (-1)) (A2 := A2) (I2 := up (up (up (up I2 5464 (Int32.ofNat (lE B Z 0))) 5465 t0) 5466 v0) 5467 (Int32.ofNat (lB B Z 0))) (kk := 0) (k := 0) (h := I2 5470) (br := I2 5471) (o := I2 5472) (fo := I2 5473) hB hZ hA hI2 hX hX6 (by decide) hM hL hY hD htr0 ht (Nat.zero_le _) h57 rfl rfl rfl
  rcases s1 with ⟨j, ⟨c1, i1, s1, ep1, l1, l2, l3⟩, M', L', Y', D', a', t', v', h', br', o', fo', R, est, hrows, hY', hD'⟩ | ⟨c1, k1, R1, ep1, l1, l2, l3, l4, l5, M', L', Y', D', t', v', h', br', o', fo', est, htr1, hrow1, hY', hD'⟩
  · have ep1' : f_X8_readPart (up (up (up A 54 q.1) 55 q.2.1) 56 q.2.2.1) (up (up (up (up (up I 3329 0) 3332 q.2.2.2) 3336 0) 3337 (kT B Z 0)) 3338 (-1)) 4 = _ := ep1
    obtain ⟨c2, i2, s2, ep2, m1, m2, m3⟩ := dead2 c1 j (up (up (up (up (up (up I 3329 0) 3332 q.2.2.2) 3336 (Int32.ofNat i1)) 3337 1) 3338 (Int32.ofNat (kB B Z j))) 3340 (Int32.ofNat s1)) l1 ⟨i1, l2, rfl⟩ rfl rfl
    have er : f_X8_readTape A I = some (Int32.ofNat (kB B Z j), 1, q, (c1, Int32.ofNat i1, 1, Int32.ofNat (kB B Z j), Int32.ofNat s1, none), (c2, Int32.ofNat i2, 1, Int32.ofNat (kB B Z j), Int32.ofNat s2, none)) := by
      unfold f_X8_readTape
      rw [hq, Option.bind_some, hv, Option.bind_some, ep1', Option.bind_some]
      dsimp only
      rw [ep2, Option.bind_some]
      dsimp only
      rw [if_neg (show ¬ (1 : Int32) = 0 by decide), failT _ _ j rfl, Option.bind_some]
    have ei : f_X12_isText A2 I2 = some (0, M', L', Y', D', a', t', v', Int32.ofNat (kB B Z j), h', br', o', fo') := by
      unfold f_X12_isText
      rw [e0, Option.bind_some]
      dsimp only
      have est' : f_X12_isText_l1 A2 (up (up (up (up I2 5464 (Int32.ofNat (lE B Z 0))) 5465 t0) 5466 v0) 5467 (Int32.ofNat (lB B Z 0))) (0, A2 103, A2 104, A2 105, A2 106, Int32.ofNat (lE B Z 0), t0, v0, Int32.ofNat (lB B Z 0), I2 5470, I2 5471, I2 5472, I2 5473) = _ := est
      rw [wl_stop est', Option.bind_some]
    obtain ⟨r1, r2, r3, r4⟩ := rows_lt hM hL hrows
    exact ⟨_, _, _, _, _, _, _, _, _, _, _, _, _, _, _, _, _, _, er, ei, ⟨t2, t3, t4, m1, fo_none, fo_none⟩, ⟨r1, r2, hY', hD', r3, r4⟩, Or.inl ⟨j, rfl, rfl, rfl⟩⟩
  · have ep1' : f_X8_readPart (up (up (up A 54 q.1) 55 q.2.1) 56 q.2.2.1) (up (up (up (up (up I 3329 0) 3332 q.2.2.2) 3336 0) 3337 (kT B Z 0)) 3338 (-1)) 4 = _ := ep1
    have est' : f_X12_isText_l1 A2 (up (up (up (up I2 5464 (Int32.ofNat (lE B Z 0))) 5465 t0) 5466 v0) 5467 (Int32.ofNat (lB B Z 0))) (0, A2 103, A2 104, A2 105, A2 106, Int32.ofNat (lE B Z 0), t0, v0, Int32.ofNat (lB B Z 0), I2 5470, I2 5471, I2 5472, I2 5473) = _ := est
    obtain ⟨r1, r2, r3, r4⟩ := rows_lt hM hL (Or.inr hrow1)
    have s2 := isT_step (A := up (up (up (up A 54 q.1) 55 q.2.1) 56 q.2.2.1) 57 c1) (I := up (up (up (up (up (up I 3329 0) 3332 q.2.2.2) 3336 (Int32.ofNat (k1 + 1))) 3337 (kT B Z (k1 + 1))) 3338 (-1)) 3340 (Int32.ofNat R1.length)) (A2 := A2) (I2 := up (up (up (up I2 5464 (Int32.ofNat (lE B Z 0))) 5465 t0) 5466 v0) 5467 (Int32.ofNat (lB B Z 0))) (kk := 1) (k := k1 + 1) (h := h') (br := br') (o := o') (fo := fo') hB hZ hA hI2 hX hX6 (by decide) r1 r2 hY' hD' htr1 ht l3 l1 rfl rfl rfl
    rcases s2 with ⟨j, ⟨c2, i2, s2, ep2, m1, m2, m3⟩, M2, L2, Y2, D2, a2, t2', v2, h2, br2, o2, fo2, R, est2, hrows, hY2, hD2⟩ | ⟨c2, k2, R2, ep2, m1, m2, m3, m4, m5, M2, L2, Y2, D2, t2', v2, h2, br2, o2, fo2, est2, htr2, hrow2, hY2, hD2⟩
    · have ep2' : f_X8_readPart (up (up (up (up A 54 q.1) 55 q.2.1) 56 q.2.2.1) 57 c1) (up (up (up (up (up (up I 3329 0) 3332 q.2.2.2) 3336 (Int32.ofNat (k1 + 1))) 3337 (kT B Z (k1 + 1))) 3338 (-1)) 3340 (Int32.ofNat R1.length)) 5 = _ := ep2
      have er : f_X8_readTape A I = some (Int32.ofNat (kB B Z j), 1, q, (c1, Int32.ofNat (k1 + 1), kT B Z (k1 + 1), -1, Int32.ofNat R1.length, some (R1.map cm)), (c2, Int32.ofNat i2, 1, Int32.ofNat (kB B Z j), Int32.ofNat s2, none)) := by
        unfold f_X8_readTape
        rw [hq, Option.bind_some, hv, Option.bind_some, ep1', Option.bind_some]
        dsimp only
        rw [ep2', Option.bind_some]
        dsimp only
        rw [if_neg (show ¬ (1 : Int32) = 0 by decide), failT _ _ j rfl, Option.bind_some]
      have ei : f_X12_isText A2 I2 = some (0, M2, L2, Y2, D2, a2, t2', v2, Int32.ofNat (kB B Z j), h2, br2, o2, fo2) := by
        unfold f_X12_isText
        rw [e0, Option.bind_some]
        dsimp only
        rw [wl_sl (n := 99999) est', wl_sr (n := 99998) est2, Option.bind_some]
      obtain ⟨u1, u2, u3, u4⟩ := rows_lt r1 r2 hrows
      exact ⟨_, _, _, _, _, _, _, _, _, _, _, _, _, _, _, _, _, _, er, ei, ⟨t2, t3, t4, m1, fo_some l4, fo_none⟩, ⟨u1, u2, hY2, hD2, fun i hi => by rw [u3 i (by omega), r3 i (by omega)], fun i hi => by rw [u4 i (by omega), r4 i (by omega)]⟩, Or.inl ⟨j, rfl, rfl, rfl⟩⟩
    · have ep2' : f_X8_readPart (up (up (up (up A 54 q.1) 55 q.2.1) 56 q.2.2.1) 57 c1) (up (up (up (up (up (up I 3329 0) 3332 q.2.2.2) 3336 (Int32.ofNat (k1 + 1))) 3337 (kT B Z (k1 + 1))) 3338 (-1)) 3340 (Int32.ofNat R1.length)) 5 = _ := ep2
      obtain ⟨u1, u2, u3, u4⟩ := rows_lt r1 r2 (Or.inr hrow2)
      have est3 : f_X12_isText_l1 A2 (up (up (up (up I2 5464 (Int32.ofNat (lE B Z 0))) 5465 t0) 5466 v0) 5467 (Int32.ofNat (lB B Z 0))) (Int32.ofNat (1 + 1), M2, L2, Y2, D2, Int32.ofNat (ps B Z (k2 + 1 + 1)), t2', v2, Int32.ofNat (kB B Z (k2 + 1)), h2, br2, o2, fo2) = some (.inr (.inl (M2, L2, Y2, D2, Int32.ofNat (ps B Z (k2 + 1 + 1)), t2', v2, Int32.ofNat (kB B Z (k2 + 1)), h2, br2, o2, fo2))) := by
        unfold f_X12_isText_l1
        dsimp only
        rw [if_pos (show (2 : Int32) ≤ Int32.ofNat (1 + 1) by decide)]
      by_cases c0 : kT B Z (k2 + 1) = 0
      · have er : f_X8_readTape A I = some (-1, kT B Z (k2 + 1), q, (c1, Int32.ofNat (k1 + 1), kT B Z (k1 + 1), -1, Int32.ofNat R1.length, some (R1.map cm)), (c2, Int32.ofNat (k2 + 1), kT B Z (k2 + 1), -1, Int32.ofNat R2.length, some (R2.map cm))) := by
          unfold f_X8_readTape
          rw [hq, Option.bind_some, hv, Option.bind_some, ep1', Option.bind_some]
          dsimp only
          rw [ep2', Option.bind_some]
          dsimp only
          rw [if_pos c0]
        have ei : f_X12_isText A2 I2 = some (1, M2, L2, Y2, D2, Int32.ofNat (ps B Z (k2 + 1 + 1)), t2', v2, Int32.ofNat (kB B Z (k2 + 1)), h2, br2, o2, fo2) := by
          unfold f_X12_isText
          rw [e0, Option.bind_some]
          dsimp only
          rw [wl_sl (n := 99999) est', wl_sl (n := 99998) est2, wl_sr (n := 99997) est3, Option.bind_some]
          dsimp only
          rw [if_pos ((tkr_end htr2).mpr c0)]
        obtain ⟨w1, w2, w3, w4, w5, w6⟩ := hrow2
        exact ⟨_, _, _, _, _, _, _, _, _, _, _, _, _, _, _, _, _, _, er, ei, ⟨t2, t3, t4, m1, fo_some l4, fo_some m4⟩, ⟨u1, u2, hY2, hD2, fun i hi => by rw [u3 i (by omega), r3 i (by omega)], fun i hi => by rw [u4 i (by omega), r4 i (by omega)]⟩, Or.inr ⟨rfl, rfl, R1, R2, rfl, rfl, l4, m4, l5, m5, by rw [u3 (2 * X) (by omega)]; exact hrow1.2.2.1, w3, fun i hi => by rw [u4 _ (by omega)]; exact hrow1.2.2.2.1 i hi, w4⟩⟩
      · have hlt : k2 + 1 ≤ m := m3
        have er : f_X8_readTape A I = some (Int32.ofNat (kB B Z (k2 + 1)), 1, q, (c1, Int32.ofNat (k1 + 1), kT B Z (k1 + 1), -1, Int32.ofNat R1.length, some (R1.map cm)), (c2, Int32.ofNat (k2 + 1), kT B Z (k2 + 1), -1, Int32.ofNat R2.length, some (R2.map cm))) := by
          unfold f_X8_readTape
          rw [hq, Option.bind_some, hv, Option.bind_some, ep1', Option.bind_some]
          dsimp only
          rw [ep2', Option.bind_some]
          dsimp only
          rw [if_neg c0, rd_fail (A := up (up (up (up A 54 q.1) 55 q.2.1) 56 q.2.2.1) 57 c2) (I := up (up (up (up (up (up I 3329 0) 3332 q.2.2.2) 3336 (Int32.ofNat (k2 + 1))) 3337 (kT B Z (k2 + 1))) 3338 (-1)) 3340 (Int32.ofNat R2.length)) ht hlt rfl rfl, Option.bind_some]
        have ei : f_X12_isText A2 I2 = some (0, M2, L2, Y2, D2, Int32.ofNat (ps B Z (k2 + 1 + 1)), t2', v2, Int32.ofNat (kB B Z (k2 + 1)), h2, br2, o2, fo2) := by
          unfold f_X12_isText
          rw [e0, Option.bind_some]
          dsimp only
          rw [wl_sl (n := 99999) est', wl_sl (n := 99998) est2, wl_sr (n := 99997) est3, Option.bind_some]
          dsimp only
          rw [if_neg (fun z => c0 ((tkr_end htr2).mp z))]
        exact ⟨_, _, _, _, _, _, _, _, _, _, _, _, _, _, _, _, _, _, er, ei, ⟨t2, t3, t4, m1, fo_some l4, fo_some m4⟩, ⟨u1, u2, hY2, hD2, fun i hi => by rw [u3 i (by omega), r3 i (by omega)], fun i hi => by rw [u4 i (by omega), r4 i (by omega)]⟩, Or.inl ⟨k2 + 1, rfl, rfl, rfl⟩⟩
end Tape
