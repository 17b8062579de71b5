/-! ===== a whole TEXT, both programs ===== -/
theorem wl_sl {σ ρ : Type} {st : σ → Option (σ ⊕ ρ)} {x y : σ} {n : Nat} (h : st x = some (.inl y)) : wl st (n + 1) x = wl st n y := by
  rw [wl, h]
theorem wl_sr {σ ρ : Type} {st : σ → Option (σ ⊕ ρ)} {x : σ} {r : ρ} {n : Nat} (h : st x = some (.inr r)) : wl st (n + 1) x = some r := by
  rw [wl, h]
def prn (A0 : Nat → List Int32) (I0 : Nat → Int32) (A1 : Nat → List Int32) (I1 : Nat → Int32) (N k : Nat) (q : Q13) : Option Z12 := (wl (f_X12_part_l1 A1 I1) (N - k) q).bind (pfin A0 I0)
theorem prn_En {A0 : Nat → List Int32} {I0 : Nat → Int32} {A1 : Nat → List Int32} {I1 : Nat → Int32} {B : List Int32} {Z p N : Nat} (h0 : Ev A0 I0 B Z p) (h1 : Ev A1 I1 B Z p) (hN : 1000 ≤ N) : rd_En (prn A0 I0 A1 I1 N) A0 I0 A1 I1 B Z p := by
  refine ⟨h0, h1, fun k q q' hk e => ?_, fun k q z hk e => ?_⟩
  · unfold prn
    rw [show N - k = (N - (k + 1)) + 1 from by omega, wl_sl e]
  · unfold prn
    rw [show N - k = (N - (k + 1)) + 1 from by omega, wl_sr e]
    rfl
theorem g_mapcm {R : List Int32} {i : Nat} (h : i < R.length) : g (R.map cm) i = cm (g R i) := by
  unfold g
  rw [List.getD_eq_getElem?_getD, List.getD_eq_getElem?_getD, List.getElem?_map, List.getElem?_eq_getElem h]
  rfl
theorem cpo_eq {c R : List Int32} (hc : rd_code c R) (hl : R.length ≤ 160) : f_cpo c (Int32.ofNat R.length) = some (R.map cm) := by
  obtain ⟨c1, c2⟩ := hc
  unfold f_cpo
  by_cases h : R.length = 160
  · rw [if_pos (by rw [c1, h])]
    refine congrArg some (g_ext (by rw [List.length_map]; omega) (fun k hk => ?_))
    rw [List.length_map] at hk
    rw [c2 k hk, g_mapcm hk]
  · rw [c1, if_neg (fun z => h ((i_eq (by omega) (by omega)).mp z)), i_tn (by omega), if_neg (fun z => z.elim (i_nn (by omega)) (fun z => absurd z (by omega))), if_pos ((i_lt (by omega) (by omega)).mpr (by omega))]
    have ha : am_acq c (List.replicate R.length 0) 0 0 (Int32.ofNat R.length) = some (am_cpy c (List.replicate R.length 0) 0 0 R.length) := by
      unfold am_acq
      rw [i_tn (by omega), show (0 : Int32).toNatClampNeg = 0 from rfl, if_neg]
      rintro (z | z | z | z | z)
      · exact i_nn (by omega) z
      · exact absurd z (by decide)
      · exact absurd z (by decide)
      · omega
      · rw [List.length_replicate] at z; omega
    rw [ha, Option.bind_some]
    obtain ⟨k1, k2⟩ := g_cpy (xs := c) (ys := List.replicate R.length 0) (i := 0) (j := 0) (n := R.length) (by omega) (by rw [List.length_replicate]; omega)
    rw [List.length_replicate] at k1
    refine congrArg some (g_ext (by rw [k1, List.length_map]) (fun k hk => ?_))
    rw [List.length_map] at hk
    rw [k2 k, if_pos (by omega), show 0 + (k - 0) = k from by omega, c2 k hk, g_mapcm hk]
section Part
variable {A : Nat → List Int32} {I : Nat → Int32} {A0 : Nat → List Int32} {I0 : Nat → Int32} {B : List Int32} {Z p m k j : Nat}
theorem part_run (hE : Ev A0 I0 B Z p) (h103 : (A0 103).length = 12) (h104 : (A0 104).length = 1920) (h105 : (A0 105).length = 161) (h106 : (A0 106).length = 7) (h4 : I0 5464 = Int32.ofNat (ps B Z (k + 1))) (htr : tkr (kT B Z k) (kV B Z k) (I0 5465) (I0 5466)) (h7 : I0 5467 = Int32.ofNat (kB B Z k)) : ∃ PR A1 I1 q, rd_En PR A0 I0 A1 I1 B Z p ∧ f_X12_part A0 I0 = PR k q ∧ Rf p (A0 103) (A0 104) B Z k 1 1 [] [] [0] q := by
  have hE2 := hE
  obtain ⟨e1, e2, e3, e4, e5, e6⟩ := hE
  have u1 : am_up (A0 103) (I0 5473) 0 = some ((A0 103).set p 0) := by rw [e5]; exact am_up_g (by omega) (by omega)
  have u2 : am_up (A0 106) 0 (am_nar 2 0) = some ((A0 106).set 0 (am_nar 2 0)) := am_up_g (k := 0) (by omega) (by omega)
  refine ⟨prn A0 I0 (up (up A0 103 ((A0 103).set p 0)) 106 ((A0 106).set 0 (am_nar 2 0))) (up (up (up I0 5470 0) 5471 0) 5472 0) (100000 + k), _, _, (1, 1, (A0 103).set p 0, A0 104, A0 105, (A0 106).set 0 (am_nar 2 0), I0 5464, I0 5465, I0 5466, I0 5467, 0, 0, 0), prn_En hE2 ⟨e1, e2, e3, e4, e5, e6⟩ (by omega), ?_, ?_⟩
  · unfold f_X12_part prn
    rw [u1, Option.bind_some, u2, Option.bind_some, Nat.add_sub_cancel]
    refine congrArg _ (funext fun q => ?_)
    rcases q with ⟨e67, e68, e69, e70, e71, e72, e73, e74, e75, e76, e77⟩ | v <;> rfl
  · refine ⟨(A0 103).set p 0, A0 104, A0 105, (A0 106).set 0 (am_nar 2 0), I0 5465, I0 5466, by rw [h4, h7]; rfl, ⟨by rw [List.length_set]; exact h103, h104, g_set_eq (by omega), fun i hi => absurd hi (Nat.not_lt_zero i), fun i hi => g_set_ne hi, fun i hi => rfl⟩, h105, trivial, by rw [List.length_set]; exact h106, ⟨g_set_eq (by show 0 < (A0 106).length; omega), trivial⟩, rfl, htr, Nat.zero_le _, Nat.zero_le _⟩
def rd_pd (B : List Int32) (Z j : Nat) (o : Option ((List Int32) × Int32 × Int32 × Int32 × Int32 × Option (List Int32))) : Prop := ∃ z1 i s, o = some (z1, Int32.ofNat i, 1, Int32.ofNat (kB B Z j), Int32.ofNat s, none) ∧ z1.length = 160 ∧ i ≤ 160 ∧ s ≤ 160
theorem exp_dead (hZ : Z ≤ 160) {a : Int32} (h7 : I 3337 = 1) (h8 : I 3338 = Int32.ofNat (kB B Z j)) (ha : ¬ 1 = a) : f_X8_expect A I a = some (I 3336, 1, Int32.ofNat (kB B Z j)) := by
  have hk := kB_le (B := B) (k := j) hZ
  unfold f_X8_expect
  rw [h7, if_neg ha, rd_fail2 (n := kB B Z j) (by omega) h8, Option.bind_some]
theorem pd_of (hZ : Z ≤ 160) {a : Int32} {i : Nat} (h57 : (A 57).length = 160) (hi : i ≤ 160) (he : f_X8_expect A (up I 3340 0) a = some (Int32.ofNat i, 1, Int32.ofNat (kB B Z j))) : rd_pd B Z j (f_X8_readPart A I a) := by
  have hk := kB_le (B := B) (k := j) hZ
  obtain ⟨z1, i1, s1, e1, l1, l2, l3⟩ := dp_either (gN := (f_X8_lev 6).1) (gO := (f_X8_lev 6).2.1) (gE := (f_X8_lev 6).2.2) hZ A (up (up (up (up I 3336 (Int32.ofNat i)) 3337 1) 3338 (Int32.ofNat (kB B Z j))) 3340 0) 0 j ⟨h57, ⟨i, hi, rfl⟩, rfl, rfl, 0, Nat.zero_le _, rfl⟩
  have e1' : (f_X8_lev 7).2.2 A (up (up (up (up I 3336 (Int32.ofNat i)) 3337 1) 3338 (Int32.ofNat (kB B Z j))) 3340 0) 0 = _ := e1
  refine ⟨z1, i1, s1, ?_, l1, l2, l3⟩
  unfold f_X8_readPart
  rw [he, Option.bind_some]
  dsimp only
  rw [e1', Option.bind_some]
  dsimp only
  have e2 := exp_dead (A := up A 57 z1) (I := up (up (up (up I 3336 (Int32.ofNat i1)) 3337 1) 3338 (Int32.ofNat (kB B Z j))) 3340 (Int32.ofNat s1)) (B := B) (j := j) (a := 59) hZ rfl rfl (by decide)
  first | rw [e2, Option.bind_some] | rw [show f_X8_expect (up A 57 z1) (up (up (up (up (up (up (up (up I 3336 (Int32.ofNat i)) 3337 1) 3338 (Int32.ofNat (kB B Z j))) 3340 0) 3336 (Int32.ofNat i1)) 3337 1) 3338 (Int32.ofNat (kB B Z j))) 3340 (Int32.ofNat s1)) 59 = some (Int32.ofNat i1, 1, Int32.ofNat (kB B Z j)) from e2, Option.bind_some]
  dsimp only
  rw [if_neg (i_nm1 (by omega))]
  rfl
/-- behind the key -/
theorem key_live (hE : Ev A0 I0 B Z p) (h103 : (A0 103).length = 12) (h104 : (A0 104).length = 1920) (h105 : (A0 105).length = 161) (h106 : (A0 106).length = 7) (h4 : I0 5464 = Int32.ofNat (ps B Z (k + 1 + 1))) (htr : tkr (kT B Z (k + 1)) (kV B Z (k + 1)) (I0 5465) (I0 5466)) (h7 : I0 5467 = Int32.ofNat (kB B Z (k + 1))) (ht : toks B Z m (A 54) (A 55) (A 56)) (hk : k < m) (h57 : (A 57).length = 160) (i1 : I 3336 = Int32.ofNat k) (i2 : I 3337 = kT B Z k) (i3 : I 3338 = -1) {a : Int32} (hT : kT B Z k = a) : (∃ j y, rd_pd B Z j (f_X8_readPart A I a) ∧ f_X12_part A0 I0 = some y ∧ Fl p (A0 103) (A0 104) B Z j y) ∨ ∃ z1 k' R, f_X8_readPart A I a = some (z1, Int32.ofNat (k' + 1), kT B Z (k' + 1), -1, Int32.ofNat R.length, some (R.map cm)) ∧ z1.length = 160 ∧ k < k' ∧ k' + 1 ≤ m ∧ R.length ≤ 160 ∧ rp R 0 = some 1 ∧ ∃ M L Y D t v h br o, f_X12_part A0 I0 = some (1, M, L, Y, D, Int32.ofNat (ps B Z (k' + 1)), t, v, Int32.ofNat (kB B Z k'), h, br, o) ∧ rowS p (A0 103) (A0 104) R M L ∧ Y.length = 161 ∧ D.length = 7 := by
  have hZ := hE.2.2.2.1
  have hm := ht.1
  obtain ⟨PR, A1, I1, q, hEn, hpart, hrf⟩ := part_run (k := k + 1) hE h103 h104 h105 h106 h4 htr h7
  have ex : f_X8_expect A (up I 3340 0) a = some (Int32.ofNat (k + 1), kT B Z (k + 1), -1) := by
    unfold f_X8_expect
    rw [if_pos (show (up I 3340 0) 3337 = a from i2.trans hT), rd_adv (A := A) (I := up I 3340 0) ht hk i1, Option.bind_some]
    dsimp only
    rw [show (up I 3340 0) 3338 = -1 from i3]
  have key := (gd_lev (m := m) hEn 7).2.2 A (up (up (up (up I 3336 (Int32.ofNat (k + 1))) 3337 (kT B Z (k + 1))) 3338 (-1)) 3340 0) (k + 1) [] [] [] 1 0 q ht hk ⟨⟨h57, fun i hi => absurd hi (Nat.not_lt_zero i)⟩, rfl, rfl, rfl, rfl⟩ hrf (Or.inr rfl) (Or.inl rfl) (by decide) ⟨rfl, rfl, trivial⟩
  rcases key with ⟨j, y, ⟨z1, i, s, e, l1, l2, l3⟩, e2, fl⟩ | ⟨z1, k', R', Rq, Wq, b', c', q2, e, hcode2, hk2, hkm2, hPR2, hrf2, hc2, hst2, hpost2, hrp2⟩
  · left
    refine ⟨j, y, ⟨z1, i, s, ?_, l1, l2, l3⟩, by rw [hpart, e2], fl⟩
    have hkj := kB_le (B := B) (k := j) hZ
    unfold f_X8_readPart
    rw [ex, Option.bind_some]
    dsimp only
    have e' : (f_X8_lev 7).2.2 A (up (up (up (up I 3336 (Int32.ofNat (k + 1))) 3337 (kT B Z (k + 1))) 3338 (-1)) 3340 0) 0 = _ := e
    rw [e', Option.bind_some]
    dsimp only
    have e3 := exp_dead (A := up A 57 z1) (I := up (up (up (up (up (up (up (up I 3336 (Int32.ofNat (k + 1))) 3337 (kT B Z (k + 1))) 3338 (-1)) 3340 0) 3336 (Int32.ofNat i)) 3337 1) 3338 (Int32.ofNat (kB B Z j))) 3340 (Int32.ofNat s)) (B := B) (j := j) (a := 59) hZ rfl rfl (by decide)
    first | rw [e3, Option.bind_some] | rw [show f_X8_expect (up A 57 z1) (up (up (up (up I 3336 (Int32.ofNat i)) 3337 1) 3338 (Int32.ofNat (kB B Z j))) 3340 (Int32.ofNat s)) 59 = some (Int32.ofNat i, 1, Int32.ofNat (kB B Z j)) from e3, Option.bind_some]
    dsimp only
    rw [if_neg (i_nm1 (by omega))]
  · have e' : (f_X8_lev 7).2.2 A (up (up (up (up I 3336 (Int32.ofNat (k + 1))) 3337 (kT B Z (k + 1))) 3338 (-1)) 3340 0) 0 = some (z1, Int32.ofNat k', kT B Z k', -1, Int32.ofNat R'.length) := e
    have hst3 : stl 1 Rq Wq = (R', []) := by rw [hst2]; rfl
    have hbr : brk Wq = 0 := by
      have := stl_brk 1 (by decide) Wq Rq
      rw [hst3] at this
      exact this.symm
    have hlen2 := (rf_inf hrf2).1
    have hl4 := stl_len 1 Wq Rq
    rw [hst3] at hl4
    dsimp only at hl4
    have hRl : R'.length ≤ 160 := by
      have : ([] : List Int32).length = 0 := rfl
      omega
    have hcode3 : rd_code z1 R' := hcode2
    by_cases c59 : kT B Z k' = 59
    · right
      have hlt2 : k' < m := rd_lt ht hkm2 (by rw [c59]; decide) (by rw [c59]; decide)
      refine ⟨z1, k', R', ?_, hcode2.1, by omega, hlt2, hRl, hrp2 0 (by decide), ?_⟩
      · have e3 : f_X8_expect (up A 57 z1) (up (up (up (up I 3336 (Int32.ofNat k')) 3337 (kT B Z k')) 3338 (-1)) 3340 (Int32.ofNat R'.length)) 59 = some (Int32.ofNat (k' + 1), kT B Z (k' + 1), -1) := by
          unfold f_X8_expect
          rw [if_pos (show (up (up (up (up I 3336 (Int32.ofNat k')) 3337 (kT B Z k')) 3338 (-1)) 3340 (Int32.ofNat R'.length)) 3337 = 59 from c59), rd_adv (A := up A 57 z1) ht hlt2 rfl, Option.bind_some]
          rfl
        unfold f_X8_readPart
        rw [ex, Option.bind_some]
        dsimp only
        rw [e', Option.bind_some]
        dsimp only
        first | rw [e3, Option.bind_some] | rw [show f_X8_expect (up A 57 z1) (up (up (up (up (up (up (up (up I 3336 (Int32.ofNat (k + 1))) 3337 (kT B Z (k + 1))) 3338 (-1)) 3340 0) 3336 (Int32.ofNat k')) 3337 (kT B Z k')) 3338 (-1)) 3340 (Int32.ofNat R'.length)) 59 = some (Int32.ofNat (k' + 1), kT B Z (k' + 1), -1) from e3, Option.bind_some]
        dsimp only
        rw [if_pos rfl, cpo_eq hcode3 hRl, Option.bind_some]
      · obtain ⟨M, L, Y, D, t, v, e1, hrow, hY, hst, hD, hlen⟩ := st_end (A := A1) (I := I1) hrf2 c59
        obtain ⟨M', L', e2, hrow'⟩ := settle_a hEn.1 (r := 1) (by decide) (by decide) hrow hst hY (by omega) D (Int32.ofNat (ps B Z (k' + 1))) t v (Int32.ofNat (kB B Z k')) (Int32.ofNat (brk Wq))
        have e2' : f_X12_settle (a4 A0 M L Y D) (i7 I0 (Int32.ofNat (ps B Z (k' + 1))) t v (Int32.ofNat (kB B Z k')) (Int32.ofNat Wq.length) (Int32.ofNat (brk Wq)) (Int32.ofNat (op Wq))) 1 = _ := e2
        rw [hst3] at hrow'
        have ef : f_X12_part A0 I0 = some (1, M', L', Y, D, Int32.ofNat (ps B Z (k' + 1)), t, v, Int32.ofNat (kB B Z k'), Int32.ofNat (stl 1 Rq Wq).2.length, Int32.ofNat (brk Wq), Int32.ofNat (op (stl 1 Rq Wq).2)) := by
          rw [hpart, hPR2, hEn.2.2.2 k' q2 _ (by omega) e1]
          unfold pfin
          dsimp only
          rw [e2', Option.bind_some, if_pos (by rw [hbr]; rfl)]
        exact ⟨M', L', Y, D, t, v, _, _, _, ef, hrow', hY, hD⟩
    · left
      obtain ⟨y, e3, fl⟩ := end_bad hEn (by omega) hrf2 hpost2 (fun _ => hbr) (fun z => absurd z c59)
      have hkj := kB_le (B := B) (k := k') hZ
      refine ⟨k', y, ⟨z1, k', R'.length, ?_, hcode2.1, by omega, hRl⟩, by rw [hpart, hPR2, e3], fl⟩
      have e4 : f_X8_expect (up A 57 z1) (up (up (up (up I 3336 (Int32.ofNat k')) 3337 (kT B Z k')) 3338 (-1)) 3340 (Int32.ofNat R'.length)) 59 = some (Int32.ofNat k', 1, Int32.ofNat (kB B Z k')) := by
        unfold f_X8_expect
        rw [if_neg (show ¬ (up (up (up (up I 3336 (Int32.ofNat k')) 3337 (kT B Z k')) 3338 (-1)) 3340 (Int32.ofNat R'.length)) 3337 = 59 from c59), rd_fail (A := up A 57 z1) ht hkm2 rfl rfl, Option.bind_some]
        rfl
      unfold f_X8_readPart
      rw [ex, Option.bind_some]
      dsimp only
      rw [e', Option.bind_some]
      dsimp only
      first | rw [e4, Option.bind_some] | rw [show f_X8_expect (up A 57 z1) (up (up (up (up (up (up (up (up I 3336 (Int32.ofNat (k + 1))) 3337 (kT B Z (k + 1))) 3338 (-1)) 3340 0) 3336 (Int32.ofNat k')) 3337 (kT B Z k')) 3338 (-1)) 3340 (Int32.ofNat R'.length)) 59 = some (Int32.ofNat k', 1, Int32.ofNat (kB B Z k')) from e4, Option.bind_some]
      dsimp only
      rw [if_neg (i_nm1 (by omega))]
end Part
section Text
variable {A : Nat → List Int32} {I : Nat → Int32} {A2 : Nat → List Int32} {I2 : Nat → Int32} {B M L Y D : List Int32} {Z m k X kk : Nat} {t v h br o fo : Int32}
theorem tkeyk (hk : kk < 2) {T V : Int32} (h : tkr T V (I 5465) (I 5466)) : f_X12_isKey A I (Int32.ofNat kk) = some (if T = Int32.ofNat (4 + kk) then 1 else 0) := by
  rcases (show kk = 0 ∨ kk = 1 by omega) with rfl | rfl
  · exact tkey0 h
  · exact tkey1 h
theorem isT_step (hB : B.length = 160) (hZ : Z ≤ 160) (hA : A2 101 = B) (hI : I2 5459 = Int32.ofNat Z) (hX : I2 5460 = Int32.ofNat X) (hX6 : X < 6) (hkk : kk < 2) (hM : M.length = 12) (hL : L.length = 1920) (hY : Y.length = 161) (hD : D.length = 7) (htr : tkr (kT B Z k) (kV B Z k) t v) (ht : toks B Z m (A 54) (A 55) (A 56)) (hk : k ≤ m) (h57 : (A 57).length = 160) (i1 : I 3336 = Int32.ofNat k) (i2 : I 3337 = kT B Z k) (i3 : I 3338 = -1) : (∃ j, rd_pd B Z j (f_X8_readPart A I (Int32.ofNat (4 + kk))) ∧ ∃ M' L' Y' D' a' t' v' h' br' o' fo' R, f_X12_isText_l1 A2 I2 (Int32.ofNat kk, M, L, Y, D, Int32.ofNat (ps B Z (k + 1)), t, v, Int32.ofNat (kB B Z k), h, br, o, fo) = some (.inr (.inr (0, M', L', Y', D', a', t', v', Int32.ofNat (kB B Z j), h', br', o', fo'))) ∧ ((M' = M ∧ L' = L) ∨ rowS (2 * X + kk) M L R M' L') ∧ Y'.length = 161 ∧ D'.length = 7) ∨ ∃ z1 k' R, f_X8_readPart A I (Int32.ofNat (4 + kk)) = some (z1, Int32.ofNat (k' + 1), kT B Z (k' + 1), -1, Int32.ofNat R.length, some (R.map cm)) ∧ z1.length = 160 ∧ k < k' ∧ k' + 1 ≤ m ∧ R.length ≤ 160 ∧ rp R 0 = some 1 ∧ ∃ M' L' Y' D' t' v' h' br' o' fo', f_X12_isText_l1 A2 I2 (Int32.ofNat kk, M, L, Y, D, Int32.ofNat (ps B Z (k + 1)), t, v, Int32.ofNat (kB B Z k), h, br, o, fo) = some (.inl (Int32.ofNat (kk + 1), M', L', Y', D', Int32.ofNat (ps B Z (k' + 1 + 1)), t', v', Int32.ofNat (kB B Z (k' + 1)), h', br', o', fo')) ∧ tkr (kT B Z (k' + 1)) (kV B Z (k' + 1)) t' v' ∧ rowS (2 * X + kk) M L R M' L' ∧ Y'.length = 161 ∧ D'.length = 7 := by
  have hm := ht.1
  have n2 : ¬ (2 : Int32) ≤ Int32.ofNat kk := nge (n := 2) (by decide) hkk
  have hn1 : ¬ Int32.ofNat (4 + kk) = 1 := fun z => absurd ((i_eqr (n := 1) (by omega) (by decide)).mp z) (by omega)
  have hn0 : ¬ Int32.ofNat (4 + kk) = 0 := fun z => absurd ((i_eqr (n := 0) (by omega) (by decide)).mp z) (by omega)
  have hkey := tkeyk (A := up (up (up (up A2 103 M) 104 L) 105 Y) 106 D) (I := up (up (up (up (up (up (up (up I2 5464 (Int32.ofNat (ps B Z (k + 1)))) 5465 t) 5466 v) 5467 (Int32.ofNat (kB B Z k))) 5470 h) 5471 br) 5472 o) 5473 fo) hkk (T := kT B Z k) (V := kV B Z k) htr
  by_cases hT : kT B Z k = Int32.ofNat (4 + kk)
  · have hlt : k < m := rd_lt ht hk (by rw [hT]; exact hn0) (by rw [hT]; exact hn1)
    obtain ⟨t1, v1, e1, htr1⟩ := next_eq (A := up (up (up (up A2 103 M) 104 L) 105 Y) 106 D) (I := up (up (up (up (up (up (up (up I2 5464 (Int32.ofNat (ps B Z (k + 1)))) 5465 t) 5466 v) 5467 (Int32.ofNat (kB B Z k))) 5470 h) 5471 br) 5472 o) 5473 fo) (p := ps B Z (k + 1)) hA hI rfl hB hZ (ps_le B Z (k + 1))
    have hof : (2 : Int32) * I2 5460 + Int32.ofNat kk = Int32.ofNat (2 * X + kk) := by rw [hX, show (2 : Int32) * Int32.ofNat X = Int32.ofNat (2 * X) from i_mull (m := 2), i_add]
    have key := key_live (A0 := up (up (up (up A2 103 M) 104 L) 105 Y) 106 D) (I0 := up (up (up (up (up (up (up (up I2 5464 (Int32.ofNat (ps B Z (k + 1 + 1)))) 5465 t1) 5466 v1) 5467 (Int32.ofNat (kB B Z (k + 1)))) 5470 h) 5471 br) 5472 o) 5473 ((2 : Int32) * I2 5460 + Int32.ofNat kk)) (p := 2 * X + kk) ⟨hA, hI, hB, hZ, hof, by omega⟩ hM hL hY hD rfl htr1 rfl ht hlt h57 i1 i2 i3 hT
    rcases key with ⟨j, y, hpd, e2, fl⟩ | ⟨z1, k', R, e2, l1, l2, l3, l4, l5, M', L', Y', D', t', v', h', br', o', e3, hrow, hY', hD'⟩
    · left
      obtain ⟨M', L', Y', D', a', t', v', h', br', o', R, rfl, hrow, hY', hD'⟩ := fl
      refine ⟨j, hpd, M', L', Y', D', a', t', v', h', br', o', (2 : Int32) * I2 5460 + Int32.ofNat kk, R, ?_, Or.inr hrow, hY', hD'⟩
      unfold f_X12_isText_l1
      dsimp only
      rw [if_neg n2, hkey, Option.bind_some, ifp, if_pos hT, e1, Option.bind_some]
      dsimp only
      have e2' : f_X12_part (up (up (up (up A2 103 M) 104 L) 105 Y) 106 D) (up (up (up (up (up (up (up (up I2 5464 (Int32.ofNat (lE B Z (ps B Z (k + 1))))) 5465 t1) 5466 v1) 5467 (Int32.ofNat (lB B Z (ps B Z (k + 1))))) 5470 h) 5471 br) 5472 o) 5473 ((2 : Int32) * I2 5460 + Int32.ofNat kk)) = _ := e2
      rw [e2', Option.bind_some]
      dsimp only
      rw [if_pos rfl]
    · right
      obtain ⟨t3, v3, e4, htr3⟩ := next_eq (A := up (up (up (up A2 103 M') 104 L') 105 Y') 106 D') (I := up (up (up (up (up (up (up (up I2 5464 (Int32.ofNat (ps B Z (k' + 1)))) 5465 t') 5466 v') 5467 (Int32.ofNat (kB B Z k'))) 5470 h') 5471 br') 5472 o') 5473 ((2 : Int32) * I2 5460 + Int32.ofNat kk)) (p := ps B Z (k' + 1)) hA hI rfl hB hZ (ps_le B Z (k' + 1))
      refine ⟨z1, k', R, e2, l1, l2, l3, l4, l5, M', L', Y', D', t3, v3, h', br', o', (2 : Int32) * I2 5460 + Int32.ofNat kk, ?_, htr3, hrow, hY', hD'⟩
      unfold f_X12_isText_l1
      dsimp only
      rw [if_neg n2, hkey, Option.bind_some, ifp, if_pos hT, e1, Option.bind_some]
      dsimp only
      have e3' : f_X12_part (up (up (up (up A2 103 M) 104 L) 105 Y) 106 D) (up (up (up (up (up (up (up (up I2 5464 (Int32.ofNat (lE B Z (ps B Z (k + 1))))) 5465 t1) 5466 v1) 5467 (Int32.ofNat (lB B Z (ps B Z (k + 1))))) 5470 h) 5471 br) 5472 o) 5473 ((2 : Int32) * I2 5460 + Int32.ofNat kk)) = _ := e3
      rw [e3', Option.bind_some]
      dsimp only
      rw [if_neg (show ¬ (1 : Int32) = 0 by decide), e4, Option.bind_some]
      dsimp only
      rw [show Int32.ofNat kk + 1 = Int32.ofNat (kk + 1) from i_addr (n := 1)]
      rfl
  · left
    refine ⟨k, pd_of (i := k) hZ h57 (by omega) ?_, M, L, Y, D, Int32.ofNat (ps B Z (k + 1)), t, v, h, br, o, fo, [], ?_, Or.inl ⟨rfl, rfl⟩, hY, hD⟩
    · unfold f_X8_expect
      rw [if_neg (show ¬ (up I 3340 0) 3337 = Int32.ofNat (4 + kk) from fun z => hT (i2.symm.trans z)), rd_fail (A := A) (I := up I 3340 0) ht hk i1 i3, Option.bind_some]
      dsimp only
      rw [show (up I 3340 0) 3336 = Int32.ofNat k from i1]
    · unfold f_X12_isText_l1
      dsimp only
      rw [if_neg n2, hkey, Option.bind_some, ifp, if_neg hT]
end Text
