/-! ===== the levels of an E, both programs (by wip/whole/gen_t6.py) ===== -/
abbrev P7 : Int32 → Int32 → Int32 → List Int32 → Prop := fun b _ T _ => b = 0 ∨ ¬ T = 8
abbrev Q7 : Int32 → Int32 → Int32 → Prop := fun c c' _ => c' = c
abbrev P6 : Int32 → Int32 → Int32 → List Int32 → Prop := fun b _ T W => (b = 0 ∨ ¬ T = 8) ∧ tp 6 W
abbrev Q6 : Int32 → Int32 → Int32 → Prop := fun c c' T => c' = c ∧ ¬ T = 42
abbrev P5 : Int32 → Int32 → Int32 → List Int32 → Prop := fun b _ T W => (b = 0 ∨ ¬ T = 8) ∧ tp 5 W
abbrev Q5 : Int32 → Int32 → Int32 → Prop := fun c c' T => c' = c ∧ ¬ T = 42 ∧ ¬ T = 43 ∧ ¬ T = 45
abbrev P3 : Int32 → Int32 → Int32 → List Int32 → Prop := fun b c _ W => b = 1 ∧ c = 0 ∧ tp 4 W
abbrev Q3 : Int32 → Int32 → Int32 → Prop := fun _ c' T => (¬ T = 42 ∧ ¬ T = 43 ∧ ¬ T = 45) ∧ (c' = 1 ∨ (¬ T = 60 ∧ ¬ T = 61))
abbrev P2 : Int32 → Int32 → Int32 → List Int32 → Prop := fun b c _ W => b = 1 ∧ c = 0 ∧ tp 2 W
abbrev Q2 : Int32 → Int32 → Int32 → Prop := fun c c' T => Q3 c c' T ∧ ¬ T = 7
abbrev P1 : Int32 → Int32 → Int32 → List Int32 → Prop := fun b c _ W => b = 1 ∧ c = 0 ∧ tp 1 W
abbrev Q1 : Int32 → Int32 → Int32 → Prop := fun c c' T => Q2 c c' T ∧ ¬ T = 6
def cdT (T : Int32) : Option Int32 := if T = 42 then some (-15) else none
def cdS (T : Int32) : Option Int32 := if T = 43 then some (-13) else if T = 45 then some (-14) else none
def cdB (T : Int32) : Option Int32 := if T = 7 then some (-10) else none
def cdE (T : Int32) : Option Int32 := if T = 6 then some (-9) else none
section Lpf
variable {gN gO gE : am_OrX}
theorem lpf_readTerm : f_X8_readTerm gN gO gE = lpf (f_X8_readOne gN gO gE) cdT := by
  funext A I a
  have hl : ∀ (A : Nat → List Int32) (I : Nat → Int32), f_X8_readTerm_l1 gN gO gE A I a = lpg (f_X8_readOne gN gO gE) cdT A I a := fun A I => by
    funext ⟨s2, s3, s4, s5, s6, s7⟩
    unfold f_X8_readTerm_l1 lpg cdT
    dsimp only
    by_cases h1 : 160 ≤ s2
    · rw [if_pos h1, if_pos h1]
    rw [if_neg h1, if_neg h1]
    by_cases h2 : s5 = 42
    · rw [if_pos h2, if_pos h2]
    · rw [if_neg h2, if_neg h2]
  unfold f_X8_readTerm lpf
  refine congrArg _ (funext fun r1 => ?_)
  rw [hl]
theorem lpf_readBoth : f_X8_readBoth gN gO gE = lpf (f_X8_readNot gN gO gE) cdB := by
  funext A I a
  have hl : ∀ (A : Nat → List Int32) (I : Nat → Int32), f_X8_readBoth_l1 gN gO gE A I a = lpg (f_X8_readNot gN gO gE) cdB A I a := fun A I => by
    funext ⟨s2, s3, s4, s5, s6, s7⟩
    unfold f_X8_readBoth_l1 lpg cdB
    dsimp only
    by_cases h1 : 160 ≤ s2
    · rw [if_pos h1, if_pos h1]
    rw [if_neg h1, if_neg h1]
    by_cases h2 : s5 = 7
    · rw [if_pos h2, if_pos h2]
    · rw [if_neg h2, if_neg h2]
  unfold f_X8_readBoth lpf
  refine congrArg _ (funext fun r1 => ?_)
  rw [hl]
theorem lpf_readEither : f_X8_readEither gN gO gE = lpf (f_X8_readBoth gN gO gE) cdE := by
  funext A I a
  have hl : ∀ (A : Nat → List Int32) (I : Nat → Int32), f_X8_readEither_l1 gN gO gE A I a = lpg (f_X8_readBoth gN gO gE) cdE A I a := fun A I => by
    funext ⟨s2, s3, s4, s5, s6, s7⟩
    unfold f_X8_readEither_l1 lpg cdE
    dsimp only
    by_cases h1 : 160 ≤ s2
    · rw [if_pos h1, if_pos h1]
    rw [if_neg h1, if_neg h1]
    by_cases h2 : s5 = 6
    · rw [if_pos h2, if_pos h2]
    · rw [if_neg h2, if_neg h2]
  unfold f_X8_readEither lpf
  refine congrArg _ (funext fun r1 => ?_)
  rw [hl]
theorem lpf_readSum : f_X8_readSum gN gO gE = lpf (f_X8_readTerm gN gO gE) cdS := by
  funext A I a
  have hl : ∀ (A : Nat → List Int32) (I : Nat → Int32), f_X8_readSum_l1 gN gO gE A I a = lpg (f_X8_readTerm gN gO gE) cdS A I a := fun A I => by
    funext ⟨s2, s3, s4, s5, s6, s7⟩
    unfold f_X8_readSum_l1 lpg cdS
    dsimp only
    by_cases h1 : 160 ≤ s2
    · rw [if_pos h1, if_pos h1]
    rw [if_neg h1, if_neg h1]
    by_cases h2 : s5 = 43
    · rw [if_pos h2, if_pos h2, if_pos h2, Option.bind_some]
    · rw [if_neg h2, if_neg h2]
      by_cases h3 : s5 = 45
      · rw [if_pos h3, if_pos h3, if_neg h2, Option.bind_some]
      · rw [if_neg h3, if_neg h3, if_neg h2]
  unfold f_X8_readSum lpf
  refine congrArg _ (funext fun r1 => ?_)
  rw [hl]
end Lpf
section Dead
variable {B : List Int32} {Z : Nat} {gN gO gE : am_OrX}
theorem dp_one (hZ : Z ≤ 160) : rd_Dp B Z (f_X8_readOne gN gO gE) := fun A I a j hd => by
  obtain ⟨h1, ⟨i, hi, h2⟩, h3, h4, s, hs, h5⟩ := hd
  have hk := kB_le (B := B) (k := j) hZ
  refine ⟨A 57, i, s, ?_, h1, hi, hs⟩
  unfold f_X8_readOne
  rw [h3, if_neg (by decide), if_neg (by decide), if_neg (by decide), if_neg (by decide), rd_fail2 (by omega) h4, Option.bind_some, h2, h5]
theorem dp_not (h : rd_Dp B Z (f_X8_readSum gN gO gE)) : rd_Dp B Z (f_X8_readNot gN gO gE) := fun A I a j hd => by
  obtain ⟨z1, i, s, e, l1, l2, l3⟩ := h A I a j hd
  refine ⟨z1, i, s, ?_, l1, l2, l3⟩
  unfold f_X8_readNot
  rw [hd.2.2.1, if_neg (by decide), e, Option.bind_some]
  dsimp only
  rw [if_neg (by decide), if_neg (by decide)]
theorem dp_either (hZ : Z ≤ 160) : rd_Dp B Z (f_X8_readEither gN gO gE) := by
  rw [lpf_readEither]
  refine dp_loop ?_ (by decide)
  rw [lpf_readBoth]
  refine dp_loop (dp_not ?_) (by decide)
  rw [lpf_readSum]
  refine dp_loop ?_ (by decide)
  rw [lpf_readTerm]
  exact dp_loop (dp_one hZ) (by decide)
end Dead
section Lev
variable {PR : Nat → Q13 → Option Z12} {A0 : Nat → List Int32} {I0 : Nat → Int32} {A1 : Nat → List Int32} {I1 : Nat → Int32} {B M0 L0 : List Int32} {Z p m n : Nat} {gN gO gE : am_OrX}
theorem tkr_num {T V t v : Int32} (h : tkr T V t v) (hT : T = 2 ∨ T = 3) : V = cm (mv T V) ∧ 0 ≤ mv T V ∧ mv T V ≤ 10005 := by
  rcases h with ⟨h0, -⟩ | ⟨h0, -⟩ | ⟨h0, -, -, d, hd, h2⟩ | ⟨h0, -, h2⟩ | ⟨-, h0⟩ | ⟨-, -, h0⟩
  · rw [h0] at hT; exact absurd hT (by decide)
  · rw [h0] at hT; exact absurd hT (by decide)
  · have hz : (0 : Int32) ≤ Int32.ofNat d := Int32.zero_le_ofNat_of_lt (by omega)
    have e : mv T V = Int32.ofNat d := by unfold mv; rw [h0, if_pos rfl, h2]
    rw [e, h2]
    refine ⟨?_, hz, (i_ler (n := 10005) (by omega) (by decide)).mpr (by omega)⟩
    unfold cm
    rw [if_neg (n10k (by omega)), if_pos hz]
  · rw [h0]
    rcases h2 with ⟨r1, -⟩ | ⟨r1, -⟩ | ⟨r1, -⟩ | ⟨r1, -⟩ | ⟨r1, -⟩ | ⟨r1, -⟩ <;> rw [r1] <;> decide
  · rcases h0 with ⟨h0, -⟩ | ⟨h0, -⟩ | ⟨h0, -⟩ | ⟨h0, -⟩ | ⟨h0, -⟩ <;> rw [h0] at hT <;> exact absurd hT (by decide)
  · rcases h0 with h0 | h0 | h0 | h0 | h0 | h0 | h0 | h0 <;> rw [h0] at hT <;> exact absurd hT (by decide)
theorem rf_inf {k : Nat} {w b : Int32} {R W C : List Int32} {q : Q13} (h : Rf p M0 L0 B Z k w b R W C q) : R.length + W.length ≤ k ∧ op W ≤ 5 ∧ C.length = brk W + 1 ∧ ∃ t v, tkr (kT B Z k) (kV B Z k) t v := by
  obtain ⟨M, L, Y, D, t, v, -, -, -, -, -, -, hC, htr, hlen, hop⟩ := h
  exact ⟨hlen, hop, hC, t, v, htr⟩
theorem sg_0 {T : Int32} (h1 : ¬ T = 6) (h2 : ¬ T = 7) (h3 : ¬ T = 60) (h4 : ¬ T = 61) (h5 : ¬ T = 43) (h6 : ¬ T = 45) (h7 : ¬ T = 42) : sg T = 0 := by
  unfold sg
  rw [if_neg h1, if_neg h2, if_neg h3, if_neg h4, if_neg h5, if_neg h6, if_neg h7]
/-- behind a whole E: nothing but what the E is followed by -/
theorem end_bad (hE : rd_En PR A0 I0 A1 I1 B Z p) {k : Nat} {b c c0 : Int32} {R W C : List Int32} {q : Q13} (hk : k ≤ 160) (hrf : Rf p M0 L0 B Z k 0 b R W (c :: C) q) (hq : Q1 c0 c (kT B Z k)) (h41 : kT B Z k = 41 → brk W = 0) (h59 : kT B Z k = 59 → ¬ brk W = 0) : ∃ y, PR k q = some y ∧ Fl p M0 L0 B Z k y := by
  obtain ⟨⟨⟨⟨q1, q2, q3⟩, q4⟩, q5⟩, q6⟩ := hq
  obtain ⟨i1, i2, i3, -⟩ := rf_inf hrf
  by_cases c59 : kT B Z k = 59
  · obtain ⟨M, L, Y, D, t, v, e1, hrow, hY, hst, hD, hlen⟩ := st_end (A := A1) (I := I1) hrf c59
    obtain ⟨M', L', e2, hrow'⟩ := settle_a hE.1 (r := 1) (by decide) (by decide) hrow hst hY (by omega) D (Int32.ofNat (ps B Z (k + 1))) t v (Int32.ofNat (kB B Z k)) (Int32.ofNat (brk W))
    have e2' : f_X12_settle (a4 A0 M L Y D) (i7 I0 (Int32.ofNat (ps B Z (k + 1))) t v (Int32.ofNat (kB B Z k)) (Int32.ofNat W.length) (Int32.ofNat (brk W)) (Int32.ofNat (op W))) 1 = _ := e2
    have hbl := brk_le W
    rw [hE.2.2.2 k q _ (by omega) e1]
    unfold pfin
    dsimp only
    rw [e2', Option.bind_some, if_neg (fun z => h59 c59 ((i_eqr (n := 0) (by omega) (by decide)).mp z))]
    exact ⟨_, rfl, M', L', Y, D, _, _, _, _, _, _, _, rfl, hrow', hY, hD⟩
  · have fin : ∀ {z}, f_X12_part_l1 A1 I1 q = some (.inr (.inr z)) → Fl p M0 L0 B Z k z → ∃ y, PR k q = some y ∧ Fl p M0 L0 B Z k y := fun e1 fl => ⟨_, by rw [hE.2.2.2 k q _ (by omega) e1]; rfl, fl⟩
    by_cases c41 : kT B Z k = 41
    · obtain ⟨z, e1, fl⟩ := st_no (A := A1) (I := I1) hrf (Or.inl ⟨c41, h41 c41⟩)
      exact fin e1 fl
    rcases q4 with q4 | ⟨q4, q7⟩
    · by_cases c60 : kT B Z k = 60 ∨ kT B Z k = 61
      · rw [q4] at hrf
        obtain ⟨z, e1, fl⟩ := st_cmp2 (A := A1) (I := I1) hrf (by rcases c60 with c | c <;> rw [c] <;> decide)
        exact fin e1 fl
      · obtain ⟨z, e1, fl⟩ := st_no (A := A1) (I := I1) hrf (Or.inr ⟨c59, c41, sg_0 q6 q5 (fun z => c60 (Or.inl z)) (fun z => c60 (Or.inr z)) q2 q3 q1⟩)
        exact fin e1 fl
    · obtain ⟨z, e1, fl⟩ := st_no (A := A1) (I := I1) hrf (Or.inr ⟨c59, c41, sg_0 q6 q5 q4 q7 q2 q3 q1⟩)
      exact fin e1 fl
theorem may_1 {A : Nat → List Int32} {I : Nat → Int32} {k u : Nat} (ht : toks B Z m (A 54) (A 55) (A 56)) (hk : k < m) (h1 : I 3336 = Int32.ofNat k) (h3 : I 3338 = -1) (hu : u < 5) : f_X8_mayOpen A I (Int32.ofNat u) = some (1, Int32.ofNat (k + 1), kT B Z (k + 1), -1) := by
  unfold f_X8_mayOpen
  rw [if_pos ((i_ltr (n := 5) (by omega) (by decide)).mpr hu), rd_adv ht hk h1, Option.bind_some, h3]
theorem may_0 {A : Nat → List Int32} {I : Nat → Int32} {k : Nat} (ht : toks B Z m (A 54) (A 55) (A 56)) (hk : k ≤ m) (h1 : I 3336 = Int32.ofNat k) (h3 : I 3338 = -1) : f_X8_mayOpen A I (Int32.ofNat 5) = some (0, Int32.ofNat k, 1, Int32.ofNat (kB B Z k)) := by
  unfold f_X8_mayOpen
  rw [if_neg (by decide), rd_fail ht hk h1 h3, Option.bind_some, h1]
theorem gd_one (hE : rd_En PR A0 I0 A1 I1 B Z p) (hO : rd_Gd PR p M0 L0 B Z m n gO 7 1 P7 Q7) (hEi : rd_Gd PR p M0 L0 B Z m n gE 1 6 P1 Q1) : rd_Gd PR p M0 L0 B Z m (n + 1) (f_X8_readOne gN gO gE) 7 1 P7 Q7 := by
  intro A I k R W C b c q ht hk hlv hrf hb hc hn hpre
  obtain ⟨hcode, i1, i2, i3, i4⟩ := hlv
  obtain ⟨hlen, hopW, hCl, t, v, htr⟩ := rf_inf hrf
  have hm := ht.1
  have hZ := hE.1.2.2.2.1
  have ha : Int32.ofNat (op W) + 1 = Int32.ofNat (op W + 1) := i_addr (n := 1)
  have bad : ∀ {z}, f_X12_part_l1 A1 I1 q = some (.inr (.inr z)) → Fl p M0 L0 B Z k z → ∃ y, PR k q = some y ∧ Fl p M0 L0 B Z k y := fun e1 fl => ⟨_, by rw [hE.2.2.2 k q _ (by omega) e1]; rfl, fl⟩
  have hRs : R.length ≤ 160 := by omega
  by_cases c2 : kT B Z k = 2 ∨ kT B Z k = 3
  · right
    have hlt : k < m := rd_lt ht hk (fun z => by rw [z] at c2; exact absurd c2 (by decide)) (fun z => by rw [z] at c2; exact absurd c2 (by decide))
    obtain ⟨v1, v2, v3⟩ := tkr_num htr c2
    obtain ⟨q', e1, hrf'⟩ := st_one hE.2.1 (by omega) hrf hb c2
    have hPR := hE.2.2.1 k q q' (by omega) e1
    have e56 : am_at (A 56) (Int32.ofNat k) = some (kV B Z k) := by
      rw [am_at_g (by rw [ht.2.2.2.1]; omega) (by rw [ht.2.2.2.1]; omega), (ht.2.2.2.2.2.2 k hk).2.2 c2]
    obtain ⟨ew, hcw⟩ := rd_write (A := A) (I := I) hcode i4 (by omega) v1
    refine ⟨_, k + 1, [mv (kT B Z k) (kV B Z k)], _, _, b, c, q', ?_, hcw, by omega, hlt, hPR, hrf', hc, stl_stl (Nat.le_refl 7) W _, rfl, fun n hn => rp_num v2 v3 (by omega)⟩
    unfold f_X8_readOne
    rw [i2]
    rcases c2 with c2 | c2
    · rw [if_pos c2, i1, e56, Option.bind_some, ew, Option.bind_some]
      dsimp only
      rw [rd_adv (A := up A 57 _) (I := up I 3340 _) ht hlt i1, Option.bind_some, i3]
    · rw [if_neg (by rw [c2]; decide), if_pos c2, i1, e56, Option.bind_some, ew, Option.bind_some]
      dsimp only
      rw [rd_adv (A := up A 57 _) (I := up I 3340 _) ht hlt i1, Option.bind_some, i3]
  have n2 : ¬ kT B Z k = 2 := fun z => c2 (Or.inl z)
  have n3 : ¬ kT B Z k = 3 := fun z => c2 (Or.inr z)
  by_cases c45 : kT B Z k = 45
  · have hlt : k < m := rd_lt ht hk (by rw [c45]; decide) (by rw [c45]; decide)
    by_cases ho : op W < 5
    · obtain ⟨q', e1, hrf'⟩ := st_held hE.2.1 (by omega) hrf hb ho (s := -9) (b' := 0) (C' := c :: C) (Or.inr (Or.inl ⟨c45, rfl, rfl, rfl⟩))
      have hPR := hE.2.2.1 k q q' (by omega) e1
      have hop : op (-9 :: W) = op W + 1 := rfl
      have key := hO A (up (up (up I 3336 (Int32.ofNat (k + 1))) 3337 (kT B Z (k + 1))) 3338 (-1)) (k + 1) R (-9 :: W) C 0 c q' ht hlt ⟨hcode, rfl, rfl, rfl, i4⟩ hrf' (Or.inl rfl) hc (by rw [hop]; omega) (Or.inl rfl)
      rw [hop] at key
      rcases key with ⟨j, y, ⟨z1, i, s, e, l1, l2, l3⟩, e2, fl⟩ | ⟨z1, k', R', Rq, Wq, b', c', q2, e, hcode2, hk2, hkm2, hPR2, hrf2, hc2, hst2, hpost2, hrp2⟩
      · left
        obtain ⟨c8, s8, e7, l4, l5⟩ := rd_write2 (A := up A 57 z1) (I := up (up (up (up (up (up (up I 3336 (Int32.ofNat (k + 1))) 3337 (kT B Z (k + 1))) 3338 (-1)) 3336 (Int32.ofNat i)) 3337 1) 3338 (Int32.ofNat (kB B Z j))) 3340 (Int32.ofNat s)) l1 rfl l3 (-8)
        refine ⟨j, y, ⟨c8, i, s8, ?_, l4, l2, l5⟩, by rw [hPR, e2], fl⟩
        unfold f_X8_readOne
        rw [i2, if_neg n2, if_neg n3, if_pos c45, may_1 ht hlt i1 i3 ho, Option.bind_some]
        dsimp only
        rw [if_neg (show ¬ (1 : Int32) = 0 by decide), ha, e, Option.bind_some]
        dsimp only
        rw [show f_X8_write (up A 57 z1) (up (up (up (up I 3336 (Int32.ofNat i)) 3337 1) 3338 (Int32.ofNat (kB B Z j))) 3340 (Int32.ofNat s)) (-8) = some (c8, Int32.ofNat s8) from e7, Option.bind_some]
      · right
        have hlen2 := (rf_inf hrf2).1
        have hl4 := stl_len 7 Wq Rq
        have hst3 : stl 7 Rq Wq = stl 7 (R ++ (R' ++ [-9])) W := by
          rw [hst2]
          show (if 7 ≤ rk (-9) then stl 7 (R ++ R' ++ [-9]) W else _) = _
          rw [if_pos (by decide), List.append_assoc]
        have hl5 := stl_len 7 W (R ++ (R' ++ [-9]))
        rw [← hst3, hl4] at hl5
        simp only [List.length_append, List.length_singleton] at hl5
        obtain ⟨ew, hcw⟩ := rd_write (A := up A 57 z1) (I := up (up (up (up I 3336 (Int32.ofNat k')) 3337 (kT B Z k')) 3338 (-1)) 3340 (Int32.ofNat (R ++ R').length)) (w := -9) (v := -8) hcode2 rfl (by simp only [List.length_append]; omega) (by decide)
        rw [List.append_assoc] at hcw ew
        refine ⟨_, k', R' ++ [-9], Rq, Wq, b', c', q2, ?_, hcw, by omega, hkm2, by rw [hPR, hPR2], hrf2, hc2, hst3, hpost2, fun n hn => ?_⟩
        · unfold f_X8_readOne
          rw [i2, if_neg n2, if_neg n3, if_pos c45, may_1 ht hlt i1 i3 ho, Option.bind_some]
          dsimp only
          rw [if_neg (show ¬ (1 : Int32) = 0 by decide), ha, e, Option.bind_some]
          dsimp only
          rw [ew, Option.bind_some]
        · rw [rp_app, hrp2 n (by rw [hop]; omega), Option.bind_some]
          exact rp_un (Or.inr rfl) (by omega)
    · left
      have h5 : op W = 5 := by omega
      obtain ⟨z, e1, fl⟩ := st_bad (A := A1) (I := I1) hrf hb ⟨n2, n3, Or.inl h5⟩
      obtain ⟨y, e2, fl2⟩ := bad e1 fl
      refine ⟨k, y, ⟨A 57, k, R.length, ?_, hcode.1, by omega, hRs⟩, e2, fl2⟩
      unfold f_X8_readOne
      rw [i2, if_neg n2, if_neg n3, if_pos c45, h5, may_0 ht hk i1 i3, Option.bind_some]
      dsimp only
      rw [if_pos rfl, i4]
  by_cases c40 : kT B Z k = 40
  · have hlt : k < m := rd_lt ht hk (by rw [c40]; decide) (by rw [c40]; decide)
    by_cases ho : op W < 5
    · obtain ⟨q', e1, hrf'⟩ := st_held hE.2.1 (by omega) hrf hb ho (s := -10) (b' := 1) (C' := 0 :: c :: C) (Or.inr (Or.inr ⟨c40, rfl, rfl, rfl⟩))
      have hPR := hE.2.2.1 k q q' (by omega) e1
      have hop : op (-10 :: W) = op W + 1 := rfl
      have htp : tp 1 (-10 :: W) := by show rk (-10) < 1; decide
      have key := hEi A (up (up (up I 3336 (Int32.ofNat (k + 1))) 3337 (kT B Z (k + 1))) 3338 (-1)) (k + 1) R (-10 :: W) (c :: C) 1 0 q' ht hlt ⟨hcode, rfl, rfl, rfl, i4⟩ hrf' (Or.inr rfl) (Or.inl rfl) (by rw [hop]; omega) ⟨rfl, rfl, htp⟩
      rw [hop] at key
      rcases key with ⟨j, y, ⟨z1, i, s, e, l1, l2, l3⟩, e2, fl⟩ | ⟨z1, k', R', Rq, Wq, b', c', q2, e, hcode2, hk2, hkm2, hPR2, hrf2, hc2, hst2, hpost2, hrp2⟩
      · left
        have hkj := kB_le (B := B) (k := j) hZ
        refine ⟨j, y, ⟨z1, i, s, ?_, l1, l2, l3⟩, by rw [hPR, e2], fl⟩
        unfold f_X8_readOne
        rw [i2, if_neg n2, if_neg n3, if_neg c45, if_pos c40, may_1 ht hlt i1 i3 ho, Option.bind_some]
        dsimp only
        rw [if_neg (show ¬ (1 : Int32) = 0 by decide), ha, e, Option.bind_some]
        dsimp only
        have ex : f_X8_expect (up A 57 z1) (up (up (up (up I 3336 (Int32.ofNat i)) 3337 1) 3338 (Int32.ofNat (kB B Z j))) 3340 (Int32.ofNat s)) 41 = some (Int32.ofNat i, 1, Int32.ofNat (kB B Z j)) := by
          unfold f_X8_expect
          rw [if_neg (show ¬ ((up (up (up (up I 3336 (Int32.ofNat i)) 3337 1) 3338 (Int32.ofNat (kB B Z j))) 3340 (Int32.ofNat s)) 3337) = 41 from show ¬ (1 : Int32) = 41 by decide), rd_fail2 (n := kB B Z j) (by omega) rfl, Option.bind_some]
          rfl
        first | rw [ex, Option.bind_some] | (have ex2 := ex; exact (by simpa using ex2))
      · have hst3 : stl 1 Rq Wq = (R ++ R', -10 :: W) := by rw [hst2, stl_id htp]
        by_cases c41 : kT B Z k' = 41
        · right
          have hlt2 : k' < m := rd_lt ht hkm2 (by rw [c41]; decide) (by rw [c41]; decide)
          obtain ⟨q3, e3, hrf3⟩ := st_close hE.2.1 (by omega) hrf2 c41 hst3
          have hPR3 := hE.2.2.1 k' q2 q3 (by omega) e3
          refine ⟨z1, k' + 1, R', _, _, b', c, q3, ?_, hcode2, by omega, hlt2, by rw [hPR, hPR2, hPR3], hrf3, hc, stl_stl (Nat.le_refl 7) W _, rfl, fun n hn => hrp2 n (by rw [hop]; omega)⟩
          unfold f_X8_readOne
          rw [i2, if_neg n2, if_neg n3, if_neg c45, if_pos c40, may_1 ht hlt i1 i3 ho, Option.bind_some]
          dsimp only
          rw [if_neg (show ¬ (1 : Int32) = 0 by decide), ha, e, Option.bind_some]
          dsimp only
          have ex : f_X8_expect (up A 57 z1) (up (up (up (up I 3336 (Int32.ofNat k')) 3337 (kT B Z k')) 3338 (-1)) 3340 (Int32.ofNat (R ++ R').length)) 41 = some (Int32.ofNat (k' + 1), kT B Z (k' + 1), -1) := by
            unfold f_X8_expect
            rw [if_pos (show ((up (up (up (up I 3336 (Int32.ofNat k')) 3337 (kT B Z k')) 3338 (-1)) 3340 (Int32.ofNat (R ++ R').length)) 3337) = 41 from c41), rd_adv (A := up A 57 z1) ht hlt2 rfl, Option.bind_some]
            rfl
          rw [ex, Option.bind_some]
        · left
          have hbr : brk Wq = brk W + 1 := by
            have := stl_brk 1 (by decide) Wq Rq
            rw [hst3] at this
            exact this.symm
          obtain ⟨y, e3, fl⟩ := end_bad hE (by omega) hrf2 hpost2 (fun z => absurd z c41) (fun _ => by omega)
          refine ⟨k', y, ⟨z1, k', (R ++ R').length, ?_, hcode2.1, by omega, ?_⟩, by rw [hPR, hPR2, e3], fl⟩
          · unfold f_X8_readOne
            rw [i2, if_neg n2, if_neg n3, if_neg c45, if_pos c40, may_1 ht hlt i1 i3 ho, Option.bind_some]
            dsimp only
            rw [if_neg (show ¬ (1 : Int32) = 0 by decide), ha, e, Option.bind_some]
            dsimp only
            have ex : f_X8_expect (up A 57 z1) (up (up (up (up I 3336 (Int32.ofNat k')) 3337 (kT B Z k')) 3338 (-1)) 3340 (Int32.ofNat (R ++ R').length)) 41 = some (Int32.ofNat k', 1, Int32.ofNat (kB B Z k')) := by
              unfold f_X8_expect
              rw [if_neg (show ¬ ((up (up (up (up I 3336 (Int32.ofNat k')) 3337 (kT B Z k')) 3338 (-1)) 3340 (Int32.ofNat (R ++ R').length)) 3337) = 41 from c41), rd_fail (A := up A 57 z1) ht hkm2 rfl rfl, Option.bind_some]
              rfl
            rw [ex, Option.bind_some]
          · have hl := (rf_inf hrf2).1
            have hl4 := stl_len 1 Wq Rq
            rw [hst3] at hl4
            dsimp only at hl4
            omega
    · left
      have h5 : op W = 5 := by omega
      obtain ⟨z, e1, fl⟩ := st_bad (A := A1) (I := I1) hrf hb ⟨n2, n3, Or.inl h5⟩
      obtain ⟨y, e2, fl2⟩ := bad e1 fl
      refine ⟨k, y, ⟨A 57, k, R.length, ?_, hcode.1, by omega, hRs⟩, e2, fl2⟩
      unfold f_X8_readOne
      rw [i2, if_neg n2, if_neg n3, if_neg c45, if_pos c40, h5, may_0 ht hk i1 i3, Option.bind_some]
      dsimp only
      rw [if_pos rfl, i4]
  · left
    obtain ⟨z, e1, fl⟩ := st_bad (A := A1) (I := I1) hrf hb ⟨n2, n3, Or.inr ⟨hpre, c40, c45⟩⟩
    obtain ⟨y, e2, fl2⟩ := bad e1 fl
    refine ⟨k, y, ⟨A 57, k, R.length, ?_, hcode.1, by omega, hRs⟩, e2, fl2⟩
    unfold f_X8_readOne
    rw [i2, if_neg n2, if_neg n3, if_neg c45, if_neg c40, rd_fail ht hk i1 i3, Option.bind_some, i1, i4]
theorem gd_not (hE : rd_En PR A0 I0 A1 I1 B Z p) (hN : rd_Gd PR p M0 L0 B Z m n gN 3 4 P3 Q3) (hS : rd_Gd PR p M0 L0 B Z m (n + 1) (f_X8_readSum gN gO gE) 5 3 P5 Q5) : rd_Gd PR p M0 L0 B Z m (n + 1) (f_X8_readNot gN gO gE) 3 4 P3 Q3 := by
  intro A I k R W C b c q ht hk hlv hrf hb hc hn hpre
  have hlv0 := hlv
  obtain ⟨hb1, hc0, htp⟩ := hpre
  obtain ⟨hcode, i1, i2, i3, i4⟩ := hlv
  obtain ⟨hlen, hopW, hCl, t, v, htr⟩ := rf_inf hrf
  have hm := ht.1
  have hZ := hE.1.2.2.2.1
  have ha : Int32.ofNat (op W) + 1 = Int32.ofNat (op W + 1) := i_addr (n := 1)
  have hRs : R.length ≤ 160 := by omega
  by_cases c8 : kT B Z k = 8
  · have hlt : k < m := rd_lt ht hk (by rw [c8]; decide) (by rw [c8]; decide)
    by_cases ho : op W < 5
    · obtain ⟨q', e1, hrf'⟩ := st_held hE.2.1 (by omega) hrf hb ho (s := -3) (b' := b) (C' := c :: C) (Or.inl ⟨c8, hb1, rfl, rfl, rfl⟩)
      have hPR := hE.2.2.1 k q q' (by omega) e1
      have hop : op (-3 :: W) = op W + 1 := rfl
      have key := hN A (up (up (up I 3336 (Int32.ofNat (k + 1))) 3337 (kT B Z (k + 1))) 3338 (-1)) (k + 1) R (-3 :: W) C b c q' ht hlt ⟨hcode, rfl, rfl, rfl, i4⟩ hrf' hb hc (by rw [hop]; omega) ⟨hb1, hc0, by show rk (-3) < 4; decide⟩
      rw [hop] at key
      rcases key with ⟨j, y, ⟨z1, i, s, e, l1, l2, l3⟩, e2, fl⟩ | ⟨z1, k', R', Rq, Wq, b', c', q2, e, hcode2, hk2, hkm2, hPR2, hrf2, hc2, hst2, hpost2, hrp2⟩
      · left
        obtain ⟨c9, s8, e7, l4, l5⟩ := rd_write2 (A := up A 57 z1) (I := up (up (up (up I 3336 (Int32.ofNat i)) 3337 1) 3338 (Int32.ofNat (kB B Z j))) 3340 (Int32.ofNat s)) l1 rfl l3 (-7)
        refine ⟨j, y, ⟨c9, i, s8, ?_, l4, l2, l5⟩, by rw [hPR, e2], fl⟩
        unfold f_X8_readNot
        rw [i2, if_pos c8, may_1 ht hlt i1 i3 ho, Option.bind_some]
        dsimp only
        rw [if_neg (show ¬ (1 : Int32) = 0 by decide), ha, e, Option.bind_some]
        dsimp only
        rw [e7, Option.bind_some]
      · right
        have hlen2 := (rf_inf hrf2).1
        have hl4 := stl_len 3 Wq Rq
        have hst3 : stl 3 Rq Wq = stl 3 (R ++ (R' ++ [-3])) W := by
          rw [hst2]
          show (if 3 ≤ rk (-3) then stl 3 (R ++ R' ++ [-3]) W else _) = _
          rw [if_pos (by decide), List.append_assoc]
        have hl5 := stl_len 3 W (R ++ (R' ++ [-3]))
        rw [← hst3, hl4] at hl5
        simp only [List.length_append, List.length_singleton] at hl5
        obtain ⟨ew, hcw⟩ := rd_write (A := up A 57 z1) (I := up (up (up (up I 3336 (Int32.ofNat k')) 3337 (kT B Z k')) 3338 (-1)) 3340 (Int32.ofNat (R ++ R').length)) (w := -3) (v := -7) hcode2 rfl (by simp only [List.length_append]; omega) (by decide)
        rw [List.append_assoc] at hcw ew
        refine ⟨_, k', R' ++ [-3], Rq, Wq, b', c', q2, ?_, hcw, by omega, hkm2, by rw [hPR, hPR2], hrf2, hc2, hst3, hpost2, fun n hn => ?_⟩
        · unfold f_X8_readNot
          rw [i2, if_pos c8, may_1 ht hlt i1 i3 ho, Option.bind_some]
          dsimp only
          rw [if_neg (show ¬ (1 : Int32) = 0 by decide), ha, e, Option.bind_some]
          dsimp only
          rw [ew, Option.bind_some]
        · rw [rp_app, hrp2 n (by rw [hop]; omega), Option.bind_some]
          exact rp_un (Or.inl rfl) (by omega)
    · left
      have h5 : op W = 5 := by omega
      obtain ⟨z, e1, fl⟩ := st_bad (A := A1) (I := I1) hrf hb ⟨by rw [c8]; decide, by rw [c8]; decide, Or.inl h5⟩
      refine ⟨k, z, ⟨A 57, k, R.length, ?_, hcode.1, by omega, hRs⟩, by rw [hE.2.2.2 k q _ (by omega) e1]; rfl, fl⟩
      unfold f_X8_readNot
      rw [i2, if_pos c8, h5, may_0 ht hk i1 i3, Option.bind_some]
      dsimp only
      rw [if_pos rfl, i4]
  · have key := hS A I k R W C b c q ht hk hlv0 hrf hb hc hn ⟨Or.inr c8, tp_mono htp (by decide)⟩
    rcases key with ⟨j, y, ⟨z1, i, s, e, l1, l2, l3⟩, e2, fl⟩ | ⟨z1, k', R', Rq, Wq, b', c', q2, e, hcode2, hk2, hkm2, hPR2, hrf2, hc2, hst2, ⟨hp1, hp2⟩, hrp2⟩
    · left
      refine ⟨j, y, ⟨z1, i, s, ?_, l1, l2, l3⟩, e2, fl⟩
      unfold f_X8_readNot
      rw [i2, if_neg c8, e, Option.bind_some]
      dsimp only
      rw [if_neg (by decide), if_neg (by decide)]
    · by_cases c6 : kT B Z k' = 60 ∨ kT B Z k' = 61
      · have hlt2 : k' < m := rd_lt ht hkm2 (fun z => by rw [z] at c6; exact absurd c6 (by decide)) (fun z => by rw [z] at c6; exact absurd c6 (by decide))
        have hs4 : rk (sg (kT B Z k')) = 4 := by rcases c6 with c6 | c6 <;> rw [c6] <;> decide
        have hopn : opn (sg (kT B Z k')) = 0 := by rcases c6 with c6 | c6 <;> rw [c6] <;> decide
        have n0 : ¬ sg (kT B Z k') = 0 := by rcases c6 with c6 | c6 <;> rw [c6] <;> decide
        obtain ⟨j2, hj2, hj3⟩ : ∃ j2 : Int32, ((if kT B Z k' = 60 then some (-11) else some (-12)) : Option Int32) = some j2 ∧ j2 = cm (sg (kT B Z k')) := by
          rcases c6 with c6 | c6
          · exact ⟨-11, by rw [c6]; rfl, by rw [c6]; decide⟩
          · exact ⟨-12, by rw [c6]; rfl, by rw [c6]; decide⟩
        have hbin := sg_bin n0
        have hst5 : stl 5 (R ++ R') W = (R ++ R', W) := stl_id (tp_mono htp (by decide))
        have hst4 : stl 4 Rq Wq = (R ++ R', W) := by rw [← stl_stl (show 4 ≤ 5 by decide) Wq Rq, hst2, stl_stl (by decide), stl_id htp]
        have hc'0 : c' = 0 := by rw [hp1, hc0]
        obtain ⟨q3, e3, hrf3⟩ := st_sign hE.2.1 (show k' < 160 by omega) hrf2 hc2 n0 (fun z => by rw [hc'0] at z; exact absurd z.2 (by decide))
        obtain ⟨s, hs⟩ : ∃ s, s = sg (kT B Z k') := ⟨_, rfl⟩
        rw [← hs] at hrf3 hs4 hopn n0 hj3 hbin
        rw [hs4, hst4] at hrf3
        dsimp only at hrf3
        rw [if_pos (by decide : 3 ≤ 4), show ncp s c' = 1 from by unfold ncp; rw [if_pos hs4]] at hrf3
        have hPR3 := hE.2.2.1 k' q2 q3 (by omega) e3
        have hop2 : op (s :: W) = op W := by show op W + opn s = op W; omega
        have htp5 : tp 5 (s :: W) := by show rk s < 5; omega
        have key2 := hS (up A 57 z1) (up (up (up (up I 3336 (Int32.ofNat (k' + 1))) 3337 (kT B Z (k' + 1))) 3338 (-1)) 3340 (Int32.ofNat (R ++ R').length)) (k' + 1) (R ++ R') (s :: W) C 0 1 q3 ht hlt2 ⟨hcode2, rfl, rfl, rfl, rfl⟩ hrf3 (Or.inl rfl) (Or.inr rfl) (by rw [hop2]; exact hn) ⟨Or.inl rfl, htp5⟩
        rw [hop2] at key2
        have ead : f_X8_advance (up A 57 z1) (up (up (up (up I 3336 (Int32.ofNat k')) 3337 (kT B Z k')) 3338 (-1)) 3340 (Int32.ofNat (R ++ R').length)) = some (Int32.ofNat (k' + 1), kT B Z (k' + 1)) := rd_adv (A := up A 57 z1) ht hlt2 rfl
        rcases key2 with ⟨j, y, ⟨z2, i, s9, e5, l1, l2, l3⟩, e6, fl⟩ | ⟨z2, k3, R3, Rq3, Wq3, b3, c3, q4, e5, hcode3, hk3, hkm3, hPR4, hrf4, hc4, hst6, ⟨hp3, hp4⟩, hrp3⟩
        · left
          obtain ⟨c9, s8, e7, l4, l5⟩ := rd_write2 (A := up A 57 z2) (I := up (up (up (up I 3336 (Int32.ofNat i)) 3337 1) 3338 (Int32.ofNat (kB B Z j))) 3340 (Int32.ofNat s9)) l1 rfl l3 j2
          have e7' : f_X8_write (up (up A 57 z1) 57 z2) (up (up (up (up (up (up (up (up I 3336 (Int32.ofNat (k' + 1))) 3337 (kT B Z (k' + 1))) 3338 (-1)) 3340 (Int32.ofNat (R ++ R').length)) 3336 (Int32.ofNat i)) 3337 1) 3338 (Int32.ofNat (kB B Z j))) 3340 (Int32.ofNat s9)) j2 = some (c9, Int32.ofNat s8) := e7
          refine ⟨j, y, ⟨c9, i, s8, ?_, l4, l2, l5⟩, by rw [hPR2, hPR3, e6], fl⟩
          unfold f_X8_readNot
          rw [i2, if_neg c8, e, Option.bind_some]
          dsimp only
          rcases c6 with c6' | c6'
          · rw [if_pos c6', hj2, Option.bind_some, ead, Option.bind_some]
            dsimp only
            rw [e5, Option.bind_some]
            dsimp only
            first | rw [e7, Option.bind_some] | rw [e7', Option.bind_some]
          · rw [if_neg (by rw [c6']; decide), if_pos c6', hj2, Option.bind_some, ead, Option.bind_some]
            dsimp only
            rw [e5, Option.bind_some]
            dsimp only
            first | rw [e7, Option.bind_some] | rw [e7', Option.bind_some]
        · right
          have hst7 : stl 3 Rq3 Wq3 = stl 3 (R ++ (R' ++ R3 ++ [s])) W := by
            rw [← stl_stl (show 3 ≤ 5 by decide) Wq3 Rq3, hst6, stl_stl (by decide)]
            show (if 3 ≤ rk s then stl 3 (R ++ R' ++ R3 ++ [s]) W else _) = _
            rw [if_pos (by omega), List.append_assoc, List.append_assoc, List.append_assoc]
          have hlen3 := (rf_inf hrf4).1
          have hl4 := stl_len 3 Wq3 Rq3
          have hl5 := stl_len 3 W (R ++ (R' ++ R3 ++ [s]))
          rw [← hst7, hl4] at hl5
          simp only [List.length_append, List.length_singleton] at hl5
          have hap : R ++ R' ++ R3 ++ [s] = R ++ (R' ++ R3 ++ [s]) := by rw [List.append_assoc, List.append_assoc, List.append_assoc]
          obtain ⟨ew, hcw⟩ := rd_write (A := up A 57 z2) (I := up (up (up (up I 3336 (Int32.ofNat k3)) 3337 (kT B Z k3)) 3338 (-1)) 3340 (Int32.ofNat (R ++ R' ++ R3).length)) (w := s) (v := j2) hcode3 rfl (by simp only [List.length_append]; omega) hj3
          rw [hap] at hcw ew
          have ew' : f_X8_write (up (up A 57 z1) 57 z2) (up (up (up (up (up (up (up (up I 3336 (Int32.ofNat (k' + 1))) 3337 (kT B Z (k' + 1))) 3338 (-1)) 3340 (Int32.ofNat (R ++ R').length)) 3336 (Int32.ofNat k3)) 3337 (kT B Z k3)) 3338 (-1)) 3340 (Int32.ofNat (R ++ R' ++ R3).length)) j2 = _ := ew
          refine ⟨_, k3, R' ++ R3 ++ [s], Rq3, Wq3, b3, c3, q4, ?_, hcw, by omega, hkm3, by rw [hPR2, hPR3, hPR4], hrf4, hc4, hst7, ⟨hp4, Or.inl hp3⟩, fun n hn => ?_⟩
          · unfold f_X8_readNot
            rw [i2, if_neg c8, e, Option.bind_some]
            dsimp only
            rcases c6 with c6' | c6'
            · rw [if_pos c6', hj2, Option.bind_some, ead, Option.bind_some]
              dsimp only
              rw [e5, Option.bind_some]
              dsimp only
              first | rw [ew, Option.bind_some]; done | rw [ew', Option.bind_some]; done
            · rw [if_neg (by rw [c6']; decide), if_pos c6', hj2, Option.bind_some, ead, Option.bind_some]
              dsimp only
              rw [e5, Option.bind_some]
              dsimp only
              first | rw [ew, Option.bind_some]; done | rw [ew', Option.bind_some]; done
          · rw [rp_app, rp_app, hrp2 n (by omega), Option.bind_some, hrp3 (n + 1) (by rw [hop2]; omega), Option.bind_some]
            exact rp_bin hbin.1 hbin.2.1 hbin.2.2
      · right
        have n60 : ¬ kT B Z k' = 60 := fun z => c6 (Or.inl z)
        have n61 : ¬ kT B Z k' = 61 := fun z => c6 (Or.inr z)
        refine ⟨z1, k', R', Rq, Wq, b', c', q2, ?_, hcode2, hk2, hkm2, hPR2, hrf2, hc2, by rw [← stl_stl (show 3 ≤ 5 by decide) Wq Rq, hst2, stl_stl (by decide)], ⟨hp2, Or.inr ⟨n60, n61⟩⟩, fun n hn => hrp2 n (by omega)⟩
        unfold f_X8_readNot
        rw [i2, if_neg c8, e, Option.bind_some]
        dsimp only
        rw [if_neg n60, if_neg n61]
theorem cd_T : ∀ T v, cdT T = some v → ¬ sg T = 0 ∧ rk (sg T) = 6 ∧ v = cm (sg T) ∧ ¬ T = 0 := fun T v h => by
  unfold cdT at h
  by_cases c : T = 42
  · rw [if_pos c] at h; cases h; rw [c]; decide
  · rw [if_neg c] at h; cases h
theorem cd_S : ∀ T v, cdS T = some v → ¬ sg T = 0 ∧ rk (sg T) = 5 ∧ v = cm (sg T) ∧ ¬ T = 0 := fun T v h => by
  unfold cdS at h
  by_cases c : T = 43
  · rw [if_pos c] at h; cases h; rw [c]; decide
  rw [if_neg c] at h
  by_cases c : T = 45
  · rw [if_pos c] at h; cases h; rw [c]; decide
  · rw [if_neg c] at h; cases h
theorem cd_B : ∀ T v, cdB T = some v → ¬ sg T = 0 ∧ rk (sg T) = 2 ∧ v = cm (sg T) ∧ ¬ T = 0 := fun T v h => by
  unfold cdB at h
  by_cases c : T = 7
  · rw [if_pos c] at h; cases h; rw [c]; decide
  · rw [if_neg c] at h; cases h
theorem cd_E : ∀ T v, cdE T = some v → ¬ sg T = 0 ∧ rk (sg T) = 1 ∧ v = cm (sg T) ∧ ¬ T = 0 := fun T v h => by
  unfold cdE at h
  by_cases c : T = 6
  · rw [if_pos c] at h; cases h; rw [c]; decide
  · rw [if_neg c] at h; cases h
theorem cd_none {T t v : Int32} (h : (if T = t then some v else none : Option Int32) = none) : ¬ T = t := fun e => by
  rw [if_pos e] at h; cases h
theorem ncp_hi {s c : Int32} (h : rk s = 5 ∨ rk s = 6) : ncp s c = c := by
  unfold ncp
  rw [if_neg (by omega), if_neg (by omega)]
theorem ncp_lo {s c : Int32} (h : rk s = 1 ∨ rk s = 2) : ncp s c = 0 := by
  unfold ncp
  rw [if_neg (by omega), if_pos (by omega)]
theorem gd_lev (hE : rd_En PR A0 I0 A1 I1 B Z p) : ∀ n, rd_Gd PR p M0 L0 B Z m n (f_X8_lev n).1 3 4 P3 Q3 ∧ rd_Gd PR p M0 L0 B Z m n (f_X8_lev n).2.1 7 1 P7 Q7 ∧ rd_Gd PR p M0 L0 B Z m n (f_X8_lev n).2.2 1 6 P1 Q1
  | 0 => by
    refine ⟨?_, ?_, ?_⟩ <;> intro A I k R W C b c q ht hk hlv hrf hb hc hn hpre <;> (have := (rf_inf hrf).2.1; omega)
  | n + 1 => by
    obtain ⟨hN, hO, hEi⟩ := gd_lev hE n
    have h7 : rd_Gd PR p M0 L0 B Z m (n + 1) (f_X8_readOne (f_X8_lev n).1 (f_X8_lev n).2.1 (f_X8_lev n).2.2) 7 1 P7 Q7 := gd_one hE hO hEi
    have h6 : rd_Gd PR p M0 L0 B Z m (n + 1) (f_X8_readTerm (f_X8_lev n).1 (f_X8_lev n).2.1 (f_X8_lev n).2.2) 6 2 P6 Q6 := by
      rw [lpf_readTerm]
      exact gd_loop (J := fun c c' _ => c' = c) hE h7 (by decide) cd_T (by decide) (by decide) (fun b c T W h => h) (fun s c T W h => Or.inl rfl) (fun c c' T h => h) (fun s c c' T c2 T2 h h1 h2 => by have h2 : c2 = ncp s c' := h2; rw [h2, ncp_hi (Or.inr h)]; exact h1) (fun c c' T h h2 => ⟨h, cd_none h2⟩)
    have h5 : rd_Gd PR p M0 L0 B Z m (n + 1) (f_X8_readSum (f_X8_lev n).1 (f_X8_lev n).2.1 (f_X8_lev n).2.2) 5 3 P5 Q5 := by
      rw [lpf_readSum]
      exact gd_loop (J := Q6) hE h6 (by decide) cd_S (by decide) (by decide) (fun b c T W h => ⟨⟨h.1, tp_mono h.2 (by decide)⟩, h.2⟩) (fun s c T W h => ⟨Or.inl rfl, show rk s < 6 by omega⟩) (fun c c' T h => h) (fun s c c' T c2 T2 h h1 h2 => ⟨by rw [h2.1, ncp_hi (Or.inl h)]; exact h1.1, h2.2⟩) (fun c c' T h h2 => by
        unfold cdS at h2
        by_cases c43 : T = 43
        · rw [if_pos c43] at h2; cases h2
        · rw [if_neg c43] at h2; exact ⟨h.1, h.2, c43, cd_none h2⟩)
    have h3 : rd_Gd PR p M0 L0 B Z m (n + 1) (f_X8_readNot (f_X8_lev n).1 (f_X8_lev n).2.1 (f_X8_lev n).2.2) 3 4 P3 Q3 := gd_not hE hN h5
    have h2 : rd_Gd PR p M0 L0 B Z m (n + 1) (f_X8_readBoth (f_X8_lev n).1 (f_X8_lev n).2.1 (f_X8_lev n).2.2) 2 5 P2 Q2 := by
      rw [lpf_readBoth]
      exact gd_loop (J := Q3) hE h3 (by decide) cd_B (by decide) (by decide) (fun b c T W h => ⟨⟨h.1, h.2.1, tp_mono h.2.2 (by decide)⟩, h.2.2⟩) (fun s c T W h => ⟨rfl, ncp_lo (Or.inr h), show rk s < 4 by omega⟩) (fun c c' T h => h) (fun s c c' T c2 T2 h h1 h2 => h2) (fun c c' T h h2 => ⟨h, cd_none h2⟩)
    have h1 : rd_Gd PR p M0 L0 B Z m (n + 1) (f_X8_readEither (f_X8_lev n).1 (f_X8_lev n).2.1 (f_X8_lev n).2.2) 1 6 P1 Q1 := by
      rw [lpf_readEither]
      exact gd_loop (J := Q2) hE h2 (by decide) cd_E (by decide) (by decide) (fun b c T W h => ⟨⟨h.1, h.2.1, tp_mono h.2.2 (by decide)⟩, h.2.2⟩) (fun s c T W h => ⟨rfl, ncp_lo (Or.inl h), show rk s < 2 by omega⟩) (fun c c' T h => h) (fun s c c' T c2 T2 h h1 h2 => h2) (fun c c' T h h2 => ⟨h, cd_none h2⟩)
    exact ⟨h3, h7, h1⟩
end Lev

