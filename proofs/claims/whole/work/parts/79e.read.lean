/-! ===== the class's reading of an E beside the model's ===== -/
abbrev O5 : Type := Option ((List Int32) × Int32 × Int32 × Int32 × Int32)
def pfin (A : Nat → List Int32) (I : Nat → Int32) (q : Z11 ⊕ Z12) : Option Z12 := match q with
  | .inl (e67, e68, e69, e70, e71, e72, e73, e74, e75, e76, e77) =>
  ((f_X12_settle (up (up (up (up A 103 e67) 104 e68) 105 e69) 106 e70) (up (up (up (up (up (up (up I 5464 e71) 5465 e72) 5466 e73) 5467 e74) 5470 e75) 5471 e76) 5472 e77) 1).bind fun r78 =>
  (if e76 = 0 then
    some (1, r78.1, r78.2.1, e69, e70, e71, e72, e73, e74, r78.2.2.1, e76, r78.2.2.2)
  else
    some (0, r78.1, r78.2.1, e69, e70, e71, e72, e73, e74, r78.2.2.1, e76, r78.2.2.2)))
  | .inr v => some v
/-- a run of the model from TOKEN k on -/
def rd_En (PR : Nat → Q13 → Option Z12) (A0 : Nat → List Int32) (I0 : Nat → Int32) (A1 : Nat → List Int32) (I1 : Nat → Int32) (B : List Int32) (Z p : Nat) : Prop := Ev A0 I0 B Z p ∧ Ev A1 I1 B Z p ∧ (∀ k q q', k < 200 → f_X12_part_l1 A1 I1 q = some (.inl q') → PR k q = PR (k + 1) q') ∧ ∀ k q z, k < 200 → f_X12_part_l1 A1 I1 q = some (.inr z) → PR k q = pfin A0 I0 z
def rd_code (c R : List Int32) : Prop := c.length = 160 ∧ ∀ i, i < R.length → g c i = cm (g R i)
def rd_Lv (B : List Int32) (Z k : Nat) (R : List Int32) (A : Nat → List Int32) (I : Nat → Int32) : Prop := rd_code (A 57) R ∧ I 3336 = Int32.ofNat k ∧ I 3337 = kT B Z k ∧ I 3338 = -1 ∧ I 3340 = Int32.ofNat R.length
def rd_Dd (B : List Int32) (Z j : Nat) (A : Nat → List Int32) (I : Nat → Int32) : Prop := (A 57).length = 160 ∧ (∃ i, i ≤ 160 ∧ I 3336 = Int32.ofNat i) ∧ I 3337 = 1 ∧ I 3338 = Int32.ofNat (kB B Z j) ∧ ∃ s, s ≤ 160 ∧ I 3340 = Int32.ofNat s
def rd_out (B : List Int32) (Z j : Nat) (o : O5) : Prop := ∃ z1 i s, o = some (z1, Int32.ofNat i, 1, Int32.ofNat (kB B Z j), Int32.ofNat s) ∧ z1.length = 160 ∧ i ≤ 160 ∧ s ≤ 160
def rd_Bad (PR : Nat → Q13 → Option Z12) (p : Nat) (M0 L0 B : List Int32) (Z : Nat) (o : O5) (k : Nat) (q : Q13) : Prop := ∃ j y, rd_out B Z j o ∧ PR k q = some y ∧ Fl p M0 L0 B Z j y
def rd_Good (PR : Nat → Q13 → Option Z12) (p : Nat) (M0 L0 B : List Int32) (Z m : Nat) (o : O5) (k : Nat) (q : Q13) (R W C : List Int32) (c : Int32) (r d : Nat) (PO : Int32 → Int32 → Int32 → Prop) : Prop := ∃ z1 k' R' Rq Wq b' c' q', o = some (z1, Int32.ofNat k', kT B Z k', -1, Int32.ofNat (R ++ R').length) ∧ rd_code z1 (R ++ R') ∧ k < k' ∧ k' ≤ m ∧ PR k q = PR k' q' ∧ Rf p M0 L0 B Z k' 0 b' Rq Wq (c' :: C) q' ∧ (c' = 0 ∨ c' = 1) ∧ stl r Rq Wq = stl r (R ++ R') W ∧ PO c c' (kT B Z k') ∧ ∀ n, n + d + 5 * (5 - op W) ≤ 40 → rp R' n = some (n + 1)
def rd_Gd (PR : Nat → Q13 → Option Z12) (p : Nat) (M0 L0 B : List Int32) (Z m n : Nat) (fn : am_OrX) (r d : Nat) (PE : Int32 → Int32 → Int32 → List Int32 → Prop) (PO : Int32 → Int32 → Int32 → Prop) : Prop := ∀ (A : Nat → List Int32) (I : Nat → Int32) (k : Nat) (R W C : List Int32) (b c : Int32) (q : Q13), toks B Z m (A 54) (A 55) (A 56) → k ≤ m → rd_Lv B Z k R A I → Rf p M0 L0 B Z k 1 b R W (c :: C) q → (b = 0 ∨ b = 1) → (c = 0 ∨ c = 1) → 6 ≤ op W + n → PE b c (kT B Z k) W → rd_Bad PR p M0 L0 B Z (fn A I (Int32.ofNat (op W))) k q ∨ rd_Good PR p M0 L0 B Z m (fn A I (Int32.ofNat (op W))) k q R W C c r d PO
def rd_Dp (B : List Int32) (Z : Nat) (fn : am_OrX) : Prop := ∀ (A : Nat → List Int32) (I : Nat → Int32) (a : Int32) (j : Nat), rd_Dd B Z j A I → rd_out B Z j (fn A I a)
theorem rp_app : ∀ (a b : List Int32) (n : Nat), rp (a ++ b) n = (rp a n).bind (rp b)
  | [], b, n => rfl
  | v :: a, b, n => by
    show rp (v :: (a ++ b)) n = _
    unfold rp
    by_cases h0 : 0 ≤ v
    · rw [if_pos h0, if_pos h0]
      by_cases h1 : v ≤ 10005 ∧ n < 40
      · rw [if_pos h1, if_pos h1, rp_app a b]
      · rw [if_neg h1, if_neg h1]; rfl
    · rw [if_neg h0, if_neg h0]
      by_cases h1 : v = -3 ∨ v = -9
      · rw [if_pos h1, if_pos h1]
        by_cases h2 : 1 ≤ n
        · rw [if_pos h2, if_pos h2, rp_app a b]
        · rw [if_neg h2, if_neg h2]; rfl
      · rw [if_neg h1, if_neg h1]
        by_cases h2 : -8 ≤ v
        · rw [if_pos h2, if_pos h2]
          by_cases h3 : 2 ≤ n
          · rw [if_pos h3, if_pos h3, rp_app a b]
          · rw [if_neg h3, if_neg h3]; rfl
        · rw [if_neg h2, if_neg h2]; rfl
theorem rp_num {v : Int32} {n : Nat} (h0 : 0 ≤ v) (h1 : v ≤ 10005) (hn : n < 40) : rp [v] n = some (n + 1) := by
  unfold rp
  rw [if_pos h0, if_pos ⟨h1, hn⟩]
  rfl
theorem rp_un {v : Int32} {n : Nat} (h : v = -3 ∨ v = -9) (hn : 1 ≤ n) : rp [v] n = some n := by
  unfold rp
  rw [if_neg (by rcases h with h | h <;> rw [h] <;> decide), if_pos h, if_pos hn]
  rfl
theorem rp_bin {v : Int32} {n : Nat} (h0 : ¬ 0 ≤ v) (h1 : ¬ (v = -3 ∨ v = -9)) (h2 : -8 ≤ v) : rp [v] (n + 2) = some (n + 1) := by
  unfold rp
  rw [if_neg h0, if_neg h1, if_pos h2, if_pos (by omega)]
  rfl
theorem sg_bin {T : Int32} (h : ¬ sg T = 0) : ¬ 0 ≤ sg T ∧ ¬ (sg T = -3 ∨ sg T = -9) ∧ -8 ≤ sg T := by
  unfold sg at h ⊢
  by_cases c1 : T = 6
  · rw [if_pos c1]; decide
  rw [if_neg c1] at h ⊢
  by_cases c2 : T = 7
  · rw [if_pos c2]; decide
  rw [if_neg c2] at h ⊢
  by_cases c3 : T = 60
  · rw [if_pos c3]; decide
  rw [if_neg c3] at h ⊢
  by_cases c4 : T = 61
  · rw [if_pos c4]; decide
  rw [if_neg c4] at h ⊢
  by_cases c5 : T = 43
  · rw [if_pos c5]; decide
  rw [if_neg c5] at h ⊢
  by_cases c6 : T = 45
  · rw [if_pos c6]; decide
  rw [if_neg c6] at h ⊢
  by_cases c7 : T = 42
  · rw [if_pos c7]; decide
  rw [if_neg c7] at h ⊢
  exact absurd rfl h
theorem n160 {k : Nat} (h : k < 160) : ¬ (160 : Int32) ≤ Int32.ofNat k := nge (n := 160) (by decide) h
theorem n10k {k : Nat} (h : k < 10000) : ¬ (10000 : Int32) ≤ Int32.ofNat k := nge (n := 10000) (by decide) h
section Prim
variable {A : Nat → List Int32} {I : Nat → Int32} {B R : List Int32} {Z m k : Nat}
theorem rd_lt (ht : toks B Z m (A 54) (A 55) (A 56)) (hk : k ≤ m) (h0 : ¬ kT B Z k = 0) (h1 : ¬ kT B Z k = 1) : k < m := by
  obtain ⟨-, -, -, -, t5, -⟩ := ht
  by_cases e : k = m
  · rw [e] at h0 h1; rcases t5 with t | t
    · exact absurd t h0
    · exact absurd t h1
  · omega
theorem rd_adv (ht : toks B Z m (A 54) (A 55) (A 56)) (hk : k < m) (hc : I 3336 = Int32.ofNat k) : f_X8_advance A I = some (Int32.ofNat (k + 1), kT B Z (k + 1)) := by
  obtain ⟨t1, t2, -, -, -, -, t7⟩ := ht
  unfold f_X8_advance
  rw [hc, if_neg (n160 (by omega)), Option.bind_some, show Int32.ofNat k + 1 = Int32.ofNat (k + 1) from i_addr (n := 1), am_at_g (by omega) (by omega), Option.bind_some, (t7 (k + 1) (by omega)).1]
theorem rd_fail (ht : toks B Z m (A 54) (A 55) (A 56)) (hk : k ≤ m) (hc : I 3336 = Int32.ofNat k) (hf : I 3338 = -1) : f_X8_fail A I = some (1, Int32.ofNat (kB B Z k)) := by
  obtain ⟨t1, -, t3, -, -, -, t7⟩ := ht
  unfold f_X8_fail
  rw [hf, if_pos rfl, hc, am_at_g (by omega) (by omega), (t7 k hk).2.1]
  rfl
theorem rd_fail2 {n : Nat} (hn : n < 1000) (hf : I 3338 = Int32.ofNat n) : f_X8_fail A I = some (1, Int32.ofNat n) := by
  unfold f_X8_fail
  rw [hf, if_neg (i_nm1 (by omega))]
  rfl
theorem rd_write {v w : Int32} (hc : rd_code (A 57) R) (hs : I 3340 = Int32.ofNat R.length) (hR : R.length < 160) (hv : v = cm w) : f_X8_write A I v = some ((A 57).set R.length v, Int32.ofNat (R ++ [w]).length) ∧ rd_code ((A 57).set R.length v) (R ++ [w]) := by
  obtain ⟨c1, c2⟩ := hc
  constructor
  · unfold f_X8_write
    rw [hs, if_neg (n160 (by omega)), am_up_g (by omega) (by omega), Option.bind_some, show Int32.ofNat R.length + 1 = Int32.ofNat (R.length + 1) from i_addr (n := 1), List.length_append, List.length_singleton]
  · refine ⟨by rw [List.length_set]; exact c1, fun i hi => ?_⟩
    rw [List.length_append, List.length_singleton] at hi
    rw [g_set (by omega), g_app]
    by_cases e : i = R.length
    · rw [if_pos e, if_pos e, hv]
    · rw [if_neg e, if_neg e]; exact c2 i (by omega)
theorem rd_write2 {s : Nat} (h57 : (A 57).length = 160) (hs : I 3340 = Int32.ofNat s) (hs2 : s ≤ 160) (v : Int32) : ∃ c' s', f_X8_write A I v = some (c', Int32.ofNat s') ∧ c'.length = 160 ∧ s' ≤ 160 := by
  unfold f_X8_write
  rw [hs]
  by_cases h : 160 ≤ s
  · rw [if_pos ((i_lel (m := 160) (by decide) (by omega)).mpr h)]
    exact ⟨_, s, rfl, h57, hs2⟩
  · rw [if_neg (n160 (by omega)), am_up_g (by omega) (by omega), Option.bind_some, show Int32.ofNat s + 1 = Int32.ofNat (s + 1) from i_addr (n := 1)]
    exact ⟨_, s + 1, rfl, by rw [List.length_set]; exact h57, by omega⟩
theorem kB_le (hZ : Z ≤ 160) : kB B Z k ≤ 160 := by
  have := lB_le (B := B) (ps_le B Z k)
  show lB B Z (ps B Z k) ≤ 160
  omega
end Prim
/-! a level of the E: one of the level below, and as long as a sign comes, one more -/
def lpg (sub : am_OrX) (cd : Int32 → Option Int32) (A : Nat → List Int32) (I : Nat → Int32) (a : Int32) : (Int32 × (List Int32) × Int32 × Int32 × Int32 × Int32) → Option ((Int32 × (List Int32) × Int32 × Int32 × Int32 × Int32) ⊕ ((List Int32) × Int32 × Int32 × Int32 × Int32)) := fun q => match q with
    | (s2, s3, s4, s5, s6, s7) =>
    (if 160 ≤ s2 then
      some (.inr (s3, s4, s5, s6, s7))
    else
      match cd s5 with
      | none => some (.inr (s3, s4, s5, s6, s7))
      | some v => ((f_X8_advance (up A 57 s3) (up (up (up (up I 3336 s4) 3337 s5) 3338 s6) 3340 s7)).bind fun r8 =>
        ((sub (up A 57 s3) (up (up (up (up I 3336 r8.1) 3337 r8.2) 3338 s6) 3340 s7) a).bind fun r9 =>
        ((f_X8_write (up A 57 r9.1) (up (up (up (up I 3336 r9.2.1) 3337 r9.2.2.1) 3338 r9.2.2.2.1) 3340 r9.2.2.2.2) v).bind fun r10 =>
        some (.inl ((s2 + 1), r10.1, r9.2.1, r9.2.2.1, r9.2.2.2.1, r10.2))))))
def lpf (sub : am_OrX) (cd : Int32 → Option Int32) : am_OrX := fun A I a =>
  ((sub A I a).bind fun r1 =>
  ((wl (lpg sub cd (up A 57 r1.1) (up (up (up (up I 3336 r1.2.1) 3337 r1.2.2.1) 3338 r1.2.2.2.1) 3340 r1.2.2.2.2) a) 100000 (0, r1.1, r1.2.1, r1.2.2.1, r1.2.2.2.1, r1.2.2.2.2)).bind some))
theorem lpg_stop {sub : am_OrX} {cd : Int32 → Option Int32} {A : Nat → List Int32} {I : Nat → Int32} {a s2 s4 s5 s6 s7 : Int32} {s3 : List Int32} (h : cd s5 = none) : lpg sub cd A I a (s2, s3, s4, s5, s6, s7) = some (.inr (s3, s4, s5, s6, s7)) := by
  unfold lpg
  dsimp only
  rw [h]
  by_cases c : 160 ≤ s2
  · rw [if_pos c]
  · rw [if_neg c]
theorem wl_stop {σ ρ : Type} {st : σ → Option (σ ⊕ ρ)} {x : σ} {r : ρ} (h : st x = some (.inr r)) : wl st 100000 x = some r := by
  show wl st (99999 + 1) x = some r
  unfold wl
  rw [h]
theorem dp_loop {B : List Int32} {Z : Nat} {sub : am_OrX} {cd : Int32 → Option Int32} (h : rd_Dp B Z sub) (h1 : cd 1 = none) : rd_Dp B Z (lpf sub cd) := fun A I a j hd => by
  obtain ⟨z1, i, s, e, l1, l2, l3⟩ := h A I a j hd
  refine ⟨z1, i, s, ?_, l1, l2, l3⟩
  unfold lpf
  rw [e, Option.bind_some]
  dsimp only
  rw [wl_stop (lpg_stop h1)]
  rfl
section Loop
variable {PR : Nat → Q13 → Option Z12} {A0 : Nat → List Int32} {I0 : Nat → Int32} {A1 : Nat → List Int32} {I1 : Nat → Int32} {B M0 L0 : List Int32} {Z p m n r r1 d1 : Nat} {sub : am_OrX} {cd : Int32 → Option Int32} {PE PE1 : Int32 → Int32 → Int32 → List Int32 → Prop} {PO PO1 J : Int32 → Int32 → Int32 → Prop}
theorem gd_loop (hE : rd_En PR A0 I0 A1 I1 B Z p) (hsub : rd_Gd PR p M0 L0 B Z m n sub r1 d1 PE1 PO1) (h1 : cd 1 = none) (hcd : ∀ T v, cd T = some v → ¬ sg T = 0 ∧ rk (sg T) = r ∧ v = cm (sg T) ∧ ¬ T = 0) (hr4 : ¬ r = 4) (hr1 : r ≤ r1) (hP0 : ∀ b c T W, PE b c T W → PE1 b c T W ∧ tp r W) (hP1 : ∀ s c T W, rk s = r → PE1 (if 3 ≤ r then 0 else 1) (ncp s c) T (s :: W)) (hJ0 : ∀ c c' T, PO1 c c' T → J c c' T) (hJ1 : ∀ s c c' T c2 T2, rk s = r → J c c' T → PO1 (ncp s c') c2 T2 → J c c2 T2) (hJ2 : ∀ c c' T, J c c' T → cd T = none → PO c c' T) : rd_Gd PR p M0 L0 B Z m n (lpf sub cd) r (d1 + 1) PE PO := by
  intro A I k R W C b c q ht hk hlv hrf hb hc hn hpre
  obtain ⟨hp1, htp⟩ := hP0 _ _ _ _ hpre
  have hm := ht.1
  have hopW : op W ≤ 5 := by
    obtain ⟨M, L, Y, D, t, v, -, -, -, -, -, -, -, -, -, hop⟩ := hrf
    exact hop
  rcases hsub A I k R W C b c q ht hk hlv hrf hb hc hn hp1 with hbad | hgood
  · left
    obtain ⟨j, y, ⟨z1, i, s, e, l1, l2, l3⟩, e2, fl⟩ := hbad
    refine ⟨j, y, ⟨z1, i, s, ?_, l1, l2, l3⟩, e2, fl⟩
    unfold lpf
    rw [e, Option.bind_some]
    dsimp only
    rw [wl_stop (lpg_stop h1)]
    rfl
  · obtain ⟨z1, k1, R1, Rq1, Wq1, b1, c1, q1, e, hcode1, hk1, hkm1, hPR1, hrf1, hc1, hst1, hpost1, hrp1⟩ := hgood
    obtain ⟨res, e3, hQ⟩ := wl_inv (s1 := lpg sub cd (up A 57 z1) (up (up (up (up I 3336 (Int32.ofNat k1)) 3337 (kT B Z k1)) 3338 (-1)) 3340 (Int32.ofNat (R ++ R1).length)) (Int32.ofNat (op W))) (fun w y => (∃ i z k' R' Rq Wq b' c' q', y = (Int32.ofNat i, z, Int32.ofNat k', kT B Z k', -1, Int32.ofNat (R ++ R').length) ∧ w + i = 162 ∧ i < k' ∧ rd_code z (R ++ R') ∧ k < k' ∧ k' ≤ m ∧ PR k q = PR k' q' ∧ Rf p M0 L0 B Z k' 0 b' Rq Wq (c' :: C) q' ∧ (c' = 0 ∨ c' = 1) ∧ stl r Rq Wq = (R ++ R', W) ∧ J c c' (kT B Z k') ∧ ∀ n, n + (d1 + 1) + 5 * (5 - op W) ≤ 40 → rp R' n = some (n + 1)) ∨ (∃ s2 j z i s yy, y = (s2, z, Int32.ofNat i, 1, Int32.ofNat (kB B Z j), Int32.ofNat s) ∧ z.length = 160 ∧ i ≤ 160 ∧ s ≤ 160 ∧ PR k q = some yy ∧ Fl p M0 L0 B Z j yy)) (fun res => rd_Bad PR p M0 L0 B Z (some res) k q ∨ rd_Good PR p M0 L0 B Z m (some res) k q R W C c r (d1 + 1) PO) (fun w y => by
      rintro (⟨i, z, k', R', Rq, Wq, b', c', q', rfl, hn', hik, hcode, hkk, hkm, hPR, hrf', hc', hst, hJ, hrp⟩ | ⟨s2, j, z, i, s, yy, rfl, l1, l2, l3, e4, fl⟩)
      · cases hv : cd (kT B Z k') with
        | none =>
          right
          rw [lpg_stop hv]
          exact ⟨_, rfl, Or.inr ⟨z, k', R', Rq, Wq, b', c', q', rfl, hcode, hkk, hkm, hPR, hrf', hc', by rw [hst, stl_id htp], hJ2 _ _ _ hJ hv, hrp⟩⟩
        | some v =>
          left
          obtain ⟨n0, hrk, hv2, hT0⟩ := hcd _ _ hv
          have hT1 : ¬ kT B Z k' = 1 := fun e => by rw [e, h1] at hv; cases hv
          have hlt : k' < m := rd_lt ht hkm hT0 hT1
          obtain ⟨q2, e2, hrf2⟩ := st_sign hE.2.1 (show k' < 160 by omega) hrf' hc' n0 (fun z => hr4 (by rw [← hrk]; exact z.1))
          rw [hrk, hst] at hrf2
          dsimp only at hrf2
          have hPR2 := hE.2.2.1 k' q' q2 (by omega) e2
          have hso := sg_or (kT B Z k')
          have hbin := sg_bin n0
          obtain ⟨s, hs⟩ : ∃ s, s = sg (kT B Z k') := ⟨_, rfl⟩
          rw [← hs] at hso n0 hrf2 hrk hv2 hbin
          have hop2 : op (s :: W) = op W := by
            rcases hso with z | z
            · exact absurd z n0
            · show op W + opn s = op W; omega
          have hnc : ncp s c' = 0 ∨ ncp s c' = 1 := by
            unfold ncp
            by_cases c4 : rk s = 4
            · rw [if_pos c4]; exact Or.inr rfl
            · rw [if_neg c4]
              by_cases c2 : rk s ≤ 2
              · rw [if_pos c2]; exact Or.inl rfl
              · rw [if_neg c2]; exact hc'
          have hbb : (if 3 ≤ r then (0 : Int32) else 1) = 0 ∨ (if 3 ≤ r then (0 : Int32) else 1) = 1 := by
            by_cases c3 : 3 ≤ r
            · rw [if_pos c3]; exact Or.inl rfl
            · rw [if_neg c3]; exact Or.inr rfl
          have key := hsub (up (up A 57 z1) 57 z) (up (up (up (up (up (up (up (up I 3336 (Int32.ofNat k1)) 3337 (kT B Z k1)) 3338 (-1)) 3340 (Int32.ofNat (R ++ R1).length)) 3336 (Int32.ofNat (k' + 1))) 3337 (kT B Z (k' + 1))) 3338 (-1)) 3340 (Int32.ofNat (R ++ R').length)) (k' + 1) (R ++ R') (s :: W) C (if 3 ≤ r then 0 else 1) (ncp s c') q2 ht hlt ⟨hcode, rfl, rfl, rfl, rfl⟩ hrf2 hbb hnc (by rw [hop2]; exact hn) (hP1 _ _ _ _ hrk)
          rw [hop2] at key
          unfold lpg
          dsimp only
          rw [if_neg (n160 (show i < 160 by omega)), hv]
          dsimp only
          rw [rd_adv (A := up (up A 57 z1) 57 z) (I := up (up (up (up (up (up (up (up I 3336 (Int32.ofNat k1)) 3337 (kT B Z k1)) 3338 (-1)) 3340 (Int32.ofNat (R ++ R1).length)) 3336 (Int32.ofNat k')) 3337 (kT B Z k')) 3338 (-1)) 3340 (Int32.ofNat (R ++ R').length)) ht hlt rfl, Option.bind_some]
          dsimp only
          rcases key with ⟨j, yy, ⟨zz, ii, s9, e5, l1, l2, l3⟩, e6, fl⟩ | ⟨zz, k3, R3, Rq3, Wq3, b3, c3, q3, e5, hcode3, hk3, hkm3, hPR3, hrf3, hc3, hst3, hpost3, hrp3⟩
          · rw [e5, Option.bind_some]
            dsimp only
            obtain ⟨c8, s8, e7, l4, l5⟩ := rd_write2 (A := up (up A 57 z1) 57 zz) (I := up (up (up (up (up (up (up (up I 3336 (Int32.ofNat k1)) 3337 (kT B Z k1)) 3338 (-1)) 3340 (Int32.ofNat (R ++ R1).length)) 3336 (Int32.ofNat ii)) 3337 1) 3338 (Int32.ofNat (kB B Z j))) 3340 (Int32.ofNat s9)) l1 rfl l3 v
            rw [e7, Option.bind_some]
            exact ⟨_, rfl, w - 1, by omega, Or.inr ⟨_, j, c8, ii, s8, yy, rfl, l4, l2, l5, by rw [hPR, hPR2, e6], fl⟩⟩
          · rw [e5, Option.bind_some]
            dsimp only
            have hst4 : stl r Rq3 Wq3 = (R ++ (R' ++ R3 ++ [s]), W) := by
              rw [← stl_stl hr1 Wq3 Rq3, hst3, stl_stl hr1]
              show (if r ≤ rk s then stl r (R ++ R' ++ R3 ++ [s]) W else (R ++ R' ++ R3, s :: W)) = _
              rw [if_pos (by omega), stl_id htp, List.append_assoc, List.append_assoc, List.append_assoc]
            have hlen3 : Rq3.length + Wq3.length ≤ k3 := by
              obtain ⟨M, L, Y, D, t, v, -, -, -, -, -, -, -, -, hlen, -⟩ := hrf3
              exact hlen
            have hl4 := stl_len r Wq3 Rq3
            rw [hst4] at hl4
            dsimp only at hl4
            simp only [List.length_append, List.length_singleton] at hl4
            obtain ⟨ew, hcw⟩ := rd_write (A := up (up A 57 z1) 57 zz) (I := up (up (up (up (up (up (up (up I 3336 (Int32.ofNat k1)) 3337 (kT B Z k1)) 3338 (-1)) 3340 (Int32.ofNat (R ++ R1).length)) 3336 (Int32.ofNat k3)) 3337 (kT B Z k3)) 3338 (-1)) 3340 (Int32.ofNat (R ++ R' ++ R3).length)) (w := s) hcode3 rfl (by simp only [List.length_append]; omega) hv2
            rw [ew, Option.bind_some]
            have hap : R ++ R' ++ R3 ++ [s] = R ++ (R' ++ R3 ++ [s]) := by rw [List.append_assoc, List.append_assoc, List.append_assoc]
            rw [hap] at hcw
            refine ⟨_, rfl, w - 1, by omega, Or.inl ⟨i + 1, _, k3, R' ++ R3 ++ [s], Rq3, Wq3, b3, c3, q3, ?_, by omega, by omega, hcw, by omega, hkm3, by rw [hPR, hPR2, hPR3], hrf3, hc3, hst4, hJ1 _ _ _ _ _ _ hrk hJ hpost3, fun n hn => ?_⟩⟩
            · rw [hap, show Int32.ofNat i + 1 = Int32.ofNat (i + 1) from i_addr (n := 1)]
            · rw [rp_app, rp_app, hrp n hn, Option.bind_some, hrp3 (n + 1) (by rw [hop2]; omega), Option.bind_some]
              exact rp_bin hbin.1 hbin.2.1 hbin.2.2
      · right
        rw [lpg_stop h1]
        exact ⟨_, rfl, Or.inl ⟨j, yy, ⟨z, i, s, rfl, l1, l2, l3⟩, e4, fl⟩⟩) 162 100000 (0, z1, Int32.ofNat k1, kT B Z k1, -1, Int32.ofNat (R ++ R1).length) (Or.inl ⟨0, z1, k1, R1, Rq1, Wq1, b1, c1, q1, rfl, rfl, by omega, hcode1, hk1, hkm1, hPR1, hrf1, hc1, by rw [← stl_stl hr1 Wq1 Rq1, hst1, stl_stl hr1, stl_id htp], hJ0 _ _ _ hpost1, fun n hn => hrp1 n (by omega)⟩) (by omega)
    have e6 : lpf sub cd A I (Int32.ofNat (op W)) = some res := by
      unfold lpf
      rw [e, Option.bind_some]
      dsimp only
      rw [e3]
      rfl
    rw [e6]
    exact hQ
end Loop
