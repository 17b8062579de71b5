/-! ===== sums over sets; who is bought ===== -/
def psum (f : Nat → Int32) (s : Nat) : Nat → Int32
  | 0 => 0
  | k + 1 => psum f s k + (if s.testBit k then f k else 0)
theorem tb_hi {s n k : Nat} (hs : s < 2 ^ n) (hk : n ≤ k) : s.testBit k = false := Nat.testBit_lt_two_pow (Nat.lt_of_lt_of_le hs (Nat.pow_le_pow_right (by decide) hk))
theorem psum_ext {f : Nat → Int32} {s n : Nat} (hs : s < 2 ^ n) : ∀ d, psum f s (n + d) = psum f s n
  | 0 => rfl
  | d + 1 => by
    show psum f s (n + d) + (if s.testBit (n + d) then f (n + d) else 0) = _
    rw [tb_hi hs (by omega), if_neg (by decide), Int32.add_zero, psum_ext hs d]
theorem psum_congr {f f' : Nat → Int32} {s : Nat} : ∀ {n : Nat}, (∀ k, k < n → f k = f' k) → psum f s n = psum f' s n
  | 0, _ => rfl
  | n + 1, h => by
    show psum f s n + _ = psum f' s n + _
    rw [psum_congr (fun k hk => h k (by omega)), h n (by omega)]
theorem sumOver_1 {ys : List Int32} {s : Nat} (hl : ys.length ≤ 30) (hs : s < 2147483648) : f_X11_sumOver ys (Int32.ofNat s) = some (psum (g ys) s ys.length) := by
  unfold f_X11_sumOver
  have key := wl_for (step := f_X11_sumOver_l1 ys (Int32.ofNat s)) (fun k => (psum (g ys) s k, Int32.ofNat k)) ys.length (r := psum (g ys) s ys.length) (fuel := 100000) (by omega) (fun k hk => ?_) ?_
  · rw [show ((0 : Int32), (0 : Int32)) = (psum (g ys) s 0, Int32.ofNat 0) from rfl, key]; rfl
  · show f_X11_sumOver_l1 ys _ (psum (g ys) s k, Int32.ofNat k) = some (.inl (psum (g ys) s k + _, Int32.ofNat (k + 1)))
    unfold f_X11_sumOver_l1
    dsimp only
    rw [if_neg (by rw [i_le (by omega) (by omega)]; omega), has_1 hs (by omega), Option.bind_some, i_addr, am_at_g hk (by omega)]
    cases s.testBit k with
    | true => simp only [if_true, if_neg (show ¬ (1 : Int32) = 0 by decide), Option.bind_some]
    | false => simp only [Bool.false_eq_true, if_false, if_true, Option.bind_some]
  · show f_X11_sumOver_l1 ys _ (_, Int32.ofNat ys.length) = _
    unfold f_X11_sumOver_l1
    dsimp only
    rw [if_pos (Int32.le_refl _)]
theorem pcf_last : ∀ (n s : Nat), pcf (n + 1) s = pcf n s + (if s.testBit n then 1 else 0)
  | 0, s => by
    show s % 2 + 0 = 0 + _
    rw [Nat.testBit_zero]
    by_cases h : s % 2 = 1
    · rw [decide_eq_true h, if_pos rfl]; omega
    · rw [decide_eq_false h, if_neg (by decide)]; omega
  | n + 1, s => by
    show s % 2 + pcf (n + 1) (s / 2) = s % 2 + pcf n (s / 2) + _
    rw [pcf_last n (s / 2), Nat.testBit_succ]
    omega
theorem pcf_ext {s n : Nat} (hs : s < 2 ^ n) : ∀ d, pcf (n + d) s = pcf n s
  | 0 => rfl
  | d + 1 => by
    rw [show n + (d + 1) = (n + d) + 1 by omega, pcf_last, tb_hi hs (by omega), if_neg (by decide), Nat.add_zero, pcf_ext hs d]
theorem pc_at {s n : Nat} (hs : s < 2 ^ n) (hn : n ≤ 24) : pc s = pcf n s := by
  unfold pc
  rw [show 24 = n + (24 - n) by omega, pcf_ext hs]
/-- those of s go together -/
def gt (ys : List Int32) (s n : Nat) : Bool := decide (∀ k, k < n → s.testBit k = true → cb ys k &&& s = 0)
theorem cb_eq {ys : List Int32} {k v : Nat} (h : g ys k = Int32.ofNat v) (hv : v < 2147483648) : g ys k = Int32.ofNat (cb ys k) ∧ cb ys k = v := by
  have : cb ys k = v := by unfold cb; rw [h, i_tn hv]
  rw [this]
  exact ⟨h, rfl⟩
theorem together_1 {ys : List Int32} {s : Nat} (hl : ys.length ≤ 24) (hs : s < 16777216) (hv : ∀ k, k < ys.length → ∃ v, v < 16777216 ∧ g ys k = Int32.ofNat v) : f_X11_goTogether ys (Int32.ofNat s) = some (if gt ys s ys.length then 1 else 0) := by
  obtain ⟨r, e, Q⟩ := wl_inv (s1 := f_X11_goTogether_l1 ys (Int32.ofNat s)) (fun n y => ∃ k, y = Int32.ofNat k ∧ n + k = ys.length ∧ ∀ j, j < k → s.testBit j = true → cb ys j &&& s = 0) (fun r => (r = .inl () ∧ gt ys s ys.length = true) ∨ (r = .inr 0 ∧ gt ys s ys.length = false)) (fun n y => by
    rintro ⟨k, rfl, hn, hk⟩
    unfold f_X11_goTogether_l1
    by_cases h : ys.length ≤ k
    · right
      rw [if_pos (by rw [i_le (by omega) (by omega)]; exact h)]
      exact ⟨_, rfl, Or.inl ⟨rfl, decide_eq_true (fun j hj => hk j (by omega))⟩⟩
    · rw [if_neg (by rw [i_le (by omega) (by omega)]; exact h), has_1 (by omega) (by omega), Option.bind_some, i_addr]
      cases hb : s.testBit k with
      | false =>
        left
        rw [if_neg (show ¬ false = true by decide), if_pos rfl]
        refine ⟨_, rfl, n - 1, by omega, k + 1, rfl, by omega, fun j hj ht => ?_⟩
        by_cases e : j = k
        · subst e; rw [hb] at ht; cases ht
        · exact hk j (by omega) ht
      | true =>
        obtain ⟨v, hv1, hv2⟩ := hv k (by omega)
        obtain ⟨c1, c2⟩ := cb_eq hv2 (by omega)
        have hlt : cb ys k &&& s < 2147483648 := Nat.lt_of_le_of_lt Nat.and_le_right (by omega)
        rw [if_pos rfl, if_neg (show ¬ (1 : Int32) = 0 by decide), am_at_g (by omega) (by omega), Option.bind_some, c1, i_and]
        by_cases hz : cb ys k &&& s = 0
        · left
          rw [if_pos ((i_eq0 hlt).mpr hz)]
          refine ⟨_, rfl, n - 1, by omega, k + 1, rfl, by omega, fun j hj ht => ?_⟩
          by_cases e : j = k
          · subst e; exact hz
          · exact hk j (by omega) ht
        · right
          rw [if_neg (fun q => hz ((i_eq0 hlt).mp q))]
          exact ⟨_, rfl, Or.inr ⟨rfl, decide_eq_false (fun q => hz (q k (by omega) hb))⟩⟩) ys.length 100000 0 ⟨0, rfl, rfl, fun j hj => absurd hj (Nat.not_lt_zero j)⟩ (by omega)
  unfold f_X11_goTogether
  rw [e, Option.bind_some]
  rcases Q with ⟨rfl, q⟩ | ⟨rfl, q⟩ <;> rw [q] <;> rfl
theorem gt_lt {ys : List Int32} {s n d : Nat} (hs : s < 2 ^ n) : gt ys s (n + d) = gt ys s n := by
  unfold gt
  apply decide_eq_decide.mpr
  constructor
  · intro h k hk; exact h k (by omega)
  · intro h k hk ht
    by_cases e : k < n
    · exact h k e ht
    · rw [tb_hi hs (by omega)] at ht; cases ht
abbrev hEle (E : Nat) (A : Nat → List Int32) (I : Nat → Int32) : Prop := v_ele E (A 59) (A 60) (I 3714) (I 3715) (A 113) (A 114) (A 115) (I 5481)
theorem price_1 {E s : Nat} {A : Nat → List Int32} {I : Nat → Int32} (hE : hEle E A I) (hs : s < 2 ^ E) : f_X12_priceOf A I (Int32.ofNat s) = some (psum (g (A 113)) s 10) ∧ f_X11_sumOver (A 59) (Int32.ofNat s) = some (psum (g (A 113)) s 10) := by
  obtain ⟨⟨e1', e2'⟩, ⟨l1, l2, l3⟩, hE, i1, i2, -⟩ := hE
  have hs31 : s < 1024 := Nat.lt_of_lt_of_le hs (Nat.pow_le_pow_right (n := 2) (by decide) hE)
  refine ⟨?_, by rw [e1', sumOver_1 (by omega) (by omega), l1]⟩
  unfold f_X12_priceOf
  have key := wl_for (step := f_X12_priceOf_l1 A I (Int32.ofNat s)) (fun k => (psum (g (A 113)) s k, Int32.ofNat k)) E (r := psum (g (A 113)) s E) (fuel := 100000) (by omega) (fun k hk => ?_) ?_
  · rw [show ((0 : Int32), (0 : Int32)) = (psum (g (A 113)) s 0, Int32.ofNat 0) from rfl, key, Option.bind_some, show (10 : Nat) = E + (10 - E) by omega, psum_ext hs]
  · show f_X12_priceOf_l1 A I _ (psum (g (A 113)) s k, Int32.ofNat k) = some (.inl (psum (g (A 113)) s k + _, Int32.ofNat (k + 1)))
    unfold f_X12_priceOf_l1
    dsimp only
    rw [i2, if_neg (by rw [i_le (by omega) (by omega)]; omega), i_bit (by omega) (by omega), i_addr, am_at_g (by omega) (by omega)]
    cases s.testBit k with
    | true => simp only [if_true, Option.bind_some]
    | false => simp only [Bool.false_eq_true, if_false, if_neg (show ¬ (0 : Int32) = 1 by decide), Option.bind_some]
  · show f_X12_priceOf_l1 A I _ (_, Int32.ofNat E) = _
    unfold f_X12_priceOf_l1
    dsimp only
    rw [i2, if_pos (Int32.le_refl _)]
/-- whether s can be bought -/
def cB (E ow : Nat) (ys : List Int32) (s : Nat) : Bool := decide (s &&& ow = 0) && (gt ys s E && decide (E < 2 * (pc s + pc ow)))
theorem and0 {a b : Nat} : a &&& b = 0 ↔ ∀ k, a.testBit k = true → b.testBit k = false := by
  constructor
  · intro h k hk
    have := congrArg (fun z => Nat.testBit z k) h
    rw [Nat.testBit_and, Nat.zero_testBit, hk, Bool.true_and] at this
    exact this
  · intro h
    apply Nat.eq_of_testBit_eq
    intro k
    rw [Nat.testBit_and, Nat.zero_testBit]
    cases ha : a.testBit k with
    | true => rw [h k ha]; rfl
    | false => rfl
theorem canBuy_1 {E ow s : Nat} {A : Nat → List Int32} {I : Nat → Int32} (hE : E ≤ 10) (l2 : (A 114).length = 10) (l3 : (A 115).length = 10) (i2 : I 5481 = Int32.ofNat E) (how : ow < 2 ^ E) (hb : ∀ k, k < E → g (A 114) k = if ow.testBit k then 1 else 0) (hk : ∀ k, k < 10 → ∃ b, b < 1024 ∧ g (A 115) k = Int32.ofNat b) (hs : s < 2 ^ E) : f_X12_canBuy A I (Int32.ofNat s) = some (if cB E ow (A 115) s then 1 else 0) := by
  have hs10 : s < 1024 := Nat.lt_of_lt_of_le hs (Nat.pow_le_pow_right (n := 2) (by decide) hE)
  have pls := pc_le s
  obtain ⟨r, e, Q⟩ := wl_inv (s1 := f_X12_canBuy_l1 A I (Int32.ofNat s)) (fun n y => ∃ k, y = (Int32.ofNat (pc s + pcf k ow), Int32.ofNat k) ∧ n + k = E ∧ (∀ j, j < k → s.testBit j = true → ow.testBit j = false ∧ cb (A 115) j &&& s = 0)) (fun r => (r = .inl (Int32.ofNat (pc s + pc ow)) ∧ s &&& ow = 0 ∧ gt (A 115) s E = true) ∨ (r = .inr 0 ∧ ¬ (s &&& ow = 0 ∧ gt (A 115) s E = true))) (fun n y => by
    rintro ⟨k, rfl, hn, hj⟩
    unfold f_X12_canBuy_l1
    dsimp only
    rw [i2]
    by_cases h : E ≤ k
    · right
      have : k = E := by omega
      subst this
      rw [if_pos (Int32.le_refl _)]
      refine ⟨_, rfl, Or.inl ⟨by rw [← pc_at how (by omega)], and0.mpr (fun j ht => ?_), decide_eq_true (fun j hj' ht => (hj j hj' ht).2)⟩⟩
      by_cases e : j < k
      · exact (hj j e ht).1
      · rw [tb_hi hs (by omega)] at ht; cases ht
    · obtain ⟨v, hv1, hv2⟩ := hk k (by omega)
      obtain ⟨c1, c2⟩ := cb_eq hv2 (by omega)
      have hlt : cb (A 115) k &&& s < 2147483648 := Nat.lt_of_le_of_lt Nat.and_le_right (by omega)
      rw [if_neg (by rw [i_le (by omega) (by omega)]; exact h), am_at_g (by omega) (by omega), Option.bind_some, Option.bind_some, i_bit (by omega) (by omega), am_at_g (by omega) (by omega), Option.bind_some, hb k (by omega), c1, i_and, i_addr]
      have hnext : Int32.ofNat (pc s + pcf k ow) + (if ow.testBit k then 1 else 0) = Int32.ofNat (pc s + pcf (k + 1) ow) := by
        rw [pcf_last]
        cases ow.testBit k with
        | true => rw [if_pos rfl, if_pos rfl, show Int32.ofNat (pc s + pcf k ow) + 1 = Int32.ofNat (pc s + pcf k ow + 1) from i_addr (n := 1), Nat.add_assoc]
        | false => rw [if_neg (by decide), if_neg (by decide), Int32.add_zero, Nat.add_zero]
      rw [hnext]
      cases hbk : s.testBit k with
      | false =>
        left
        rw [if_neg (by decide)]
        refine ⟨_, rfl, n - 1, by omega, k + 1, rfl, by omega, fun j hj' ht => ?_⟩
        by_cases e : j = k
        · subst e; rw [hbk] at ht; cases ht
        · exact hj j (by omega) ht
      | true =>
        rw [if_pos rfl, if_pos rfl]
        cases how' : ow.testBit k with
        | true =>
          right
          rw [if_pos rfl, if_pos rfl]
          refine ⟨_, rfl, Or.inr ⟨rfl, fun q => ?_⟩⟩
          have := and0.mp q.1 k hbk
          rw [how'] at this; cases this
        | false =>
          rw [if_neg (by decide)]
          by_cases hz : cb (A 115) k &&& s = 0
          · left
            rw [if_pos ((i_eq0 hlt).mpr hz)]
            refine ⟨_, rfl, n - 1, by omega, k + 1, rfl, by omega, fun j hj' ht => ?_⟩
            by_cases e : j = k
            · subst e; exact ⟨how', hz⟩
            · exact hj j (by omega) ht
          · right
            rw [if_neg (fun q => hz ((i_eq0 hlt).mp q))]
            exact ⟨_, rfl, Or.inr ⟨rfl, fun q => hz (of_decide_eq_true q.2 k (by omega) hbk)⟩⟩) E 100000 (Int32.ofNat (pc s), 0) ⟨0, (by rw [show pcf 0 ow = 0 from rfl, Nat.add_zero]; rfl), rfl, fun j hj => absurd hj (Nat.not_lt_zero j)⟩ (by omega)
  unfold f_X12_canBuy
  have plo := pc_le ow
  rw [ones_1 (by omega), Option.bind_some, e, Option.bind_some]
  unfold cB
  rcases Q with ⟨rfl, q1, q2⟩ | ⟨rfl, q⟩
  · show (if 2 * Int32.ofNat (pc s + pc ow) ≤ I 5481 then some 0 else some 1) = _
    rw [i2, show (2 : Int32) * Int32.ofNat (pc s + pc ow) = Int32.ofNat (2 * (pc s + pc ow)) from i_mull (m := 2), decide_eq_true q1, q2, Bool.true_and, Bool.true_and]
    by_cases c : 2 * (pc s + pc ow) ≤ E
    · rw [if_pos ((i_le (by omega) (by omega)).mpr c), decide_eq_false (by omega), if_neg (by decide)]
    · rw [if_neg (fun z => c ((i_le (by omega) (by omega)).mp z)), decide_eq_true (by omega), if_pos rfl]
  · show some 0 = _
    rw [if_neg]
    intro z
    rw [Bool.and_eq_true, Bool.and_eq_true, decide_eq_true_eq] at z
    exact q ⟨z.1, z.2.1⟩
theorem chs_1 {E ow k : Nat} {A : Nat → List Int32} {I : Nat → Int32} (hE : hEle E A I) (how : ow < 2 ^ E) (h37 : I 3714 = Int32.ofNat ow) (hk : k < 2 ^ E) (s2 s3 s4 : Int32) : f_X3_cheapest_l1 A I (Int32.ofNat (pc ow)) (s2, s3, s4, Int32.ofNat k) = some (.inl (if cB E ow (A 115) k = true ∧ (s2 = -1 ∨ (psum (g (A 113)) k 10 < s3 ∨ (psum (g (A 113)) k 10 = s3 ∧ ¬ s4 ≤ Int32.ofNat (pc k)))) then (Int32.ofNat k, psum (g (A 113)) k 10, Int32.ofNat (pc k), Int32.ofNat (k + 1)) else (s2, s3, s4, Int32.ofNat (k + 1)))) := by
  have hp := (price_1 hE hk).2
  obtain ⟨⟨e1', e2'⟩, ⟨l1, l2, l3⟩, hE, i1, i2, hv, -, -⟩ := hE
  have hs10 : k < 1024 := Nat.lt_of_lt_of_le hk (Nat.pow_le_pow_right (n := 2) (by decide) hE)
  have hs11 : 2 ^ E ≤ 1024 := Nat.pow_le_pow_right (n := 2) (j := 10) (by decide) hE
  have ht : f_X11_goTogether (A 60) (Int32.ofNat k) = some (if gt (A 115) k E then 1 else 0) := by
    rw [e2', together_1 (by omega) (by omega) (fun k hk => by
      obtain ⟨b, h1, h2⟩ := (hv k (by omega)).2.1
      exact ⟨b, by omega, h2⟩), l3, show (10 : Nat) = E + (10 - E) by omega, gt_lt hk]
  have plk := pc_le k
  have plo := pc_le ow
  have hlt : k &&& ow < 2147483648 := Nat.lt_of_le_of_lt Nat.and_le_left (by omega)
  have hcond : (I 3715 < 2 * (Int32.ofNat (pc k) + Int32.ofNat (pc ow))) ↔ E < 2 * (pc k + pc ow) := by
    rw [i1, i_add, show (2 : Int32) * Int32.ofNat (pc k + pc ow) = Int32.ofNat (2 * (pc k + pc ow)) from i_mull (m := 2), i_lt (by omega) (by omega)]
  unfold f_X3_cheapest_l1
  dsimp only
  rw [i1, i_1shl (by omega), if_neg (by rw [i_le (by omega) (by omega)]; omega), h37, i_and, ← i1]
  generalize psum (g (A 113)) k 10 = pr at *
  unfold cB
  by_cases q1 : k &&& ow = 0
  · rw [if_pos ((i_eq0 hlt).mpr q1), bc_1 (by omega), Option.bind_some]
    by_cases q3 : E < 2 * (pc k + pc ow)
    · rw [if_pos (hcond.mpr q3), hp, Option.bind_some, ht]
      cases q2 : gt (A 115) k E <;> by_cases c1 : s2 = -1 <;> by_cases c2 : pr < s3 <;> by_cases c3 : pr = s3 <;> by_cases c4 : s4 ≤ Int32.ofNat (pc k) <;> simp [-Int32.ofNat_add, q1, q3, c1, c2, c3, c4, i_addr]
    · rw [if_neg (fun z => q3 (hcond.mp z))]
      simp [-Int32.ofNat_add, q1, q3, i_addr]
  · rw [if_neg (fun z => q1 ((i_eq0 hlt).mp z))]
    simp [-Int32.ofNat_add, q1, i_addr]
theorem bos_1 {E ow k : Nat} {A : Nat → List Int32} {I : Nat → Int32} (a1 : Int32) (hE : hEle E A I) (how : ow < 2 ^ E) (hb : ∀ k, k < E → g (A 114) k = if ow.testBit k then 1 else 0) (hk : k < 2 ^ E) : f_X12_bought_l1 A I a1 (-1, Int32.ofNat k) = some (.inl (if cB E ow (A 115) k then (Int32.ofNat k, Int32.ofNat (k + 1)) else (-1, Int32.ofNat (k + 1)))) ∧ ∀ b, b < 2 ^ E → f_X12_bought_l1 A I a1 (Int32.ofNat b, Int32.ofNat k) = some (.inl (if cB E ow (A 115) k = true ∧ (psum (g (A 113)) k 10 < psum (g (A 113)) b 10 ∨ (psum (g (A 113)) k 10 = psum (g (A 113)) b 10 ∧ ¬ Int32.ofNat (pc b) ≤ Int32.ofNat (pc k))) then (Int32.ofNat k, Int32.ofNat (k + 1)) else (Int32.ofNat b, Int32.ofNat (k + 1)))) := by
  have hp := fun {s : Nat} (hs : s < 2 ^ E) => (price_1 hE hs).1
  obtain ⟨⟨e1', e2'⟩, ⟨l1, l2, l3⟩, hE, i1, i2, hv, -, -⟩ := hE
  have hs10 : k < 1024 := Nat.lt_of_lt_of_le hk (Nat.pow_le_pow_right (n := 2) (by decide) hE)
  have hs11 : 2 ^ E ≤ 1024 := Nat.pow_le_pow_right (n := 2) (j := 10) (by decide) hE
  have hc : f_X12_canBuy A I (Int32.ofNat k) = _ := canBuy_1 hE l2 l3 i2 how hb (fun k hk => (hv k hk).2.1) hk
  have hg : ¬ (1 : Int32) <<< (I 5481 &&& 31) ≤ Int32.ofNat k := by
    rw [i2, i_1shl (by omega), i_le (by omega) (by omega)]; omega
  constructor
  · unfold f_X12_bought_l1
    dsimp only
    rw [if_neg hg, hc, Option.bind_some]
    cases cB E ow (A 115) k <;> simp [-Int32.ofNat_add, i_addr]
  · intro b hbE
    unfold f_X12_bought_l1
    dsimp only
    rw [if_neg hg, hc, Option.bind_some, if_neg (i_nn (k := b) (by omega)), hp hk, hp hbE, Option.bind_some, Option.bind_some, Option.bind_some, Option.bind_some, ones_1 (by omega), ones_1 (by omega), Option.bind_some, Option.bind_some]
    generalize psum (g (A 113)) k 10 = pr
    generalize psum (g (A 113)) b 10 = pq
    cases cB E ow (A 115) k <;> by_cases c2 : pr < pq <;> by_cases c3 : pr = pq <;> by_cases c4 : Int32.ofNat (pc b) ≤ Int32.ofNat (pc k) <;> simp [-Int32.ofNat_add, c2, c3, c4, i_addr]
theorem bought_1 {E : Nat} {A : Nat → List Int32} {I : Nat → Int32} (a1 : Int32) (hE : hEle E A I) : ∃ r s, f_X3_cheapest A I = some r ∧ wl (f_X12_bought_l1 A I a1) 100000 (-1, 0) = some s ∧ ((r = -1 ∧ s = -1) ∨ ∃ b, b < 2 ^ E ∧ r = Int32.ofNat b ∧ s = Int32.ofNat b) := by
  have hE' := hE
  obtain ⟨-, -, h10, i1, i2, -, ⟨ow, how, h37, hb⟩, -⟩ := hE
  have hs11 : 2 ^ E ≤ 1024 := Nat.pow_le_pow_right (n := 2) (j := 10) (by decide) h10
  obtain ⟨r, s, e1, e2, Q⟩ := wl_two (s1 := f_X3_cheapest_l1 A I (Int32.ofNat (pc ow))) (s2 := f_X12_bought_l1 A I a1) (fun n x y => ∃ k, n + k = 2 ^ E ∧ ((∃ l f, x = (-1, l, f, Int32.ofNat k) ∧ y = (-1, Int32.ofNat k)) ∨ (∃ b, b < 2 ^ E ∧ x = (Int32.ofNat b, psum (g (A 113)) b 10, Int32.ofNat (pc b), Int32.ofNat k) ∧ y = (Int32.ofNat b, Int32.ofNat k)))) (fun r s => (r = -1 ∧ s = -1) ∨ ∃ b, b < 2 ^ E ∧ r = Int32.ofNat b ∧ s = Int32.ofNat b) (fun n x y => by
    rintro ⟨k, hn, hxy⟩
    by_cases h : 2 ^ E ≤ k
    · right
      have hg : (1 : Int32) <<< (Int32.ofNat E &&& 31) ≤ Int32.ofNat k := by
        rw [i_1shl (by omega), i_le (by omega) (by omega)]; omega
      rcases hxy with ⟨l, f, rfl, rfl⟩ | ⟨b, hb', rfl, rfl⟩
      · refine ⟨-1, -1, ?_, ?_, Or.inl ⟨rfl, rfl⟩⟩
        · unfold f_X3_cheapest_l1
          dsimp only
          rw [i1, if_pos hg]
        · unfold f_X12_bought_l1
          dsimp only
          rw [i2, if_pos hg]
      · refine ⟨Int32.ofNat b, Int32.ofNat b, ?_, ?_, Or.inr ⟨b, hb', rfl, rfl⟩⟩
        · unfold f_X3_cheapest_l1
          dsimp only
          rw [i1, if_pos hg]
        · unfold f_X12_bought_l1
          dsimp only
          rw [i2, if_pos hg]
    · left
      have hk : k < 2 ^ E := by omega
      have m := bos_1 a1 hE' how hb hk
      rcases hxy with ⟨l, f, rfl, rfl⟩ | ⟨b, hb', rfl, rfl⟩
      · refine ⟨_, _, chs_1 hE' how h37 hk _ _ _, m.1, n - 1, by omega, k + 1, by omega, ?_⟩
        cases cB E ow (A 115) k
        · left; exact ⟨l, f, by simp, by simp⟩
        · right; exact ⟨k, hk, by simp, by simp⟩
      · refine ⟨_, _, chs_1 hE' how h37 hk _ _ _, m.2 b hb', n - 1, by omega, k + 1, by omega, Or.inr ?_⟩
        have hm := i_nm1 (k := b) (by omega)
        simp only [hm, false_or]
        split
        · exact ⟨k, hk, rfl, rfl⟩
        · exact ⟨b, hb', rfl, rfl⟩) (2 ^ E) 100000 100000 (-1, 0, 0, 0) (-1, 0) ⟨0, rfl, Or.inl ⟨0, 0, rfl, rfl⟩⟩ (by omega) (by omega)
  refine ⟨r, s, ?_, e2, Q⟩
  unfold f_X3_cheapest
  rw [h37, bc_1 (by omega), Option.bind_some, e1]
  rfl
theorem op_bought (xs : List Int32) {n : Nat} {A : Nat → List Int32} {I : Nat → Int32} {x : am_X} (h : Iv0 n A I x) (a1 : Int32) : am_op xs n ix_X11_bought ix_X12_bought [.int a1] A I x := by
  obtain ⟨⟨P, N, T, R, E, C, X, Z, hI⟩, hx⟩ := h
  have hE := hI.2.2.2.2.2.2.1
  suffices hh : ∃ z, f_X11_bought A I a1 = some z ∧ f_X12_bought A I a1 = some z by
    obtain ⟨z, e1, e2⟩ := hh
    have c1 := t_X11_bought (xs := xs) A I x a1 e1
    have c2 := t_X12_bought (xs := xs) A I x a1 e2
    exact am_op.mk hx c1 (by decide) c2 (by decide) ⟨P, N, T, R, E, C, X, Z, hI⟩
  unfold f_X11_bought f_X12_bought
  rw [in_X]
  rcases wi_l 1 (by decide) a1 with w | ⟨k, hk, rfl, w⟩
  · rw [show f_X11_isWithin a1 0 1 = some 0 from w]
    exact ⟨-2, rfl, rfl⟩
  · rw [show f_X11_isWithin (Int32.ofNat k) 0 1 = some 1 from w, Option.bind_some, Option.bind_some, if_neg (by decide), if_neg (by decide)]
    obtain ⟨r, s, e1, e2, Q⟩ := bought_1 (Int32.ofNat k) hE
    rw [e1, e2, Option.bind_some, Option.bind_some]
    have h10 := hE.2.2.1
    have hs11 : 2 ^ E ≤ 1024 := Nat.pow_le_pow_right (n := 2) (j := 10) (by decide) h10
    rcases Q with ⟨rfl, rfl⟩ | ⟨b, hb, rfl, rfl⟩
    · exact ⟨-1, rfl, rfl⟩
    · rw [if_neg (i_nm1 (by omega)), if_pos (Int32.not_lt.mp (i_nn (by omega)))]
      by_cases c : Int32.ofNat k = 0
      · rw [if_pos c, if_pos c]; exact ⟨_, rfl, rfl⟩
      · have hp := price_1 hE hb
        rw [if_neg c, if_neg c, hp.1, hp.2]; exact ⟨_, rfl, rfl⟩
