/-! ===== the class finds the best order ===== -/
def jw (D : Nat → Nat → Nat) (bd : Nat → Nat) (A : Nat → List Int32) : Prop := (∀ a, a < 8 → (A (12 + a)).length = 8 ∧ ∀ b, b < 8 → g (A (12 + a)) b = Int32.ofNat (D a b)) ∧ (A 24).length = 8 ∧ ∀ s, s < 8 → g (A 24) s = Int32.ofNat (bd s)
theorem jw_up {D : Nat → Nat → Nat} {bd : Nat → Nat} {A : Nat → List Int32} {q r : List Int32} (h : jw D bd A) : jw D bd (up (up A 74 q) 75 r) := by
  refine ⟨fun a ha => ?_, h.2⟩
  rw [up_ne _ _ (by omega), up_ne _ _ (by omega)]
  exact h.1 a ha
theorem mayBe_1 {D : Nat → Nat → Nat} {bd : Nat → Nat} {A : Nat → List Int32} {I : Nat → Int32} {pos left day : Nat} (h : jw D bd A) (hD : ∀ a b, a < 8 → b < 8 → D a b < 1000) (hbd : ∀ s, s < 8 → bd s < 1000) (hp : pos < 8) (hl : left < 256) (hd : day < 100000) : f_X4_mayBeWon A I (Int32.ofNat pos) (Int32.ofNat left) (Int32.ofNat day) = some (Int32.ofNat ((bits left).countP (okf D bd pos day))) := by
  obtain ⟨h1, h2, h3⟩ := h
  obtain ⟨r1, r2⟩ := h1 pos hp
  have key := wl_for (step := f_X4_mayBeWon_l1 A I (Int32.ofNat pos) (Int32.ofNat left) (Int32.ofNat day)) (fun k => (Int32.ofNat ((loR left k).countP (okf D bd pos day)), Int32.ofNat k)) 8 (r := Int32.ofNat ((loR left 8).countP (okf D bd pos day))) (fuel := 100000) (by omega) (fun k hk => ?_) rfl
  · unfold f_X4_mayBeWon
    rw [show ((0 : Int32), (0 : Int32)) = (Int32.ofNat ((loR left 0).countP (okf D bd pos day)), Int32.ofNat 0) from rfl, key, bits_lo]
    rfl
  · show f_X4_mayBeWon_l1 A I _ _ _ (Int32.ofNat ((loR left k).countP (okf D bd pos day)), Int32.ofNat k) = some (.inl (Int32.ofNat ((loR left k ++ (if left.testBit k then [k] else [])).countP (okf D bd pos day)), Int32.ofNat (k + 1)))
    have d1 := hD pos k hp hk
    have b1 := hbd k hk
    unfold f_X4_mayBeWon_l1
    dsimp only
    rw [if_neg (l8 hk), am_row_g 12 hp, Option.bind_some, am_at_g (by omega) (by omega), Option.bind_some, has_1 (by omega) (by omega), Option.bind_some, r2 k hk, show Int32.ofNat k + 1 = Int32.ofNat (k + 1) from i_addr (n := 1), List.countP_append]
    cases hb : left.testBit k with
    | false =>
      rw [if_neg (show ¬ false = true by decide), if_pos rfl, Option.bind_some, if_neg (show ¬ false = true by decide)]
      rfl
    | true =>
      rw [if_pos rfl, if_neg (show ¬ (1 : Int32) = 0 by decide), if_pos rfl]
      by_cases c1 : D pos k = 999
      · rw [if_pos ((i_eqr (n := 999) (by omega) (by decide)).mpr c1), Option.bind_some, List.countP_cons, show okf D bd pos day k = false from decide_eq_false (by omega)]
        rfl
      · rw [if_neg (fun z => c1 ((i_eqr (n := 999) (by omega) (by decide)).mp z)), am_at_g (by omega) (by omega), Option.bind_some, h3 k hk, i_add]
        by_cases c2 : bd k < day + D pos k
        · rw [if_pos ((i_lt (by omega) (by omega)).mpr c2), Option.bind_some, List.countP_cons, show okf D bd pos day k = false from decide_eq_false (by omega)]
          rfl
        · rw [if_neg (fun z => c2 ((i_lt (by omega) (by omega)).mp z)), Option.bind_some, List.countP_cons, show okf D bd pos day k = true from decide_eq_true (by omega), i_addr]
          rfl
theorem keep_1 {A : Nat → List Int32} {I : Nat → Int32} (h74 : (A 74).length = 7) (h75 : (A 75).length = 7) (v : Int32) : ∃ Y, f_X4_keep A I v = some (Y, v) ∧ Y.length = 7 ∧ ∀ k, k < 7 → g Y k = g (A 74) k := by
  obtain ⟨y1, y2⟩ := g_cpy (xs := A 74) (ys := A 75) (i := 0) (j := 0) (n := 7) (by omega) (by omega)
  refine ⟨am_cpy (A 74) (A 75) 0 0 7, ?_, y1.trans h75, fun k hk => by rw [y2 k, if_pos (by omega)]; congr 1; omega⟩
  unfold f_X4_keep am_acq
  rw [if_neg]
  · rfl
  · rw [show (0 : Int32).toNatClampNeg = 0 from rfl, show (7 : Int32).toNatClampNeg = 7 from rfl]
    rintro (z | z | z | z | z)
    · exact absurd z (by decide)
    · exact absurd z (by decide)
    · exact absurd z (by decide)
    · omega
    · omega
/-- the best so far, and the order of it -/
def cR (n : Nat) (b : bst) (best : Int32) (q : List Int32) : Prop := q.length = 7 ∧ ((b.1 = -1 ∧ best = -1) ∨ ∃ w : Nat, b.1 = (w : Int) ∧ w ≤ 8 ∧ best = Int32.ofNat w ∧ b.2.length = n ∧ ∀ k, k < n → g q k = Int32.ofNat (b.2.getD k 0))
theorem cR_lt {n v : Nat} {b : bst} {best : Int32} {q : List Int32} (h : cR n b best q) (hv : v < 1000) : best < Int32.ofNat v ↔ b.1 < (v : Int) := by
  rcases h.2 with ⟨h1, rfl⟩ | ⟨w, h1, h2, rfl, -⟩
  · rw [h1]
    constructor
    · intro _; omega
    · intro _
      exact Int32.lt_of_lt_of_le (by decide) (Int32.not_lt.mp (i_nn (by omega)))
  · rw [h1, i_lt (by omega) (by omega)]
    omega
theorem give_1 {A : Nat → List Int32} {I : Nat → Int32} {a left : Nat} (a3 : Int32) (h74 : (A 74).length = 7) (hl : left < 256) (ha : a + (bits left).length ≤ 7) : ∃ M, wl (f_X4_giveUp_l1 A I (Int32.ofNat left) a3) 100000 (Int32.ofNat a, 0, A 74) = some M ∧ M.length = 7 ∧ (∀ i, i < a → g M i = g (A 74) i) ∧ ∀ i, i < (bits left).length → g M (a + i) = Int32.ofNat ((bits left).getD i 0) := by
  obtain ⟨r, e, Q⟩ := wl_inv (s1 := f_X4_giveUp_l1 A I (Int32.ofNat left) a3) (fun m y => ∃ j M, y = (Int32.ofNat (a + (loR left j).length), Int32.ofNat j, M) ∧ m + j = 8 ∧ M.length = 7 ∧ (∀ i, i < a → g M i = g (A 74) i) ∧ ∀ i, i < (loR left j).length → g M (a + i) = Int32.ofNat ((loR left j).getD i 0)) (fun M => M.length = 7 ∧ (∀ i, i < a → g M i = g (A 74) i) ∧ ∀ i, i < (bits left).length → g M (a + i) = Int32.ofNat ((bits left).getD i 0)) (fun m y => by
    rintro ⟨j, M, rfl, hm, hM, h1, h2⟩
    unfold f_X4_giveUp_l1
    dsimp only
    by_cases h : 8 ≤ j
    · right
      have e : j = 8 := by omega
      subst e
      rw [if_pos (show (8 : Int32) ≤ Int32.ofNat 8 from Int32.le_refl _)]
      exact ⟨M, rfl, hM, h1, by rw [bits_lo]; exact h2⟩
    · left
      have hj : j < 8 := by omega
      rw [if_neg (l8 hj), has_1 (by omega) (by omega), Option.bind_some]
      have hbl := congrArg List.length (bits_at left j m hm)
      rw [List.length_append] at hbl
      cases hb : left.testBit j with
      | false =>
        rw [if_neg (show ¬ false = true by decide), if_pos rfl, Option.bind_some]
        have e : loR left (j + 1) = loR left j := by
          show loR left j ++ (if left.testBit j then [j] else []) = _
          rw [hb, if_neg (show ¬ false = true by decide), List.append_nil]
        refine ⟨_, rfl, m - 1, by omega, j + 1, M, ?_, by omega, hM, h1, by rw [e]; exact h2⟩
        rw [e, i_addr]
      | true =>
        have e : loR left (j + 1) = loR left j ++ [j] := by
          show loR left j ++ (if left.testBit j then [j] else []) = _
          rw [hb, if_pos rfl]
        have hpos : 1 ≤ (hiR left m j).length := by
          obtain ⟨m', rfl⟩ : ∃ m', m = m' + 1 := ⟨m - 1, by omega⟩
          show 1 ≤ (if left.testBit j then j :: hiR left m' (j + 1) else hiR left m' (j + 1)).length
          rw [hb, if_pos rfl, List.length_cons]
          omega
        rw [if_pos rfl, if_neg (show ¬ (1 : Int32) = 0 by decide), if_neg (show ¬ (7 : Int32) ≤ Int32.ofNat (a + (loR left j).length) from nge (n := 7) (by decide) (by omega)), am_up_g (by omega) (by omega), Option.bind_some, Option.bind_some]
        refine ⟨_, rfl, m - 1, by omega, j + 1, M.set (a + (loR left j).length) (Int32.ofNat j), ?_, by omega, by rw [List.length_set]; exact hM, fun i hi => ?_, fun i hi => ?_⟩
        · rw [e, i_addr, i_addr, List.length_append, List.length_singleton, Nat.add_assoc]
        · rw [g_set (by omega), if_neg (by omega)]; exact h1 i hi
        · rw [e, List.length_append, List.length_singleton] at hi
          rw [g_set (by omega), e, List.getD_eq_getElem?_getD]
          by_cases c : i = (loR left j).length
          · rw [if_pos (by omega), c, List.getElem?_append_right (Nat.le_refl _), Nat.sub_self]; rfl
          · rw [if_neg (by omega), List.getElem?_append_left (by omega), ← List.getD_eq_getElem?_getD]
            exact h2 i (by omega)) 8 100000 (Int32.ofNat a, 0, A 74) ⟨0, A 74, rfl, rfl, h74, fun i _ => rfl, fun i hi => absurd hi (Nat.not_lt_zero i)⟩ (by omega)
  exact ⟨r, e, Q⟩
section GoOn
variable {D : Nat → Nat → Nat} {bd : Nat → Nat} {W : List Nat → Nat} {n : Nat}
theorem getD_snoc {pre : List Nat} {x i : Nat} : (pre ++ [x]).getD i 0 = if i = pre.length then x else pre.getD i 0 := by
  rw [List.getD_eq_getElem?_getD, List.getD_eq_getElem?_getD]
  by_cases e : i = pre.length
  · rw [if_pos e, e, List.getElem?_append_right (Nat.le_refl _), Nat.sub_self]; rfl
  · rw [if_neg e]
    by_cases c : i < pre.length
    · rw [List.getElem?_append_left c]
    · rw [List.getElem?_eq_none (by rw [List.length_append, List.length_singleton]; omega), List.getElem?_eq_none (by omega)]
theorem getD_app {pre l : List Nat} {i : Nat} (hi : i < l.length) : (pre ++ l).getD (pre.length + i) 0 = l.getD i 0 := by
  rw [List.getD_eq_getElem?_getD, List.getD_eq_getElem?_getD, List.getElem?_append_right (by omega), Nat.add_sub_cancel_left]
theorem getD_app0 {pre l : List Nat} {i : Nat} (hi : i < pre.length) : (pre ++ l).getD i 0 = pre.getD i 0 := by
  rw [List.getD_eq_getElem?_getD, List.getD_eq_getElem?_getD, List.getElem?_append_left hi]
/-- give up: whatever follows, no more is won -/
theorem giveUp_1 {A : Nat → List Int32} {I : Nat → Int32} {left c : Nat} {pre : List Nat} {b : bst} (h74 : (A 74).length = 7) (h75 : (A 75).length = 7) (hl : left < 256) (ha : pre.length + (bits left).length = n) (hn : n ≤ 7) (hc : c ≤ 8) (hp : ∀ i, i < pre.length → g (A 74) i = Int32.ofNat (pre.getD i 0)) (hb : cR n b (I 4676) (A 75)) : ∃ p q v, f_X4_giveUp A I (Int32.ofNat pre.length) (Int32.ofNat left) (Int32.ofNat c) = some (p, q, v) ∧ p.length = 7 ∧ (∀ i, i < pre.length → g p i = Int32.ofNat (pre.getD i 0)) ∧ cR n (if b.1 < (c : Int) then ((c : Int), pre ++ bits left) else b) v q := by
  unfold f_X4_giveUp
  by_cases h : I 4676 < Int32.ofNat c
  · obtain ⟨M, m1, m2, m3, m4⟩ := give_1 (A := A) (I := I) (a := pre.length) (left := left) (Int32.ofNat c) h74 hl (by omega)
    obtain ⟨Y, y1, y2, y3⟩ := keep_1 (A := up A 74 M) (I := I) m2 h75 (Int32.ofNat c)
    have y3 : ∀ k, k < 7 → g Y k = g M k := y3
    rw [if_pos h, m1, Option.bind_some, y1, Option.bind_some, if_pos ((cR_lt hb (by omega)).mp h)]
    refine ⟨M, Y, Int32.ofNat c, rfl, m2, fun i hi => by rw [m3 i hi, hp i hi], y2, Or.inr ⟨c, rfl, hc, rfl, by rw [List.length_append]; exact ha, fun k hk => ?_⟩⟩
    rw [y3 k (by omega)]
    by_cases e : k < pre.length
    · rw [m3 k e, hp k e, getD_app0 e]
    · obtain ⟨i, rfl⟩ : ∃ i, k = pre.length + i := ⟨k - pre.length, by omega⟩
      rw [m4 i (by omega), getD_app (by omega)]
  · rw [if_neg h, if_neg (fun z => h ((cR_lt hb (by omega)).mpr z))]
    exact ⟨A 74, A 75, I 4676, rfl, h74, hp, hb⟩
theorem goOn_1 (hD : ∀ a b, a < 8 → b < 8 → D a b < 1000) (ht : ∀ a b c, a < 8 → b < 8 → c < 8 → D a c ≤ D a b + D b c) (hbd : ∀ s, s < 8 → bd s < 1000) (hn : n ≤ 7) : ∀ (k L : Nat) (A : Nat → List Int32) (I : Nat → Int32) (pre : List Nat) (pos day c left : Nat) (b : bst), (bits left).length = k → k < L → pre.length + k = n → pos < 8 → day ≤ 1002 * pre.length → left < 256 → c ≤ pre.length → (∀ q, W (pre ++ q) = c + wn D bd pos day q) → jw D bd A → (A 74).length = 7 → (∀ i, i < pre.length → g (A 74) i = Int32.ofNat (pre.getD i 0)) → cR n b (I 4676) (A 75) → I 4675 = Int32.ofNat n → ∃ p q v, f_X4_goOnL L A I (Int32.ofNat pre.length) (Int32.ofNat pos) (Int32.ofNat left) (Int32.ofNat day) (Int32.ofNat c) = some (p, q, v) ∧ p.length = 7 ∧ (∀ i, i < pre.length → g p i = Int32.ofNat (pre.getD i 0)) ∧ cR n (fF W k b pre (bits left)) v q := by
  intro k
  induction k with
  | zero =>
    intro L A I pre pos day c left b hbits hL hpn hpos hday hleft hc hW hjw h74 hpre hb h4675
    obtain ⟨L', rfl⟩ : ∃ L', L = L' + 1 := ⟨L - 1, by omega⟩
    show ∃ p q v, f_X4_goOn (f_X4_goOnL L') A I (Int32.ofNat pre.length) (Int32.ofNat pos) (Int32.ofNat left) (Int32.ofNat day) (Int32.ofNat c) = some (p, q, v) ∧ _
    have hnil := List.length_eq_zero_iff.mp hbits
    have hWp : W pre = c := by
      have := hW []
      rw [List.append_nil] at this
      exact this
    unfold f_X4_goOn
    rw [mayBe_1 hjw hD hbd hpos hleft (by omega), Option.bind_some, i_add, hnil]
    rw [show fF W 0 b pre [] = udw W b pre from rfl, show ([] : List Nat).countP (okf D bd pos day) = 0 from rfl, Nat.add_zero]
    unfold udw
    rw [hWp]
    by_cases h : I 4676 < Int32.ofNat c
    · obtain ⟨Y, y1, y2, y3⟩ := keep_1 (A := A) (I := I) h74 hb.1 (Int32.ofNat c)
      rw [if_pos h, h4675, if_pos ((i_le (by omega) (by omega)).mpr (by omega)), y1, Option.bind_some, if_pos ((cR_lt hb (by omega)).mp h)]
      exact ⟨A 74, Y, Int32.ofNat c, rfl, h74, hpre, y2, Or.inr ⟨c, rfl, by omega, rfl, by omega, fun k hk => by rw [y3 k (by omega), hpre k (by omega)]⟩⟩
    · rw [if_neg h, if_neg (fun z => h ((cR_lt hb (by omega)).mpr z))]
      exact ⟨A 74, A 75, I 4676, rfl, h74, hpre, hb⟩
  | succ k ih =>
    intro L A I pre pos day c left b hbits hL hpn hpos hday hleft hc hW hjw h74 hpre hb h4675
    obtain ⟨L', rfl⟩ : ∃ L', L = L' + 1 := ⟨L - 1, by omega⟩
    show ∃ p q v, f_X4_goOn (f_X4_goOnL L') A I (Int32.ofNat pre.length) (Int32.ofNat pos) (Int32.ofNat left) (Int32.ofNat day) (Int32.ofNat c) = some (p, q, v) ∧ _
    have hcl : (bits left).countP (okf D bd pos day) ≤ k + 1 := by rw [← hbits]; exact List.countP_le_length
    unfold f_X4_goOn
    rw [mayBe_1 hjw hD hbd hpos hleft (by omega), Option.bind_some, i_add]
    by_cases h : I 4676 < Int32.ofNat (c + (bits left).countP (okf D bd pos day))
    case neg =>
      rw [if_neg h, fF_le (W := W) (k + 1) b pre (bits left) hbits (fun q hq => by
        rw [hW q]
        have h1 := wn_le ht hbd q pos day hpos (fun s hs => bits_mem (hq.mem_iff.mp hs))
        rw [hq.countP_eq] at h1
        have h2 : ¬ b.1 < ((c + (bits left).countP (okf D bd pos day) : Nat) : Int) := fun z => h ((cR_lt hb (by omega)).mpr z)
        omega)]
      exact ⟨A 74, A 75, I 4676, rfl, h74, hpre, hb⟩
    rw [if_pos h, h4675, if_neg (nge (by omega) (by omega)), if_pos (show Int32.ofNat pre.length < 7 from (i_lt (n := 7) (by omega) (by decide)).mpr (by omega))]
    obtain ⟨r, e, Q⟩ := wl_inv (s1 := f_X4_goOn_l1 (f_X4_goOnL L') A I (Int32.ofNat pre.length) (Int32.ofNat pos) (Int32.ofNat left) (Int32.ofNat day) (Int32.ofNat c)) (fun m y => ∃ j p q v bj, y = (Int32.ofNat j, p, q, v) ∧ m + j = 8 ∧ p.length = 7 ∧ (∀ i, i < pre.length → g p i = Int32.ofNat (pre.getD i 0)) ∧ cR n bj v q ∧ fG (fF W k) pre bj (loR left j) (hiR left m j) = fF W (k + 1) b pre (bits left)) (fun r => r.1.length = 7 ∧ (∀ i, i < pre.length → g r.1 i = Int32.ofNat (pre.getD i 0)) ∧ cR n (fF W (k + 1) b pre (bits left)) r.2.2 r.2.1) (fun m y => by
      rintro ⟨j, p, q, v, bj, rfl, hm, hp1, hp2, hbj, hfg⟩
      unfold f_X4_goOn_l1
      dsimp only
      by_cases h8 : 8 ≤ j
      · right
        have e : j = 8 := by omega
        subst e
        have e : m = 0 := by omega
        subst e
        rw [if_pos (show (8 : Int32) ≤ Int32.ofNat 8 from Int32.le_refl _)]
        refine ⟨_, rfl, hp1, hp2, ?_⟩
        rw [← hfg]
        exact hbj
      · left
        have hj : j < 8 := by omega
        obtain ⟨m', rfl⟩ : ∃ m', m = m' + 1 := ⟨m - 1, by omega⟩
        have hfg : fG (fF W k) pre bj (loR left j) (if left.testBit j then j :: hiR left m' (j + 1) else hiR left m' (j + 1)) = fF W (k + 1) b pre (bits left) := hfg
        have hlo : loR left (j + 1) = loR left j ++ (if left.testBit j then [j] else []) := rfl
        rw [if_neg (l8 hj), has_1 (by omega) (by omega), Option.bind_some]
        cases hbt : left.testBit j with
        | false =>
          rw [hbt, if_neg (show ¬ false = true by decide)] at hfg hlo
          rw [List.append_nil] at hlo
          rw [if_neg (show ¬ false = true by decide), if_pos rfl, Option.bind_some]
          refine ⟨_, rfl, m', by omega, j + 1, p, q, v, bj, by rw [i_addr], by omega, hp1, hp2, hbj, ?_⟩
          rw [hlo]
          exact hfg
        | true =>
          rw [hbt, if_pos rfl] at hfg hlo
          have hwb := wo_bits (s := left) (j := j) (m := m') (by omega)
          have hfg : fG (fF W k) pre (fF W k bj (pre ++ [j]) (loR left j ++ hiR left m' (j + 1))) (loR left j ++ [j]) (hiR left m' (j + 1)) = fF W (k + 1) b pre (bits left) := hfg
          rw [← hwb] at hfg
          have hwl : wo left j < 256 := wo_lt (n := 8) hleft
          have hbl : (bits (wo left j)).length = k := by
            have e1 := congrArg List.length (bits_at left (j + 1) m' (by omega))
            rw [hlo, List.length_append, List.length_append, List.length_singleton] at e1
            rw [hwb, List.length_append]
            omega
          have hy8 : (p.set pre.length (Int32.ofNat j)).length = 7 := by rw [List.length_set]; exact hp1
          have hpl : (pre ++ [j]).length = pre.length + 1 := by rw [List.length_append, List.length_singleton]
          have hy9 : ∀ i, i < (pre ++ [j]).length → g (p.set pre.length (Int32.ofNat j)) i = Int32.ofNat ((pre ++ [j]).getD i 0) := fun i hi => by
            rw [g_set (by omega), getD_snoc]
            by_cases e : i = pre.length
            · rw [if_pos e, if_pos e]
            · rw [if_neg e, if_neg e]; exact hp2 i (by omega)
          have hrow : (up (up A 74 (p.set pre.length (Int32.ofNat j))) 75 q) (12 + pos) = A (12 + pos) := by rw [up_ne _ _ (by omega), up_ne _ _ (by omega)]
          obtain ⟨r1, r2⟩ := hjw.1 pos hpos
          have dj := hD pos j hpos hj
          have bj' := hbd j hj
          rw [if_pos rfl, if_neg (show ¬ (1 : Int32) = 0 by decide), am_up_g (by omega) (by omega), Option.bind_some, am_row_g 12 hpos, Option.bind_some, hrow, am_at_g (by omega) (by omega), Option.bind_some, Option.bind_some, hrow, am_at_g (by omega) (by omega), Option.bind_some, r2 j hj, i_clear (by omega), i_addr]
          have hnext : ∀ (b1 : bst) (pp qq : List Int32) (vv : Int32), b1 = fF W k bj (pre ++ [j]) (bits (wo left j)) → pp.length = 7 → (∀ i, i < (pre ++ [j]).length → g pp i = Int32.ofNat ((pre ++ [j]).getD i 0)) → cR n b1 vv qq → ∃ j' p q v bj, (Int32.ofNat j + 1, pp, qq, vv) = (Int32.ofNat j', p, q, v) ∧ m' + j' = 8 ∧ p.length = 7 ∧ (∀ i, i < pre.length → g p i = Int32.ofNat (pre.getD i 0)) ∧ cR n bj v q ∧ fG (fF W k) pre bj (loR left j') (hiR left m' j') = fF W (k + 1) b pre (bits left) := fun b1 pp qq vv z1 z2 z3 z4 => by
            refine ⟨j + 1, pp, qq, vv, b1, by rw [show Int32.ofNat j + 1 = Int32.ofNat (j + 1) from i_addr (n := 1)], by omega, z2, fun i hi => ?_, z4, ?_⟩
            · rw [z3 i (by omega), getD_app0 hi]
            · rw [hlo, z1]
              exact hfg
          by_cases c9 : D pos j = 999
          · obtain ⟨pp, qq, vv, z1, z2, z3, z4⟩ := giveUp_1 (A := up (up A 74 (p.set pre.length (Int32.ofNat j))) 75 q) (I := up I 4676 v) (left := wo left j) (c := c) (pre := pre ++ [j]) (b := bj) (n := n) hy8 hbj.1 hwl (by omega) hn (by omega) hy9 hbj
            rw [hpl] at z1
            have hcon := fF_const (W := W) (c := c) k bj (pre ++ [j]) (bits (wo left j)) hbl (fun q hq => by
              rw [List.append_assoc, hW ([j] ++ q)]
              show c + (if D pos j < 999 then _ else 0) = c
              rw [if_neg (by omega), Nat.add_zero])
            rw [if_pos ((i_eqr (n := 999) (by omega) (by decide)).mpr c9)]
            have z1' : f_X4_giveUp (up (up A 74 (p.set pre.length (Int32.ofNat j))) 75 q) (up I 4676 v) (Int32.ofNat (pre.length + 1)) (Int32.ofNat (left ^^^ (left &&& 2 ^ j))) (Int32.ofNat c) = some (pp, qq, vv) := z1
            rw [z1', Option.bind_some]
            exact ⟨_, rfl, m', by omega, hnext _ pp qq vv hcon.symm z2 z3 z4⟩
          · rw [if_neg (fun z => c9 ((i_eqr (n := 999) (by omega) (by decide)).mp z)), am_at_g (by rw [hjw.2.1]; exact hj) (by rw [hjw.2.1]; omega), Option.bind_some, hjw.2.2 j hj, i_add]
            obtain ⟨jj, hjj, hjl⟩ : ∃ jj, jj = (if bd j < day + D pos j then 0 else 1) ∧ jj ≤ 1 := ⟨_, rfl, by split <;> omega⟩
            have e14 : (if Int32.ofNat (bd j) < Int32.ofNat (day + D pos j) then some (Int32.ofNat c) else some (Int32.ofNat c + 1)) = some (Int32.ofNat (c + jj)) := by
              rw [hjj]
              by_cases c2 : bd j < day + D pos j
              · rw [if_pos ((i_lt (by omega) (by omega)).mpr c2), if_pos c2]; rfl
              · rw [if_neg (fun z => c2 ((i_lt (by omega) (by omega)).mp z)), if_neg c2, i_addr]
            obtain ⟨pp, qq, vv, z1, z2, z3, z4⟩ := ih L' (up (up A 74 (p.set pre.length (Int32.ofNat j))) 75 q) (up I 4676 v) (pre ++ [j]) j (day + D pos j + 3) (c + jj) (wo left j) bj hbl (by omega) (by omega) hj (by omega) hwl (by omega) (fun q => by
              rw [List.append_assoc, hW ([j] ++ q)]
              show c + (if D pos j < 999 then (if bd j < day + D pos j then 0 else 1) + wn D bd j (day + D pos j + 3) q else 0) = _
              rw [if_pos (by omega), ← hjj]
              omega) (jw_up hjw) hy8 hy9 hbj h4675
            rw [hpl] at z1
            have z1' : f_X4_goOnL L' (up (up A 74 (p.set pre.length (Int32.ofNat j))) 75 q) (up I 4676 v) (Int32.ofNat (pre.length + 1)) (Int32.ofNat j) (Int32.ofNat (left ^^^ (left &&& 2 ^ j))) (Int32.ofNat (day + D pos j + 3)) (Int32.ofNat (c + jj)) = some (pp, qq, vv) := z1
            rw [e14, Option.bind_some, show Int32.ofNat (day + D pos j) + 3 = Int32.ofNat (day + D pos j + 3) from i_addr (n := 3), z1', Option.bind_some]
            exact ⟨_, rfl, m', by omega, hnext _ pp qq vv rfl z2 z3 z4⟩) 8 100000 (0, A 74, A 75, I 4676) ⟨0, A 74, A 75, I 4676, b, rfl, rfl, h74, hpre, hb, rfl⟩ (by omega)
    rw [e, Option.bind_some]
    exact ⟨r.1, r.2.1, r.2.2, rfl, Q⟩
end GoOn
