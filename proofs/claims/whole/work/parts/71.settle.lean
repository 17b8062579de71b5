/-! ===== what is settled ===== -/
abbrev hCls (C : Nat) (A : Nat → List Int32) (I : Nat → Int32) : Prop := v_cls C (A 62) (A 63) [A 65, A 66, A 67, A 68, A 69, A 70, A 71, A 72] (I 3907) (A 117) (A 118) (A 119) (I 5486)
theorem cls_row {A : Nat → List Int32} (P : Nat → List Int32 → Prop) (h : ∀ l, l < 8 → P l ([A 65, A 66, A 67, A 68, A 69, A 70, A 71, A 72].getD l [])) : ∀ l, l < 8 → P l (A (65 + l)) := by
  intro a ha
  exact match a, ha with
    | 0, _ => h 0 (by decide)
    | 1, _ => h 1 (by decide)
    | 2, _ => h 2 (by decide)
    | 3, _ => h 3 (by decide)
    | 4, _ => h 4 (by decide)
    | 5, _ => h 5 (by decide)
    | 6, _ => h 6 (by decide)
    | 7, _ => h 7 (by decide)
theorem cls_wor {A : Nat → List Int32} (P : Nat → List Int32 → Prop) (h : ∀ l, l < 8 → P l (A (65 + l))) : ∀ l, l < 8 → P l ([A 65, A 66, A 67, A 68, A 69, A 70, A 71, A 72].getD l []) := by
  intro a ha
  exact match a, ha with
    | 0, _ => h 0 (by decide)
    | 1, _ => h 1 (by decide)
    | 2, _ => h 2 (by decide)
    | 3, _ => h 3 (by decide)
    | 4, _ => h 4 (by decide)
    | 5, _ => h 5 (by decide)
    | 6, _ => h 6 (by decide)
    | 7, _ => h 7 (by decide)
/-- who takes s -/
def tkn (q : List Int32) (C s : Nat) : Nat := bset (fun l => decide (¬ psum (fun c => g q (8 * c + l)) s C < 0)) 8
theorem tkn_lt {q : List Int32} {C s : Nat} : tkn q C s < 256 := bset_lt _ 8
section Cls
variable {C s : Nat} {A : Nat → List Int32} {I : Nat → Int32}
theorem s_lt (hC : C ≤ 8) (hs : s < 2 ^ C) : s < 256 := Nat.lt_of_lt_of_le hs (Nat.pow_le_pow_right (n := 2) (j := 8) (by decide) hC)
theorem nge {n k : Nat} (hn : n < 2147483648) (h : k < n) : ¬ Int32.ofNat n ≤ Int32.ofNat k := by
  rw [i_le hn (by omega)]; omega
theorem tak_c (h : hCls C A I) (hs : s < 2 ^ C) : f_X0_takersOf A I (Int32.ofNat s) = some (Int32.ofNat (tkn (A 118) C s)) := by
  obtain ⟨⟨e1', e2'⟩, ⟨l1, l2, l3⟩, hC, i1, i2, hw, hk, sy⟩ := h
  have hw := cls_row (fun l w => w.length = 8 ∧ ∀ c, c < 8 → g w c = g (A 118) (8 * c + l)) hw
  have hs8 := s_lt hC hs
  unfold tkn
  obtain ⟨c, hc⟩ : ∃ c, c = fun l => decide (¬ psum (fun c => g (A 118) (8 * c + l)) s C < 0) := ⟨_, rfl⟩
  rw [← hc]
  have key := wl_for (step := f_X0_takersOf_l1 A I (Int32.ofNat s)) (fun k => (Int32.ofNat (bset c k), Int32.ofNat k)) 8 (r := Int32.ofNat (bset c 8)) (fuel := 100000) (by omega) (fun k hk => ?_) rfl
  · unfold f_X0_takersOf
    rw [show ((0 : Int32), (0 : Int32)) = (Int32.ofNat (bset c 0), Int32.ofNat 0) from rfl, key]
    rfl
  · show f_X0_takersOf_l1 A I (Int32.ofNat s) (Int32.ofNat (bset c k), Int32.ofNat k) = _
    obtain ⟨w1, w2⟩ := hw k hk
    unfold f_X0_takersOf_l1
    dsimp only
    rw [if_neg (show ¬ (8 : Int32) ≤ Int32.ofNat k from nge (n := 8) (by decide) hk), am_row_g 65 hk, Option.bind_some, sumOver_1 (by omega) (by omega), Option.bind_some, w1, show psum (g (A (65 + k))) s 8 = psum (g (A (65 + k))) s (C + (8 - C)) by rw [show C + (8 - C) = 8 by omega], psum_ext hs, psum_congr (f' := fun c => g (A 118) (8 * c + k)) (fun j hj => w2 j (by omega)), i_addr]
    have e : (if psum (fun c => g (A 118) (8 * c + k)) s C < 0 then some (0 : Int32) else some ((1 : Int32) <<< (Int32.ofNat k &&& 31))) = some (if c k then (1 : Int32) <<< (Int32.ofNat k &&& 31) else 0) := by
      rw [hc]
      by_cases q : psum (fun c => g (A 118) (8 * c + k)) s C < 0 <;> simp [q]
    rw [e, Option.bind_some, i_bset (by omega)]
theorem tak_m (h : hCls C A I) (hs : s < 2 ^ C) : f_X12_takersOf A I (Int32.ofNat s) = some (Int32.ofNat (tkn (A 118) C s)) := by
  obtain ⟨⟨e1', e2'⟩, ⟨l1, l2, l3⟩, hC, i1, i2, hw, hk, sy⟩ := h
  have hs8 := s_lt hC hs
  unfold tkn
  obtain ⟨c, hc⟩ : ∃ c, c = fun l => decide (¬ psum (fun c => g (A 118) (8 * c + l)) s C < 0) := ⟨_, rfl⟩
  rw [← hc]
  have key := wl_for (step := f_X12_takersOf_l1 A I (Int32.ofNat s)) (fun k => (Int32.ofNat (bset c k), Int32.ofNat k)) 8 (r := Int32.ofNat (bset c 8)) (fuel := 100000) (by omega) (fun k hk => ?_) rfl
  · unfold f_X12_takersOf
    rw [show ((0 : Int32), (0 : Int32)) = (Int32.ofNat (bset c 0), Int32.ofNat 0) from rfl, key]
    rfl
  · show f_X12_takersOf_l1 A I (Int32.ofNat s) (Int32.ofNat (bset c k), Int32.ofNat k) = _
    have hin := wl_for (step := f_X12_takersOf_l2 A I (Int32.ofNat s) (Int32.ofNat (bset c k)) (Int32.ofNat k)) (fun j => (psum (fun c => g (A 118) (8 * c + k)) s j, Int32.ofNat j)) C (r := psum (fun c => g (A 118) (8 * c + k)) s C) (fuel := 100000) (by omega) (fun j hj => by
      show f_X12_takersOf_l2 A I (Int32.ofNat s) _ (Int32.ofNat k) (psum (fun c => g (A 118) (8 * c + k)) s j, Int32.ofNat j) = some (.inl (psum (fun c => g (A 118) (8 * c + k)) s j + (if s.testBit j then g (A 118) (8 * j + k) else 0), Int32.ofNat (j + 1)))
      have hix : (8 : Int32) * Int32.ofNat j + Int32.ofNat k = Int32.ofNat (8 * j + k) := by rw [show (8 : Int32) * Int32.ofNat j = Int32.ofNat (8 * j) from i_mull (m := 8), i_add]
      unfold f_X12_takersOf_l2
      dsimp only
      rw [i2, if_neg (nge (by omega) hj), i_bit (by omega) (by omega), hix, am_at_g (by omega) (by omega), i_addr]
      cases s.testBit j with
      | true => simp only [if_true, Option.bind_some]
      | false => simp only [Bool.false_eq_true, if_false, if_neg (show ¬ (0 : Int32) = 1 by decide), Option.bind_some]) (by
      unfold f_X12_takersOf_l2
      dsimp only
      rw [i2, if_pos (Int32.le_refl _)])
    unfold f_X12_takersOf_l1
    dsimp only
    rw [if_neg (show ¬ (8 : Int32) ≤ Int32.ofNat k from nge (n := 8) (by decide) hk), show ((0 : Int32), (0 : Int32)) = (psum (fun c => g (A 118) (8 * c + k)) s 0, Int32.ofNat 0) from rfl, hin, Option.bind_some, i_addr]
    have e : (if 0 ≤ psum (fun c => g (A 118) (8 * c + k)) s C then some ((1 : Int32) <<< (Int32.ofNat k &&& 31)) else some (0 : Int32)) = some (if c k then (1 : Int32) <<< (Int32.ofNat k &&& 31) else 0) := by
      rw [hc]
      by_cases q : psum (fun c => g (A 118) (8 * c + k)) s C < 0
      · rw [if_neg (Int32.not_le.mpr q), if_neg (by simp [q])]
      · rw [if_pos (Int32.not_lt.mp q), if_pos (by simp [q])]
    rw [e, Option.bind_some, i_bset (by omega)]
/-- all that s holds of f -/
def uni (f : Nat → Nat) (s : Nat) : Nat → Nat
  | 0 => 0
  | k + 1 => uni f s k ||| (if s.testBit k then f k else 0)
theorem uni_lt {f : Nat → Nat} {s n : Nat} : ∀ {k : Nat}, (∀ j, j < k → f j < 2 ^ n) → uni f s k < 2 ^ n
  | 0, _ => Nat.two_pow_pos n
  | k + 1, h => Nat.or_lt_two_pow (uni_lt (fun j hj => h j (by omega))) (by
      cases s.testBit k with
      | true => exact h k (by omega)
      | false => exact Nat.two_pow_pos n)
def udn (q : List Int32) (C s G : Nat) : Nat := pc (uni (cb q) s C &&& G)
theorem udn_le {q : List Int32} {C s G : Nat} : udn q C s G ≤ 24 := pc_le _
theorem i_or0 {a f : Nat} {b : Bool} : Int32.ofNat a ||| (if b then Int32.ofNat f else 0) = Int32.ofNat (a ||| if b then f else 0) := by
  cases b
  · exact i_or (b := 0)
  · exact i_or
theorem und_c (h : hCls C A I) (hs : s < 2 ^ C) {G : Nat} (hG : G < 16777216) : f_X0_undoneBy A I (Int32.ofNat s) (Int32.ofNat G) = some (Int32.ofNat (udn (A 117) C s G)) := by
  obtain ⟨⟨e1', e2'⟩, ⟨l1, l2, l3⟩, hC, i1, i2, hw, hk, sy⟩ := h
  have hs8 := s_lt hC hs
  have hcb : ∀ j, j < 8 → g (A 117) j = Int32.ofNat (cb (A 117) j) ∧ cb (A 117) j < 2 ^ 24 := fun j hj => by
    obtain ⟨u, h1, h2⟩ := (hk j hj).1
    obtain ⟨c1, c2⟩ := cb_eq h2 (by omega)
    exact ⟨c1, by rw [c2]; exact h1⟩
  have key := wl_for (step := f_X0_undoneBy_l1 A I (Int32.ofNat s) (Int32.ofNat G)) (fun k => (Int32.ofNat (uni (cb (A 117)) s k), Int32.ofNat k)) C (r := Int32.ofNat (uni (cb (A 117)) s C)) (fuel := 100000) (by omega) (fun k hk => ?_) ?_
  · unfold f_X0_undoneBy
    rw [show ((0 : Int32), (0 : Int32)) = (Int32.ofNat (uni (cb (A 117)) s 0), Int32.ofNat 0) from rfl, key, Option.bind_some, i_and, bc_1 (Nat.lt_of_le_of_lt Nat.and_le_right hG)]
    rfl
  · show f_X0_undoneBy_l1 A I _ _ (Int32.ofNat (uni (cb (A 117)) s k), Int32.ofNat k) = some (.inl (Int32.ofNat (uni (cb (A 117)) s k ||| (if s.testBit k then cb (A 117) k else 0)), Int32.ofNat (k + 1)))
    unfold f_X0_undoneBy_l1
    dsimp only
    rw [i1, if_neg (nge (by omega) hk), has_1 (by omega) (by omega), Option.bind_some, e1', am_at_g (by omega) (by omega), (hcb k (by omega)).1, i_addr, ← i_or0]
    cases s.testBit k with
    | true => simp only [if_true, if_neg (show ¬ (1 : Int32) = 0 by decide), Option.bind_some]
    | false => simp only [Bool.false_eq_true, if_false, if_true, Option.bind_some]
  · unfold f_X0_undoneBy_l1
    dsimp only
    rw [i1, if_pos (Int32.le_refl _)]
theorem und_m (h : hCls C A I) (hs : s < 2 ^ C) {G : Nat} (hG : G < 16777216) : f_X12_undoneBy A I (Int32.ofNat s) (Int32.ofNat G) = some (Int32.ofNat (udn (A 117) C s G)) := by
  obtain ⟨⟨e1', e2'⟩, ⟨l1, l2, l3⟩, hC, i1, i2, hw, hk, sy⟩ := h
  have hs8 := s_lt hC hs
  have hcb : ∀ j, j < 8 → g (A 117) j = Int32.ofNat (cb (A 117) j) ∧ cb (A 117) j < 2 ^ 24 := fun j hj => by
    obtain ⟨u, h1, h2⟩ := (hk j hj).1
    obtain ⟨c1, c2⟩ := cb_eq h2 (by omega)
    exact ⟨c1, by rw [c2]; exact h1⟩
  have key := wl_for (step := f_X12_undoneBy_l1 A I (Int32.ofNat s) (Int32.ofNat G)) (fun k => (Int32.ofNat (uni (cb (A 117)) s k), Int32.ofNat k)) C (r := Int32.ofNat (uni (cb (A 117)) s C)) (fuel := 100000) (by omega) (fun k hk => ?_) ?_
  · unfold f_X12_undoneBy
    rw [show ((0 : Int32), (0 : Int32)) = (Int32.ofNat (uni (cb (A 117)) s 0), Int32.ofNat 0) from rfl, key, Option.bind_some, i_and, ones_1 (Nat.lt_of_le_of_lt Nat.and_le_right hG)]
    rfl
  · show f_X12_undoneBy_l1 A I _ _ (Int32.ofNat (uni (cb (A 117)) s k), Int32.ofNat k) = some (.inl (Int32.ofNat (uni (cb (A 117)) s k ||| (if s.testBit k then cb (A 117) k else 0)), Int32.ofNat (k + 1)))
    unfold f_X12_undoneBy_l1
    dsimp only
    rw [i2, if_neg (nge (by omega) hk), i_bit (by omega) (by omega), am_at_g (by omega) (by omega), (hcb k (by omega)).1, i_addr, ← i_or0]
    cases s.testBit k with
    | true => simp only [if_true, Option.bind_some]
    | false => simp only [Bool.false_eq_true, if_false, if_neg (show ¬ (0 : Int32) = 1 by decide), Option.bind_some]
  · unfold f_X12_undoneBy_l1
    dsimp only
    rw [i2, if_pos (Int32.le_refl _)]
theorem gt_succ {ys : List Int32} {s k : Nat} : gt ys s (k + 1) = (gt ys s k && (! s.testBit k || decide (cb ys k &&& s = 0))) := by
  rw [Bool.eq_iff_iff, Bool.and_eq_true, Bool.or_eq_true, decide_eq_true_eq]
  unfold gt
  rw [decide_eq_true_eq, decide_eq_true_eq, Bool.not_eq_true']
  constructor
  · intro h
    refine ⟨fun j hj => h j (by omega), ?_⟩
    cases hb : s.testBit k with
    | true => exact Or.inr (h k (by omega) hb)
    | false => exact Or.inl rfl
  · rintro ⟨h1, h2⟩ j hj ht
    by_cases e : j = k
    · subst e
      rcases h2 with h2 | h2
      · rw [ht] at h2; cases h2
      · exact h2
    · exact h1 j (by omega) ht
theorem tog_c (h : hCls C A I) (hs : s < 2 ^ C) : f_X11_goTogether (A 63) (Int32.ofNat s) = some (if gt (A 119) s C then 1 else 0) := by
  obtain ⟨⟨e1', e2'⟩, ⟨l1, l2, l3⟩, hC, i1, i2, hw, hk, sy⟩ := h
  have hs8 := s_lt hC hs
  rw [e2', together_1 (by omega) (by omega) (fun k h => by
    obtain ⟨b, h1, h2⟩ := (hk k (by omega)).2.1
    exact ⟨b, by omega, h2⟩), l3, show (8 : Nat) = C + (8 - C) by omega, gt_lt hs]
theorem tog_m (h : hCls C A I) (hs : s < 2 ^ C) : f_X12_goTogether A I (Int32.ofNat s) = some (if gt (A 119) s C then 1 else 0) := by
  obtain ⟨⟨e1', e2'⟩, ⟨l1, l2, l3⟩, hC, i1, i2, hw, hk, sy⟩ := h
  have hs8 := s_lt hC hs
  have key := wl_for (step := f_X12_goTogether_l1 A I (Int32.ofNat s)) (fun k => ((if gt (A 119) s k then (1 : Int32) else 0), Int32.ofNat k)) C (r := if gt (A 119) s C then 1 else 0) (fuel := 100000) (by omega) (fun k hk' => ?_) ?_
  · unfold f_X12_goTogether
    have h0 : gt (A 119) s 0 = true := decide_eq_true (fun k hk => absurd hk (Nat.not_lt_zero k))
    rw [show ((1 : Int32), (0 : Int32)) = ((if gt (A 119) s 0 then (1 : Int32) else 0), Int32.ofNat 0) by rw [h0]; rfl, key, Option.bind_some]
    cases gt (A 119) s C <;> rfl
  · show f_X12_goTogether_l1 A I _ ((if gt (A 119) s k then (1 : Int32) else 0), Int32.ofNat k) = some (.inl ((if gt (A 119) s (k + 1) then (1 : Int32) else 0), Int32.ofNat (k + 1)))
    obtain ⟨b, h1, h2⟩ := (hk k (by omega)).2.1
    obtain ⟨c1, c2⟩ := cb_eq h2 (by omega)
    have hlt : cb (A 119) k &&& s < 2147483648 := Nat.lt_of_le_of_lt Nat.and_le_right (by omega)
    unfold f_X12_goTogether_l1
    dsimp only
    rw [i2, if_neg (nge (by omega) hk'), i_bit (by omega) (by omega), am_at_g (by omega) (by omega), c1, Option.bind_some, i_and, i_addr, gt_succ]
    simp only [i_eq0 hlt]
    cases gt (A 119) s k <;> cases s.testBit k <;> by_cases q : cb (A 119) k &&& s = 0 <;> simp [q]
  · unfold f_X12_goTogether_l1
    dsimp only
    rw [i2, if_pos (Int32.le_refl _)]
end Cls
/-- whether s is better than b -/
def isB (q1 q2 : List Int32) (C G s b : Nat) : Bool := if pc s = pc b then (if udn q1 C b G = udn q1 C s G then decide (pc (tkn q2 C b) < pc (tkn q2 C s)) else decide (udn q1 C s G < udn q1 C b G)) else decide (pc b < pc s)
theorem i_sub0 {a b : Nat} (ha : a < 25) (hb : b < 25) : (Int32.ofNat a - Int32.ofNat b = 0 ↔ a = b) ∧ (Int32.ofNat a - Int32.ofNat b ≤ 0 ↔ a ≤ b) := by
  have key : ∀ a b : Fin 25, (Int32.ofNat a - Int32.ofNat b = 0 ↔ a = b) ∧ (Int32.ofNat a - Int32.ofNat b ≤ 0 ↔ a ≤ b) := by decide +kernel
  have := key ⟨a, ha⟩ ⟨b, hb⟩
  simpa only [Fin.mk.injEq, Fin.mk_le_mk] using this
section Cls2
variable {C s b : Nat} {A : Nat → List Int32} {I : Nat → Int32}
theorem isB_c (h : hCls C A I) (hs : s < 2 ^ C) (hb : b < 2 ^ C) {G : Nat} (hG : G < 16777216) : f_X0_isBetter A I (Int32.ofNat s) (Int32.ofNat b) (Int32.ofNat G) = some (if isB (A 117) (A 118) C G s b then 1 else 0) := by
  have hs8 := s_lt h.2.2.1 hs
  have hb8 := s_lt h.2.2.1 hb
  have t1 := tkn_lt (q := A 118) (C := C) (s := s)
  have t2 := tkn_lt (q := A 118) (C := C) (s := b)
  have p1 := pc_le s
  have p2 := pc_le b
  have p3 := pc_le (tkn (A 118) C s)
  have p4 := pc_le (tkn (A 118) C b)
  have u1 := udn_le (q := A 117) (C := C) (s := s) (G := G)
  have u2 := udn_le (q := A 117) (C := C) (s := b) (G := G)
  unfold f_X0_isBetter isB
  rw [bc_1 (by omega), bc_1 (by omega), und_c h hs hG, und_c h hb hG, tak_c h hs, tak_c h hb, Option.bind_some, Option.bind_some, Option.bind_some, Option.bind_some, Option.bind_some, bc_1 (by omega), Option.bind_some, Option.bind_some, bc_1 (by omega), Option.bind_some]
  generalize udn (A 117) C s G = us at *
  generalize udn (A 117) C b G = ub at *
  generalize tkn (A 118) C s = ts at *
  generalize tkn (A 118) C b = tb at *
  generalize pc s = ps at *
  generalize pc b = pb at *
  generalize pc ts = pts at *
  generalize pc tb = ptb at *
  simp only [(i_sub0 (a := ps) (b := pb) (by omega) (by omega)).1, (i_sub0 (a := ps) (b := pb) (by omega) (by omega)).2, (i_sub0 (a := ub) (b := us) (by omega) (by omega)).1, (i_sub0 (a := ub) (b := us) (by omega) (by omega)).2, i_le (m := pts) (n := ptb) (by omega) (by omega)]
  by_cases q1 : ps = pb
  · rw [if_pos q1, if_pos q1]
    by_cases q2 : ub = us
    · rw [if_pos q2, if_pos q2]
      by_cases q3 : pts ≤ ptb
      · rw [if_pos q3, decide_eq_false (by omega)]; rfl
      · rw [if_neg q3, decide_eq_true (by omega)]; rfl
    · rw [if_neg q2, if_neg q2]
      by_cases q3 : ub ≤ us
      · rw [if_pos q3, decide_eq_false (by omega)]; rfl
      · rw [if_neg q3, decide_eq_true (by omega)]; rfl
  · rw [if_neg q1, if_neg q1]
    by_cases q3 : ps ≤ pb
    · rw [if_pos q3, decide_eq_false (by omega)]; rfl
    · rw [if_neg q3, decide_eq_true (by omega)]; rfl
theorem isB_m (h : hCls C A I) (hs : s < 2 ^ C) (hb : b < 2 ^ C) {G : Nat} (hG : G < 16777216) : f_X12_isBetter A I (Int32.ofNat s) (Int32.ofNat b) (Int32.ofNat G) = some (if isB (A 117) (A 118) C G s b then 1 else 0) := by
  have hs8 := s_lt h.2.2.1 hs
  have hb8 := s_lt h.2.2.1 hb
  have t1 := tkn_lt (q := A 118) (C := C) (s := s)
  have t2 := tkn_lt (q := A 118) (C := C) (s := b)
  have p1 := pc_le s
  have p2 := pc_le b
  have p3 := pc_le (tkn (A 118) C s)
  have p4 := pc_le (tkn (A 118) C b)
  have u1 := udn_le (q := A 117) (C := C) (s := s) (G := G)
  have u2 := udn_le (q := A 117) (C := C) (s := b) (G := G)
  unfold f_X12_isBetter isB
  rw [ones_1 (by omega), ones_1 (by omega), und_m h hs hG, und_m h hb hG, tak_m h hs, tak_m h hb]
  simp only [Option.bind_some]
  rw [ones_1 (by omega), ones_1 (by omega)]
  generalize udn (A 117) C s G = us at *
  generalize udn (A 117) C b G = ub at *
  generalize tkn (A 118) C s = ts at *
  generalize tkn (A 118) C b = tb at *
  generalize pc s = ps at *
  generalize pc b = pb at *
  generalize pc ts = pts at *
  generalize pc tb = ptb at *
  simp only [Option.bind_some, i_eq (m := ps) (n := pb) (by omega) (by omega), i_le (m := ps) (n := pb) (by omega) (by omega), i_eq (m := us) (n := ub) (by omega) (by omega), i_le (m := ub) (n := us) (by omega) (by omega), i_le (m := pts) (n := ptb) (by omega) (by omega)]
  by_cases q1 : ps = pb
  · rw [if_pos q1, if_pos q1]
    by_cases q2 : ub = us
    · rw [if_pos q2.symm, if_pos q2]
      by_cases q3 : pts ≤ ptb
      · rw [if_pos q3, decide_eq_false (by omega)]; rfl
      · rw [if_neg q3, decide_eq_true (by omega)]; rfl
    · rw [if_neg (fun z => q2 z.symm), if_neg q2]
      by_cases q3 : ub ≤ us
      · rw [if_pos q3, decide_eq_false (by omega)]; rfl
      · rw [if_neg q3, decide_eq_true (by omega)]; rfl
  · rw [if_neg q1, if_neg q1]
    by_cases q3 : ps ≤ pb
    · rw [if_pos q3, decide_eq_false (by omega)]; rfl
    · rw [if_neg q3, decide_eq_true (by omega)]; rfl
/-- the best of the sets up to k -/
def bes (q1 q2 q3 : List Int32) (C G m : Nat) : Nat → Nat
  | 0 => 0
  | k + 1 => if gt q3 (k + 1) C = true ∧ m ≤ pc (tkn q2 C (k + 1)) ∧ isB q1 q2 C G (k + 1) (bes q1 q2 q3 C G m k) = true then k + 1 else bes q1 q2 q3 C G m k
theorem bes_le {q1 q2 q3 : List Int32} {C G m : Nat} : ∀ k, bes q1 q2 q3 C G m k ≤ k
  | 0 => Nat.le_refl _
  | k + 1 => by
    have := bes_le (q1 := q1) (q2 := q2) (q3 := q3) (C := C) (G := G) (m := m) k
    unfold bes
    split <;> omega
theorem set_c (h : hCls C A I) {G m : Nat} (hG : G < 16777216) (hm : m < 100) : f_X0_settled A I (Int32.ofNat m) (Int32.ofNat G) = some (Int32.ofNat (bes (A 117) (A 118) (A 119) C G m (2 ^ C - 1))) := by
  obtain ⟨be, hbe⟩ : ∃ be, be = bes (A 117) (A 118) (A 119) C G m := ⟨_, rfl⟩
  have hbl : ∀ k, be k ≤ k := fun k => by rw [hbe]; exact bes_le k
  have hC := h.2.2.1
  have i1 := h.2.2.2.1
  have h2 : 2 ^ C ≤ 256 := Nat.pow_le_pow_right (n := 2) (j := 8) (by decide) hC
  have h1 : 1 ≤ 2 ^ C := Nat.two_pow_pos C
  have key := wl_for (step := f_X0_settled_l1 A I (Int32.ofNat m) (Int32.ofNat G)) (fun k => (Int32.ofNat (be k), Int32.ofNat (k + 1))) (2 ^ C - 1) (r := Int32.ofNat (be (2 ^ C - 1))) (fuel := 100000) (by omega) (fun k hk => ?_) ?_
  · unfold f_X0_settled
    rw [show ((0 : Int32), (1 : Int32)) = (Int32.ofNat (be 0), Int32.ofNat (0 + 1)) by rw [hbe]; rfl, key, ← hbe]
    rfl
  · show f_X0_settled_l1 A I _ _ (Int32.ofNat (be k), Int32.ofNat (k + 1)) = some (.inl (Int32.ofNat (be (k + 1)), Int32.ofNat (k + 2)))
    have hbk := hbl k
    have hs : k + 1 < 2 ^ C := by omega
    have hb : be k < 2 ^ C := by omega
    have t1 := tkn_lt (q := A 118) (C := C) (s := k + 1)
    have p1 := pc_le (k + 1)
    have p2 := pc_le (be k)
    have p3 := pc_le (tkn (A 118) C (k + 1))
    have hn : be (k + 1) = if gt (A 119) (k + 1) C = true ∧ m ≤ pc (tkn (A 118) C (k + 1)) ∧ isB (A 117) (A 118) C G (k + 1) (be k) = true then k + 1 else be k := by rw [hbe]; rfl
    rw [hn]
    unfold f_X0_settled_l1
    dsimp only
    rw [i1, i_1shl (by omega), if_neg (nge (by omega) hs), bc_1 (by omega), bc_1 (by omega), tog_c h hs, tak_c h hs, isB_c h hs hb hG, Option.bind_some, Option.bind_some, Option.bind_some, Option.bind_some, Option.bind_some, bc_1 (by omega), Option.bind_some]
    simp only [i_lt (m := pc (tkn (A 118) C (k + 1))) (n := m) (by omega) (by omega), i_lt (m := pc (k + 1)) (n := pc (be k)) (by omega) (by omega)]
    have hlow : pc (k + 1) < pc (be k) → isB (A 117) (A 118) C G (k + 1) (be k) = false := fun q => by
      unfold isB
      rw [if_neg (by omega), decide_eq_false (by omega)]
    rw [show Int32.ofNat (k + 1) + 1 = Int32.ofNat (k + 2) from i_addr (n := 1)]
    by_cases c1 : pc (k + 1) < pc (be k)
    · rw [if_pos c1, hlow c1]
      simp [-Int32.ofNat_add]
    · rw [if_neg c1]
      cases gt (A 119) (k + 1) C <;> cases isB (A 117) (A 118) C G (k + 1) (be k) <;> by_cases c2 : pc (tkn (A 118) C (k + 1)) < m
      all_goals first
        | (have c3 : ¬ m ≤ pc (tkn (A 118) C (k + 1)) := by omega
           simp [-Int32.ofNat_add, c2, c3])
        | (have c3 : m ≤ pc (tkn (A 118) C (k + 1)) := by omega
           simp [-Int32.ofNat_add, c2, c3])
  · unfold f_X0_settled_l1
    dsimp only
    rw [i1, i_1shl (by omega), show 2 ^ C - 1 + 1 = 2 ^ C by omega, if_pos (Int32.le_refl _)]
theorem set_m (h : hCls C A I) {G m : Nat} (hG : G < 16777216) (hm : m < 100) (a2 : Int32) : wl (f_X12_settling_l1 A I (Int32.ofNat m) a2 (Int32.ofNat G)) 100000 (0, 1) = some (Int32.ofNat (bes (A 117) (A 118) (A 119) C G m (2 ^ C - 1))) := by
  obtain ⟨be, hbe⟩ : ∃ be, be = bes (A 117) (A 118) (A 119) C G m := ⟨_, rfl⟩
  have hbl : ∀ k, be k ≤ k := fun k => by rw [hbe]; exact bes_le k
  have hC := h.2.2.1
  have i2 := h.2.2.2.2.1
  have h2 : 2 ^ C ≤ 256 := Nat.pow_le_pow_right (n := 2) (j := 8) (by decide) hC
  have h1 : 1 ≤ 2 ^ C := Nat.two_pow_pos C
  have key := wl_for (step := f_X12_settling_l1 A I (Int32.ofNat m) a2 (Int32.ofNat G)) (fun k => (Int32.ofNat (be k), Int32.ofNat (k + 1))) (2 ^ C - 1) (r := Int32.ofNat (be (2 ^ C - 1))) (fuel := 100000) (by omega) (fun k hk => ?_) ?_
  · rw [show ((0 : Int32), (1 : Int32)) = (Int32.ofNat (be 0), Int32.ofNat (0 + 1)) by rw [hbe]; rfl, key, ← hbe]
  · show f_X12_settling_l1 A I _ _ _ (Int32.ofNat (be k), Int32.ofNat (k + 1)) = some (.inl (Int32.ofNat (be (k + 1)), Int32.ofNat (k + 2)))
    have hbk := hbl k
    have hs : k + 1 < 2 ^ C := by omega
    have hb : be k < 2 ^ C := by omega
    have t1 := tkn_lt (q := A 118) (C := C) (s := k + 1)
    have p3 := pc_le (tkn (A 118) C (k + 1))
    have hn : be (k + 1) = if gt (A 119) (k + 1) C = true ∧ m ≤ pc (tkn (A 118) C (k + 1)) ∧ isB (A 117) (A 118) C G (k + 1) (be k) = true then k + 1 else be k := by rw [hbe]; rfl
    rw [hn]
    unfold f_X12_settling_l1
    dsimp only
    rw [i2, i_1shl (by omega), if_neg (nge (by omega) hs), tog_m h hs, tak_m h hs, isB_m h hs hb hG]
    simp only [Option.bind_some]
    rw [ones_1 (by omega)]
    simp only [Option.bind_some, i_lt (m := pc (tkn (A 118) C (k + 1))) (n := m) (by omega) (by omega)]
    rw [show Int32.ofNat (k + 1) + 1 = Int32.ofNat (k + 2) from i_addr (n := 1)]
    cases gt (A 119) (k + 1) C <;> cases isB (A 117) (A 118) C G (k + 1) (be k) <;> by_cases c2 : pc (tkn (A 118) C (k + 1)) < m
    all_goals first
      | (have c3 : ¬ m ≤ pc (tkn (A 118) C (k + 1)) := by omega
         simp [-Int32.ofNat_add, c2, c3])
      | (have c3 : m ≤ pc (tkn (A 118) C (k + 1)) := by omega
         simp [-Int32.ofNat_add, c2, c3])
  · unfold f_X12_settling_l1
    dsimp only
    rw [i2, i_1shl (by omega), show 2 ^ C - 1 + 1 = 2 ^ C by omega, if_pos (Int32.le_refl _)]
end Cls2
theorem op_settling (xs : List Int32) {n : Nat} {A : Nat → List Int32} {I : Nat → Int32} {x : am_X} (h : Iv0 n A I x) (a1 : Int32) (a2 : Int32) : am_op xs n ix_X11_settling ix_X12_settling [.int a1, .int a2] A I x := by
  obtain ⟨⟨P, N, T, R, E, C, X, Z, hI⟩, hx⟩ := h
  obtain ⟨h41, h42, -, -, -, -, -, -, -, -, -, h107, h108, -⟩ := scr_get hI.2.2.2.2.2.2.2.2.2.2.2.2
  have hP := hI.1
  have hT := hI.2.2.1
  have hA := hI.2.2.2.1
  have hX := hI.2.2.2.2.2.2.2.2.2.2.2.1
  have hK : hCls C A I := hI.2.2.2.2.2.2.2.2.1
  suffices hh : ∃ z F1 S1 F2 S2, f_X11_settling A I x a1 a2 = some (z, F1, S1) ∧ f_X12_settling (up (up A 41 F1) 42 S1) I a1 a2 = some (z, F2, S2) ∧ F1.length = 6 ∧ S1.length = 40 ∧ F2.length = 6 ∧ S2.length = 161 by
    obtain ⟨z, F1, S1, F2, S2, e1, e2, l1, l2, l3, l4⟩ := hh
    have q9 := scr_4 hI.2.2.2.2.2.2.2.2.2.2.2.2 l1 l2 l3 l4
    have c1 := t_X11_settling (xs := xs) A I x a1 a2 e1
    have c2 := t_X12_settling (xs := xs) (up (up A 41 F1) 42 S1) I x a1 a2 e2
    exact am_op.mk hx c1 (by decide) c2 (by decide) ⟨P, N, T, R, E, C, X, Z, ⟨hI.1, hI.2.1, hI.2.2.1, hI.2.2.2.1, hI.2.2.2.2.1, hI.2.2.2.2.2.1, hI.2.2.2.2.2.2.1, hI.2.2.2.2.2.2.2.1, hI.2.2.2.2.2.2.2.2.1, hI.2.2.2.2.2.2.2.2.2.1, hI.2.2.2.2.2.2.2.2.2.2.1, hI.2.2.2.2.2.2.2.2.2.2.2.1, q9⟩⟩
  unfold f_X11_settling f_X12_settling
  simp only [in_X]
  rcases wi_l 8 (by decide) a1 with w | ⟨m, hm, rfl, w⟩
  · rw [show f_X11_isWithin a1 0 8 = some 0 from w]
    exact ⟨-2, A 41, A 42, A 107, A 108, rfl, rfl, h41, h42, h107, h108⟩
  rw [show f_X11_isWithin (Int32.ofNat m) 0 8 = some 1 from w]
  simp only [Option.bind_some, if_neg (show ¬ (1 : Int32) = 0 by decide)]
  rcases wi_l 2 (by decide) a2 with w | ⟨k, hk, rfl, w⟩
  · rw [show f_X11_isWithin a2 0 2 = some 0 from w]
    exact ⟨-2, A 41, A 42, A 107, A 108, rfl, rfl, h41, h42, h107, h108⟩
  rw [show f_X11_isWithin (Int32.ofNat k) 0 2 = some 1 from w]
  simp only [Option.bind_some, if_neg (show ¬ (1 : Int32) = 0 by decide)]
  obtain ⟨F1, S1, x2, l1, l2⟩ := gd_c (s := 2) (A := A) (I := I) (x := x) hP hT hA hX h41 h42 (by decide)
  obtain ⟨F2, S2, y2, l3, l4⟩ := gd_m (s := 2) (A := up (up A 41 F1) 42 S1) (I := I) (x := x) hP hT hA hX h107 h108 (by decide)
  have x2 : f_X1_goodUnder A I x 2 = some (Int32.ofNat (gd N T A 2), F1, S1) := x2
  have y2 : f_X12_goodBy (up (up A 41 F1) 42 S1) I 2 = some (Int32.ofNat (gd N T A 2), F2, S2) := y2
  have hG : gd N T A 2 < 16777216 := gd_lt hA
  generalize gd N T A 2 = G at *
  have K1 : hCls C (up (up A 41 F1) 42 S1) I := hK
  have K2 : hCls C (up (up (up (up A 41 F1) 42 S1) 107 F2) 108 S2) I := hK
  have hb : bes (A 117) (A 118) (A 119) C G m (2 ^ C - 1) < 2 ^ C := by
    have := bes_le (q1 := A 117) (q2 := A 118) (q3 := A 119) (C := C) (G := G) (m := m) (2 ^ C - 1)
    have h1 : 1 ≤ 2 ^ C := Nat.two_pow_pos C
    omega
  have s1 : f_X0_settled (up (up A 41 F1) 42 S1) I (Int32.ofNat m) (Int32.ofNat G) = some (Int32.ofNat (bes (A 117) (A 118) (A 119) C G m (2 ^ C - 1))) := set_c K1 hG (by omega)
  have s2 : wl (f_X12_settling_l1 (up (up (up (up A 41 F1) 42 S1) 107 F2) 108 S2) I (Int32.ofNat m) (Int32.ofNat k) (Int32.ofNat G)) 100000 (0, 1) = some (Int32.ofNat (bes (A 117) (A 118) (A 119) C G m (2 ^ C - 1))) := set_m K2 hG (by omega) (Int32.ofNat k)
  generalize bes (A 117) (A 118) (A 119) C G m (2 ^ C - 1) = b at *
  have u1 : f_X0_undoneBy (up (up A 41 F1) 42 S1) I (Int32.ofNat b) (Int32.ofNat G) = some (Int32.ofNat (udn (A 117) C b G)) := und_c K1 hb hG
  have u2 : f_X12_undoneBy (up (up (up (up A 41 F1) 42 S1) 107 F2) 108 S2) I (Int32.ofNat b) (Int32.ofNat G) = some (Int32.ofNat (udn (A 117) C b G)) := und_m K2 hb hG
  have t1 : f_X0_takersOf (up (up A 41 F1) 42 S1) I (Int32.ofNat b) = some (Int32.ofNat (tkn (A 118) C b)) := tak_c K1 hb
  have t2 : f_X12_takersOf (up (up (up (up A 41 F1) 42 S1) 107 F2) 108 S2) I (Int32.ofNat b) = some (Int32.ofNat (tkn (A 118) C b)) := tak_m K2 hb
  have : k = 0 ∨ k = 1 ∨ k = 2 := by omega
  rcases this with rfl | rfl | rfl
  · refine ⟨Int32.ofNat b, F1, S1, F2, S2, ?_, ?_, l1, l2, l3, l4⟩
    · rw [x2, Option.bind_some, s1]; rfl
    · rw [y2, Option.bind_some, s2]; rfl
  · refine ⟨Int32.ofNat (udn (A 117) C b G), F1, S1, F2, S2, ?_, ?_, l1, l2, l3, l4⟩
    · rw [x2, Option.bind_some, s1, Option.bind_some, if_neg (show ¬ Int32.ofNat 1 = 0 by decide), if_pos (show Int32.ofNat 1 = 1 from rfl), u1]; rfl
    · rw [y2, Option.bind_some, s2, Option.bind_some, if_neg (show ¬ Int32.ofNat 1 = 0 by decide), if_pos (show Int32.ofNat 1 = 1 from rfl), u2]; rfl
  · refine ⟨Int32.ofNat (tkn (A 118) C b), F1, S1, F2, S2, ?_, ?_, l1, l2, l3, l4⟩
    · rw [x2, Option.bind_some, s1, Option.bind_some, if_neg (show ¬ Int32.ofNat 2 = 0 by decide), if_neg (show ¬ Int32.ofNat 2 = 1 by decide), t1]; rfl
    · rw [y2, Option.bind_some, s2, Option.bind_some, if_neg (show ¬ Int32.ofNat 2 = 0 by decide), if_neg (show ¬ Int32.ofNat 2 = 1 by decide), t2]; rfl
