/-! ===== the shortest ways keep the triangle ===== -/
def dd (q : List Int32) (a b : Nat) : Nat := cb q (8 * a + b)
theorem nb_dd {q : List Int32} (h : nb q) {a b : Nat} (ha : a < 8) (hb : b < 8) : g q (8 * a + b) = Int32.ofNat (dd q a b) ∧ dd q a b < 1000 := by
  obtain ⟨d, h1, h2⟩ := h.2 (8 * a + b) (by omega)
  obtain ⟨c1, c2⟩ := cb_eq h2 (by omega)
  exact ⟨c1, by unfold dd; omega⟩
theorem dd_set {q : List Int32} {a b a' b' v : Nat} (hl : q.length = 64) (ha : a < 8) (hb : b < 8) (hb' : b' < 8) (hv : v < 2147483648) : dd (q.set (8 * a + b) (Int32.ofNat v)) a' b' = if a' = a ∧ b' = b then v else dd q a' b' := by
  unfold dd cb
  rw [g_set (by omega)]
  by_cases e : a' = a ∧ b' = b
  · rw [if_pos e, if_pos (by omega), i_tn hv]
  · rw [if_neg e, if_neg (by omega)]
theorem dd_1 {q : List Int32} {m a b a' b' : Nat} (h : nb q) (hm : m < 8) (ha : a < 8) (hb : b < 8) (hb' : b' < 8) : dd (fw_1 q m a b) a' b' = if a' = a ∧ b' = b then min (dd q a b) (dd q a m + dd q m b) else dd q a' b' := by
  obtain ⟨e1, l1⟩ := nb_dd h ha hb
  obtain ⟨e2, l2⟩ := nb_dd h ha hm
  obtain ⟨e3, l3⟩ := nb_dd h hm hb
  unfold fw_1
  rw [e1, e2, e3, i_add]
  by_cases c : dd q a b ≤ dd q a m + dd q m b
  · rw [if_pos ((i_le (by omega) (by omega)).mpr c)]
    by_cases e : a' = a ∧ b' = b
    · rw [if_pos e, e.1, e.2]; omega
    · rw [if_neg e]
  · rw [if_neg (fun z => c ((i_le (by omega) (by omega)).mp z)), dd_set h.1 ha hb hb' (by omega)]
    by_cases e : a' = a ∧ b' = b
    · rw [if_pos e, if_pos e]; omega
    · rw [if_neg e, if_neg e]
theorem dd_b {q : List Int32} {m a : Nat} (h : nb q) (hm : m < 8) (ha : a < 8) (h0 : dd q m m = 0) : ∀ b, b ≤ 8 → ∀ a' b', a' < 8 → b' < 8 → dd (fw_b q m a b) a' b' = if a' = a ∧ b' < b then min (dd q a b') (dd q a m + dd q m b') else dd q a' b'
  | 0, _, a', b', _, _ => by rw [if_neg (by omega)]; rfl
  | b + 1, hb, a', b', ha', hb' => by
    have ih := dd_b h hm ha h0 b (by omega)
    show dd (fw_1 (fw_b q m a b) m a b) a' b' = _
    rw [dd_1 (nb_b h hm ha b (by omega)) hm ha (by omega) hb', ih a b ha (by omega), ih a m ha hm, ih m b hm (by omega), ih a' b' ha' hb', h0, if_neg (show ¬ (a = a ∧ b < b) by omega), if_neg (show ¬ (m = a ∧ b < b) by omega)]
    have e : (if a = a ∧ m < b then min (dd q a m) (dd q a m + 0) else dd q a m) = dd q a m := by split <;> omega
    rw [e]
    by_cases c : a' = a ∧ b' = b
    · rw [if_pos c, if_pos (by omega), c.2]
    · rw [if_neg c]
      by_cases c2 : a' = a ∧ b' < b
      · rw [if_pos c2, if_pos (by omega)]
      · rw [if_neg c2, if_neg (by omega)]
theorem dd_a {q : List Int32} {m : Nat} (h : nb q) (hm : m < 8) (h0 : dd q m m = 0) : ∀ a, a ≤ 8 → ∀ a' b', a' < 8 → b' < 8 → dd (fw_a q m a) a' b' = if a' < a then min (dd q a' b') (dd q a' m + dd q m b') else dd q a' b'
  | 0, _, a', b', _, _ => by rw [if_neg (by omega)]; rfl
  | a + 1, ha, a', b', ha', hb' => by
    have ih := dd_a h hm h0 a (by omega)
    have hmm : dd (fw_a q m a) m m = 0 := by rw [ih m m hm hm, h0]; split <;> omega
    show dd (fw_b (fw_a q m a) m a 8) a' b' = _
    rw [dd_b (nb_a h hm a (by omega)) hm (by omega) hmm 8 (Nat.le_refl _) a' b' ha' hb', ih a b' (by omega) hb', ih a m (by omega) hm, ih m b' hm hb', ih a' b' ha' hb', h0, if_neg (Nat.lt_irrefl a), if_neg (Nat.lt_irrefl a)]
    have e : (if m < a then min (dd q m b') (0 + dd q m b') else dd q m b') = dd q m b' := by split <;> omega
    rw [e]
    by_cases c : a' = a
    · rw [if_pos (by omega), if_pos (by omega), c]
    · rw [if_neg (by omega)]
      by_cases c2 : a' < a
      · rw [if_pos c2, if_pos (by omega)]
      · rw [if_neg c2, if_neg (by omega)]
theorem dd_m {q : List Int32} (h : nb q) (h0 : ∀ a, a < 8 → dd q a a = 0) : ∀ k, k ≤ 8 → (∀ a, a < 8 → dd (fw_m q k) a a = 0) ∧ ∀ m a b, m < k → a < 8 → b < 8 → dd (fw_m q k) a b ≤ dd (fw_m q k) a m + dd (fw_m q k) m b
  | 0, _ => ⟨h0, fun m a b hm => absurd hm (Nat.not_lt_zero m)⟩
  | k + 1, hk => by
    obtain ⟨i1, i2⟩ := dd_m h h0 k (by omega)
    have st := dd_a (nb_m h k (by omega)) (show k < 8 by omega) (i1 k (by omega)) 8 (Nat.le_refl _)
    have st : ∀ a b, a < 8 → b < 8 → dd (fw_m q (k + 1)) a b = min (dd (fw_m q k) a b) (dd (fw_m q k) a k + dd (fw_m q k) k b) := fun a b ha hb => by
      have := st a b ha hb
      rw [if_pos ha] at this
      exact this
    refine ⟨fun a ha => by rw [st a a ha ha, i1 a ha]; omega, fun m a b hm ha hb => ?_⟩
    have hm8 : m < 8 := by omega
    have hk8 : k < 8 := by omega
    rw [st a b ha hb, st a m ha hm8, st m b hm8 hb]
    have kk := i1 k hk8
    by_cases e : m = k
    · subst e
      omega
    · have t1 := i2 m a b (by omega) ha hb
      have t2 := i2 m a k (by omega) ha hk8
      have t3 := i2 m k b (by omega) hk8 hb
      omega
theorem dd_tri {q : List Int32} (h : nb q) (h0 : ∀ a, a < 8 → g q (8 * a + a) = 0) {a b c : Nat} (ha : a < 8) (hb : b < 8) (hc : c < 8) : dd (fw q) a c ≤ dd (fw q) a b + dd (fw q) b c := (dd_m h (fun a ha => by unfold dd cb; rw [h0 a ha]; rfl) 8 (Nat.le_refl _)).2 b a c hb ha hc
