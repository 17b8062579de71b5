/-! ===== small numbers as Int32; lists; loops ===== -/
def g (xs : List Int32) (k : Nat) : Int32 := xs.getD k 0
section Nums
variable {k m n : Nat} {xs : List Int32} {v : Int32}
theorem i_tn (h : k < 2147483648) : (Int32.ofNat k).toNatClampNeg = k := Int32.toNatClampNeg_ofNat_of_lt h
theorem i_nn (h : k < 2147483648) : ¬ Int32.ofNat k < 0 := Int32.not_lt.mpr (Int32.zero_le_ofNat_of_lt h)
theorem i_le (hm : m < 2147483648) (hn : n < 2147483648) : Int32.ofNat m ≤ Int32.ofNat n ↔ m ≤ n := Int32.ofNat_le_iff_le hm hn
theorem i_lt (hm : m < 2147483648) (hn : n < 2147483648) : Int32.ofNat m < Int32.ofNat n ↔ m < n := Int32.ofNat_lt_iff_lt hm hn
theorem i_eq (hm : m < 2147483648) (hn : n < 2147483648) : Int32.ofNat m = Int32.ofNat n ↔ m = n := ⟨fun h => by rw [← i_tn hm, h, i_tn hn], fun h => by rw [h]⟩
theorem i_add : Int32.ofNat m + Int32.ofNat n = Int32.ofNat (m + n) := (Int32.ofNat_add m n).symm
theorem i_mul : Int32.ofNat m * Int32.ofNat n = Int32.ofNat (m * n) := (Int32.ofNat_mul m n).symm
theorem i_sub (h : n ≤ m) : Int32.ofNat m - Int32.ofNat n = Int32.ofNat (m - n) := (Int32.ofNat_sub m n h).symm
theorem i_div (hm : m < 2147483648) (hn : n < 2147483648) : Int32.ofNat m / Int32.ofNat n = Int32.ofNat (m / n) := (Int32.ofNat_div hm hn).symm
theorem i_lit (n : Nat) : (OfNat.ofNat n : Int32) = Int32.ofNat n := rfl
theorem i_lel (hm : m < 2147483648) (hn : n < 2147483648) : (no_index (OfNat.ofNat m) : Int32) ≤ Int32.ofNat n ↔ m ≤ n := i_le hm hn
theorem i_ler (hm : m < 2147483648) (hn : n < 2147483648) : Int32.ofNat m ≤ (no_index (OfNat.ofNat n) : Int32) ↔ m ≤ n := i_le hm hn
theorem i_ltl (hm : m < 2147483648) (hn : n < 2147483648) : (no_index (OfNat.ofNat m) : Int32) < Int32.ofNat n ↔ m < n := i_lt hm hn
theorem i_ltr (hm : m < 2147483648) (hn : n < 2147483648) : Int32.ofNat m < (no_index (OfNat.ofNat n) : Int32) ↔ m < n := i_lt hm hn
theorem i_eqr (hm : m < 2147483648) (hn : n < 2147483648) : Int32.ofNat m = (no_index (OfNat.ofNat n) : Int32) ↔ m = n := i_eq hm hn
theorem i_eql (hm : m < 2147483648) (hn : n < 2147483648) : (no_index (OfNat.ofNat m) : Int32) = Int32.ofNat n ↔ m = n := i_eq hm hn
theorem i_addl : (no_index (OfNat.ofNat m) : Int32) + Int32.ofNat n = Int32.ofNat (m + n) := i_add
theorem i_addr : Int32.ofNat m + (no_index (OfNat.ofNat n) : Int32) = Int32.ofNat (m + n) := i_add
theorem i_mull : (no_index (OfNat.ofNat m) : Int32) * Int32.ofNat n = Int32.ofNat (m * n) := i_mul
theorem i_mulr : Int32.ofNat m * (no_index (OfNat.ofNat n) : Int32) = Int32.ofNat (m * n) := i_mul
theorem i_subr (h : n ≤ m) : Int32.ofNat m - (no_index (OfNat.ofNat n) : Int32) = Int32.ofNat (m - n) := i_sub h
theorem i_divr (hm : m < 2147483648) (hn : n < 2147483648) : Int32.ofNat m / (no_index (OfNat.ofNat n) : Int32) = Int32.ofNat (m / n) := i_div hm hn
theorem i_dec (h : 1 ≤ m) : Int32.ofNat m + (-1) = Int32.ofNat (m - 1) := by
  rw [show (-1 : Int32) = -(Int32.ofNat 1) from rfl, ← Int32.sub_eq_add_neg]
  exact i_sub h
theorem i_ti (h : k < 2147483648) : (Int32.ofNat k).toInt = k := Int32.toInt_ofNat_of_lt h
theorem i_nm1 (h : k < 2147483648) : ¬ Int32.ofNat k = -1 := fun e => by
  have := congrArg Int32.toInt e
  rw [i_ti h, show ((-1 : Int32).toInt) = -1 from rfl] at this
  omega
/-- an int that isn't below 0 is a small number -/
theorem i_of {v : Int32} (h : 0 ≤ v) : ∃ n, n < 2147483648 ∧ v = Int32.ofNat n := ⟨v.toNatClampNeg, v.toNatClampNeg_lt, (Int32.ofNat_toNatClampNeg v h).symm⟩
theorem am_at_g (h : k < xs.length) (h2 : xs.length ≤ 100000) : am_at xs (Int32.ofNat k) = some (g xs k) := by
  unfold am_at
  rw [if_neg (i_nn (by omega)), i_tn (by omega), List.getElem?_eq_getElem h]
  unfold g
  rw [List.getD_eq_getElem?_getD, List.getElem?_eq_getElem h]
  rfl
theorem am_at_gl (h : k < xs.length) (h2 : xs.length ≤ 100000) : am_at xs (no_index (OfNat.ofNat k) : Int32) = some (g xs k) := am_at_g h h2
theorem am_up_g (h : k < xs.length) (h2 : xs.length ≤ 100000) : am_up xs (Int32.ofNat k) v = some (xs.set k v) := by
  unfold am_up
  rw [if_neg (i_nn (by omega)), i_tn (by omega), if_pos h]
theorem am_up_gl (h : k < xs.length) (h2 : xs.length ≤ 100000) : am_up xs (no_index (OfNat.ofNat k) : Int32) v = some (xs.set k v) := am_up_g h h2
theorem am_row_g (base : Nat) (h : k < 8) : am_row base (Int32.ofNat k) = some (base + k) := by
  unfold am_row
  rw [if_neg (i_nn (by omega)), i_tn (by omega), if_pos h]
theorem g_set (h : k < xs.length) {j : Nat} : g (xs.set k v) j = if j = k then v else g xs j := by
  unfold g
  rw [List.getD_eq_getElem?_getD, List.getD_eq_getElem?_getD, List.getElem?_set]
  by_cases e : k = j
  · subst e; rw [if_pos rfl, if_pos h, if_pos rfl]; rfl
  · rw [if_neg e, if_neg (fun q => e q.symm)]
theorem g_set_eq (h : k < xs.length) : g (xs.set k v) k = v := by rw [g_set h, if_pos rfl]
theorem g_set_ne {j : Nat} (e : ¬ j = k) : g (xs.set k v) j = g xs j := by
  unfold g
  rw [List.getD_eq_getElem?_getD, List.getD_eq_getElem?_getD, List.getElem?_set, if_neg (fun q => e q.symm)]
theorem g_ext {ys : List Int32} (hl : xs.length = ys.length) (h : ∀ k, k < ys.length → g xs k = g ys k) : xs = ys := by
  apply List.ext_getElem hl
  intro i h1 h2
  have := h i h2
  unfold g at this
  rw [List.getD_eq_getElem?_getD, List.getD_eq_getElem?_getD, List.getElem?_eq_getElem h1, List.getElem?_eq_getElem h2] at this
  exact this
end Nums
/-- an int within 0 .. n - 1, or not: both programs' test -/
theorem wi_n (n : Nat) (hn : n < 2147483648) (a : Int32) : f_X11_isWithin a 0 (Int32.ofNat n) = some 0 ∨ ∃ k, k ≤ n ∧ a = Int32.ofNat k ∧ f_X11_isWithin a 0 (Int32.ofNat n) = some 1 := by
  unfold f_X11_isWithin
  by_cases h : a < 0
  · left; rw [if_pos h]
  · obtain ⟨k, hk, rfl⟩ := i_of (Int32.not_lt.mp h)
    rw [if_neg h]
    by_cases h2 : n < k
    · left; rw [if_pos ((i_lt hn hk).mpr h2)]
    · right; exact ⟨k, by omega, rfl, by rw [if_neg (fun q => h2 ((i_lt hn hk).mp q))]⟩
theorem wi_l (n : Nat) (hn : n < 2147483648) (a : Int32) : f_X11_isWithin a 0 (OfNat.ofNat n : Int32) = some 0 ∨ ∃ k, k ≤ n ∧ a = Int32.ofNat k ∧ f_X11_isWithin a 0 (OfNat.ofNat n : Int32) = some 1 := wi_n n hn a
/-- 0 .. p - 1 where p may be 0 -/
theorem wi_p (p : Nat) (hn : p < 2147483648) (a : Int32) : f_X11_isWithin a 0 (Int32.ofNat p - 1) = some 0 ∨ ∃ k, k < p ∧ a = Int32.ofNat k ∧ f_X11_isWithin a 0 (Int32.ofNat p - 1) = some 1 := by
  rcases Nat.eq_zero_or_pos p with rfl | h
  · left
    unfold f_X11_isWithin
    by_cases h : a < 0
    · rw [if_pos h]
    · rw [if_neg h, if_pos]
      obtain ⟨k, hk, rfl⟩ := i_of (Int32.not_lt.mp h)
      rw [Int32.lt_iff_toInt_lt, i_ti hk, show ((Int32.ofNat 0 - 1 : Int32).toInt) = -1 from rfl]
      omega
  · have e : Int32.ofNat p - 1 = Int32.ofNat (p - 1) := i_subr (m := p) (n := 1) h
    rw [e]
    rcases wi_n (p - 1) (by omega) a with q | ⟨k, h1, h2, h3⟩
    · exact Or.inl q
    · exact Or.inr ⟨k, by omega, h2, h3⟩
theorem wi_1 (n : Nat) (hn : n < 2147483648) (a : Int32) : f_X11_isWithin a 1 (OfNat.ofNat n : Int32) = some 0 ∨ ∃ k, 1 ≤ k ∧ k ≤ n ∧ a = Int32.ofNat k ∧ f_X11_isWithin a 1 (OfNat.ofNat n : Int32) = some 1 := by
  unfold f_X11_isWithin
  by_cases h : a < 1
  · left; rw [if_pos h]
  · have h0 : ¬ a < 0 := fun q => h (Int32.lt_of_lt_of_le q (by decide))
    obtain ⟨k, hk, rfl⟩ := i_of (Int32.not_lt.mp h0)
    rw [if_neg h]
    have h1 : 1 ≤ k := by
      rcases Nat.eq_zero_or_pos k with rfl | q
      · exact absurd (by decide) h
      · exact q
    by_cases h2 : n < k
    · left; rw [if_pos ((i_ltl hn hk).mpr h2)]
    · right; exact ⟨k, h1, by omega, rfl, by rw [if_neg (fun q => h2 ((i_ltl hn hk).mp q))]⟩
theorem in_X (A : Nat → List Int32) (I : Nat → Int32) (a b c : Int32) : f_X12_in A I a b c = f_X11_isWithin a b c := rfl
/-! loops -/
theorem wl_for {σ ρ : Type} {step : σ → Option (σ ⊕ ρ)} (S : Nat → σ) (n : Nat) {r : ρ} {fuel : Nat} (hf : n < fuel) (hs : ∀ k, k < n → step (S k) = some (.inl (S (k + 1)))) (he : step (S n) = some (.inr r)) : wl step fuel (S 0) = some r := by
  have key : ∀ (j : Nat) (f : Nat), j ≤ n → n - j < f → wl step f (S j) = some r := by
    intro j
    induction h : n - j generalizing j with
    | zero =>
      intro f hj hf
      have : j = n := by omega
      subst this
      match f, hf with
      | f + 1, _ => unfold wl; rw [he]
    | succ d ih =>
      intro f hj hf
      match f, hf with
      | f + 1, hf =>
        unfold wl
        rw [hs j (by omega)]
        exact ih (j + 1) (by omega) f (by omega) (by omega)
  exact key 0 fuel (Nat.zero_le n) (by omega)
/-- two loops side by side: a measure that goes down in the first -/
theorem wl_two {σ τ ρ ν : Type} {s1 : σ → Option (σ ⊕ ρ)} {s2 : τ → Option (τ ⊕ ν)} (R : Nat → σ → τ → Prop) (Q : ρ → ν → Prop) (hs : ∀ n x y, R n x y → (∃ x' y', s1 x = some (.inl x') ∧ s2 y = some (.inl y') ∧ ∃ n', n' < n ∧ R n' x' y') ∨ (∃ r w, s1 x = some (.inr r) ∧ s2 y = some (.inr w) ∧ Q r w)) : ∀ (n : Nat) (f1 f2 : Nat) (x : σ) (y : τ), R n x y → n < f1 → n < f2 → ∃ r w, wl s1 f1 x = some r ∧ wl s2 f2 y = some w ∧ Q r w := by
  intro n
  induction n using Nat.strongRecOn with
  | ind n ih =>
    intro f1 f2 x y hR h1 h2
    match f1, f2, h1, h2 with
    | f1 + 1, f2 + 1, h1, h2 =>
      unfold wl
      rcases hs n x y hR with ⟨x', y', e1, e2, n', hn, hR'⟩ | ⟨r, w, e1, e2, hQ⟩
      · rw [e1, e2]
        exact ih n' hn f1 f2 x' y' hR' (by omega) (by omega)
      · rw [e1, e2]
        exact ⟨r, w, rfl, rfl, hQ⟩
/-- one loop with an invariant -/
theorem wl_inv {σ ρ : Type} {s1 : σ → Option (σ ⊕ ρ)} (R : Nat → σ → Prop) (Q : ρ → Prop) (hs : ∀ n x, R n x → (∃ x', s1 x = some (.inl x') ∧ ∃ n', n' < n ∧ R n' x') ∨ (∃ r, s1 x = some (.inr r) ∧ Q r)) : ∀ (n : Nat) (f1 : Nat) (x : σ), R n x → n < f1 → ∃ r, wl s1 f1 x = some r ∧ Q r := by
  intro n
  induction n using Nat.strongRecOn with
  | ind n ih =>
    intro f1 x hR h1
    match f1, h1 with
    | f1 + 1, h1 =>
      unfold wl
      rcases hs n x hR with ⟨x', e1, n', hn, hR'⟩ | ⟨r, e1, hQ⟩
      · rw [e1]
        exact ih n' hn f1 x' hR' (by omega)
      · rw [e1]
        exact ⟨r, rfl, hQ⟩
