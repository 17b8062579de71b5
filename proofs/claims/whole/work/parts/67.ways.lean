/-! ===== the shortest ways ===== -/
theorem fw_1_len {q : List Int32} {m a b : Nat} : (fw_1 q m a b).length = q.length := by
  unfold fw_1; split
  · rfl
  · rw [List.length_set]
theorem fw_b_len {q : List Int32} {m a : Nat} : ∀ b, (fw_b q m a b).length = q.length
  | 0 => rfl
  | b + 1 => by show (fw_1 (fw_b q m a b) m a b).length = _; rw [fw_1_len, fw_b_len b]
theorem fw_a_len {q : List Int32} {m : Nat} : ∀ a, (fw_a q m a).length = q.length
  | 0 => rfl
  | a + 1 => by show (fw_b (fw_a q m a) m a 8).length = _; rw [fw_b_len, fw_a_len a]
theorem fw_m_len {q : List Int32} : ∀ m, (fw_m q m).length = q.length
  | 0 => rfl
  | m + 1 => by show (fw_a (fw_m q m) m 8).length = _; rw [fw_a_len, fw_m_len m]
theorem fw_len {q : List Int32} : (fw q).length = q.length := fw_m_len 8
theorem i8 {a b : Nat} : (8 : Int32) * Int32.ofNat a + Int32.ofNat b = Int32.ofNat (8 * a + b) := by
  rw [show (8 : Int32) * Int32.ofNat a = Int32.ofNat (8 * a) from i_mull (m := 8) (n := a), i_add]
theorem l8 {k : Nat} (h : k < 8) : ¬ (8 : Int32) ≤ Int32.ofNat k := fun q => absurd ((i_le (m := 8) (by decide) (by omega)).mp q) (by omega)
theorem findFar_1 {A : Nat → List Int32} {I : Nat → Int32} (h86 : (A 86).length = 64) (h87 : (A 87).length = 64) : f_X12_findFar A I = some (fw (A 86)) := by
  obtain ⟨r, e, Q⟩ := wl_inv (s1 := f_X12_findFar_l1 A I) (fun n y => ∃ k s, y = (Int32.ofNat k, s) ∧ n + k = 64 ∧ s.length = 64 ∧ ∀ j, j < k → g s j = g (A 86) j) (fun r => r = A 86) (fun n y => by
    rintro ⟨k, s, rfl, hn, hl, hs⟩
    unfold f_X12_findFar_l1
    dsimp only
    by_cases hk : 64 ≤ k
    · right
      rw [if_pos (show (64 : Int32) ≤ Int32.ofNat k from (i_le (m := 64) (by decide) (by omega)).mpr hk)]
      exact ⟨_, rfl, g_ext (by omega) (fun j hj => hs j (by omega))⟩
    · left
      rw [if_neg (show ¬ (64 : Int32) ≤ Int32.ofNat k from fun q => hk ((i_le (m := 64) (by decide) (by omega)).mp q)), am_at_g (by omega) (by omega), Option.bind_some, am_up_g (by omega) (by omega), Option.bind_some, i_addr]
      refine ⟨_, rfl, n - 1, by omega, k + 1, _, rfl, by omega, by rw [List.length_set]; exact hl, fun j hj => ?_⟩
      rw [g_set (by omega)]
      split
      · next e => rw [e]
      · exact hs j (by omega)) 64 100000 (0, A 87) ⟨0, A 87, rfl, rfl, h87, fun j hj => absurd hj (Nat.not_lt_zero j)⟩ (by decide)
  subst Q
  unfold f_X12_findFar
  rw [e, Option.bind_some]
  have k4 : ∀ (B : Nat → List Int32) (q : List Int32) (m a : Nat), m < 8 → a < 8 → q.length = 64 → wl (f_X12_findFar_l4 B I (Int32.ofNat m) (Int32.ofNat a)) 100000 (0, q) = some (fw_b q m a 8) := fun B q m a hm ha hq => by
    refine wl_for (step := f_X12_findFar_l4 B I (Int32.ofNat m) (Int32.ofNat a)) (fun b => (Int32.ofNat b, fw_b q m a b)) 8 (fuel := 100000) (by decide) (fun b hb => ?_) ?_
    · show f_X12_findFar_l4 B I _ _ (Int32.ofNat b, fw_b q m a b) = some (.inl (Int32.ofNat (b + 1), fw_1 (fw_b q m a b) m a b))
      have hl : (fw_b q m a b).length = 64 := by rw [fw_b_len, hq]
      unfold f_X12_findFar_l4 fw_1
      dsimp only
      rw [if_neg (l8 hb), i8, i8, i8, am_at_g (by omega) (by omega), am_at_g (by omega) (by omega), am_at_g (by omega) (by omega), Option.bind_some, Option.bind_some, Option.bind_some, i_addr]
      split
      · rfl
      · rw [am_up_g (by omega) (by omega)]; rfl
    · rfl
  have k3 : ∀ (B : Nat → List Int32) (q : List Int32) (m : Nat), m < 8 → q.length = 64 → wl (f_X12_findFar_l3 B I (Int32.ofNat m)) 100000 (0, q) = some (fw_a q m 8) := fun B q m hm hq => by
    refine wl_for (step := f_X12_findFar_l3 B I (Int32.ofNat m)) (fun a => (Int32.ofNat a, fw_a q m a)) 8 (fuel := 100000) (by decide) (fun a ha => ?_) ?_
    · show f_X12_findFar_l3 B I _ (Int32.ofNat a, fw_a q m a) = some (.inl (Int32.ofNat (a + 1), fw_b (fw_a q m a) m a 8))
      unfold f_X12_findFar_l3
      dsimp only
      rw [if_neg (l8 ha), k4 _ _ m a hm ha (by rw [fw_a_len, hq]), Option.bind_some, i_addr]
    · rfl
  have k2 : ∀ (B : Nat → List Int32) (q : List Int32), q.length = 64 → wl (f_X12_findFar_l2 B I) 100000 (0, q) = some (fw_m q 8) := fun B q hq => by
    refine wl_for (step := f_X12_findFar_l2 B I) (fun m => (Int32.ofNat m, fw_m q m)) 8 (fuel := 100000) (by decide) (fun m hm => ?_) ?_
    · show f_X12_findFar_l2 B I (Int32.ofNat m, fw_m q m) = some (.inl (Int32.ofNat (m + 1), fw_a (fw_m q m) m 8))
      unfold f_X12_findFar_l2
      dsimp only
      rw [if_neg (l8 hm), k3 _ _ m hm (by rw [fw_m_len, hq]), Option.bind_some, i_addr]
    · rfl
  rw [k2 _ _ h86]
  rfl
/-- the class's rows from cell 12 on hold the matrix q -/
def rr (B : Nat → List Int32) (q : List Int32) : Prop := ∀ a, a < 8 → (B (12 + a)).length = 8 ∧ ∀ b, b < 8 → g (B (12 + a)) b = g q (8 * a + b)
/-- nothing but the rows from 12 on is other -/
def fr12 (B A : Nat → List Int32) : Prop := ∀ j, ¬ (12 ≤ j ∧ j < 20) → B j = A j
theorem up_eq {α : Type} (f : Nat → α) (k : Nat) (v : α) : up f k v k = v := if_pos rfl
theorem up_ne {α : Type} (f : Nat → α) {k j : Nat} (v : α) (h : ¬ j = k) : up f k v j = f j := if_neg h
theorem rr_set {B : Nat → List Int32} {q : List Int32} {a b : Nat} {v : Int32} (h : rr B q) (hq : q.length = 64) (ha : a < 8) (hb : b < 8) : rr (up B (12 + a) ((B (12 + a)).set b v)) (q.set (8 * a + b) v) := by
  intro a' ha'
  by_cases e : a' = a
  · subst e
    rw [up_eq, List.length_set]
    refine ⟨(h a' ha').1, fun b' hb' => ?_⟩
    rw [g_set (by rw [(h a' ha').1]; exact hb), g_set (by omega)]
    by_cases e2 : b' = b
    · subst e2; rw [if_pos rfl, if_pos rfl]
    · rw [if_neg e2, if_neg (by omega)]; exact (h a' ha').2 b' hb'
  · rw [up_ne _ _ (by omega)]
    refine ⟨(h a' ha').1, fun b' hb' => ?_⟩
    rw [g_set_ne (by omega)]
    exact (h a' ha').2 b' hb'
theorem rr_self {B : Nat → List Int32} {q : List Int32} {a b : Nat} (h : rr B q) (ha : a < 8) (hb : b < 8) : up B (12 + a) ((B (12 + a)).set b (g q (8 * a + b))) = B := by
  funext j
  by_cases e : j = 12 + a
  · subst e
    rw [up_eq]
    exact set_self (by rw [(h a ha).1]; exact hb) ((h a ha).2 b hb)
  · exact up_ne _ _ e
theorem l8b {k : Nat} : k < 8 → ¬ (8 : Int32) ≤ Int32.ofNat k := l8
set_option maxHeartbeats 4000000 in
theorem measure_1 {A : Nat → List Int32} {I : Nat → Int32} {m : List Int32} (hm : m.length = 64) (hr : ∀ a, a < 8 → (A (3 + a)).length = 8 ∧ ∀ b, b < 8 → ¬ a = b → g (A (3 + a)) b = g m (8 * a + b)) (hw : ∀ a, a < 8 → (A (12 + a)).length = 8) (hd : ∀ a, a < 8 → g m (8 * a + a) = 0) : ∃ B, f_X6_measure A I = some B ∧ rr B (fw m) ∧ fr12 B A := by
  obtain ⟨B, e, hB1, hB2⟩ := wl_inv (s1 := f_X6_measure_l1 A I) (fun n y => ∃ k B, y = (Int32.ofNat k, B) ∧ n + k = 8 ∧ fr12 B A ∧ (∀ a, a < 8 → (B (12 + a)).length = 8) ∧ ∀ a, a < k → ∀ b, b < 8 → g (B (12 + a)) b = g m (8 * a + b)) (fun B => rr B m ∧ fr12 B A) (fun n y => by
    rintro ⟨k, B, rfl, hn, hf, hl, hg⟩
    unfold f_X6_measure_l1
    dsimp only
    by_cases hk : 8 ≤ k
    · right
      rw [if_pos (show (8 : Int32) ≤ Int32.ofNat k from (i_le (m := 8) (by decide) (by omega)).mpr hk)]
      exact ⟨_, rfl, fun a ha => ⟨hl a ha, hg a (by omega)⟩, hf⟩
    · left
      have hk8 : k < 8 := by omega
      have e3 : B (3 + k) = A (3 + k) := hf _ (by omega)
      have hacq : am_acq (B (3 + k)) (B (12 + k)) 0 0 8 = some (A (3 + k)) := by
        have h1 := (hr k hk8).1
        have h2 := hl k hk8
        unfold am_acq
        rw [e3]
        rw [if_neg (by
          rintro (q | q | q | q | q)
          · exact absurd q (by decide)
          · exact absurd q (by decide)
          · exact absurd q (by decide)
          · have q : (A (3 + k)).length < 0 + 8 := q
            omega
          · have q : (B (12 + k)).length < 0 + 8 := q
            omega)]
        show some ((B (12 + k)).take 0 ++ ((A (3 + k)).drop 0).take 8 ++ (B (12 + k)).drop (0 + 8)) = _
        rw [List.take_zero, List.nil_append, List.drop_zero, List.take_of_length_le (by omega), List.drop_of_length_le (by omega), List.append_nil]
      rw [if_neg (l8 hk8), am_row_g 3 hk8, am_row_g 12 hk8, Option.bind_some, Option.bind_some, hacq, Option.bind_some, Option.bind_some, up_eq, show (0 : Int32) = Int32.ofNat 0 from rfl, am_up_g (by rw [(hr k hk8).1]; exact hk8) (by rw [(hr k hk8).1]; decide), Option.bind_some, i_addr]
      refine ⟨_, rfl, n - 1, by omega, k + 1, _, rfl, by omega, fun j hj => ?_, fun a ha => ?_, fun a ha b hb => ?_⟩
      · rw [up_ne _ _ (by omega), up_ne _ _ (by omega)]; exact hf j hj
      · by_cases e : a = k
        · subst e; rw [up_eq, List.length_set]; exact (hr a ha).1
        · rw [up_ne _ _ (by omega), up_ne _ _ (by omega)]; exact hl a ha
      · by_cases e : a = k
        · subst e
          rw [up_eq, g_set (by rw [(hr a hk8).1]; exact hk8)]
          by_cases e2 : b = a
          · subst e2; rw [if_pos rfl, hd b hk8]; rfl
          · rw [if_neg e2]; exact (hr a hk8).2 b hb (fun q => e2 q.symm)
        · rw [up_ne _ _ (by omega), up_ne _ _ (by omega)]; exact hg a (by omega) b hb) 8 100000 (0, A) ⟨0, A, rfl, rfl, fun j _ => rfl, hw, fun a ha => absurd ha (Nat.not_lt_zero a)⟩ (by decide)
  have k4 : ∀ (D B : Nat → List Int32) (q : List Int32) (m a : Nat), m < 8 → a < 8 → q.length = 64 → rr B q → fr12 B A → ∃ B', wl (f_X6_measure_l4 D I (Int32.ofNat m) (Int32.ofNat a)) 100000 (0, B) = some B' ∧ rr B' (fw_b q m a 8) ∧ fr12 B' A := fun D B q m a hm ha hq hrr hf => by
    obtain ⟨B', e, h1, h2⟩ := wl_inv (s1 := f_X6_measure_l4 D I (Int32.ofNat m) (Int32.ofNat a)) (fun n y => ∃ b B, y = (Int32.ofNat b, B) ∧ n + b = 8 ∧ rr B (fw_b q m a b) ∧ fr12 B A) (fun B' => rr B' (fw_b q m a 8) ∧ fr12 B' A) (fun n y => by
      rintro ⟨b, B, rfl, hn, hrr, hf⟩
      have hl : (fw_b q m a b).length = 64 := by rw [fw_b_len, hq]
      unfold f_X6_measure_l4
      dsimp only
      by_cases hb : 8 ≤ b
      · right
        have : b = 8 := by omega
        subst this
        exact ⟨_, rfl, hrr, hf⟩
      · left
        have hb8 : b < 8 := by omega
        have la := (hrr a ha).1
        have lm := (hrr m hm).1
        rw [if_neg (l8 hb8), am_row_g 12 ha, am_row_g 12 hm, Option.bind_some, Option.bind_some, am_at_g (by omega) (by omega), Option.bind_some, Option.bind_some, am_at_g (by omega) (by omega), Option.bind_some, Option.bind_some, am_at_g (by omega) (by omega), Option.bind_some, am_up_g (by omega) (by omega), Option.bind_some, i_addr, (hrr a ha).2 b hb8, (hrr a ha).2 m hm, (hrr m hm).2 b hb8]
        refine ⟨_, rfl, n - 1, by omega, b + 1, _, rfl, by omega, ?_, fun j hj => ?_⟩
        · show rr _ (fw_1 (fw_b q m a b) m a b)
          unfold fw_1
          by_cases c : g (fw_b q m a b) (8 * a + b) ≤ g (fw_b q m a b) (8 * a + m) + g (fw_b q m a b) (8 * m + b)
          · rw [if_pos c, if_neg (Int32.not_lt.mpr c), rr_self hrr ha hb8]
            exact hrr
          · rw [if_neg c, if_pos (Int32.not_le.mp c)]
            exact rr_set hrr hl ha hb8
        · rw [up_ne _ _ (by omega)]; exact hf j hj) 8 100000 (0, B) ⟨0, B, rfl, rfl, hrr, hf⟩ (by decide)
    exact ⟨B', e, h1, h2⟩
  have k3 : ∀ (D B : Nat → List Int32) (q : List Int32) (m : Nat), m < 8 → q.length = 64 → rr B q → fr12 B A → ∃ B', wl (f_X6_measure_l3 D I (Int32.ofNat m)) 100000 (0, B) = some B' ∧ rr B' (fw_a q m 8) ∧ fr12 B' A := fun D B q m hm hq hrr hf => by
    obtain ⟨B', e, h1, h2⟩ := wl_inv (s1 := f_X6_measure_l3 D I (Int32.ofNat m)) (fun n y => ∃ a B, y = (Int32.ofNat a, B) ∧ n + a = 8 ∧ rr B (fw_a q m a) ∧ fr12 B A) (fun B' => rr B' (fw_a q m 8) ∧ fr12 B' A) (fun n y => by
      rintro ⟨a, B, rfl, hn, hrr, hf⟩
      unfold f_X6_measure_l3
      dsimp only
      by_cases ha : 8 ≤ a
      · right
        have : a = 8 := by omega
        subst this
        exact ⟨_, rfl, hrr, hf⟩
      · left
        have ha8 : a < 8 := by omega
        obtain ⟨B', e, h1, h2⟩ := k4 B B (fw_a q m a) m a hm ha8 (by rw [fw_a_len, hq]) hrr hf
        rw [if_neg (l8 ha8), e, Option.bind_some, i_addr]
        exact ⟨_, rfl, n - 1, by omega, a + 1, B', rfl, by omega, h1, h2⟩) 8 100000 (0, B) ⟨0, B, rfl, rfl, hrr, hf⟩ (by decide)
    exact ⟨B', e, h1, h2⟩
  obtain ⟨B', e', h1, h2⟩ := wl_inv (s1 := f_X6_measure_l2 B I) (fun n y => ∃ k B, y = (Int32.ofNat k, B) ∧ n + k = 8 ∧ rr B (fw_m m k) ∧ fr12 B A) (fun B' => rr B' (fw_m m 8) ∧ fr12 B' A) (fun n y => by
    rintro ⟨k, B, rfl, hn, hrr, hf⟩
    unfold f_X6_measure_l2
    dsimp only
    by_cases hk : 8 ≤ k
    · right
      have : k = 8 := by omega
      subst this
      exact ⟨_, rfl, hrr, hf⟩
    · left
      have hk8 : k < 8 := by omega
      obtain ⟨B', e, h1, h2⟩ := k3 B B (fw_m m k) k hk8 (by rw [fw_m_len, hm]) hrr hf
      rw [if_neg (l8 hk8), e, Option.bind_some, i_addr]
      exact ⟨_, rfl, n - 1, by omega, k + 1, B', rfl, by omega, h1, h2⟩) 8 100000 (0, B) ⟨0, B, rfl, rfl, hB1, hB2⟩ (by decide)
  refine ⟨B', ?_, h1, h2⟩
  unfold f_X6_measure
  rw [e, Option.bind_some, e']
  rfl
/-- entries of a matrix of ways -/
def nb (q : List Int32) : Prop := q.length = 64 ∧ ∀ k, k < 64 → ∃ d, d < 1000 ∧ g q k = Int32.ofNat d
theorem nb_1 {q : List Int32} {m a b : Nat} (h : nb q) (hm : m < 8) (ha : a < 8) (hb : b < 8) : nb (fw_1 q m a b) := by
  refine ⟨by rw [fw_1_len]; exact h.1, fun k hk => ?_⟩
  unfold fw_1
  split
  · exact h.2 k hk
  · next c =>
    rw [g_set (by rw [h.1]; omega)]
    split
    · obtain ⟨d0, h0, e0⟩ := h.2 (8 * a + b) (by omega)
      obtain ⟨d1, h1, e1⟩ := h.2 (8 * a + m) (by omega)
      obtain ⟨d2, h2, e2⟩ := h.2 (8 * m + b) (by omega)
      rw [e0, e1, e2, i_add, i_le (by omega) (by omega)] at c
      rw [e1, e2, i_add]
      exact ⟨d1 + d2, by omega, rfl⟩
    · exact h.2 k hk
theorem nb_b {q : List Int32} {m a : Nat} (h : nb q) (hm : m < 8) (ha : a < 8) : ∀ b, b ≤ 8 → nb (fw_b q m a b)
  | 0, _ => h
  | b + 1, hb => nb_1 (nb_b h hm ha b (by omega)) hm ha (by omega)
theorem nb_a {q : List Int32} {m : Nat} (h : nb q) (hm : m < 8) : ∀ a, a ≤ 8 → nb (fw_a q m a)
  | 0, _ => h
  | a + 1, ha => nb_b (nb_a h hm a (by omega)) hm (by omega) 8 (Nat.le_refl _)
theorem nb_m {q : List Int32} (h : nb q) : ∀ m, m ≤ 8 → nb (fw_m q m)
  | 0, _ => h
  | m + 1, hm => nb_a (nb_m h m (by omega)) (by omega) 8 (Nat.le_refl _)
theorem nb_fw {q : List Int32} (h : nb q) : nb (fw q) := nb_m h 8 (Nat.le_refl _)
