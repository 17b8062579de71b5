/-! ===== orders, in a row: what the best of them is ===== -/
def wn (D : Nat → Nat → Nat) (bd : Nat → Nat) : Nat → Nat → List Nat → Nat
  | _, _, [] => 0
  | pos, day, x :: r => if D pos x < 999 then (if bd x < day + D pos x then 0 else 1) + wn D bd x (day + D pos x + 3) r else 0
def okf (D : Nat → Nat → Nat) (bd : Nat → Nat) (pos day s : Nat) : Bool := decide (D pos s < 999 ∧ ¬ bd s < day + D pos s)
theorem okf_far {D : Nat → Nat → Nat} {bd : Nat → Nat} (ht : ∀ a b c, a < 8 → b < 8 → c < 8 → D a c ≤ D a b + D b c) (hb : ∀ s, s < 8 → bd s < 1000) {pos day x s : Nat} (hp : pos < 8) (hx : x < 8) (hs : s < 8) (h : okf D bd x (day + D pos x + 3) s = true) : okf D bd pos day s = true := by
  unfold okf at *
  have h := of_decide_eq_true h
  have t := ht pos x s hp hx hs
  have b := hb s hs
  exact decide_eq_true (by omega)
theorem wn_le {D : Nat → Nat → Nat} {bd : Nat → Nat} (ht : ∀ a b c, a < 8 → b < 8 → c < 8 → D a c ≤ D a b + D b c) (hb : ∀ s, s < 8 → bd s < 1000) : ∀ (q : List Nat) (pos day : Nat), pos < 8 → (∀ s, s ∈ q → s < 8) → wn D bd pos day q ≤ q.countP (okf D bd pos day)
  | [], _, _, _, _ => Nat.le_refl _
  | x :: r, pos, day, hp, hq => by
    have hx := hq x List.mem_cons_self
    have hr : ∀ s, s ∈ r → s < 8 := fun s hs => hq s (List.mem_cons_of_mem x hs)
    unfold wn
    by_cases c : D pos x < 999
    · rw [if_pos c, List.countP_cons]
      have ih := wn_le ht hb r x (day + D pos x + 3) hx hr
      have mo : r.countP (okf D bd x (day + D pos x + 3)) ≤ r.countP (okf D bd pos day) := List.countP_mono_left (fun s hs h => okf_far ht hb hp hx (hr s hs) h)
      have e : (if bd x < day + D pos x then 0 else 1) = (if okf D bd pos day x = true then 1 else 0) := by
        unfold okf
        by_cases c2 : bd x < day + D pos x
        · rw [if_pos c2, if_neg (by simp [c2])]
        · rw [if_neg c2, if_pos (by simp [c2, c])]
      rw [e]
      omega
    · rw [if_neg c]; omega
abbrev bst := Int × List Nat
def udw (W : List Nat → Nat) (b : bst) (p : List Nat) : bst := if b.1 < (W p : Int) then ((W p : Int), p) else b
def fG (F : bst → List Nat → List Nat → bst) (pre : List Nat) (b : bst) (done : List Nat) : List Nat → bst
  | [] => b
  | x :: rest => fG F pre (F b (pre ++ [x]) (done ++ rest)) (done ++ [x]) rest
def fF (W : List Nat → Nat) : Nat → bst → List Nat → List Nat → bst
  | 0, b, pre, _ => udw W b pre
  | k + 1, b, pre, l => fG (fF W k) pre b [] l
theorem fF_le {W : List Nat → Nat} : ∀ (k : Nat) (b : bst) (pre l : List Nat), l.length = k → (∀ q, q.Perm l → (W (pre ++ q) : Int) ≤ b.1) → fF W k b pre l = b
  | 0, b, pre, l, hl, h => by
    have := h [] (by rw [List.length_eq_zero_iff.mp hl])
    rw [List.append_nil] at this
    show udw W b pre = b
    unfold udw
    rw [if_neg (by omega)]
  | k + 1, b, pre, l, hl, h => by
    have key : ∀ (rest done : List Nat), (done ++ rest).length = k + 1 → (∀ q, q.Perm (done ++ rest) → (W (pre ++ q) : Int) ≤ b.1) → fG (fF W k) pre b done rest = b := by
      intro rest
      induction rest with
      | nil => intro done _ _; rfl
      | cons x rest ih =>
        intro done hd hq
        show fG (fF W k) pre (fF W k b (pre ++ [x]) (done ++ rest)) (done ++ [x]) rest = b
        rw [fF_le k b (pre ++ [x]) (done ++ rest) (by rw [List.length_append] at *; rw [List.length_cons] at hd; omega) (fun q hp => by
          rw [List.append_assoc]
          exact hq ([x] ++ q) ((List.Perm.cons x hp).trans List.perm_middle.symm))]
        exact ih (done ++ [x]) (by rw [List.append_assoc]; exact hd) (fun q hp => hq q (by rw [List.append_assoc] at hp; exact hp))
    exact key l [] hl h
theorem fF_const {W : List Nat → Nat} {c : Nat} : ∀ (k : Nat) (b : bst) (pre l : List Nat), l.length = k → (∀ q, q.Perm l → W (pre ++ q) = c) → fF W k b pre l = if b.1 < (c : Int) then ((c : Int), pre ++ l) else b
  | 0, b, pre, l, hl, h => by
    have e := List.length_eq_zero_iff.mp hl
    have := h [] (by rw [e])
    rw [List.append_nil] at this
    show udw W b pre = _
    unfold udw
    rw [this, e, List.append_nil]
  | k + 1, b, pre, [], hl, h => by cases hl
  | k + 1, b, pre, x :: rest, hl, h => by
    have key : ∀ (rest done : List Nat) (b : bst), (c : Int) ≤ b.1 → (done ++ rest).length = k + 1 → (∀ q, q.Perm (done ++ rest) → W (pre ++ q) = c) → fG (fF W k) pre b done rest = b := by
      intro rest
      induction rest with
      | nil => intro done b _ _ _; rfl
      | cons x rest ih =>
        intro done b hb hd hq
        show fG (fF W k) pre (fF W k b (pre ++ [x]) (done ++ rest)) (done ++ [x]) rest = b
        rw [fF_le k b (pre ++ [x]) (done ++ rest) (by rw [List.length_append] at *; rw [List.length_cons] at hd; omega) (fun q hp => by
          rw [List.append_assoc]
          have := hq ([x] ++ q) ((List.Perm.cons x hp).trans List.perm_middle.symm)
          omega)]
        exact ih (done ++ [x]) b hb (by rw [List.append_assoc]; exact hd) (fun q hp => hq q (by rw [List.append_assoc] at hp; exact hp))
    show fG (fF W k) pre (fF W k b (pre ++ [x]) ([] ++ rest)) ([] ++ [x]) rest = _
    have hl' : rest.length = k := by rw [List.length_cons] at hl; omega
    rw [List.nil_append, List.nil_append, fF_const k b (pre ++ [x]) rest hl' (fun q hp => by
      rw [List.append_assoc]
      exact h ([x] ++ q) (List.Perm.cons x hp)), List.append_assoc]
    by_cases cc : b.1 < (c : Int)
    · rw [if_pos cc, if_pos cc]
      exact key rest [x] ((c : Int), pre ++ ([x] ++ rest)) (Int.le_refl _) hl h
    · rw [if_neg cc, if_neg cc]
      exact key rest [x] b (by omega) hl h
/-- the bits of a set, from below -/
def hiR (s : Nat) : Nat → Nat → List Nat
  | 0, _ => []
  | m + 1, j => if s.testBit j then j :: hiR s m (j + 1) else hiR s m (j + 1)
def loR (s : Nat) : Nat → List Nat
  | 0 => []
  | j + 1 => loR s j ++ (if s.testBit j then [j] else [])
def bits (s : Nat) : List Nat := hiR s 8 0
theorem bits_at (s : Nat) : ∀ (j m : Nat), m + j = 8 → bits s = loR s j ++ hiR s m j
  | 0, m, h => by
    have : m = 8 := by omega
    subst this
    rfl
  | j + 1, m, h => by
    rw [bits_at s j (m + 1) (by omega)]
    show loR s j ++ (if s.testBit j then j :: hiR s m (j + 1) else hiR s m (j + 1)) = (loR s j ++ (if s.testBit j then [j] else [])) ++ hiR s m (j + 1)
    cases s.testBit j <;> simp
theorem bits_lo (s : Nat) : bits s = loR s 8 := by rw [bits_at s 8 0 rfl]; exact List.append_nil _
theorem loR_congr {s t : Nat} : ∀ {j : Nat}, (∀ i, i < j → s.testBit i = t.testBit i) → loR s j = loR t j
  | 0, _ => rfl
  | j + 1, h => by
    show loR s j ++ _ = loR t j ++ _
    rw [loR_congr (fun i hi => h i (by omega)), h j (by omega)]
theorem hiR_congr {s t : Nat} : ∀ {m j : Nat}, (∀ i, j ≤ i → s.testBit i = t.testBit i) → hiR s m j = hiR t m j
  | 0, _, _ => rfl
  | m + 1, j, h => by
    show (if s.testBit j then _ else _) = (if t.testBit j then _ else _)
    rw [hiR_congr (m := m) (j := j + 1) (fun i hi => h i (by omega)), h j (Nat.le_refl _)]
theorem loR_mem {s x : Nat} : ∀ {j : Nat}, x ∈ loR s j → x < j ∧ s.testBit x = true
  | 0, h => absurd h List.not_mem_nil
  | j + 1, h => by
    have h : x ∈ loR s j ++ (if s.testBit j then [j] else []) := h
    rw [List.mem_append] at h
    rcases h with h | h
    · have := loR_mem h
      exact ⟨by omega, this.2⟩
    · cases hb : s.testBit j with
      | true =>
        rw [hb, if_pos rfl] at h
        have := List.mem_singleton.mp h
        subst this
        exact ⟨by omega, hb⟩
      | false => rw [hb, if_neg (by decide)] at h; exact absurd h List.not_mem_nil
theorem bits_mem {s x : Nat} (h : x ∈ bits s) : x < 8 := by rw [bits_lo] at h; exact (loR_mem h).1
/-- without j -/
def wo (s j : Nat) : Nat := s ^^^ (s &&& 2 ^ j)
theorem wo_tb {s j i : Nat} : (wo s j).testBit i = (s.testBit i && !decide (i = j)) := by
  unfold wo
  rw [Nat.testBit_xor, Nat.testBit_and, Nat.testBit_two_pow]
  by_cases e : i = j
  · subst e; simp
  · have : ¬ j = i := fun q => e q.symm
    simp [e, this]
theorem wo_lt {s j n : Nat} (h : s < 2 ^ n) : wo s j < 2 ^ n := Nat.xor_lt_two_pow h (Nat.lt_of_le_of_lt Nat.and_le_left h)
theorem wo_bits {s j m : Nat} (h : m + (j + 1) = 8) : bits (wo s j) = loR s j ++ hiR s m (j + 1) := by
  rw [bits_at (wo s j) (j + 1) m h]
  show (loR (wo s j) j ++ (if (wo s j).testBit j then [j] else [])) ++ hiR (wo s j) m (j + 1) = _
  have e : (wo s j).testBit j = false := by rw [wo_tb]; simp
  rw [e, if_neg (by decide), List.append_nil, loR_congr (t := s) (fun i hi => by rw [wo_tb, decide_eq_false (by omega)]; simp), hiR_congr (t := s) (fun i hi => by rw [wo_tb, decide_eq_false (by omega)]; simp)]
