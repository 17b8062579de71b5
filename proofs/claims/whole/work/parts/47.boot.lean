/-! ===== the heap behind both constructors ===== -/
def a0_l : List (List Int32) := [
  [],
  [],
  [],
  List.replicate 8 999,
  List.replicate 8 999,
  List.replicate 8 999,
  List.replicate 8 999,
  List.replicate 8 999,
  List.replicate 8 999,
  List.replicate 8 999,
  List.replicate 8 999,
  [],
  [0, 999, 999, 999, 999, 999, 999, 999],
  [999, 0, 999, 999, 999, 999, 999, 999],
  [999, 999, 0, 999, 999, 999, 999, 999],
  [999, 999, 999, 0, 999, 999, 999, 999],
  [999, 999, 999, 999, 0, 999, 999, 999],
  [999, 999, 999, 999, 999, 0, 999, 999],
  [999, 999, 999, 999, 999, 999, 0, 999],
  [999, 999, 999, 999, 999, 999, 999, 0],
  List.replicate 30 0,
  List.replicate 30 0,
  List.replicate 30 0,
  List.replicate 8 0,
  List.replicate 8 0,
  [],
  List.replicate 12 0,
  List.replicate 6 0,
  List.replicate 6 (-1),
  [],
  List.replicate 24 0,
  List.replicate 24 0,
  List.replicate 24 0,
  List.replicate 24 0,
  List.replicate 24 0,
  List.replicate 24 0,
  List.replicate 24 (-1),
  [],
  [],
  [],
  List.replicate 3 0,
  List.replicate 6 0,
  List.replicate 40 0,
  [],
  List.replicate 1 (-4),
  [],
  List.replicate 1 (-6),
  [],
  List.replicate 30 0,
  List.replicate 30 0,
  List.replicate 30 0,
  List.replicate 30 0,
  [],
  List.replicate 160 0,
  List.replicate 161 0,
  List.replicate 161 0,
  List.replicate 161 0,
  List.replicate 160 0,
  [],
  List.replicate 10 0,
  List.replicate 10 0,
  [],
  List.replicate 8 0,
  List.replicate 8 0,
  [],
  List.replicate 8 0,
  List.replicate 8 0,
  List.replicate 8 0,
  List.replicate 8 0,
  List.replicate 8 0,
  List.replicate 8 0,
  List.replicate 8 0,
  List.replicate 8 0,
  [],
  List.replicate 7 0,
  List.replicate 7 0,
  [],
  [],
  List.replicate 40 0,
  [],
  List.replicate 40 0,
  [],
  List.replicate 40 0,
  [],
  List.replicate 40 0,
  [],
  [0, 999, 999, 999, 999, 999, 999, 999, 999, 0, 999, 999, 999, 999, 999, 999, 999, 999, 0, 999, 999, 999, 999, 999, 999, 999, 999, 0, 999, 999, 999, 999, 999, 999, 999, 999, 0, 999, 999, 999, 999, 999, 999, 999, 999, 0, 999, 999, 999, 999, 999, 999, 999, 999, 0, 999, 999, 999, 999, 999, 999, 999, 999, 0],
  List.replicate 64 0,
  List.replicate 12 0,
  List.replicate 6 0,
  List.replicate 6 (-1),
  List.replicate 31 0,
  List.replicate 31 0,
  List.replicate 31 0,
  List.replicate 24 0,
  List.replicate 24 0,
  List.replicate 24 0,
  List.replicate 24 0,
  List.replicate 24 0,
  List.replicate 24 0,
  List.replicate 24 0,
  List.replicate 160 0,
  List.replicate 3 0,
  [1, 1, 0, 0, 0, 0, 0, 0, 0, 0, 0, 0],
  ((List.replicate 1920 0).set 0 10003).set 160 10005,
  List.replicate 161 0,
  List.replicate 7 0,
  List.replicate 6 0,
  List.replicate 161 0,
  List.replicate 30 0,
  List.replicate 30 0,
  List.replicate 30 0,
  List.replicate 30 0,
  List.replicate 10 0,
  List.replicate 10 0,
  List.replicate 10 0,
  List.replicate 8 0,
  List.replicate 8 0,
  List.replicate 64 0,
  List.replicate 8 0,
  List.replicate 8 0,
  List.replicate 7 0,
  List.replicate 7 0,
  List.replicate 7 0,
  List.replicate 4 (-1),
  List.replicate 4 0,
  List.replicate 160 0,
  List.replicate 40 0]
def A0 (c : Nat) : List Int32 := a0_l.getD c []
def I0 (n : Nat) : Int32 := if n = 2373 ∨ n = 5460 then 1 else if n = 4928 ∨ n = 5056 ∨ n = 5184 ∨ n = 5312 then -1 else 0
def x0 : am_X := ([some 43, none, none, none, none, none], [some 45, none, none, none, none, none], .null, .null, [])
def h_c0 : am_H := [.inr (.inr (11, List.replicate 10 .null))]
def h_c1 : am_H := (hp A0 I0 x0).take 85
def h_c2 : am_H := h_c1 ++ [.inr (.inr (12, (List.range 59).map (fun k => am_dfv (am_fty 12 k))))]
section AmRo
variable {M : am_M} {ro : Nat → Option (List Int32)}
theorem am_heap_ro {cn : Nat} {i : Instr} {st : List Value} {hh : am_H} {q : List Value × am_H} (hq : am_heap (fun _ => none) cn i st hh = some q) : am_heap ro cn i st hh = some q := by
  cases i <;> try exact hq
  · have hq : am_len (fun _ => none) st hh = some q := hq
    show am_len ro st hh = some q
    unfold am_len at hq ⊢
    split at hq
    · split at hq
      · next ha => rw [if_pos ha]; exact hq
      · split at hq <;> cases hq
    · cases hq
  · have hq : am_ial (fun _ => none) st hh = some q := hq
    show am_ial ro st hh = some q
    unfold am_ial at hq ⊢
    split at hq
    · split at hq
      · next ha => rw [if_pos ha]; exact hq
      · cases hq
    · cases hq
  · next n => exact match n, hq with
      | 0, hq => hq
      | 1, hq => hq
      | 2, hq => hq
      | 3, hq => hq
      | 4, hq => hq
      | (k + 5), hq => hq
theorem am_one_ro {cf : am_Cf} {o : am_O} (ho : am_one (fun _ => none) M cf = some o) : am_one ro M cf = some o := by
  obtain ⟨pc, L, st, h⟩ := cf
  obtain ⟨i, n2, hf, hcs⟩ := am_one_cases ho
  show am_onx ro M pc L st h = some o
  unfold am_onx
  rw [hf]
  dsimp only
  rcases hcs with ⟨hk, L1, st1, hp, rfl⟩ | ⟨hk, pc1, st1, hp, rfl⟩ | ⟨hk, st1, h2, hp, rfl⟩ | ⟨hk, hp⟩ | ⟨hk, hp⟩ | ⟨hk, hp⟩ | ⟨hk, v1, hp, rfl⟩
  · simp only [hk, hp]
  · simp only [hk, hp]
  · simp only [hk, am_heap_ro hp]
  · simp only [hk, hp]
  · simp only [hk, hp]
  · simp only [hk, hp]
  · rcases am_rt_cases hp with ⟨rfl, _⟩ | ⟨rfl, _⟩ | ⟨rfl, _⟩ | ⟨rfl, _⟩ <;> simp only [am_kind, hp]
theorem am_run_ro : ∀ (d n k : Nat) (as : List Value) (h : am_H) (r : am_An), am_run (fun _ => none) d n k as h = some r → am_run ro d n k as h = some r := by
  intro d
  induction d with
  | zero => intro n k as h r h1; simp [am_run] at h1
  | succ d ih =>
    intro n k as h r h1
    unfold am_run at h1 ⊢
    cases hP : am_P k with
    | none => rw [hP] at h1; simp at h1
    | some q =>
      obtain ⟨M, nL⟩ := q
      rw [hP] at h1
      dsimp only at h1 ⊢
      split at h1
      · next hle =>
        rw [if_pos hle]
        have key : ∀ (m : Nat) (cf : am_Cf) (r : am_An), am_ev (fun _ => none) (am_run (fun _ => none) d n) M m cf = some r → am_ev ro (am_run ro d n) M m cf = some r := by
          intro m
          induction m with
          | zero => intro cf r h; simp [am_ev] at h
          | succ m im =>
            intro cf r h
            unfold am_ev at h ⊢
            cases ho : am_one (fun _ => none) M cf with
            | none => rw [ho] at h; simp at h
            | some o =>
              rw [ho] at h
              rw [am_one_ro ho]
              rcases o with cf' | ⟨k, as, cf'⟩ | v
              · exact im cf' r h
              · dsimp only at h ⊢
                cases hq : am_run (fun _ => none) d n k as cf'.2.2.2 with
                | none => rw [hq] at h; simp at h
                | some q =>
                  obtain ⟨v, h1⟩ := q
                  rw [hq] at h
                  rw [ih _ _ _ _ _ hq]
                  exact im _ r h
              · exact h
        exact key n _ _ h1
      · cases h1
end AmRo
def ok_v (a b : Value) : Bool := match a, b with
  | .int x, .int y => decide (x = y)
  | .ref x, .ref y => decide (x = y)
  | .null, .null => true
  | _, _ => false
theorem ok_v_eq {a b : Value} (h : ok_v a b = true) : a = b := by
  unfold ok_v at h
  split at h
  · rw [of_decide_eq_true h]
  · rw [of_decide_eq_true h]
  · rfl
  · cases h
def ok_l : List Value → List Value → Bool
  | [], [] => true
  | a :: l, b :: m => ok_v a b && ok_l l m
  | _, _ => false
theorem ok_l_eq : ∀ {a b : List Value}, ok_l a b = true → a = b
  | [], [], _ => rfl
  | a :: l, b :: m, h => by
    unfold ok_l at h
    rw [Bool.and_eq_true] at h
    rw [ok_v_eq h.1, ok_l_eq h.2]
  | [], _ :: _, h => by cases h
  | _ :: _, [], h => by cases h
def ok_c (a b : am_C) : Bool := match a, b with
  | .inl (n, x), .inl (m, y) => decide (n = m) && decide (x = y)
  | .inr (.inl (n, x)), .inr (.inl (m, y)) => decide (n = m) && decide (x = y)
  | .inr (.inr (n, x)), .inr (.inr (m, y)) => decide (n = m) && ok_l x y
  | _, _ => false
theorem ok_c_eq {a b : am_C} (h : ok_c a b = true) : a = b := by
  unfold ok_c at h
  split at h
  · rw [Bool.and_eq_true] at h; rw [of_decide_eq_true h.1, of_decide_eq_true h.2]
  · rw [Bool.and_eq_true] at h; rw [of_decide_eq_true h.1, of_decide_eq_true h.2]
  · rw [Bool.and_eq_true] at h; rw [of_decide_eq_true h.1, ok_l_eq h.2]
  · cases h
def ok_h : am_H → am_H → Bool
  | [], [] => true
  | a :: l, b :: m => ok_c a b && ok_h l m
  | _, _ => false
theorem ok_h_eq : ∀ {a b : am_H}, ok_h a b = true → a = b
  | [], [], _ => rfl
  | a :: l, b :: m, h => by
    unfold ok_h at h
    rw [Bool.and_eq_true] at h
    rw [ok_c_eq h.1, ok_h_eq h.2]
  | [], _ :: _, h => by cases h
  | _ :: _, [], h => by cases h
def ok_r (q : Option am_An) (g : am_H) : Bool := match q with
  | some (none, h) => ok_h h g
  | _ => false
theorem ok_r_eq {q : Option am_An} {g : am_H} (h : ok_r q g = true) : q = some (none, g) := by
  unfold ok_r at h
  split at h
  · rw [ok_h_eq h]
  · cases h
set_option maxRecDepth 100000 in
theorem boot2 : ok_r (am_run (fun _ => none) 6 25000 ix_X12_init [.ref 85] h_c2) (hp A0 I0 x0) = true := by decide +kernel
