/-! ===== the model's reading of an E (by wip/whole/gen_t3.py) ===== -/
theorem ifp {α : Type} (c : Prop) [Decidable c] (a b : α) : (if (if c then (1 : Int32) else 0) = 0 then a else b) = if c then b else a := by
  by_cases h : c
  · rw [if_pos h, if_pos h]; rfl
  · rw [if_neg h, if_neg h]; rfl
section Tr
variable {A : Nat → List Int32} {I : Nat → Int32} {T V : Int32}
theorem tkey0 (h : tkr T V (I 5465) (I 5466)) : f_X12_isKey A I 0 = some (if T = 4 then 1 else 0) := by
  unfold f_X12_isKey
  rcases h with ⟨rfl, h1⟩ | ⟨rfl, h1⟩ | ⟨rfl, h1, h2, -⟩ | ⟨rfl, h1, h2⟩ | ⟨h1, ⟨rfl, h2⟩ | ⟨rfl, h2⟩ | ⟨rfl, h2⟩ | ⟨rfl, h2⟩ | ⟨rfl, h2⟩⟩ | ⟨h1, h2, rfl | rfl | rfl | rfl | rfl | rfl | rfl | rfl⟩
  all_goals first | (rw [h1, h2]; rfl) | (rw [h1]; rfl)
theorem tkey1 (h : tkr T V (I 5465) (I 5466)) : f_X12_isKey A I 1 = some (if T = 5 then 1 else 0) := by
  unfold f_X12_isKey
  rcases h with ⟨rfl, h1⟩ | ⟨rfl, h1⟩ | ⟨rfl, h1, h2, -⟩ | ⟨rfl, h1, h2⟩ | ⟨h1, ⟨rfl, h2⟩ | ⟨rfl, h2⟩ | ⟨rfl, h2⟩ | ⟨rfl, h2⟩ | ⟨rfl, h2⟩⟩ | ⟨h1, h2, rfl | rfl | rfl | rfl | rfl | rfl | rfl | rfl⟩
  all_goals first | (rw [h1, h2]; rfl) | (rw [h1]; rfl)
theorem tkey2 (h : tkr T V (I 5465) (I 5466)) : f_X12_isKey A I 2 = some (if T = 6 then 1 else 0) := by
  unfold f_X12_isKey
  rcases h with ⟨rfl, h1⟩ | ⟨rfl, h1⟩ | ⟨rfl, h1, h2, -⟩ | ⟨rfl, h1, h2⟩ | ⟨h1, ⟨rfl, h2⟩ | ⟨rfl, h2⟩ | ⟨rfl, h2⟩ | ⟨rfl, h2⟩ | ⟨rfl, h2⟩⟩ | ⟨h1, h2, rfl | rfl | rfl | rfl | rfl | rfl | rfl | rfl⟩
  all_goals first | (rw [h1, h2]; rfl) | (rw [h1]; rfl)
theorem tkey3 (h : tkr T V (I 5465) (I 5466)) : f_X12_isKey A I 3 = some (if T = 7 then 1 else 0) := by
  unfold f_X12_isKey
  rcases h with ⟨rfl, h1⟩ | ⟨rfl, h1⟩ | ⟨rfl, h1, h2, -⟩ | ⟨rfl, h1, h2⟩ | ⟨h1, ⟨rfl, h2⟩ | ⟨rfl, h2⟩ | ⟨rfl, h2⟩ | ⟨rfl, h2⟩ | ⟨rfl, h2⟩⟩ | ⟨h1, h2, rfl | rfl | rfl | rfl | rfl | rfl | rfl | rfl⟩
  all_goals first | (rw [h1, h2]; rfl) | (rw [h1]; rfl)
theorem tkey4 (h : tkr T V (I 5465) (I 5466)) : f_X12_isKey A I 4 = some (if T = 8 then 1 else 0) := by
  unfold f_X12_isKey
  rcases h with ⟨rfl, h1⟩ | ⟨rfl, h1⟩ | ⟨rfl, h1, h2, -⟩ | ⟨rfl, h1, h2⟩ | ⟨h1, ⟨rfl, h2⟩ | ⟨rfl, h2⟩ | ⟨rfl, h2⟩ | ⟨rfl, h2⟩ | ⟨rfl, h2⟩⟩ | ⟨h1, h2, rfl | rfl | rfl | rfl | rfl | rfl | rfl | rfl⟩
  all_goals first | (rw [h1, h2]; rfl) | (rw [h1]; rfl)
theorem tsig40 (h : tkr T V (I 5465) (I 5466)) : f_X12_isSign A I 40 = some (if T = 40 then 1 else 0) := by
  unfold f_X12_isSign
  rcases h with ⟨rfl, h1⟩ | ⟨rfl, h1⟩ | ⟨rfl, h1, h2, -⟩ | ⟨rfl, h1, h2⟩ | ⟨h1, ⟨rfl, h2⟩ | ⟨rfl, h2⟩ | ⟨rfl, h2⟩ | ⟨rfl, h2⟩ | ⟨rfl, h2⟩⟩ | ⟨h1, h2, rfl | rfl | rfl | rfl | rfl | rfl | rfl | rfl⟩
  all_goals first | (rw [h1, h2]; rfl) | (rw [h1]; rfl)
theorem tsig41 (h : tkr T V (I 5465) (I 5466)) : f_X12_isSign A I 41 = some (if T = 41 then 1 else 0) := by
  unfold f_X12_isSign
  rcases h with ⟨rfl, h1⟩ | ⟨rfl, h1⟩ | ⟨rfl, h1, h2, -⟩ | ⟨rfl, h1, h2⟩ | ⟨h1, ⟨rfl, h2⟩ | ⟨rfl, h2⟩ | ⟨rfl, h2⟩ | ⟨rfl, h2⟩ | ⟨rfl, h2⟩⟩ | ⟨h1, h2, rfl | rfl | rfl | rfl | rfl | rfl | rfl | rfl⟩
  all_goals first | (rw [h1, h2]; rfl) | (rw [h1]; rfl)
theorem tsig59 (h : tkr T V (I 5465) (I 5466)) : f_X12_isSign A I 59 = some (if T = 59 then 1 else 0) := by
  unfold f_X12_isSign
  rcases h with ⟨rfl, h1⟩ | ⟨rfl, h1⟩ | ⟨rfl, h1, h2, -⟩ | ⟨rfl, h1, h2⟩ | ⟨h1, ⟨rfl, h2⟩ | ⟨rfl, h2⟩ | ⟨rfl, h2⟩ | ⟨rfl, h2⟩ | ⟨rfl, h2⟩⟩ | ⟨h1, h2, rfl | rfl | rfl | rfl | rfl | rfl | rfl | rfl⟩
  all_goals first | (rw [h1, h2]; rfl) | (rw [h1]; rfl)
theorem tsig43 (h : tkr T V (I 5465) (I 5466)) : f_X12_isSign A I 43 = some (if T = 43 then 1 else 0) := by
  unfold f_X12_isSign
  rcases h with ⟨rfl, h1⟩ | ⟨rfl, h1⟩ | ⟨rfl, h1, h2, -⟩ | ⟨rfl, h1, h2⟩ | ⟨h1, ⟨rfl, h2⟩ | ⟨rfl, h2⟩ | ⟨rfl, h2⟩ | ⟨rfl, h2⟩ | ⟨rfl, h2⟩⟩ | ⟨h1, h2, rfl | rfl | rfl | rfl | rfl | rfl | rfl | rfl⟩
  all_goals first | (rw [h1, h2]; rfl) | (rw [h1]; rfl)
theorem tsig45 (h : tkr T V (I 5465) (I 5466)) : f_X12_isSign A I 45 = some (if T = 45 then 1 else 0) := by
  unfold f_X12_isSign
  rcases h with ⟨rfl, h1⟩ | ⟨rfl, h1⟩ | ⟨rfl, h1, h2, -⟩ | ⟨rfl, h1, h2⟩ | ⟨h1, ⟨rfl, h2⟩ | ⟨rfl, h2⟩ | ⟨rfl, h2⟩ | ⟨rfl, h2⟩ | ⟨rfl, h2⟩⟩ | ⟨h1, h2, rfl | rfl | rfl | rfl | rfl | rfl | rfl | rfl⟩
  all_goals first | (rw [h1, h2]; rfl) | (rw [h1]; rfl)
theorem tsig42 (h : tkr T V (I 5465) (I 5466)) : f_X12_isSign A I 42 = some (if T = 42 then 1 else 0) := by
  unfold f_X12_isSign
  rcases h with ⟨rfl, h1⟩ | ⟨rfl, h1⟩ | ⟨rfl, h1, h2, -⟩ | ⟨rfl, h1, h2⟩ | ⟨h1, ⟨rfl, h2⟩ | ⟨rfl, h2⟩ | ⟨rfl, h2⟩ | ⟨rfl, h2⟩ | ⟨rfl, h2⟩⟩ | ⟨h1, h2, rfl | rfl | rfl | rfl | rfl | rfl | rfl | rfl⟩
  all_goals first | (rw [h1, h2]; rfl) | (rw [h1]; rfl)
theorem tsig60 (h : tkr T V (I 5465) (I 5466)) : f_X12_isSign A I 60 = some (if T = 60 then 1 else 0) := by
  unfold f_X12_isSign
  rcases h with ⟨rfl, h1⟩ | ⟨rfl, h1⟩ | ⟨rfl, h1, h2, -⟩ | ⟨rfl, h1, h2⟩ | ⟨h1, ⟨rfl, h2⟩ | ⟨rfl, h2⟩ | ⟨rfl, h2⟩ | ⟨rfl, h2⟩ | ⟨rfl, h2⟩⟩ | ⟨h1, h2, rfl | rfl | rfl | rfl | rfl | rfl | rfl | rfl⟩
  all_goals first | (rw [h1, h2]; rfl) | (rw [h1]; rfl)
theorem tsig61 (h : tkr T V (I 5465) (I 5466)) : f_X12_isSign A I 61 = some (if T = 61 then 1 else 0) := by
  unfold f_X12_isSign
  rcases h with ⟨rfl, h1⟩ | ⟨rfl, h1⟩ | ⟨rfl, h1, h2, -⟩ | ⟨rfl, h1, h2⟩ | ⟨h1, ⟨rfl, h2⟩ | ⟨rfl, h2⟩ | ⟨rfl, h2⟩ | ⟨rfl, h2⟩ | ⟨rfl, h2⟩⟩ | ⟨h1, h2, rfl | rfl | rfl | rfl | rfl | rfl | rfl | rfl⟩
  all_goals first | (rw [h1, h2]; rfl) | (rw [h1]; rfl)
theorem tnum (h : tkr T V (I 5465) (I 5466)) : I 5465 = 1 ↔ T = 2 := by
  rcases h with ⟨rfl, h1⟩ | ⟨rfl, h1⟩ | ⟨rfl, h1, h2, -⟩ | ⟨rfl, h1, h2⟩ | ⟨h1, ⟨rfl, h2⟩ | ⟨rfl, h2⟩ | ⟨rfl, h2⟩ | ⟨rfl, h2⟩ | ⟨rfl, h2⟩⟩ | ⟨h1, h2, rfl | rfl | rfl | rfl | rfl | rfl | rfl | rfl⟩
  all_goals (rw [h1]; decide)
theorem tnam (h : tkr T V (I 5465) (I 5466)) : I 5465 = 2 ↔ T = 3 := by
  rcases h with ⟨rfl, h1⟩ | ⟨rfl, h1⟩ | ⟨rfl, h1, h2, -⟩ | ⟨rfl, h1, h2⟩ | ⟨h1, ⟨rfl, h2⟩ | ⟨rfl, h2⟩ | ⟨rfl, h2⟩ | ⟨rfl, h2⟩ | ⟨rfl, h2⟩⟩ | ⟨h1, h2, rfl | rfl | rfl | rfl | rfl | rfl | rfl | rfl⟩
  all_goals (rw [h1]; decide)
def sg (T : Int32) : Int32 := if T = 6 then -1 else if T = 7 then -2 else if T = 60 then -4 else if T = 61 then -5 else if T = 43 then -6 else if T = 45 then -7 else if T = 42 then -8 else 0
theorem tsgn (h : tkr T V (I 5465) (I 5466)) : f_X12_signOf A I = some (sg T) := by
  unfold f_X12_signOf sg
  rw [tkey2 h, tkey3 h, tsig60 h, tsig61 h, tsig43 h, tsig45 h, tsig42 h]
  by_cases c1 : T = 6
  · rw [if_pos c1, if_pos c1]; rfl
  rw [if_neg c1, if_neg c1]
  by_cases c2 : T = 7
  · rw [if_pos c2, if_pos c2]; rfl
  rw [if_neg c2, if_neg c2]
  by_cases c3 : T = 60
  · rw [if_pos c3, if_pos c3]; rfl
  rw [if_neg c3, if_neg c3]
  by_cases c4 : T = 61
  · rw [if_pos c4, if_pos c4]; rfl
  rw [if_neg c4, if_neg c4]
  by_cases c5 : T = 43
  · rw [if_pos c5, if_pos c5]; rfl
  rw [if_neg c5, if_neg c5]
  by_cases c6 : T = 45
  · rw [if_pos c6, if_pos c6]; rfl
  rw [if_neg c6, if_neg c6]
  by_cases c7 : T = 42
  · rw [if_pos c7, if_pos c7]; rfl
  rw [if_neg c7, if_neg c7]
  rfl
theorem tahead {b : Int32} {o : Nat} (h : tkr T V (I 5465) (I 5466)) (ho : I 5472 = Int32.ofNat o) (ho5 : o ≤ 5) (hb : b = 0 ∨ b = 1) : f_X12_ahead A I b = some (if T = 2 then 1 else if T = 3 then 1 else if o = 5 then 0 else if T = 8 then b else if T = 40 then 1 else if T = 45 then 1 else 0) := by
  unfold f_X12_ahead
  rw [tkey4 h, tsig40 h, tsig45 h, ho]
  by_cases c1 : T = 2
  · rw [if_pos ((tnum h).mpr c1), if_pos c1]
  rw [if_neg (fun q => c1 ((tnum h).mp q)), if_neg c1]
  by_cases c2 : T = 3
  · rw [if_pos ((tnam h).mpr c2), if_pos c2]
  rw [if_neg (fun q => c2 ((tnam h).mp q)), if_neg c2]
  by_cases c3 : o = 5
  · rw [if_pos (show Int32.ofNat o = 5 from by rw [c3]; rfl), if_pos c3]
  rw [if_neg (fun q => c3 ((i_eqr (n := 5) (by omega) (by decide)).mp q)), if_neg c3, Option.bind_some, ifp]
  by_cases c4 : T = 8
  · rw [if_pos c4, if_pos c4, if_pos hb]
  rw [if_neg c4, if_neg c4, Option.bind_some, ifp]
  by_cases c5 : T = 40
  · rw [if_pos c5, if_pos c5]
  rw [if_neg c5, if_neg c5, Option.bind_some, ifp]
  by_cases c6 : T = 45
  · rw [if_pos c6, if_pos c6]
  rw [if_neg c6, if_neg c6]
end Tr
def rk (v : Int32) : Nat := if v = -1 then 1 else if v = -2 then 2 else if v = -3 then 3 else if v = -4 then 4 else if v = -5 then 4 else if v = -6 then 5 else if v = -7 then 5 else if v = -8 then 6 else if v = -9 then 7 else 0
theorem rank_eq (A : Nat → List Int32) (I : Nat → Int32) (v : Int32) : f_X12_rank A I v = some (Int32.ofNat (rk v)) := by
  unfold f_X12_rank rk
  by_cases c1 : v = -1
  · rw [if_pos c1, if_pos c1]; rfl
  rw [if_neg c1, if_neg c1]
  by_cases c2 : v = -2
  · rw [if_pos c2, if_pos c2]; rfl
  rw [if_neg c2, if_neg c2]
  by_cases c3 : v = -3
  · rw [if_pos c3, if_pos c3]; rfl
  rw [if_neg c3, if_neg c3]
  by_cases c4 : v = -4
  · rw [if_pos c4, if_pos c4]; rfl
  rw [if_neg c4, if_neg c4]
  by_cases c5 : v = -5
  · rw [if_pos c5, if_pos c5]; rfl
  rw [if_neg c5, if_neg c5]
  by_cases c6 : v = -6
  · rw [if_pos c6, if_pos c6]; rfl
  rw [if_neg c6, if_neg c6]
  by_cases c7 : v = -7
  · rw [if_pos c7, if_pos c7]; rfl
  rw [if_neg c7, if_neg c7]
  by_cases c8 : v = -8
  · rw [if_pos c8, if_pos c8]; rfl
  rw [if_neg c8, if_neg c8]
  by_cases c9 : v = -9
  · rw [if_pos c9, if_pos c9]; rfl
  rw [if_neg c9, if_neg c9]
  rfl
theorem rk_lt (v : Int32) : rk v ≤ 7 := by
  unfold rk
  repeat (split; decide)
  decide
def opn (v : Int32) : Nat := if v = -3 then 1 else if v = -9 then 1 else if v = -10 then 1 else 0
/-- how many ( not - wait; how many ( -/
def op : List Int32 → Nat
  | [] => 0
  | v :: W => op W + opn v
def brk : List Int32 → Nat
  | [] => 0
  | v :: W => brk W + if v = -10 then 1 else 0
theorem brk_le : ∀ W : List Int32, brk W ≤ op W
  | [] => Nat.le_refl _
  | v :: W => by
    have := brk_le W
    unfold brk op opn
    by_cases c : v = -10
    · rw [if_pos c, c]; show _ ≤ op W + 1; omega
    · rw [if_neg c]; omega
/-- a stack in a row, the top one first -/
def stc (Y : List Int32) : List Int32 → Prop
  | [] => True
  | v :: W => g Y W.length = v ∧ stc Y W
theorem stc_set {Y : List Int32} {i : Nat} {v : Int32} : ∀ {W : List Int32}, W.length ≤ i → stc Y W → stc (Y.set i v) W
  | [], _, _ => trivial
  | u :: W, h, hs => by
    rw [List.length_cons] at h
    exact ⟨by rw [g_set_ne (by omega)]; exact hs.1, stc_set (by omega) hs.2⟩
theorem stc_push {Y : List Int32} {v : Int32} {W : List Int32} (h : W.length < Y.length) (hs : stc Y W) : stc (Y.set W.length v) (v :: W) := ⟨g_set_eq h, stc_set (Nat.le_refl _) hs⟩
/-- what waits with a rank of r or more goes into the row -/
def stl (r : Nat) : List Int32 → List Int32 → List Int32 × List Int32
  | R, [] => (R, [])
  | R, v :: W => if r ≤ rk v then stl r (R ++ [v]) W else (R, v :: W)
def tp (r : Nat) : List Int32 → Prop
  | [] => True
  | v :: _ => rk v < r
theorem stl_id {r : Nat} {R W : List Int32} (h : tp r W) : stl r R W = (R, W) := by
  cases W with
  | nil => rfl
  | cons v W => unfold stl; rw [if_neg (by have : rk v < r := h; omega)]
theorem tp_mono {r s : Nat} {W : List Int32} (h : tp r W) (hs : r ≤ s) : tp s W := by
  cases W with
  | nil => trivial
  | cons v W => have : rk v < r := h; show rk v < s; omega
theorem stl_len (r : Nat) : ∀ (W R : List Int32), (stl r R W).1.length + (stl r R W).2.length = R.length + W.length
  | [], R => rfl
  | v :: W, R => by
    unfold stl
    by_cases c : r ≤ rk v
    · rw [if_pos c, stl_len r W]; simp only [List.length_append, List.length_cons, List.length_nil]; omega
    · rw [if_neg c]
theorem stl_op (r : Nat) : ∀ (W R : List Int32), op (stl r R W).2 ≤ op W
  | [], R => Nat.le_refl _
  | v :: W, R => by
    unfold stl
    by_cases c : r ≤ rk v
    · rw [if_pos c]; have := stl_op r W (R ++ [v]); show _ ≤ op W + opn v; omega
    · rw [if_neg c]; exact Nat.le_refl _
theorem stl_brk (r : Nat) (hr : 1 ≤ r) : ∀ (W R : List Int32), brk (stl r R W).2 = brk W
  | [], R => rfl
  | v :: W, R => by
    unfold stl
    by_cases c : r ≤ rk v
    · rw [if_pos c, stl_brk r hr W]
      show _ = brk W + _
      rw [if_neg (fun e => by rw [e] at c; exact absurd c (by show ¬ r ≤ 0; omega))]
      rfl
    · rw [if_neg c]
theorem stl_stk {Y : List Int32} (r : Nat) : ∀ (W R : List Int32), stc Y W → stc Y (stl r R W).2
  | [], R, _ => trivial
  | v :: W, R, h => by
    unfold stl
    by_cases c : r ≤ rk v
    · rw [if_pos c]; exact stl_stk r W _ h.2
    · rw [if_neg c]; exact h
theorem stl_stl {r s : Nat} (h : s ≤ r) : ∀ (W R : List Int32), stl s (stl r R W).1 (stl r R W).2 = stl s R W
  | [], R => rfl
  | v :: W, R => by
    have e1 : stl r R (v :: W) = if r ≤ rk v then stl r (R ++ [v]) W else (R, v :: W) := rfl
    have e2 : stl s R (v :: W) = if s ≤ rk v then stl s (R ++ [v]) W else (R, v :: W) := rfl
    by_cases c : r ≤ rk v
    · rw [e1, e2, if_pos c, if_pos (by omega)]
      exact stl_stl h W _
    · rw [e1, if_neg c]
def rowS (p : Nat) (M0 L0 R M L : List Int32) : Prop := M.length = 12 ∧ L.length = 1920 ∧ g M p = Int32.ofNat R.length ∧ (∀ i, i < R.length → g L (160 * p + i) = g R i) ∧ (∀ j, j ≠ p → g M j = g M0 j) ∧ ∀ j, j < 160 * p ∨ 160 * p + 160 ≤ j → g L j = g L0 j
theorem g_app {R : List Int32} {v : Int32} {i : Nat} : g (R ++ [v]) i = if i = R.length then v else g R i := by
  unfold g
  rw [List.getD_eq_getElem?_getD, List.getD_eq_getElem?_getD]
  by_cases c : i < R.length
  · rw [List.getElem?_append_left c, if_neg (by omega)]
  · rw [List.getElem?_append_right (by omega)]
    by_cases c2 : i = R.length
    · rw [if_pos c2, c2, Nat.sub_self]; rfl
    · rw [if_neg c2, List.getElem?_eq_none (by rw [List.length_singleton]; omega), List.getElem?_eq_none (by omega)]
section Put
variable {A : Nat → List Int32} {I : Nat → Int32} {p : Nat} {M0 L0 R W Y : List Int32}
theorem put_eq {v : Int32} (h : rowS p M0 L0 R (A 103) (A 104)) (hI : I 5473 = Int32.ofNat p) (hp : p < 12) (hR : R.length < 160) : ∃ M L, f_X12_put A I v = some (M, L) ∧ rowS p M0 L0 (R ++ [v]) M L := by
  obtain ⟨h1, h2, h3, h4, h5, h6⟩ := h
  unfold f_X12_put
  rw [hI, am_at_g (by omega) (by omega), Option.bind_some, h3, show (160 : Int32) * Int32.ofNat p + Int32.ofNat R.length = Int32.ofNat (160 * p + R.length) from by rw [show (160 : Int32) * Int32.ofNat p = Int32.ofNat (160 * p) from i_mull (m := 160), i_add], am_up_g (by omega) (by omega), Option.bind_some, Option.bind_some, am_up_g (by omega) (by omega), Option.bind_some, show Int32.ofNat R.length + 1 = Int32.ofNat (R.length + 1) from i_addr (n := 1)]
  refine ⟨_, _, rfl, by rw [List.length_set]; exact h1, by rw [List.length_set]; exact h2, by rw [g_set_eq (by omega), List.length_append, List.length_singleton], fun i hi => ?_, fun j hj => by rw [g_set_ne hj]; exact h5 j hj, fun j hj => by rw [g_set_ne (by omega)]; exact h6 j hj⟩
  rw [List.length_append, List.length_singleton] at hi
  rw [g_app]
  by_cases c : i = R.length
  · rw [c, g_set_eq (by omega), if_pos rfl]
  · rw [g_set_ne (by omega), if_neg c]; exact h4 i (by omega)
theorem settle_eq {r : Nat} (hr : 1 ≤ r) (hr2 : r ≤ 7) (h : rowS p M0 L0 R (A 103) (A 104)) (hI : I 5473 = Int32.ofNat p) (hp : p < 12) (hs : stc (A 105) W) (hY : (A 105).length = 161) (hh : I 5470 = Int32.ofNat W.length) (ho : I 5472 = Int32.ofNat (op W)) (hl : R.length + W.length ≤ 160) : ∃ M L, f_X12_settle A I (Int32.ofNat r) = some (M, L, Int32.ofNat (stl r R W).2.length, Int32.ofNat (op (stl r R W).2)) ∧ rowS p M0 L0 (stl r R W).1 M L := by
  obtain ⟨z, e, Q⟩ := wl_inv (s1 := f_X12_settle_l1 A I (Int32.ofNat r)) (fun n y => ∃ M L R' W', y = (M, L, Int32.ofNat W'.length, Int32.ofNat (op W')) ∧ n = W'.length ∧ rowS p M0 L0 R' M L ∧ stc (A 105) W' ∧ stl r R' W' = stl r R W ∧ R'.length + W'.length ≤ 160) (fun z => ∃ M L, z = (M, L, Int32.ofNat (stl r R W).2.length, Int32.ofNat (op (stl r R W).2)) ∧ rowS p M0 L0 (stl r R W).1 M L) (fun n y => by
    rintro ⟨M, L, R', W', rfl, hn, hrow, hst, he, hlen⟩
    unfold f_X12_settle_l1
    dsimp only
    cases W' with
    | nil =>
      right
      rw [if_pos (show Int32.ofNat ([] : List Int32).length ≤ 0 from Int32.le_refl _)]
      have e2 : stl r R' [] = (R', []) := rfl
      rw [← he, e2]
      exact ⟨_, rfl, M, L, rfl, hrow⟩
    | cons v W' =>
      rw [List.length_cons] at hlen hn
      have hrv := rk_lt v
      rw [List.length_cons, if_neg (fun q => absurd ((i_ler (n := 0) (by omega) (by decide)).mp q) (by omega)), i_sub1, am_at_g (by omega) (by omega), Option.bind_some, hst.1, rank_eq, Option.bind_some]
      by_cases c : r ≤ rk v
      · left
        obtain ⟨M', L', e1, hrow'⟩ := put_eq (A := up (up A 103 M) 104 L) (I := up (up I 5470 (Int32.ofNat W'.length)) 5472 (Int32.ofNat (op (v :: W')))) (v := v) hrow hI hp (by omega)
        rw [if_neg (fun q => absurd ((i_lt (by omega) (by omega)).mp q) (by omega)), Option.bind_some, e1, Option.bind_some, Option.bind_some, Option.bind_some]
        have he' : stl r (R' ++ [v]) W' = stl r R W := by
          rw [← he]
          show _ = if r ≤ rk v then stl r (R' ++ [v]) W' else (R', v :: W')
          rw [if_pos c]
        have hl' : (R' ++ [v]).length + W'.length ≤ 160 := by rw [List.length_append, List.length_singleton]; omega
        have h10 : ¬ v = -10 := fun e => by rw [e] at c; exact absurd c (by show ¬ r ≤ 0; omega)
        by_cases c3 : v = -3
        · rw [if_pos c3]
          refine ⟨_, rfl, W'.length, by omega, M', L', R' ++ [v], W', ?_, rfl, hrow', hst.2, he', hl'⟩
          rw [show op (v :: W') = op W' + 1 from by rw [c3]; rfl, i_sub1]
        · rw [if_neg c3]
          by_cases c9 : v = -9
          · rw [if_pos c9]
            refine ⟨_, rfl, W'.length, by omega, M', L', R' ++ [v], W', ?_, rfl, hrow', hst.2, he', hl'⟩
            rw [show op (v :: W') = op W' + 1 from by rw [c9]; rfl, i_sub1]
          · rw [if_neg c9]
            refine ⟨_, rfl, W'.length, by omega, M', L', R' ++ [v], W', ?_, rfl, hrow', hst.2, he', hl'⟩
            rw [show op (v :: W') = op W' from by show op W' + opn v = _; unfold opn; rw [if_neg c3, if_neg c9, if_neg h10]; rfl]
      · right
        rw [if_pos ((i_lt (by omega) (by omega)).mpr (by omega))]
        have e2 : stl r R' (v :: W') = (R', v :: W') := by unfold stl; rw [if_neg c]
        rw [← he, e2]
        exact ⟨_, rfl, M, L, by rw [List.length_cons], hrow⟩) W.length 100000 (A 103, A 104, I 5470, I 5472) ⟨_, _, R, W, by rw [hh, ho], rfl, h, hs, rfl, hl⟩ (by omega)
  obtain ⟨M, L, rfl, hrow⟩ := Q
  refine ⟨M, L, ?_, hrow⟩
  unfold f_X12_settle
  rw [e, Option.bind_some]
theorem hold_eq {s : Int32} (hY : A 105 = Y) (hl : Y.length = 161) (hW : W.length < 161) (hh : I 5470 = Int32.ofNat W.length) (ho : I 5472 = Int32.ofNat (op W)) : f_X12_hold A I s = some (Y.set W.length s, Int32.ofNat (s :: W).length, Int32.ofNat (op (s :: W))) := by
  unfold f_X12_hold
  rw [hY, hh, ho, am_up_g (by omega) (by omega), Option.bind_some, show Int32.ofNat W.length + 1 = Int32.ofNat (s :: W).length from by rw [List.length_cons]; exact i_addr (n := 1)]
  by_cases c3 : s = -3
  · rw [if_pos c3, show op (s :: W) = op W + 1 from by rw [c3]; rfl, show Int32.ofNat (op W) + 1 = Int32.ofNat (op W + 1) from i_addr (n := 1)]
  rw [if_neg c3]
  by_cases c9 : s = -9
  · rw [if_pos c9, show op (s :: W) = op W + 1 from by rw [c9]; rfl, show Int32.ofNat (op W) + 1 = Int32.ofNat (op W + 1) from i_addr (n := 1)]
  rw [if_neg c9]
  by_cases c10 : s = -10
  · rw [if_pos c10, show op (s :: W) = op W + 1 from by rw [c10]; rfl, show Int32.ofNat (op W) + 1 = Int32.ofNat (op W + 1) from i_addr (n := 1)]
  rw [if_neg c10, show op (s :: W) = op W from by show op W + opn s = _; unfold opn; rw [if_neg c3, if_neg c9, if_neg c10]; rfl]
end Put

