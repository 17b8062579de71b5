/-! ===== the tokens of THE TAPE, as both read them ===== -/
def scn (f : Int32 → Bool) (B : List Int32) : Nat → Nat → Nat
  | 0, p => p
  | n + 1, p => if f (g B p) = true then scn f B n (p + 1) else p
def sc (f : Int32 → Bool) (B : List Int32) (Z p : Nat) : Nat := scn f B (Z - p) p
section Lex
variable {f : Int32 → Bool} {B : List Int32} {Z p : Nat}
theorem scn_le : ∀ (n p : Nat), p ≤ scn f B n p ∧ scn f B n p ≤ p + n
  | 0, p => ⟨Nat.le_refl _, Nat.le_refl _⟩
  | n + 1, p => by
    unfold scn
    by_cases h : f (g B p) = true
    · rw [if_pos h]; have := scn_le n (p + 1); omega
    · rw [if_neg h]; omega
theorem sc_le (h : p ≤ Z) : p ≤ sc f B Z p ∧ sc f B Z p ≤ Z := by
  have := scn_le (f := f) (B := B) (Z - p) p
  unfold sc; omega
theorem sc_step (h : p < Z) (hf : f (g B p) = true) : sc f B Z p = sc f B Z (p + 1) := by
  unfold sc
  obtain ⟨n, hn⟩ : ∃ n, Z - p = n + 1 := ⟨Z - p - 1, by omega⟩
  rw [hn, show Z - (p + 1) = n from by omega]
  show (if f (g B p) = true then scn f B n (p + 1) else p) = _
  rw [if_pos hf]
theorem sc_stop (hf : f (g B p) = false) : sc f B Z p = p := by
  unfold sc
  cases Z - p with
  | zero => rfl
  | succ n => show (if f (g B p) = true then scn f B n (p + 1) else p) = _; rw [hf]; rfl
theorem sc_end (h : Z ≤ p) : sc f B Z p = p := by
  unfold sc
  rw [show Z - p = 0 from by omega]
  rfl
theorem sc_all : ∀ (n p : Nat) (i : Nat), p ≤ i → i < scn f B n p → f (g B i) = true
  | 0, p, i, h1, h2 => by unfold scn at h2; omega
  | n + 1, p, i, h1, h2 => by
    unfold scn at h2
    by_cases h : f (g B p) = true
    · rw [if_pos h] at h2
      by_cases e : i = p
      · rw [e]; exact h
      · exact sc_all n (p + 1) i (by omega) h2
    · rw [if_neg h] at h2; omega
theorem wl_sc {st : Int32 → Option (Int32 ⊕ Int32)} (hZ : Z ≤ 160) (hs : ∀ p, p ≤ Z → st (Int32.ofNat p) = if p < Z ∧ f (g B p) = true then some (.inl (Int32.ofNat (p + 1))) else some (.inr (Int32.ofNat p))) (hp : p ≤ Z) : wl st 100000 (Int32.ofNat p) = some (Int32.ofNat (sc f B Z p)) := by
  obtain ⟨r, e, Q⟩ := wl_inv (s1 := st) (fun n y => ∃ i, y = Int32.ofNat i ∧ n + i = Z ∧ sc f B Z i = sc f B Z p) (fun r => r = Int32.ofNat (sc f B Z p)) (fun n y => by
    rintro ⟨i, rfl, hn, he⟩
    rw [hs i (by omega)]
    by_cases c : i < Z ∧ f (g B i) = true
    · left
      rw [if_pos c]
      exact ⟨_, rfl, n - 1, by omega, i + 1, rfl, by omega, by rw [← he, sc_step c.1 c.2]⟩
    · right
      rw [if_neg c]
      refine ⟨_, rfl, ?_⟩
      rw [← he]
      by_cases c1 : i < Z
      · rw [sc_stop (by cases h : f (g B i) with
          | true => exact absurd ⟨c1, h⟩ c
          | false => rfl)]
      · rw [sc_end (by omega)]) (Z - p) 100000 (Int32.ofNat p) ⟨p, rfl, by omega, rfl⟩ (by omega)
  rw [e, Q]
end Lex
def fB (v : Int32) : Bool := decide (v = 32) || decide (v = 10)
def fL (v : Int32) : Bool := decide (97 ≤ v) && decide (v ≤ 122)
def fD (v : Int32) : Bool := decide (48 ≤ v) && decide (v ≤ 57)
def fS (v : Int32) : Bool := decide (v = 40) || (decide (v = 41) || (decide (v = 59) || (decide (v = 43) || (decide (v = 45) || (decide (v = 42) || (decide (v = 60) || decide (v = 61)))))))
theorem rng_ite {a b v : Int32} : (if v < a then some 0 else (if b < v then some 0 else some 1) : Option Int32) = some (if (decide (a ≤ v) && decide (v ≤ b)) = true then 1 else 0) := by
  by_cases h : v < a
  · rw [if_pos h, decide_eq_false (Int32.not_le.mpr h)]; rfl
  · rw [if_neg h, decide_eq_true (Int32.not_lt.mp h)]
    by_cases h2 : b < v
    · rw [if_pos h2, decide_eq_false (Int32.not_le.mpr h2)]; rfl
    · rw [if_neg h2, decide_eq_true (Int32.not_lt.mp h2)]; rfl
theorem let8 (v : Int32) : f_X8_isLetter v = some (if fL v = true then 1 else 0) := rng_ite
theorem dig8 (v : Int32) : f_X8_isDigit v = some (if fD v = true then 1 else 0) := rng_ite
theorem let12 (A : Nat → List Int32) (I : Nat → Int32) (v : Int32) : f_X12_isLetter A I v = some (if fL v = true then 1 else 0) := rng_ite
theorem dig12 (A : Nat → List Int32) (I : Nat → Int32) (v : Int32) : f_X12_isDigit A I v = some (if fD v = true then 1 else 0) := rng_ite
theorem sig8 (v : Int32) : f_X8_isSign v = some (if fS v = true then 1 else 0) := by
  unfold f_X8_isSign fS
  by_cases h1 : v = 40
  · rw [if_pos h1, decide_eq_true h1]; rfl
  rw [if_neg h1, decide_eq_false h1]
  by_cases h2 : v = 41
  · rw [if_pos h2, decide_eq_true h2]; rfl
  rw [if_neg h2, decide_eq_false h2]
  by_cases h3 : v = 59
  · rw [if_pos h3, decide_eq_true h3]; rfl
  rw [if_neg h3, decide_eq_false h3]
  by_cases h4 : v = 43
  · rw [if_pos h4, decide_eq_true h4]; rfl
  rw [if_neg h4, decide_eq_false h4]
  by_cases h5 : v = 45
  · rw [if_pos h5, decide_eq_true h5]; rfl
  rw [if_neg h5, decide_eq_false h5]
  by_cases h6 : v = 42
  · rw [if_pos h6, decide_eq_true h6]; rfl
  rw [if_neg h6, decide_eq_false h6]
  by_cases h7 : v = 60
  · rw [if_pos h7, decide_eq_true h7]; rfl
  rw [if_neg h7, decide_eq_false h7]
  by_cases h8 : v = 61
  · rw [if_pos h8, decide_eq_true h8]; rfl
  rw [if_neg h8, decide_eq_false h8]
  rfl
theorem ifz {α : Type} (c : Bool) (a b : α) : (if (if c = true then (1 : Int32) else 0) = 0 then a else b) = if c = true then b else a := by cases c <;> rfl
/-- a loop that goes on over blanks, letters -/
def blk (B : List Int32) (z : Int32) : Int32 → Option (Int32 ⊕ Int32) := fun s1 =>
    (if z ≤ s1 then
      some (.inr s1)
    else
      ((am_at B s1).bind fun v2 =>
      (if v2 = 32 then
        some (.inl (s1 + 1))
      else
        ((am_at B s1).bind fun v3 =>
        (if v3 = 10 then
          some (.inl (s1 + 1))
        else
          some (.inr s1))))))
def ltk (B : List Int32) (z : Int32) : Int32 → Option (Int32 ⊕ Int32) := fun s1 =>
    (if z ≤ s1 then
      some (.inr s1)
    else
      ((am_at B s1).bind fun v2 =>
      ((f_X8_isLetter v2).bind fun r3 =>
      (if r3 = 0 then
        some (.inr s1)
      else
        some (.inl (s1 + 1))))))
section Lex2
variable {A : Nat → List Int32} {I : Nat → Int32} {B : List Int32} {Z p b e : Nat}
theorem blk_eq (hB : B.length = 160) (hZ : Z ≤ 160) (hp : p ≤ Z) : wl (blk B (Int32.ofNat Z)) 100000 (Int32.ofNat p) = some (Int32.ofNat (sc fB B Z p)) := by
  refine wl_sc hZ (fun p hp => ?_) hp
  unfold blk
  by_cases h : Z ≤ p
  · rw [if_pos ((i_le (by omega) (by omega)).mpr h), if_neg (fun q => absurd q.1 (by omega))]
  · rw [if_neg (fun q => h ((i_le (by omega) (by omega)).mp q)), am_at_g (by omega) (by omega), Option.bind_some, Option.bind_some, i_addr]
    by_cases c : g B p = 32
    · rw [if_pos c, if_pos ⟨by omega, by unfold fB; rw [decide_eq_true c]; rfl⟩]
    · rw [if_neg c]
      by_cases c2 : g B p = 10
      · rw [if_pos c2, if_pos ⟨by omega, by unfold fB; rw [decide_eq_true c2, Bool.or_true]⟩]
      · rw [if_neg c2, if_neg (fun q => by have q := q.2; unfold fB at q; rw [decide_eq_false c, decide_eq_false c2] at q; cases q)]
theorem ltk_eq (hB : B.length = 160) (hZ : Z ≤ 160) (hp : p ≤ Z) : wl (ltk B (Int32.ofNat Z)) 100000 (Int32.ofNat p) = some (Int32.ofNat (sc fL B Z p)) := by
  refine wl_sc hZ (fun p hp => ?_) hp
  unfold ltk
  by_cases h : Z ≤ p
  · rw [if_pos ((i_le (by omega) (by omega)).mpr h), if_neg (fun q => absurd q.1 (by omega))]
  · rw [if_neg (fun q => h ((i_le (by omega) (by omega)).mp q)), am_at_g (by omega) (by omega), Option.bind_some, i_addr, let8, Option.bind_some, ifz]
    cases c : fL (g B p) with
    | true => rw [if_pos rfl, if_pos ⟨by omega, rfl⟩]
    | false => rw [if_neg (by decide), if_neg (fun q => by cases q.2)]
/-- the number that i digits make -/
def nv (B : List Int32) (b : Nat) : Nat → Int32
  | 0 => 0
  | i + 1 => nv B b i * 10 + (g B (b + i) - 48)
theorem nv_lt (B : List Int32) (b : Nat) : ∀ i, i ≤ 4 → (∀ j, j < i → fD (g B (b + j)) = true) → ∃ n, n < 10 ^ i ∧ nv B b i = Int32.ofNat n
  | 0, _, _ => ⟨0, by decide, rfl⟩
  | i + 1, hi, h => by
    obtain ⟨n, hn, e⟩ := nv_lt B b i (by omega) (fun j hj => h j (by omega))
    have hd := h i (by omega)
    unfold fD at hd
    rw [Bool.and_eq_true, decide_eq_true_eq, decide_eq_true_eq] at hd
    obtain ⟨d, hd1, hd2⟩ := i_of (v := g B (b + i)) (Int32.le_trans (by decide) hd.1)
    rw [hd2] at hd
    have h48 : 48 ≤ d := (i_lel (m := 48) (by decide) hd1).mp hd.1
    have h57 : d ≤ 57 := (i_ler (n := 57) hd1 (by decide)).mp hd.2
    have hp4 : 10 ^ i ≤ 10000 := by
      have : ∀ i : Fin 5, 10 ^ i.val ≤ 10000 := by decide
      exact this ⟨i, by omega⟩
    refine ⟨n * 10 + (d - 48), by rw [Nat.pow_succ]; omega, ?_⟩
    show nv B b i * 10 + (g B (b + i) - 48) = _
    rw [e, hd2, show Int32.ofNat n * 10 = Int32.ofNat (n * 10) from i_mulr (n := 10), show Int32.ofNat d - 48 = Int32.ofNat (d - 48) from i_subr (n := 48) h48, i_add]
theorem num8 (hA : A 53 = B) (hI : I 3329 = Int32.ofNat Z) (hB : B.length = 160) (hZ : Z ≤ 160) (hb : b ≤ Z) (a : Int32) : wl (f_X8_findNumber_l1 A I a) 100000 (0, Int32.ofNat b) = some (nv B b (sc fD B Z b - b), Int32.ofNat (sc fD B Z b)) := by
  obtain ⟨r, e, Q⟩ := wl_inv (s1 := f_X8_findNumber_l1 A I a) (fun n y => ∃ i, y = (nv B b (i - b), Int32.ofNat i) ∧ b ≤ i ∧ n + i = Z ∧ sc fD B Z i = sc fD B Z b) (fun r => r = (nv B b (sc fD B Z b - b), Int32.ofNat (sc fD B Z b))) (fun n y => by
    rintro ⟨i, rfl, hb, hn, he⟩
    unfold f_X8_findNumber_l1
    dsimp only
    rw [hI, hA]
    by_cases h : Z ≤ i
    · right
      rw [if_pos ((i_le (by omega) (by omega)).mpr h)]
      exact ⟨_, rfl, by rw [← he, sc_end h]⟩
    · rw [if_neg (fun q => h ((i_le (by omega) (by omega)).mp q)), am_at_g (by omega) (by omega), Option.bind_some, dig8, Option.bind_some, ifz, Option.bind_some]
      cases c : fD (g B i) with
      | true =>
        left
        rw [if_pos rfl]
        refine ⟨_, rfl, n - 1, by omega, i + 1, ?_, by omega, by omega, by rw [← he, sc_step (by omega) c]⟩
        rw [show i + 1 - b = (i - b) + 1 from by omega, show Int32.ofNat i + 1 = Int32.ofNat (i + 1) from i_addr (n := 1)]
        show _ = (nv B b (i - b) * 10 + (g B (b + (i - b)) - 48), _)
        rw [show b + (i - b) = i from by omega]
      | false =>
        right
        rw [if_neg (by decide)]
        exact ⟨_, rfl, by rw [← he, sc_stop c]⟩) (Z - b) 100000 (0, Int32.ofNat b) ⟨b, by rw [Nat.sub_self]; rfl, Nat.le_refl _, by omega, rfl⟩ (by omega)
  rw [e, Q]
theorem num12 (hA : A 101 = B) (hI : I 5459 = Int32.ofNat Z) (hI2 : I 5467 = Int32.ofNat b) (hB : B.length = 160) (hZ : Z ≤ 160) (hb : b ≤ Z) : wl (f_X12_next_l2 A I) 100000 (Int32.ofNat b, 0) = some (Int32.ofNat (sc fD B Z b), nv B b (min (sc fD B Z b - b) 4)) := by
  obtain ⟨r, e, Q⟩ := wl_inv (s1 := f_X12_next_l2 A I) (fun n y => ∃ i, y = (Int32.ofNat i, nv B b (min (i - b) 4)) ∧ b ≤ i ∧ n + i = Z ∧ sc fD B Z i = sc fD B Z b) (fun r => r = (Int32.ofNat (sc fD B Z b), nv B b (min (sc fD B Z b - b) 4))) (fun n y => by
    rintro ⟨i, rfl, hb, hn, he⟩
    unfold f_X12_next_l2
    dsimp only
    rw [hI, hI2, hA]
    by_cases h : Z ≤ i
    · right
      rw [if_pos ((i_le (by omega) (by omega)).mpr h)]
      exact ⟨_, rfl, by rw [← he, sc_end h]⟩
    · rw [if_neg (fun q => h ((i_le (by omega) (by omega)).mp q)), am_at_g (by omega) (by omega), Option.bind_some, dig12, Option.bind_some, ifz, Option.bind_some, i_sub hb]
      cases c : fD (g B i) with
      | true =>
        left
        rw [if_pos rfl]
        refine ⟨_, ?_, n - 1, by omega, i + 1, rfl, by omega, by omega, by rw [← he, sc_step (by omega) c]⟩
        rw [show Int32.ofNat i + 1 = Int32.ofNat (i + 1) from i_addr (n := 1)]
        by_cases c4 : 4 ≤ i - b
        · rw [if_pos ((i_lel (m := 4) (by decide) (by omega)).mpr c4), Option.bind_some, show min (i - b) 4 = 4 from by omega, show min (i + 1 - b) 4 = 4 from by omega]
        · rw [if_neg (fun q => c4 ((i_lel (m := 4) (by decide) (by omega)).mp q)), Option.bind_some, show min (i - b) 4 = i - b from by omega, show min (i + 1 - b) 4 = (i - b) + 1 from by omega]
          show _ = some (Sum.inl (_, nv B b (i - b) * 10 + (g B (b + (i - b)) - 48)))
          rw [show b + (i - b) = i from by omega, Int32.mul_comm 10, Int32.sub_eq_add_neg, Int32.sub_eq_add_neg, Int32.add_assoc]
      | false =>
        right
        rw [if_neg (by decide)]
        exact ⟨_, rfl, by rw [← he, sc_stop c]⟩) (Z - b) 100000 (Int32.ofNat b, 0) ⟨b, by rw [Nat.sub_self]; rfl, Nat.le_refl _, by omega, rfl⟩ (by omega)
  rw [e, Q]
/-- the WORD from b to e is w -/
def wd (B : List Int32) (b e : Nat) (w : List Int32) : Bool := decide (e - b = w.length ∧ ∀ i, i < w.length → g B (b + i) = g w i)
def spg (B : List Int32) (ee a1 : Int32) (w : List Int32) (len : Int32) : Option Int32 :=
  (if (ee - a1) = len then
    ((wl (fun s1 =>
    (if len ≤ s1 then
      some (.inr (.inl ()))
    else
      ((am_at B (a1 + s1)).bind fun v2 =>
      ((am_at w s1).bind fun v3 =>
      (if v2 = v3 then
        some (.inl (s1 + 1))
      else
        some (.inr (.inr 0)))))) : Int32 → Option (Int32 ⊕ (Unit ⊕ Int32))) 100000 0).bind (fun q => match q with
    | .inl _ =>
    some 1
    | .inr v => some v))
  else
    some 0)
theorem spg_eq {w : List Int32} (hw : w.length < 100) (hB : B.length = 160) (he : e ≤ 160) (hb : b ≤ e) : spg B (Int32.ofNat e) (Int32.ofNat b) w (Int32.ofNat w.length) = some (if wd B b e w = true then 1 else 0) := by
  unfold spg
  by_cases h : e - b = w.length
  · rw [i_sub hb, if_pos (by rw [h])]
    obtain ⟨r, e1, Q⟩ := wl_inv (s1 := (fun s1 =>
    (if Int32.ofNat w.length ≤ s1 then
      some (.inr (.inl ()))
    else
      ((am_at B (Int32.ofNat b + s1)).bind fun v2 =>
      ((am_at w s1).bind fun v3 =>
      (if v2 = v3 then
        some (.inl (s1 + 1))
      else
        some (.inr (.inr 0)))))) : Int32 → Option (Int32 ⊕ (Unit ⊕ Int32)))) (fun n y => ∃ i, y = Int32.ofNat i ∧ n + i = w.length ∧ ∀ k, k < i → g B (b + k) = g w k) (fun r => r = if wd B b e w = true then .inl () else .inr 0) (fun n y => by
      rintro ⟨i, rfl, hn, hk⟩
      by_cases c : w.length ≤ i
      · right
        rw [if_pos ((i_le (by omega) (by omega)).mpr c)]
        refine ⟨_, rfl, ?_⟩
        rw [if_pos]
        unfold wd
        exact decide_eq_true ⟨h, fun k q => hk k (by omega)⟩
      · rw [if_neg (fun q => c ((i_le (by omega) (by omega)).mp q)), i_add, am_at_g (by omega) (by omega), Option.bind_some, am_at_g (by omega) (by omega), Option.bind_some]
        by_cases c2 : g B (b + i) = g w i
        · left
          rw [if_pos c2, i_addr]
          refine ⟨_, rfl, n - 1, by omega, i + 1, rfl, by omega, fun k q => ?_⟩
          by_cases e2 : k = i
          · rw [e2]; exact c2
          · exact hk k (by omega)
        · right
          rw [if_neg c2]
          refine ⟨_, rfl, ?_⟩
          rw [if_neg]
          intro q
          unfold wd at q
          exact c2 ((of_decide_eq_true q).2 i (by omega))) w.length 100000 0 ⟨0, rfl, by omega, fun k q => absurd q (Nat.not_lt_zero k)⟩ (by omega)
    rw [e1, Q, Option.bind_some]
    cases wd B b e w <;> rfl
  · rw [i_sub hb, if_neg (fun q => h ((i_eq (by omega) (by omega)).mp q))]
    rw [if_neg]
    intro q
    unfold wd at q
    exact h (of_decide_eq_true q).1
end Lex2
