/-! ===== all orders, one by one ===== -/
theorem next_0 {A : Nat → List Int32} {I : Nat → Int32} {n : Nat} {p : List Nat} (h5 : I 5494 = Int32.ofNat n) (hn : n ≤ 7) (hp : OA (A 121) p) (hpn : p.length = n) (hpl : ∀ x, x ∈ p → x < n) (hds : ∀ i j, i < j → j < p.length → p.getD j 0 < p.getD i 0) : f_X12_nextOrder A I = some (0, A 121) := by
  have hl := hp.1
  have hx : ∀ j, j < p.length → p.getD j 0 < n := fun j hj => by
    apply hpl
    rw [List.getD_eq_getElem?_getD, List.getElem?_eq_getElem hj]
    exact List.getElem_mem hj
  have h0 : (∃ s, Int32.ofNat n - 2 = Int32.ofNat s ∧ s + 2 ≤ n) ∨ Int32.ofNat n - 2 < 0 := by
    by_cases e : n = 0
    · subst e; exact Or.inr (by decide)
    · by_cases e1 : n = 1
      · subst e1; exact Or.inr (by decide)
      · exact Or.inl ⟨n - 2, i_subr (n := 2) (by omega), by omega⟩
  obtain ⟨r1, e1, Q1⟩ := wl_inv (s1 := f_X12_nextOrder_l1 A I) (fun m y => (∃ s, y = Int32.ofNat s ∧ s + 1 ≤ m ∧ s + 2 ≤ n) ∨ y < 0) (fun r => r < 0) (fun m y => by
    rintro (⟨s, rfl, hsm, hs⟩ | hy)
    · left
      unfold f_X12_nextOrder_l1
      have g1 := hp.2 s (by omega)
      have g2 := hp.2 (s + 1) (by omega)
      have d1 := hx s (by omega)
      have d2 := hx (s + 1) (by omega)
      have hlt := hds s (s + 1) (by omega) (by omega)
      rw [if_neg (i_nn (by omega)), am_at_g (by omega) (by omega), Option.bind_some, show Int32.ofNat s + 1 = Int32.ofNat (s + 1) from i_addr (n := 1), am_at_g (by omega) (by omega), Option.bind_some, g1, g2, if_neg (nge (by omega) hlt)]
      refine ⟨_, rfl, m - 1, by omega, ?_⟩
      by_cases e : s = 0
      · subst e; exact Or.inr (by decide)
      · exact Or.inl ⟨s - 1, i_dec (by omega), by omega, by omega⟩
    · right
      unfold f_X12_nextOrder_l1
      rw [if_pos hy]
      exact ⟨_, rfl, hy⟩) 10 100000 (I 5494 - 2) (by
    rw [h5]
    rcases h0 with ⟨s, h1, h2⟩ | h1
    · exact Or.inl ⟨s, h1, by omega, h2⟩
    · exact Or.inr h1) (by omega)
  unfold f_X12_nextOrder
  rw [e1, Option.bind_some, if_neg (Int32.not_le.mpr Q1)]
def mpb (f : Nat → Nat) (b : bst) : bst := (b.1, b.2.map f)
theorem udw_map (f : Nat → Nat) (W : List Nat → Nat) (b : bst) (p : List Nat) : udw W (mpb f b) (p.map f) = mpb f (udw (fun p => W (p.map f)) b p) := by
  unfold udw mpb
  dsimp only
  by_cases c : b.1 < (W (p.map f) : Int)
  · rw [if_pos c, if_pos c]
  · rw [if_neg c, if_neg c]
theorem fG_map (f : Nat → Nat) {F F' : bst → List Nat → List Nat → bst} (hF : ∀ b pre l, F (mpb f b) (pre.map f) (l.map f) = mpb f (F' b pre l)) : ∀ (rest done pre : List Nat) (b : bst), fG F (pre.map f) (mpb f b) (done.map f) (rest.map f) = mpb f (fG F' pre b done rest)
  | [], _, _, _ => rfl
  | x :: rest, done, pre, b => by
    show fG F (pre.map f) (F (mpb f b) (pre.map f ++ [f x]) (done.map f ++ rest.map f)) (done.map f ++ [f x]) (rest.map f) = _
    rw [← List.map_append, show pre.map f ++ [f x] = (pre ++ [x]).map f by rw [List.map_append]; rfl, show done.map f ++ [f x] = (done ++ [x]).map f by rw [List.map_append]; rfl, hF]
    exact fG_map f hF rest (done ++ [x]) pre _
theorem fF_map (f : Nat → Nat) (W : List Nat → Nat) : ∀ (k : Nat) (b : bst) (pre l : List Nat), fF W k (mpb f b) (pre.map f) (l.map f) = mpb f (fF (fun p => W (p.map f)) k b pre l)
  | 0, b, pre, l => udw_map f W b pre
  | k + 1, b, pre, l => fG_map f (fun b pre l => fF_map f W k b pre l) l [] pre b
theorem wn_len {D : Nat → Nat → Nat} {bd : Nat → Nat} : ∀ (q : List Nat) (pos day : Nat), wn D bd pos day q ≤ q.length
  | [], _, _ => Nat.le_refl _
  | x :: r, pos, day => by
    unfold wn
    have ih := wn_len (D := D) (bd := bd) r x (day + D pos x + 3)
    rw [List.length_cons]
    by_cases c : D pos x < 999
    · rw [if_pos c]
      have : (if bd x < day + D pos x then 0 else 1) ≤ 1 := by split <;> omega
      omega
    · rw [if_neg c]; omega
theorem getD_map {f : Nat → Nat} {p : List Nat} {k : Nat} (h : k < p.length) : (p.map f).getD k 0 = f (p.getD k 0) := by
  rw [List.getD_eq_getElem?_getD, List.getD_eq_getElem?_getD, List.getElem?_map, List.getElem?_eq_getElem h]
  rfl
def RR {σ ρ : Type} (step : σ → Option (σ ⊕ ρ)) (k : Nat) (s t : σ) : Prop := ∀ fuel, wl step (fuel + k) s = wl step fuel t
theorem RR.one {σ ρ : Type} {step : σ → Option (σ ⊕ ρ)} {s t : σ} (h : step s = some (.inl t)) : RR step 1 s t := fun fuel => by
  show wl step (fuel + 1) s = _
  conv => lhs; unfold wl
  rw [h]
theorem RR.trans {σ ρ : Type} {step : σ → Option (σ ⊕ ρ)} {s t u : σ} {k j : Nat} (h : RR step k s t) (h2 : RR step j t u) : RR step (k + j) s u := fun fuel => by
  rw [show fuel + (k + j) = (fuel + j) + k by omega, h, h2]
def fac : Nat → Nat
  | 0 => 1
  | k + 1 => (k + 1) * fac k
/-- what the loop reads -/
def mw (D : Nat → Nat → Nat) (bd f : Nat → Nat) (n : Nat) (A : Nat → List Int32) (I : Nat → Int32) : Prop := I 5494 = Int32.ofNat n ∧ n ≤ 7 ∧ (∀ i, i < n → f i < 8 ∧ g (A 123) i = Int32.ofNat (f i)) ∧ (A 123).length = 7 ∧ (A 87).length = 64 ∧ (∀ a b, a < 8 → b < 8 → D a b < 1000 ∧ g (A 87) (8 * a + b) = Int32.ofNat (D a b)) ∧ (A 120).length = 8 ∧ ∀ s, s < 8 → bd s < 1000 ∧ g (A 120) s = Int32.ofNat (bd s)
section Blk
variable {D : Nat → Nat → Nat} {bd f : Nat → Nat} {n pos : Nat} {A : Nat → List Int32} {I : Nat → Int32}
theorem copy3_1 {B : Nat → List Int32} (h : mw D bd f n B I) {p : List Nat} (a1 a3 r20 : Int32) (hp : OA (B 121) p) (hpn : p.length = n) (hpl : ∀ x, x ∈ p → x < n) {r : List Int32} (hr : r.length = 7) : ∃ r', wl (f_X12_journey_l3 B I a1 a3 r20) 100000 (0, r) = some r' ∧ r'.length = 7 ∧ ∀ k, k < n → g r' k = Int32.ofNat (f (p.getD k 0)) := by
  obtain ⟨h5, hn, hf, h123, -⟩ := h
  obtain ⟨r1, e, Q⟩ := wl_inv (s1 := f_X12_journey_l3 B I a1 a3 r20) (fun m y => ∃ k M, y = (Int32.ofNat k, M) ∧ m + k = n ∧ M.length = 7 ∧ ∀ j, j < k → g M j = Int32.ofNat (f (p.getD j 0))) (fun M => M.length = 7 ∧ ∀ k, k < n → g M k = Int32.ofNat (f (p.getD k 0))) (fun m y => by
    rintro ⟨k, M, rfl, hm, hM, hk⟩
    unfold f_X12_journey_l3
    dsimp only
    rw [h5]
    by_cases h : n ≤ k
    · right
      rw [if_pos ((i_le (by omega) (by omega)).mpr h)]
      exact ⟨M, rfl, hM, fun j hj => hk j (by omega)⟩
    · left
      have hkp : k < p.length := by omega
      have hx : p.getD k 0 < n := by
        apply hpl
        rw [List.getD_eq_getElem?_getD, List.getElem?_eq_getElem hkp]
        exact List.getElem_mem hkp
      have hl := hp.1
      rw [if_neg (nge (by omega) (by omega)), am_at_g (xs := B 121) (by omega) (by omega), Option.bind_some, hp.2 k hkp, am_at_g (xs := B 123) (by omega) (by omega), Option.bind_some, (hf _ hx).2, am_up_g (by omega) (by omega), Option.bind_some, i_addr]
      refine ⟨_, rfl, m - 1, by omega, k + 1, _, rfl, by omega, by rw [List.length_set]; exact hM, fun j hj => ?_⟩
      rw [g_set (by omega)]
      by_cases e : j = k
      · rw [if_pos e, e]
      · rw [if_neg e]; exact hk j (by omega)) n 100000 (0, r) ⟨0, r, rfl, by omega, hr, fun j hj => absurd hj (Nat.not_lt_zero j)⟩ (by omega)
  exact ⟨r1, e, Q⟩
/-- the best so far as the model keeps it: of indices -/
abbrev cM (n : Nat) (f : Nat → Nat) (b : bst) (v : Int32) (r : List Int32) : Prop := cR n (mpb f b) v r
theorem visit_1 (h : mw D bd f n A I) (hpos : pos < 8) (a3 : Int32) {p : List Nat} {q r : List Int32} {v : Int32} {b : bst} (hp : OA q p) (hpn : p.length = n) (hpl : ∀ x, x ∈ p → x < n) (hb : cM n f b v r) : ∃ v' r', cM n f (udw (fun p => wn D bd pos 0 (p.map f)) b p) v' r' ∧ f_X12_journey_l2 A I (Int32.ofNat pos) a3 (v, 1, q, r) = ((f_X12_nextOrder (up (up A 121 q) 122 r') I).bind fun r29 => some (.inl (v', r29.1, r29.2, r'))) := by
  have h' : mw D bd f n (up (up A 121 q) 122 r) I := h
  obtain ⟨h5, hn, hf, h123, h87, hD, h120, hbd⟩ := id h'
  have hw := won_1 (A := up (up A 121 q) 122 r) (I := I) (D := D) (bd := bd) (f := f) (p := p) (pos := pos) (n := n) h5 hn hp hpn hpl hf h123 h87 hD h120 hbd hpos
  have hwl := wn_len (D := D) (bd := bd) (p.map f) pos 0
  rw [List.length_map] at hwl
  unfold udw
  dsimp only
  unfold f_X12_journey_l2
  dsimp only
  rw [if_neg (show ¬ (1 : Int32) = 0 by decide), hw, Option.bind_some]
  clear hw
  have hlt := cR_lt hb (v := (wn D bd pos 0 (p.map f))) (by omega)
  have hlt : v < Int32.ofNat (wn D bd pos 0 (p.map f)) ↔ b.1 < (((wn D bd pos 0 (p.map f)) : Nat) : Int) := hlt
  by_cases c : Int32.ofNat (wn D bd pos 0 (p.map f)) ≤ v
  · rw [if_pos c, Option.bind_some, if_neg (fun z => Int32.not_lt.mpr c (hlt.mpr z))]
    exact ⟨v, r, hb, rfl⟩
  · obtain ⟨r', e, l, hk⟩ := copy3_1 h' (Int32.ofNat pos) a3 (Int32.ofNat (wn D bd pos 0 (p.map f))) hp hpn hpl hb.1
    rw [if_neg c, e, Option.bind_some, Option.bind_some, if_pos (hlt.mp (Int32.not_le.mp c))]
    refine ⟨Int32.ofNat (wn D bd pos 0 (p.map f)), r', ⟨l, Or.inr ⟨(wn D bd pos 0 (p.map f)), rfl, by omega, rfl, by show (p.map f).length = n; rw [List.length_map]; exact hpn, fun k hk' => ?_⟩⟩, rfl⟩
    rw [hk k hk']
    show _ = Int32.ofNat ((p.map f).getD k 0)
    rw [getD_map (by omega)]
theorem desc_getD {l : List Nat} (h : l.Pairwise (· > ·)) : ∀ i j, i < j → j < l.length → l.getD j 0 < l.getD i 0 := fun i j hij hj => by
  rw [List.getD_eq_getElem?_getD, List.getD_eq_getElem?_getD, List.getElem?_eq_getElem hj, List.getElem?_eq_getElem (show i < l.length by omega)]
  exact List.pairwise_iff_getElem.mp h i j (by omega) hj hij
theorem block_1 (h : mw D bd f n A I) (hpos : pos < 8) (a3 : Int32) : ∀ (k : Nat) (b : bst) (v : Int32) (q r : List Int32) (pre l : List Nat), l.length = k → pre.length + k = n → l.Pairwise (· < ·) → (∀ x, x ∈ pre ++ l → x < n) → OA q (pre ++ l) → cM n f b v r → ∃ st b' v' q' r', RR (f_X12_journey_l2 A I (Int32.ofNat pos) a3) st (v, 1, q, r) (v', 1, q', r') ∧ OA q' (pre ++ l.reverse) ∧ cM n f b' v' r' ∧ udw (fun p => wn D bd pos 0 (p.map f)) b' (pre ++ l.reverse) = fF (fun p => wn D bd pos 0 (p.map f)) k b pre l ∧ st + 1 ≤ fac k := by
  intro k
  induction k with
  | zero =>
    intro b v q r pre l hl hpn hs hx hq hb
    have e := List.length_eq_zero_iff.mp hl
    subst e
    exact ⟨0, b, v, q, r, fun fuel => rfl, hq, hb, by rw [List.reverse_nil, List.append_nil]; rfl, Nat.le_refl _⟩
  | succ k ih =>
    intro b v q r pre l hl hpn hs hx hq hb
    have key : ∀ (rest : List Nat) (x : Nat) (done : List Nat) (b : bst) (v : Int32) (q r : List Int32), (done ++ x :: rest).length = k + 1 → (done ++ x :: rest).Pairwise (· < ·) → (∀ y, y ∈ pre ++ (done ++ x :: rest) → y < n) → OA q (pre ++ x :: (done ++ rest)) → cM n f b v r → ∃ st b' v' q' r', RR (f_X12_journey_l2 A I (Int32.ofNat pos) a3) st (v, 1, q, r) (v', 1, q', r') ∧ OA q' (pre ++ (done ++ x :: rest).reverse) ∧ cM n f b' v' r' ∧ udw (fun p => wn D bd pos 0 (p.map f)) b' (pre ++ (done ++ x :: rest).reverse) = fG (fF (fun p => wn D bd pos 0 (p.map f)) k) pre b done (x :: rest) ∧ st + 1 ≤ (rest.length + 1) * fac k := by
      intro rest
      induction rest with
      | nil =>
        intro x done b v q r hl hs hx hq hb
        obtain ⟨st, b', v', q', r', k1, k2, k3, k4, k5⟩ := ih b v q r (pre ++ [x]) done (by rw [List.length_append, List.length_singleton] at hl; omega) (by rw [List.length_append, List.length_singleton]; omega) (List.pairwise_append.mp hs).1 (fun y hy => hx y (by
          simp only [List.mem_append, List.mem_singleton, List.mem_cons, List.not_mem_nil, or_false] at hy ⊢
          rcases hy with (hy | hy) | hy
          · exact Or.inl hy
          · exact Or.inr (Or.inr hy)
          · exact Or.inr (Or.inl hy))) (by rw [List.append_assoc]; rw [List.append_nil] at hq; exact hq) hb
        have er : pre ++ (done ++ [x]).reverse = pre ++ [x] ++ done.reverse := by rw [List.reverse_append, List.append_assoc]; rfl
        refine ⟨st, b', v', q', r', k1, by rw [er]; exact k2, k3, ?_, by rw [List.length_nil, Nat.zero_add, Nat.one_mul]; exact k5⟩
        rw [er, k4]
        show _ = fF _ k b (pre ++ [x]) (done ++ [])
        rw [List.append_nil]
      | cons y rest ihr =>
        intro x done b v q r hl hs hx hq hb
        have hl' : done.length + (rest.length + 1 + 1) = k + 1 := by rw [← hl, List.length_append, List.length_cons, List.length_cons]
        have hs1 := List.pairwise_append.mp hs
        have hs2 := List.pairwise_cons.mp hs1.2.1
        obtain ⟨st, b1, v1, q1, r1, k1, k2, k3, k4, k5⟩ := ih b v q r (pre ++ [x]) (done ++ y :: rest) (by rw [List.length_append, List.length_cons]; omega) (by rw [List.length_append, List.length_singleton]; omega) (List.pairwise_append.mpr ⟨hs1.1, hs2.2, fun a ha b hb => hs1.2.2 a ha b (List.mem_cons_of_mem _ hb)⟩) (fun z hz => hx z (by
          simp only [List.mem_append, List.mem_singleton, List.mem_cons, List.not_mem_nil, or_false] at hz ⊢
          rcases hz with (hz | hz) | hz | hz
          · exact Or.inl hz
          · exact Or.inr (Or.inr (Or.inl hz))
          · exact Or.inr (Or.inl hz)
          · exact Or.inr (Or.inr (Or.inr hz)))) (by rw [List.append_assoc]; exact hq) hb
        have er : pre ++ [x] ++ (done ++ y :: rest).reverse = pre ++ x :: (rest.reverse ++ y :: done.reverse) := by
          rw [List.reverse_append, List.reverse_cons, List.append_assoc, List.append_assoc]; rfl
        rw [er] at k2 k4
        have hn : (pre ++ x :: (rest.reverse ++ y :: done.reverse)).length = n := by
          rw [List.length_append, List.length_cons, List.length_append, List.length_cons, List.length_reverse, List.length_reverse]; omega
        have hmem : ∀ z, z ∈ pre ++ x :: (rest.reverse ++ y :: done.reverse) → z < n := fun z hz => hx z (by
          simp only [List.mem_append, List.mem_cons, List.mem_reverse] at hz ⊢
          rcases hz with hz | hz | hz | hz | hz
          · exact Or.inl hz
          · exact Or.inr (Or.inr (Or.inl hz))
          · exact Or.inr (Or.inr (Or.inr (Or.inr hz)))
          · exact Or.inr (Or.inr (Or.inr (Or.inl hz)))
          · exact Or.inr (Or.inl hz))
        obtain ⟨v2, r2, c1, c2⟩ := visit_1 h hpos a3 k2 hn hmem k3
        have hdesc : (rest.reverse ++ y :: done.reverse).Pairwise (· > ·) := by
          have hp : (done ++ y :: rest).Pairwise (· < ·) := List.pairwise_append.mpr ⟨hs1.1, hs2.2, fun a ha b hb => hs1.2.2 a ha b (List.mem_cons_of_mem _ hb)⟩
          have : (done ++ y :: rest).reverse.Pairwise (· > ·) := List.pairwise_reverse.mpr hp
          rw [List.reverse_append, List.reverse_cons, List.append_assoc] at this
          exact this
        obtain ⟨q2, d1, d2⟩ := next_1 (A := up (up A 121 q1) 122 r2) (I := I) (n := n) (a := x) (b := y) (pre := pre) (us := rest.reverse) (vs := done.reverse) h.1 h.2.1 k2 hn hmem (desc_getD hdesc) (hs2.1 y List.mem_cons_self) (fun z hz => hs1.2.2 z (List.mem_reverse.mp hz) x List.mem_cons_self)
        rw [d1, Option.bind_some] at c2
        have er2 : pre ++ y :: (rest.reverse ++ x :: done.reverse).reverse = pre ++ y :: ((done ++ [x]) ++ rest) := by
          rw [List.reverse_append, List.reverse_cons, List.reverse_reverse, List.reverse_reverse]
        rw [er2] at d2
        rw [k4] at c1
        have er3 : done ++ x :: y :: rest = (done ++ [x]) ++ y :: rest := by rw [List.append_assoc]; rfl
        obtain ⟨st2, b3, v3, q3, r3, m1, m2, m3, m4, m5⟩ := ihr y (done ++ [x]) _ v2 q2 r2 (by rw [← er3]; exact hl) (by rw [← er3]; exact hs) (by rw [← er3]; exact hx) d2 c1
        rw [← er3] at m2 m4
        refine ⟨st + 1 + st2, b3, v3, q3, r3, (k1.trans (RR.one c2)).trans m1, m2, m3, m4, ?_⟩
        rw [List.length_cons, Nat.add_mul (rest.length + 1) 1, Nat.one_mul]
        omega
    match l, hl with
    | x :: rest, hl =>
      obtain ⟨st, b', v', q', r', k1, k2, k3, k4, k5⟩ := key rest x [] b v q r hl hs hx hq hb
      refine ⟨st, b', v', q', r', k1, k2, k3, k4, ?_⟩
      have : rest.length = k := by rw [List.length_cons] at hl; omega
      rw [this] at k5
      exact k5
end Blk
