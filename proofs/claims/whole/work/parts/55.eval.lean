/-! ===== what a formula comes to ===== -/
theorem wl_inl {σ ρ : Type} {step : σ → Option (σ ⊕ ρ)} {f : Nat} {x y : σ} (h : step x = some (.inl y)) : wl step (f + 1) x = wl step f y := by
  show (match step x with | some (.inl y) => wl step f y | some (.inr z) => some z | none => none) = _
  rw [h]
theorem wl_inr {σ ρ : Type} {step : σ → Option (σ ⊕ ρ)} {f : Nat} {x : σ} {z : ρ} (h : step x = some (.inr z)) : wl step (f + 1) x = some z := by
  show (match step x with | some (.inl y) => wl step f y | some (.inr z) => some z | none => none) = _
  rw [h]
def jn (v x y : Int32) : Int32 := if v = -7 then x - y else if v = -6 then x + y else if v = -5 then (if x = y then 1 else 0) else if v = -4 then (if y ≤ x then 0 else 1) else if v = -3 then x * y else if v = -2 then (if x = 0 then 0 else if y = 0 then 0 else 1) else if v = -1 then (if x = 0 then (if y = 0 then 0 else 1) else 1) else x * y
def ev1 (F : List Int32) (v : Int32) (st : List Int32) : List Int32 := if 0 ≤ v then (if 10000 ≤ v then g F (v.toNatClampNeg - 10000) else v) :: st else if v = -3 then (if g st 0 = 0 then 1 else 0) :: st.drop 1 else if v = -9 then (-(g st 0)) :: st.drop 1 else jn v (g st 1) (g st 0) :: st.drop 2
def ev (F : List Int32) : List Int32 → List Int32 → List Int32
  | [], st => st
  | v :: r, st => ev F r (ev1 F v st)
theorem both_1 (A : Nat → List Int32) (I : Nat → Int32) (v x y : Int32) : f_X12_both A I v x y = some (jn v x y) := by
  unfold f_X12_both jn
  repeat' split
  all_goals rfl
theorem joined_1 {v : Int32} (x y : Int32) (h : v = -1 ∨ v = -2 ∨ v = -4 ∨ v = -5 ∨ v = -6 ∨ v = -7 ∨ v = -8) : f_X5_joined (cm v) x y = some (jn v x y) := by
  rcases h with rfl | rfl | rfl | rfl | rfl | rfl | rfl
  · show (if x = 0 then (if y = 0 then some (0 : Int32) else some 1) else some 1) = some (if x = 0 then (if y = 0 then 0 else 1) else 1)
    repeat' split
    all_goals rfl
  · show (if x = 0 then some (0 : Int32) else if y = 0 then some 0 else some 1) = some (if x = 0 then 0 else if y = 0 then 0 else 1)
    repeat' split
    all_goals rfl
  · show (if y ≤ x then some (0 : Int32) else some 1) = some (if y ≤ x then 0 else 1)
    repeat' split
    all_goals rfl
  · show (if x = y then some (1 : Int32) else some 0) = some (if x = y then 1 else 0)
    repeat' split
    all_goals rfl
  · rfl
  · rfl
  · rfl
/-- the array S holds the stack st -/
def stk (S st : List Int32) : Prop := ∀ i, i < st.length → g S i = g st (st.length - 1 - i)
theorem g_cons0 {v : Int32} {st : List Int32} : g (v :: st) 0 = v := rfl
theorem g_conss {v : Int32} {st : List Int32} {i : Nat} : g (v :: st) (i + 1) = g st i := rfl
theorem g_drop {st : List Int32} {n i : Nat} : g (st.drop n) i = g st (n + i) := by
  unfold g
  rw [List.getD_eq_getElem?_getD, List.getD_eq_getElem?_getD, List.getElem?_drop]
theorem stk_push {S st : List Int32} {v : Int32} (h : stk S st) (hl : st.length < S.length) : stk (S.set st.length v) (v :: st) := by
  intro i hi
  rw [List.length_cons] at hi ⊢
  rw [g_set hl]
  by_cases e : i = st.length
  · subst e
    rw [if_pos rfl, show st.length + 1 - 1 - st.length = 0 by omega]
    rfl
  · rw [if_neg e, h i (by omega), show st.length + 1 - 1 - i = (st.length - 1 - i) + 1 by omega]
    rfl
/-- the top m are taken off, v is laid there -/
theorem stk_pop {S st : List Int32} {v : Int32} {m : Nat} (h : stk S st) (hm : 1 ≤ m) (hm2 : m ≤ st.length) (hl : st.length ≤ S.length) : stk (S.set (st.length - m) v) (v :: st.drop m) := by
  intro i hi
  rw [List.length_cons, List.length_drop] at hi ⊢
  rw [g_set (by omega)]
  by_cases e : i = st.length - m
  · subst e
    rw [if_pos rfl, show st.length - m + 1 - 1 - (st.length - m) = 0 by omega]
    rfl
  · rw [if_neg e, h i (by omega), show st.length - m + 1 - 1 - i = (st.length - m - 1 - i) + 1 by omega, g_conss, g_drop]
    congr 1
    omega
theorem rp_neg {v : Int32} {r : List Int32} {n : Nat} {z : Nat} (h0 : ¬ 0 ≤ v) (h : rp (v :: r) n = some z) : ((v = -3 ∨ v = -9) ∧ 1 ≤ n ∧ rp r n = some z) ∨ ((v = -1 ∨ v = -2 ∨ v = -4 ∨ v = -5 ∨ v = -6 ∨ v = -7 ∨ v = -8) ∧ 2 ≤ n ∧ rp r (n - 1) = some z) := by
  unfold rp at h
  rw [if_neg h0] at h
  split at h
  · next e =>
    split at h
    · next hn => exact Or.inl ⟨e, hn, h⟩
    · cases h
  · next e =>
    split at h
    · next e2 =>
      split at h
      · next hn =>
        refine Or.inr ⟨?_, hn, h⟩
        have h1 : v.toInt < 0 := by
          have := Int32.not_le.mp h0
          rw [Int32.lt_iff_toInt_lt] at this
          exact this
        have h2 : -8 ≤ v.toInt := by
          rw [Int32.le_iff_toInt_le] at e2
          exact e2
        have key : ∀ w : Int32, v.toInt = w.toInt → v = w := fun w q => Int32.toInt_inj.mp q
        rcases (show v.toInt = -1 ∨ v.toInt = -2 ∨ v.toInt = -3 ∨ v.toInt = -4 ∨ v.toInt = -5 ∨ v.toInt = -6 ∨ v.toInt = -7 ∨ v.toInt = -8 by omega) with q | q | q | q | q | q | q | q
        · exact Or.inl (key (-1) q)
        · exact Or.inr (Or.inl (key (-2) q))
        · exact absurd (Or.inl (key (-3) q)) e
        · exact Or.inr (Or.inr (Or.inl (key (-4) q)))
        · exact Or.inr (Or.inr (Or.inr (Or.inl (key (-5) q))))
        · exact Or.inr (Or.inr (Or.inr (Or.inr (Or.inl (key (-6) q)))))
        · exact Or.inr (Or.inr (Or.inr (Or.inr (Or.inr (Or.inl (key (-7) q))))))
        · exact Or.inr (Or.inr (Or.inr (Or.inr (Or.inr (Or.inr (key (-8) q))))))
      · cases h
    · cases h
theorem rp_pos {v : Int32} {r : List Int32} {n : Nat} {z : Nat} (h0 : 0 ≤ v) (h : rp (v :: r) n = some z) : (∃ c, c ≤ 10005 ∧ v = Int32.ofNat c) ∧ n < 40 ∧ rp r (n + 1) = some z := by
  unfold rp at h
  rw [if_pos h0] at h
  split at h
  · next e =>
    obtain ⟨c, hc, rfl⟩ := i_of h0
    exact ⟨⟨c, (i_ler hc (by decide)).mp e.1, rfl⟩, e.2, h⟩
  · cases h
theorem cm_pos {c : Nat} (hc : c ≤ 10005) : ¬ cm (Int32.ofNat c) < -6 ∧ (∀ F : List Int32, F.length = 6 → ((if cm (Int32.ofNat c) < 0 then ((am_at F (-1 - cm (Int32.ofNat c))).bind fun v => some v) else some (cm (Int32.ofNat c))) : Option Int32) = some (if 10000 ≤ Int32.ofNat c then g F ((Int32.ofNat c).toNatClampNeg - 10000) else Int32.ofNat c)) := by
  by_cases h : 10000 ≤ c
  · obtain ⟨j, hj, rfl⟩ : ∃ j, j < 6 ∧ c = 10000 + j := ⟨c - 10000, by omega, by omega⟩
    rcases (show j = 0 ∨ j = 1 ∨ j = 2 ∨ j = 3 ∨ j = 4 ∨ j = 5 by omega) with rfl | rfl | rfl | rfl | rfl | rfl
    · exact ⟨by decide, fun F hF => by
        show ((am_at F (Int32.ofNat 0)).bind fun v => some v) = some (g F 0)
        rw [am_at_g (by omega) (by omega)]; rfl⟩
    · exact ⟨by decide, fun F hF => by
        show ((am_at F (Int32.ofNat 1)).bind fun v => some v) = some (g F 1)
        rw [am_at_g (by omega) (by omega)]; rfl⟩
    · exact ⟨by decide, fun F hF => by
        show ((am_at F (Int32.ofNat 2)).bind fun v => some v) = some (g F 2)
        rw [am_at_g (by omega) (by omega)]; rfl⟩
    · exact ⟨by decide, fun F hF => by
        show ((am_at F (Int32.ofNat 3)).bind fun v => some v) = some (g F 3)
        rw [am_at_g (by omega) (by omega)]; rfl⟩
    · exact ⟨by decide, fun F hF => by
        show ((am_at F (Int32.ofNat 4)).bind fun v => some v) = some (g F 4)
        rw [am_at_g (by omega) (by omega)]; rfl⟩
    · exact ⟨by decide, fun F hF => by
        show ((am_at F (Int32.ofNat 5)).bind fun v => some v) = some (g F 5)
        rw [am_at_g (by omega) (by omega)]; rfl⟩
  · have h1 : ¬ (10000 : Int32) ≤ Int32.ofNat c := by rw [i_lel (by decide) (by omega)]; exact h
    have h2 : (0 : Int32) ≤ Int32.ofNat c := Int32.zero_le_ofNat_of_lt (by omega)
    have e : cm (Int32.ofNat c) = Int32.ofNat c := by unfold cm; rw [if_neg h1, if_pos h2]
    rw [e]
    refine ⟨fun q => ?_, fun F _ => ?_⟩
    · exact absurd (Int32.lt_trans q (by decide)) (i_nn (by omega))
    · rw [if_neg h1, if_neg (i_nn (by omega))]
set_option maxHeartbeats 4000000 in
theorem vf_run {A : Nat → List Int32} {I : Nat → Int32} {ms : List Int32} (hF : (A 41).length = 6) (hm : ms.length ≤ 160) : ∀ (r : List Int32) (k : Nat) (S st : List Int32) (f : Nat), ms.drop k = r → k ≤ ms.length → stk S st → S.length = 40 → st.length ≤ 40 → rp r st.length = some 1 → r.length < f → ∃ S', wl (f_X5_valueFor_41_42_l1 (ms.map cm) A I) f (Int32.ofNat st.length, Int32.ofNat k, S) = some (.inl (1, S')) ∧ S'.length = 40 ∧ g S' 0 = g (ev (A 41) r st) 0 := by
  intro r
  induction r with
  | nil =>
    intro k S st f hd hk hs hS hst hr hf
    match f, hf with
    | f + 1, _ =>
      have hl : k = ms.length := by
        have := congrArg List.length hd
        rw [List.length_drop, List.length_nil] at this
        omega
      have h1 : st.length = 1 := by
        unfold rp at hr
        exact Option.some.inj hr
      refine ⟨S, wl_inr ?_, hS, ?_⟩
      · unfold f_X5_valueFor_41_42_l1
        dsimp only
        rw [List.length_map, if_pos (by rw [i_le (by omega) (by omega)]; omega), h1]
        rfl
      · rw [hs 0 (by omega), h1]
        rfl
  | cons v r ih =>
    intro k S st f hd hk hs hS hst hr hf
    match f, hf with
    | f + 1, hf =>
      rw [List.length_cons] at hf
      have hkl : k < ms.length := by
        have := congrArg List.length hd
        rw [List.length_drop, List.length_cons] at this
        omega
      have hd2 : ms.drop (k + 1) = r := by
        rw [← List.drop_drop, hd]
        rfl
      have hv : ms[k]? = some v := by
        have := congrArg (fun l => l[0]?) hd
        rw [List.getElem?_drop, Nat.add_zero] at this
        exact this
      have hat : am_at (ms.map cm) (Int32.ofNat k) = some (cm v) := by
        unfold am_at
        rw [if_neg (i_nn (by omega)), i_tn (by omega), List.getElem?_map, hv]
        rfl
      by_cases h0 : 0 ≤ v
      · obtain ⟨⟨c, hc, rfl⟩, hn, hr2⟩ := rp_pos h0 hr
        obtain ⟨c1, c2⟩ := cm_pos hc
        have e1 : Int32.ofNat st.length < Int32.ofNat S.length := by rw [i_lt (by omega) (by omega)]; omega
        have hst : f_X5_valueFor_41_42_l1 (ms.map cm) A I (Int32.ofNat st.length, Int32.ofNat k, S) = some (.inl (Int32.ofNat (st.length + 1), Int32.ofNat (k + 1), S.set st.length (if 10000 ≤ Int32.ofNat c then g (A 41) ((Int32.ofNat c).toNatClampNeg - 10000) else Int32.ofNat c))) := by
          unfold f_X5_valueFor_41_42_l1
          dsimp only
          rw [List.length_map, if_neg (by rw [i_le (by omega) (by omega)]; omega), hat, i_addr]
          simp only [Option.bind_some, if_neg c1, if_pos e1, c2 (A 41) hF, am_up_g (show st.length < S.length by omega) (show S.length ≤ 100000 by omega), i_addr]
        rw [wl_inl hst]
        obtain ⟨S', s1, s2, s3⟩ := ih (k + 1) (S.set st.length (if 10000 ≤ Int32.ofNat c then g (A 41) ((Int32.ofNat c).toNatClampNeg - 10000) else Int32.ofNat c)) (ev1 (A 41) (Int32.ofNat c) st) f hd2 (by omega) (by unfold ev1; rw [if_pos h0]; exact stk_push hs (by omega)) (by rw [List.length_set]; exact hS) (by unfold ev1; rw [if_pos h0, List.length_cons]; omega) (by unfold ev1; rw [if_pos h0, List.length_cons]; exact hr2) (by omega)
        refine ⟨S', ?_, s2, s3⟩
        rw [← s1]
        unfold ev1
        rw [if_pos h0, List.length_cons]
      · rcases rp_neg h0 hr with ⟨hv2, hn, hr2⟩ | ⟨hv2, hn, hr2⟩
        · have e0 : Int32.ofNat st.length - 1 = Int32.ofNat (st.length - 1) := i_subr (m := st.length) (n := 1) hn
          have e1 : (1 : Int32) ≤ Int32.ofNat st.length := by rw [i_lel (by decide) (by omega)]; exact hn
          have e2 : g S (st.length - 1) = g st 0 := by rw [hs _ (by omega)]; congr 1; omega
          have hx : ∃ w, ev1 (A 41) v st = w :: st.drop 1 ∧ ((if cm v = -8 then some (-(g st 0)) else if g st 0 = 0 then some 1 else some 0) : Option Int32) = some w ∧ cm v < -6 ∧ ¬ cm v < -8 := by
            rcases hv2 with rfl | rfl
            · refine ⟨if g st 0 = 0 then 1 else 0, rfl, ?_, by decide, by decide⟩
              show (if g st 0 = 0 then some (1 : Int32) else some 0) = _
              split <;> rfl
            · exact ⟨-(g st 0), rfl, rfl, by decide, by decide⟩
          obtain ⟨w, w1, w2, w3, w4⟩ := hx
          have hst : f_X5_valueFor_41_42_l1 (ms.map cm) A I (Int32.ofNat st.length, Int32.ofNat k, S) = some (.inl (Int32.ofNat st.length, Int32.ofNat (k + 1), S.set (st.length - 1) w)) := by
            unfold f_X5_valueFor_41_42_l1
            dsimp only
            rw [List.length_map, if_neg (by rw [i_le (by omega) (by omega)]; omega), hat, i_addr]
            simp only [Option.bind_some, if_pos w3, if_neg w4, if_pos e1, e0, am_at_g (show st.length - 1 < S.length by omega) (show S.length ≤ 100000 by omega), e2, w2, am_up_g (show st.length - 1 < S.length by omega) (show S.length ≤ 100000 by omega)]
          rw [wl_inl hst]
          obtain ⟨S', s1, s2, s3⟩ := ih (k + 1) (S.set (st.length - 1) w) (ev1 (A 41) v st) f hd2 (by omega) (by rw [w1]; exact stk_pop hs (by omega) (by omega) (by omega)) (by rw [List.length_set]; exact hS) (by rw [w1, List.length_cons, List.length_drop]; omega) (by rw [w1, List.length_cons, List.length_drop, Nat.sub_add_cancel hn]; exact hr2) (by omega)
          refine ⟨S', ?_, s2, s3⟩
          rw [← s1, w1, List.length_cons, List.length_drop, Nat.sub_add_cancel hn]
        · have e0 : Int32.ofNat st.length + (-1) = Int32.ofNat (st.length - 1) := i_dec (by omega)
          have e3 : Int32.ofNat (st.length - 1) - 1 = Int32.ofNat (st.length - 2) := i_subr (m := st.length - 1) (n := 1) (by omega)
          have e1 : (2 : Int32) ≤ Int32.ofNat st.length := by rw [i_lel (by decide) (by omega)]; exact hn
          have e2 : g S (st.length - 1) = g st 0 := by rw [hs _ (by omega)]; congr 1; omega
          have e4 : g S (st.length - 2) = g st 1 := by rw [hs _ (by omega)]; congr 1; omega
          have w1 : ev1 (A 41) v st = jn v (g st 1) (g st 0) :: st.drop 2 := by
            rcases hv2 with rfl | rfl | rfl | rfl | rfl | rfl | rfl <;> rfl
          have w3 : cm v < -6 := by rcases hv2 with rfl | rfl | rfl | rfl | rfl | rfl | rfl <;> decide
          have w4 : cm v < -8 := by rcases hv2 with rfl | rfl | rfl | rfl | rfl | rfl | rfl <;> decide
          have e5 : st.length - 2 + 1 = st.length - 1 := by omega
          have hst : f_X5_valueFor_41_42_l1 (ms.map cm) A I (Int32.ofNat st.length, Int32.ofNat k, S) = some (.inl (Int32.ofNat (st.length - 1), Int32.ofNat (k + 1), S.set (st.length - 2) (jn v (g st 1) (g st 0)))) := by
            unfold f_X5_valueFor_41_42_l1
            dsimp only
            rw [List.length_map, if_neg (by rw [i_le (by omega) (by omega)]; omega), hat, i_addr]
            simp only [Option.bind_some, if_pos w3, if_pos w4, if_pos e1, e0, e3, am_at_g (show st.length - 1 < S.length by omega) (show S.length ≤ 100000 by omega), am_at_g (show st.length - 2 < S.length by omega) (show S.length ≤ 100000 by omega), e2, e4, joined_1 (g st 1) (g st 0) hv2, am_up_g (show st.length - 2 < S.length by omega) (show S.length ≤ 100000 by omega)]
          rw [wl_inl hst]
          obtain ⟨S', s1, s2, s3⟩ := ih (k + 1) (S.set (st.length - 2) (jn v (g st 1) (g st 0))) (ev1 (A 41) v st) f hd2 (by omega) (by rw [w1]; exact stk_pop hs (by omega) (by omega) (by omega)) (by rw [List.length_set]; exact hS) (by rw [w1, List.length_cons, List.length_drop]; omega) (by rw [w1, List.length_cons, List.length_drop, e5]; exact hr2) (by omega)
          refine ⟨S', ?_, s2, s3⟩
          rw [← s1, w1, List.length_cons, List.length_drop, e5]
theorem vf_1 {A : Nat → List Int32} {I : Nat → Int32} {ms : List Int32} (hF : (A 41).length = 6) (hS : (A 42).length = 40) (hm : ms.length ≤ 160) (hr : rp ms 0 = some 1) : ∃ S', f_X5_valueFor_41_42 (ms.map cm) A I = some (g (ev (A 41) ms []) 0, S') ∧ S'.length = 40 := by
  obtain ⟨S', s1, s2, s3⟩ := vf_run (A := A) (I := I) hF hm ms 0 (A 42) [] 100000 rfl (Nat.zero_le _) (fun i hi => absurd hi (Nat.not_lt_zero i)) hS (by decide) hr (by omega)
  refine ⟨S', ?_, s2⟩
  unfold f_X5_valueFor_41_42
  rw [show ((0 : Int32), (0 : Int32), A 42) = (Int32.ofNat ([] : List Int32).length, Int32.ofNat 0, A 42) from rfl, s1]
  have r1 : am_at S' 0 = some (g S' 0) := am_at_g (k := 0) (by omega) (by omega)
  simp only [Option.bind_some, if_true, r1, s3]
