/-! ===== an ACT under a SIDE: the model's and the class's ===== -/
theorem wpos {c : Nat} (hc : c ≤ 10005) (F : List Int32) (hF : F.length = 6) : ((if 10000 ≤ Int32.ofNat c then ((am_at F (Int32.ofNat c - 10000)).bind fun v => some v) else some (Int32.ofNat c)) : Option Int32) = some (if 10000 ≤ Int32.ofNat c then g F ((Int32.ofNat c).toNatClampNeg - 10000) else Int32.ofNat c) := by
  by_cases h : 10000 ≤ c
  · have h1 : (10000 : Int32) ≤ Int32.ofNat c := by rw [i_lel (by decide) (by omega)]; exact h
    rw [if_pos h1, if_pos h1, show Int32.ofNat c - 10000 = Int32.ofNat (c - 10000) from i_subr (m := c) (n := 10000) h, am_at_g (by omega) (by omega), i_tn (by omega)]
    rfl
  · have h1 : ¬ (10000 : Int32) ≤ Int32.ofNat c := by rw [i_lel (by decide) (by omega)]; exact h
    rw [if_neg h1, if_neg h1]
set_option maxHeartbeats 4000000 in
theorem wk_run {A : Nat → List Int32} {I : Nat → Int32} {ms : List Int32} {p : Nat} (hp : p < 12) (l1 : (A 103).length = 12) (l2 : (A 104).length = 1920) (hF : (A 107).length = 6) (hm : ms.length ≤ 160) (h103 : g (A 103) p = Int32.ofNat ms.length) (h104 : ∀ k, k < ms.length → g (A 104) (160 * p + k) = g ms k) : ∀ (r : List Int32) (k : Nat) (S st : List Int32) (f : Nat), ms.drop k = r → k ≤ ms.length → stk S st → S.length = 161 → st.length ≤ 40 → rp r st.length = some 1 → r.length < f → ∃ S', wl (f_X12_work_l1 A I (Int32.ofNat p)) f (Int32.ofNat st.length, Int32.ofNat k, S) = some S' ∧ S'.length = 161 ∧ g S' 0 = g (ev (A 107) r st) 0 := by
  have r103 : am_at (A 103) (Int32.ofNat p) = some (Int32.ofNat ms.length) := by rw [← h103]; exact am_at_g (by omega) (by omega)
  intro r
  induction r with
  | nil =>
    intro k S st f hd hk hs hS hst hr hf
    match f, hf with
    | f + 1, _ =>
      have hl : k = ms.length := by
        have := congrArg List.length hd
        rw [List.length_drop, List.length_nil] at this
        omega
      have h1 : st.length = 1 := by
        unfold rp at hr
        exact Option.some.inj hr
      refine ⟨S, wl_inr ?_, hS, ?_⟩
      · unfold f_X12_work_l1
        dsimp only
        rw [r103, Option.bind_some, if_pos (by rw [i_le (by omega) (by omega)]; omega)]
      · rw [hs 0 (by omega), h1]
        rfl
  | cons v r ih =>
    intro k S st f hd hk hs hS hst hr hf
    match f, hf with
    | f + 1, hf =>
      rw [List.length_cons] at hf
      have hkl : k < ms.length := by
        have := congrArg List.length hd
        rw [List.length_drop, List.length_cons] at this
        omega
      have hd2 : ms.drop (k + 1) = r := by
        rw [← List.drop_drop, hd]
        rfl
      have hv : g ms k = v := by
        have := congrArg (fun l => l[0]?) hd
        rw [List.getElem?_drop, Nat.add_zero] at this
        unfold g
        rw [List.getD_eq_getElem?_getD, this]
        rfl
      have hat : am_at (A 104) (160 * Int32.ofNat p + Int32.ofNat k) = some v := by
        rw [show (160 : Int32) * Int32.ofNat p = Int32.ofNat (160 * p) from i_mull (m := 160) (n := p), i_add, am_at_g (by omega) (by omega), h104 k hkl, hv]
      have c0 : ¬ Int32.ofNat ms.length ≤ Int32.ofNat k := by rw [i_le (by omega) (by omega)]; omega
      by_cases h0 : 0 ≤ v
      · obtain ⟨⟨c, hc, rfl⟩, hn, hr2⟩ := rp_pos h0 hr
        have hst : f_X12_work_l1 A I (Int32.ofNat p) (Int32.ofNat st.length, Int32.ofNat k, S) = some (.inl (Int32.ofNat (st.length + 1), Int32.ofNat (k + 1), S.set st.length (if 10000 ≤ Int32.ofNat c then g (A 107) ((Int32.ofNat c).toNatClampNeg - 10000) else Int32.ofNat c))) := by
          unfold f_X12_work_l1
          dsimp only
          rw [r103, Option.bind_some, if_neg c0, hat, Option.bind_some, if_neg (Int32.not_lt.mpr h0), wpos hc (A 107) hF]
          simp only [Option.bind_some, am_up_g (show st.length < S.length by omega) (show S.length ≤ 100000 by omega), i_addr]
        rw [wl_inl hst]
        obtain ⟨S', s1, s2, s3⟩ := ih (k + 1) (S.set st.length (if 10000 ≤ Int32.ofNat c then g (A 107) ((Int32.ofNat c).toNatClampNeg - 10000) else Int32.ofNat c)) (ev1 (A 107) (Int32.ofNat c) st) f hd2 (by omega) (by unfold ev1; rw [if_pos h0]; exact stk_push hs (by omega)) (by rw [List.length_set]; exact hS) (by unfold ev1; rw [if_pos h0, List.length_cons]; omega) (by unfold ev1; rw [if_pos h0, List.length_cons]; exact hr2) (by omega)
        refine ⟨S', ?_, s2, s3⟩
        rw [← s1]
        unfold ev1
        rw [if_pos h0, List.length_cons]
      · have hlt : v < 0 := Int32.not_le.mp h0
        rcases rp_neg h0 hr with ⟨hv2, hn, hr2⟩ | ⟨hv2, hn, hr2⟩
        · have e0 : Int32.ofNat st.length - 1 = Int32.ofNat (st.length - 1) := i_subr (m := st.length) (n := 1) hn
          have e2 : g S (st.length - 1) = g st 0 := by rw [hs _ (by omega)]; congr 1; omega
          have ra : am_at S (Int32.ofNat (st.length - 1)) = some (g st 0) := by rw [← e2]; exact am_at_g (by omega) (by omega)
          have hx : ∃ w, ev1 (A 107) v st = w :: st.drop 1 ∧ f_X12_work_l1 A I (Int32.ofNat p) (Int32.ofNat st.length, Int32.ofNat k, S) = some (.inl (Int32.ofNat st.length, Int32.ofNat (k + 1), S.set (st.length - 1) w)) := by
            rcases hv2 with rfl | rfl
            · refine ⟨if g st 0 = 0 then 1 else 0, rfl, ?_⟩
              unfold f_X12_work_l1
              dsimp only
              rw [r103, Option.bind_some, if_neg c0, hat, Option.bind_some, if_pos hlt, if_pos rfl, if_neg (show ¬ (-3 : Int32) = -9 by decide), e0, ra]
              by_cases q : g st 0 = 0
              · simp only [Option.bind_some, if_pos q, am_up_g (show st.length - 1 < S.length by omega) (show S.length ≤ 100000 by omega), i_addr]
              · simp only [Option.bind_some, if_neg q, am_up_g (show st.length - 1 < S.length by omega) (show S.length ≤ 100000 by omega), i_addr]
            · refine ⟨-(g st 0), rfl, ?_⟩
              unfold f_X12_work_l1
              dsimp only
              rw [r103, Option.bind_some, if_neg c0, hat, Option.bind_some, if_pos hlt, if_neg (show ¬ (-9 : Int32) = -3 by decide), if_pos rfl, if_pos rfl, e0, ra]
              simp only [Option.bind_some, am_up_g (show st.length - 1 < S.length by omega) (show S.length ≤ 100000 by omega), i_addr]
          obtain ⟨w, w1, hst⟩ := hx
          rw [wl_inl hst]
          obtain ⟨S', s1, s2, s3⟩ := ih (k + 1) (S.set (st.length - 1) w) (ev1 (A 107) v st) f hd2 (by omega) (by rw [w1]; exact stk_pop hs (by omega) (by omega) (by omega)) (by rw [List.length_set]; exact hS) (by rw [w1, List.length_cons, List.length_drop]; omega) (by rw [w1, List.length_cons, List.length_drop, Nat.sub_add_cancel hn]; exact hr2) (by omega)
          refine ⟨S', ?_, s2, s3⟩
          rw [← s1, w1, List.length_cons, List.length_drop, Nat.sub_add_cancel hn]
        · have e0 : Int32.ofNat st.length + (-1) = Int32.ofNat (st.length - 1) := i_dec (by omega)
          have e3 : Int32.ofNat (st.length - 1) - 1 = Int32.ofNat (st.length - 2) := i_subr (m := st.length - 1) (n := 1) (by omega)
          have e2 : g S (st.length - 1) = g st 0 := by rw [hs _ (by omega)]; congr 1; omega
          have e4 : g S (st.length - 2) = g st 1 := by rw [hs _ (by omega)]; congr 1; omega
          have w1 : ev1 (A 107) v st = jn v (g st 1) (g st 0) :: st.drop 2 := by
            rcases hv2 with rfl | rfl | rfl | rfl | rfl | rfl | rfl <;> rfl
          have w3 : ¬ v = -3 := by rcases hv2 with rfl | rfl | rfl | rfl | rfl | rfl | rfl <;> decide
          have w4 : ¬ v = -9 := by rcases hv2 with rfl | rfl | rfl | rfl | rfl | rfl | rfl <;> decide
          have e5 : st.length - 2 + 1 = st.length - 1 := by omega
          have hst : f_X12_work_l1 A I (Int32.ofNat p) (Int32.ofNat st.length, Int32.ofNat k, S) = some (.inl (Int32.ofNat (st.length - 1), Int32.ofNat (k + 1), S.set (st.length - 2) (jn v (g st 1) (g st 0)))) := by
            unfold f_X12_work_l1
            dsimp only
            rw [r103, Option.bind_some, if_neg c0, hat, Option.bind_some, if_pos hlt, if_neg w3, if_neg w4, e0, e3]
            simp only [Option.bind_some, am_at_g (show st.length - 1 < S.length by omega) (show S.length ≤ 100000 by omega), am_at_g (show st.length - 2 < S.length by omega) (show S.length ≤ 100000 by omega), e2, e4, both_1, am_up_g (show st.length - 2 < S.length by omega) (show S.length ≤ 100000 by omega), i_addr]
          rw [wl_inl hst]
          obtain ⟨S', s1, s2, s3⟩ := ih (k + 1) (S.set (st.length - 2) (jn v (g st 1) (g st 0))) (ev1 (A 107) v st) f hd2 (by omega) (by rw [w1]; exact stk_pop hs (by omega) (by omega) (by omega)) (by rw [List.length_set]; exact hS) (by rw [w1, List.length_cons, List.length_drop]; omega) (by rw [w1, List.length_cons, List.length_drop, e5]; exact hr2) (by omega)
          refine ⟨S', ?_, s2, s3⟩
          rw [← s1, w1, List.length_cons, List.length_drop, e5]
/-- the signs of the model's row p -/
def fms (a103 a104 : List Int32) (p : Nat) : List Int32 := (List.range (g a103 p).toNatClampNeg).map (fun k => g a104 (160 * p + k))
theorem fms_eq {a103 a104 ms : List Int32} {p : Nat} (hm : ms.length ≤ 160) (h103 : g a103 p = Int32.ofNat ms.length) (h104 : ∀ k, k < ms.length → g a104 (160 * p + k) = g ms k) : ms = fms a103 a104 p := by
  unfold fms
  rw [h103, i_tn (by omega)]
  apply List.ext_getElem
  · rw [List.length_map, List.length_range]
  · intro i h1 h2
    rw [List.getElem_map, List.getElem_range, h104 i h1]
    unfold g
    rw [List.getD_eq_getElem?_getD, List.getElem?_eq_getElem h1]
    rfl
theorem work_m {A : Nat → List Int32} {I : Nat → Int32} {t q : Nat} {ms : List Int32} (ht : 2 * t + q < 12) (l1 : (A 103).length = 12) (l2 : (A 104).length = 1920) (hF : (A 107).length = 6) (hP : (A 108).length = 161) (hm : ms.length ≤ 160) (h103 : g (A 103) (2 * t + q) = Int32.ofNat ms.length) (h104 : ∀ k, k < ms.length → g (A 104) (160 * (2 * t + q) + k) = g ms k) (hr : rp ms 0 = some 1) : ∃ S', f_X12_work A I (Int32.ofNat t) (Int32.ofNat q) = some (g (ev (A 107) ms []) 0, S') ∧ S'.length = 161 := by
  obtain ⟨S', s1, s2, s3⟩ := wk_run (A := A) (I := I) ht l1 l2 hF hm h103 h104 ms 0 (A 108) [] 100000 rfl (Nat.zero_le _) (fun i hi => absurd hi (Nat.not_lt_zero i)) hP (by decide) hr (by omega)
  refine ⟨S', ?_, s2⟩
  unfold f_X12_work
  rw [show (2 : Int32) * Int32.ofNat t = Int32.ofNat (2 * t) from i_mull (m := 2) (n := t), i_add, show ((0 : Int32), (0 : Int32), A 108) = (Int32.ofNat ([] : List Int32).length, Int32.ofNat 0, A 108) from rfl, s1]
  have r1 : am_at S' 0 = some (g S' 0) := am_at_g (k := 0) (by omega) (by omega)
  simp only [Option.bind_some, r1, s3]
theorem six_set {xs : List Int32} (h : xs.length = 6) (a b c d e f : Int32) : (((((xs.set 0 a).set 1 b).set 2 c).set 3 d).set 4 e).set 5 f = [a, b, c, d, e, f] := by
  match xs, h with
  | [x0, x1, x2, x3, x4, x5], _ => rfl
abbrev hTxt (X : Nat) (A : Nat → List Int32) (I : Nat → Int32) (x : am_X) : Prop := v_txt X (A 40) (A 44) (A 46) (A 102) (I 2373) (I 5460) (A 103) (A 104) x
/-- the facts of an ACT -/
def fl (A : Nat → List Int32) (k : Nat) (sm : Int32) : List Int32 := [g (A 94) k, g (A 97) k, rkv (g (A 94) k), sm, Int32.ofNat (pc (g (A 99) k).toNatClampNeg), g (A 98) k]
def val (A : Nat → List Int32) (F : List Int32) (p : Nat) : Int32 := g (ev F (fms (A 103) (A 104) p) []) 0
def tx (A : Nat → List Int32) (s : Nat) : Nat := (g (A 102) s).toNatClampNeg
set_option maxHeartbeats 4000000 in
theorem vih_1 {N X s k q : Nat} {A : Nat → List Int32} {I : Nat → Int32} {x : am_X} (hA : hAct N A I) (hX : hTxt X A I x) (h41 : (A 41).length = 6) (h42 : (A 42).length = 40) (hs : s < 3) (hk : k < 24) (hq : q < 2) (held : Int32) : ∃ S', f_X1_valueIfHeld A I x (Int32.ofNat s) (Int32.ofNat k) (Int32.ofNat q) held = some (val A (fl A k (if s = 2 then 1 else if Int32.ofNat s = held then 1 else 0)) (2 * tx A s + q), fl A k (if s = 2 then 1 else if Int32.ofNat s = held then 1 else 0), S') ∧ S'.length = 40 := by
  have hA2 := hA
  obtain ⟨⟨a1, a2, a3, a4, a5, a6⟩, ⟨b1, b2, b3, b4, b5, b6, b7, b8⟩, c1, c2, c3, ho⟩ := hA
  obtain ⟨-, -, -, ⟨b, hb, eb⟩, -⟩ := ho k hk
  obtain ⟨⟨x1, x2, x3, x4, x5, x6, x7, x8⟩, x9, x10, x11, x12, x13, x14⟩ := hX
  obtain ⟨t, ht, et⟩ := x13 s hs
  have r1 : am_at (A 30) (Int32.ofNat k) = some (g (A 94) k) := by rw [a1]; exact am_at_g (by omega) (by omega)
  have r2 : am_at (A 33) (Int32.ofNat k) = some (g (A 97) k) := by rw [a4]; exact am_at_g (by omega) (by omega)
  have r3 : am_at (A 35) (Int32.ofNat k) = some (g (A 99) k) := by rw [a6]; exact am_at_g (by omega) (by omega)
  have r4 : am_at (A 34) (Int32.ofNat k) = some (g (A 98) k) := by rw [a5]; exact am_at_g (by omega) (by omega)
  have r5 : am_at (A 40) (Int32.ofNat s) = some (Int32.ofNat t) := by rw [x1, ← et]; exact am_at_g (by omega) (by omega)
  have r6 : f_J6_bitCount_0f7a4 (g (A 99) k) = some (Int32.ofNat (pc (g (A 99) k).toNatClampNeg)) := by rw [eb, i_tn (by omega)]; exact bc_1 hb
  have etx : tx A s = t := by unfold tx; rw [et, i_tn (by omega)]
  have hsm : ((if Int32.ofNat s = 2 then some 1 else (if Int32.ofNat s = held then some 1 else some 0)) : Option Int32) = some (if s = 2 then 1 else if Int32.ofNat s = held then 1 else 0) := by
    by_cases e : s = 2
    · rw [if_pos ((i_eqr (by omega) (by decide)).mpr e), if_pos e]
    · rw [if_neg (fun w => e ((i_eqr (by omega) (by decide)).mp w)), if_neg e]
      split <;> rfl
  have hfm : ∃ (w : Nat) (ms : List Int32), ((if Int32.ofNat q = 0 then ((am_at (A 40) (Int32.ofNat s)).bind fun v16 => (am_fat x.1 v16).bind fun w17 => some w17) else ((am_at (A 40) (Int32.ofNat s)).bind fun v14 => (am_fat x.2.1 v14).bind fun w15 => some w15)) : Option Nat) = some w ∧ fcd (A 44) (A 46) x w = some (ms.map cm) ∧ ms.length ≤ 160 ∧ g (A 103) (2 * t + q) = Int32.ofNat ms.length ∧ (∀ k, k < ms.length → g (A 104) (160 * (2 * t + q) + k) = g ms k) ∧ rp ms 0 = some 1 := by
    have hfa : ∀ (l : List (Option Nat)) (w : Nat), l[t]? = some (some w) → am_fat l (Int32.ofNat t) = some w := fun l w h => by
      unfold am_fat am_atr
      rw [if_neg (i_nn (by omega)), i_tn (by omega), h]
      rfl
    obtain ⟨⟨w1, m1, f1, f2, f3, f4, f5, f6⟩, ⟨w2, m2, g1, g2, g3, g4, g5, g6⟩⟩ := x14 t ht
    rcases (show q = 0 ∨ q = 1 by omega) with rfl | rfl
    · refine ⟨w1, m1, ?_, f2, f3, f4, f5, f6⟩
      rw [if_pos (show Int32.ofNat 0 = 0 from rfl), r5, Option.bind_some, hfa _ _ f1]
      rfl
    · refine ⟨w2, m2, ?_, g2, g3, g4, g5, g6⟩
      rw [if_neg (show ¬ Int32.ofNat 1 = 0 by decide), r5, Option.bind_some, hfa _ _ g1]
      rfl
  obtain ⟨w, ms, m1, m2, m3, m4, m5, m6⟩ := hfm
  have hms := fms_eq m3 m4 m5
  unfold f_X1_valueIfHeld
  rw [r1, Option.bind_some, show am_up (A 41) 0 (g (A 94) k) = some ((A 41).set 0 (g (A 94) k)) from am_up_g (k := 0) (by omega) (by omega), Option.bind_some, r2, Option.bind_some, show am_up ((A 41).set 0 (g (A 94) k)) 1 (g (A 97) k) = some (((A 41).set 0 (g (A 94) k)).set 1 (g (A 97) k)) from am_up_g (k := 1) (by rw [List.length_set]; omega) (by rw [List.length_set]; omega), Option.bind_some, (rank_1 (A := up A 41 _) hA2 hk).1, Option.bind_some]
  rw [show (up A 41 (((A 41).set 0 (g (A 94) k)).set 1 (g (A 97) k))) 94 = A 94 from rfl]
  rw [show am_up (((A 41).set 0 (g (A 94) k)).set 1 (g (A 97) k)) 2 (rkv (g (A 94) k)) = some ((((A 41).set 0 (g (A 94) k)).set 1 (g (A 97) k)).set 2 (rkv (g (A 94) k))) from am_up_g (k := 2) (by simp only [List.length_set]; omega) (by simp only [List.length_set]; omega), Option.bind_some, hsm, Option.bind_some]
  rw [show ∀ v, am_up ((((A 41).set 0 (g (A 94) k)).set 1 (g (A 97) k)).set 2 (rkv (g (A 94) k))) 3 v = some (((((A 41).set 0 (g (A 94) k)).set 1 (g (A 97) k)).set 2 (rkv (g (A 94) k))).set 3 v) from fun v => am_up_g (k := 3) (by simp only [List.length_set]; omega) (by simp only [List.length_set]; omega), Option.bind_some, r3, Option.bind_some, r6, Option.bind_some]
  rw [show ∀ u v, am_up (((((A 41).set 0 (g (A 94) k)).set 1 (g (A 97) k)).set 2 (rkv (g (A 94) k))).set 3 u) 4 v = some ((((((A 41).set 0 (g (A 94) k)).set 1 (g (A 97) k)).set 2 (rkv (g (A 94) k))).set 3 u).set 4 v) from fun u v => am_up_g (k := 4) (by simp only [List.length_set]; omega) (by simp only [List.length_set]; omega), Option.bind_some, r4, Option.bind_some]
  rw [show ∀ u v z, am_up ((((((A 41).set 0 (g (A 94) k)).set 1 (g (A 97) k)).set 2 (rkv (g (A 94) k))).set 3 u).set 4 v) 5 z = some (((((((A 41).set 0 (g (A 94) k)).set 1 (g (A 97) k)).set 2 (rkv (g (A 94) k))).set 3 u).set 4 v).set 5 z) from fun u v z => am_up_g (k := 5) (by simp only [List.length_set]; omega) (by simp only [List.length_set]; omega), Option.bind_some, six_set h41, m1, Option.bind_some]
  have e7 : ∀ F, am_fcode (up A 41 F) x w = some (ms.map cm) := fun F => (fcd_eq (up A 41 F) x w).trans m2
  rw [e7, Option.bind_some]
  obtain ⟨S', s1, s2⟩ := vf_1 (A := up A 41 (fl A k (if s = 2 then 1 else if Int32.ofNat s = held then 1 else 0))) (I := I) (ms := ms) rfl h42 m3 m6
  refine ⟨S', ?_, s2⟩
  unfold val
  rw [etx, ← hms]
  unfold fl at s1 ⊢
  rw [s1]
  rfl
/-- the side of a LAND on a DAY, as a function of the model's cells -/
def sd (T : Nat) (A : Nat → List Int32) (l d : Int32) : Int32 := match bsf (tc (A 91) (A 92) l d) (g (A 92)) T with
  | none => 0
  | some b => g (A 93) b
theorem side_c {T : Nat} {A : Nat → List Int32} {I : Nat → Int32} (hT : hTrn T A I) (l d : Int32) : f_X6_sideOn A I l d = some (sd T A l d) ∧ f_X12_sideOf A I l d = some (sd T A l d) ∧ ∃ s, s < 2 ∧ sd T A l d = Int32.ofNat s := by
  obtain ⟨s, hs, e1, e2⟩ := side_1 hT l d
  obtain ⟨⟨t1, t2, t3, t4, t5, t6⟩, t7, t8, t9, t10⟩ := hT
  have e3 := sideOf_1 (by omega) t9 t4 t5 t6 l d
  have e4 : sd T A l d = Int32.ofNat s := Option.some.inj (e3.symm.trans e2)
  exact ⟨by rw [e1, e4], e3, s, hs, e4⟩
/-- what the model's sideOf needs -/
def hTm (T : Nat) (A : Nat → List Int32) (I : Nat → Int32) : Prop := T ≤ 31 ∧ I 5443 = Int32.ofNat T ∧ (A 91).length = 31 ∧ (A 92).length = 31 ∧ (A 93).length = 31
theorem hTm_of {T : Nat} {A : Nat → List Int32} {I : Nat → Int32} (hT : hTrn T A I) : hTm T A I := by
  obtain ⟨⟨t1, t2, t3, t4, t5, t6⟩, t7, t8, t9, t10⟩ := hT
  exact ⟨by omega, t9, t4, t5, t6⟩
def lnd (A : Nat → List Int32) (k : Nat) : Int32 := g (A 88) (g (A 95) k).toNatClampNeg
theorem lnd_1 {P N k : Nat} {A : Nat → List Int32} {I : Nat → Int32} (hP : hPpl P A I) (hA : hAct N A I) (hk : k < 24) : f_X1_landOf A I (Int32.ofNat k) = some (lnd A k) ∧ ((am_at (A 95) (Int32.ofNat k)).bind fun v => am_at (A 88) v) = some (lnd A k) ∧ ∃ l, l < 8 ∧ lnd A k = Int32.ofNat l := by
  obtain ⟨⟨a1, a2, a3, a4, a5, a6⟩, ⟨b1, b2, b3, b4, b5, b6, b7, b8⟩, c1, c2, c3, ho⟩ := hA
  obtain ⟨p1, p2, p3, p4, p5, p6⟩ := hP
  obtain ⟨-, ⟨p, hp, ep⟩, -⟩ := ho k hk
  have r1 : am_at (A 95) (Int32.ofNat k) = some (Int32.ofNat p) := by rw [← ep]; exact am_at_g (by omega) (by omega)
  have r2 : am_at (A 88) (Int32.ofNat p) = some (g (A 88) p) := am_at_g (by omega) (by omega)
  have e : lnd A k = g (A 88) p := by unfold lnd; rw [ep, i_tn (by omega)]
  refine ⟨?_, ?_, ?_⟩
  · unfold f_X1_landOf
    rw [a2, r1, Option.bind_some, p1, r2, e]
    rfl
  · rw [r1, Option.bind_some, r2, e]
  · rw [e]; exact p6 p hp
def sam (T : Nat) (A : Nat → List Int32) (s k : Nat) : Int32 := if s = 2 then 1 else if Int32.ofNat s = sd T A (lnd A k) (g (A 97) k) then 1 else 0
/-- what part q of the TEXT of SIDE s comes to for ACT k -/
def vl (T : Nat) (A : Nat → List Int32) (s k q : Nat) : Int32 := val A (fl A k (sam T A s k)) (2 * tx A s + q)
theorem valueOf_c {P N T X s k q : Nat} {A : Nat → List Int32} {I : Nat → Int32} {x : am_X} (hP : hPpl P A I) (hT : hTrn T A I) (hA : hAct N A I) (hX : hTxt X A I x) (h41 : (A 41).length = 6) (h42 : (A 42).length = 40) (hs : s < 3) (hk : k < 24) (hq : q < 2) : ∃ F' S', f_X1_valueOf A I x (Int32.ofNat s) (Int32.ofNat k) (Int32.ofNat q) = some (vl T A s k q, F', S') ∧ F'.length = 6 ∧ S'.length = 40 := by
  obtain ⟨S', e1, e2⟩ := vih_1 hA hX h41 h42 hs hk hq (sd T A (lnd A k) (g (A 97) k))
  refine ⟨fl A k (sam T A s k), S', ?_, rfl, e2⟩
  have r2 : am_at (A 33) (Int32.ofNat k) = some (g (A 97) k) := by
    obtain ⟨⟨a1, a2, a3, a4, a5, a6⟩, ⟨b1, b2, b3, b4, b5, b6, b7, b8⟩, -⟩ := hA
    rw [a4]; exact am_at_g (by omega) (by omega)
  unfold f_X1_valueOf
  rw [(lnd_1 hP hA hk).1, Option.bind_some, r2, Option.bind_some, (side_c hT _ _).1, Option.bind_some, e1]
  rfl
set_option maxHeartbeats 4000000 in
theorem ask_m {P N T X s k q : Nat} {A : Nat → List Int32} {I : Nat → Int32} {x : am_X} (hP : hPpl P A I) (hT : hTm T A I) (hA : hAct N A I) (hX : hTxt X A I x) (h107 : (A 107).length = 6) (h108 : (A 108).length = 161) (hs : s < 3) (hk : k < 24) (hq : q < 2) : ∃ F' S', f_X12_ask A I (Int32.ofNat s) (Int32.ofNat k) (Int32.ofNat q) = some (vl T A s k q, F', S') ∧ F'.length = 6 ∧ S'.length = 161 := by
  have hA2 := hA
  have hX2 := hX
  obtain ⟨l1, l2, -⟩ := lnd_1 hP hA hk
  obtain ⟨⟨a1, a2, a3, a4, a5, a6⟩, ⟨b1, b2, b3, b4, b5, b6, b7, b8⟩, c1, c2, c3, ho⟩ := hA
  obtain ⟨-, ⟨pp, hpp, epp⟩, -, ⟨b, hb, eb⟩, -⟩ := ho k hk
  obtain ⟨⟨x1, x2, x3, x4, x5, x6, x7, x8⟩, x9, x10, x11, x12, x13, x14⟩ := hX
  obtain ⟨t, ht, et⟩ := x13 s hs
  have r1 : am_at (A 94) (Int32.ofNat k) = some (g (A 94) k) := am_at_g (by omega) (by omega)
  have r2 : am_at (A 97) (Int32.ofNat k) = some (g (A 97) k) := am_at_g (by omega) (by omega)
  have r3 : am_at (A 99) (Int32.ofNat k) = some (g (A 99) k) := am_at_g (by omega) (by omega)
  have r4 : am_at (A 98) (Int32.ofNat k) = some (g (A 98) k) := am_at_g (by omega) (by omega)
  have r5 : am_at (A 102) (Int32.ofNat s) = some (Int32.ofNat t) := by rw [← et]; exact am_at_g (by omega) (by omega)
  have r6 : ∀ A', f_X12_ones A' I (g (A 99) k) = some (Int32.ofNat (pc (g (A 99) k).toNatClampNeg)) := fun A' => by rw [eb, i_tn (by omega)]; exact ones_1 hb A' I
  have r7 : am_at (A 95) (Int32.ofNat k) = some (Int32.ofNat pp) := by rw [← epp]; exact am_at_g (by omega) (by omega)
  have r8 : am_at (A 88) (Int32.ofNat pp) = some (lnd A k) := by rw [r7] at l2; exact l2
  have etx : tx A s = t := by unfold tx; rw [et, i_tn (by omega)]
  have hfm : ∃ ms : List Int32, ms.length ≤ 160 ∧ g (A 103) (2 * t + q) = Int32.ofNat ms.length ∧ (∀ k, k < ms.length → g (A 104) (160 * (2 * t + q) + k) = g ms k) ∧ rp ms 0 = some 1 := by
    obtain ⟨⟨w1, m1, f1, f2, f3, f4, f5, f6⟩, ⟨w2, m2, g1, g2, g3, g4, g5, g6⟩⟩ := x14 t ht
    rcases (show q = 0 ∨ q = 1 by omega) with rfl | rfl
    · exact ⟨m1, f3, f4, f5, f6⟩
    · exact ⟨m2, g3, g4, g5, g6⟩
  obtain ⟨ms, m3, m4, m5, m6⟩ := hfm
  have hms := fms_eq m3 m4 m5
  have hside : ∀ F, f_X12_sideOf (up A 107 F) I (lnd A k) (g (A 97) k) = some (sd T A (lnd A k) (g (A 97) k)) := fun F => sideOf_1 (A := up A 107 F) hT.1 hT.2.1 hT.2.2.1 hT.2.2.2.1 hT.2.2.2.2 _ _
  have hsm : ∀ F, ((if Int32.ofNat s = 2 then some 1 else ((am_at (A 95) (Int32.ofNat k)).bind fun v7 => ((am_at (A 88) v7).bind fun v8 => ((am_at (A 97) (Int32.ofNat k)).bind fun v9 => ((f_X12_sideOf (up A 107 F) I v8 v9).bind fun r10 => (if r10 = Int32.ofNat s then some 1 else some 0)))))) : Option Int32) = some (sam T A s k) := fun F => by
    unfold sam
    by_cases e : s = 2
    · rw [if_pos ((i_eqr (by omega) (by decide)).mpr e), if_pos e]
    · rw [if_neg (fun w => e ((i_eqr (by omega) (by decide)).mp w)), if_neg e, r7, Option.bind_some, r8, Option.bind_some, r2, Option.bind_some, hside, Option.bind_some]
      by_cases e2 : sd T A (lnd A k) (g (A 97) k) = Int32.ofNat s
      · rw [if_pos e2, if_pos e2.symm]
      · rw [if_neg e2, if_neg (fun q => e2 q.symm)]
  unfold f_X12_ask
  rw [r1, Option.bind_some, show am_up (A 107) 0 (g (A 94) k) = some ((A 107).set 0 (g (A 94) k)) from am_up_g (k := 0) (by omega) (by omega), Option.bind_some, r2, Option.bind_some, show am_up ((A 107).set 0 (g (A 94) k)) 1 (g (A 97) k) = some (((A 107).set 0 (g (A 94) k)).set 1 (g (A 97) k)) from am_up_g (k := 1) (by rw [List.length_set]; omega) (by rw [List.length_set]; omega), Option.bind_some, (rank_1 (A := up A 107 _) hA2 hk).2, Option.bind_some]
  rw [show (up A 107 (((A 107).set 0 (g (A 94) k)).set 1 (g (A 97) k))) 94 = A 94 from rfl]
  rw [show am_up (((A 107).set 0 (g (A 94) k)).set 1 (g (A 97) k)) 2 (rkv (g (A 94) k)) = some ((((A 107).set 0 (g (A 94) k)).set 1 (g (A 97) k)).set 2 (rkv (g (A 94) k))) from am_up_g (k := 2) (by simp only [List.length_set]; omega) (by simp only [List.length_set]; omega), Option.bind_some]
  rw [r2] at hsm
  rw [hsm, Option.bind_some]
  rw [show ∀ v, am_up ((((A 107).set 0 (g (A 94) k)).set 1 (g (A 97) k)).set 2 (rkv (g (A 94) k))) 3 v = some (((((A 107).set 0 (g (A 94) k)).set 1 (g (A 97) k)).set 2 (rkv (g (A 94) k))).set 3 v) from fun v => am_up_g (k := 3) (by simp only [List.length_set]; omega) (by simp only [List.length_set]; omega), Option.bind_some, r3, Option.bind_some, r6, Option.bind_some]
  rw [show ∀ u v, am_up (((((A 107).set 0 (g (A 94) k)).set 1 (g (A 97) k)).set 2 (rkv (g (A 94) k))).set 3 u) 4 v = some ((((((A 107).set 0 (g (A 94) k)).set 1 (g (A 97) k)).set 2 (rkv (g (A 94) k))).set 3 u).set 4 v) from fun u v => am_up_g (k := 4) (by simp only [List.length_set]; omega) (by simp only [List.length_set]; omega), Option.bind_some, r4, Option.bind_some]
  rw [show ∀ u v z, am_up ((((((A 107).set 0 (g (A 94) k)).set 1 (g (A 97) k)).set 2 (rkv (g (A 94) k))).set 3 u).set 4 v) 5 z = some (((((((A 107).set 0 (g (A 94) k)).set 1 (g (A 97) k)).set 2 (rkv (g (A 94) k))).set 3 u).set 4 v).set 5 z) from fun u v z => am_up_g (k := 5) (by simp only [List.length_set]; omega) (by simp only [List.length_set]; omega), Option.bind_some, six_set h107, r5, Option.bind_some]
  obtain ⟨S', s1, s2⟩ := work_m (A := up A 107 (fl A k (sam T A s k))) (I := I) (ms := ms) (t := t) (q := q) (by omega) x5 x6 rfl h108 m3 m4 m5 m6
  refine ⟨fl A k (sam T A s k), S', ?_, rfl, s2⟩
  unfold vl val
  rw [etx, ← hms]
  unfold fl at s1 ⊢
  rw [s1]
  rfl
