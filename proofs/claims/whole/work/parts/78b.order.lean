/-! ===== the model tries the orders ===== -/
def OA (q : List Int32) (p : List Nat) : Prop := q.length = 7 ∧ ∀ k, k < p.length → g q k = Int32.ofNat (p.getD k 0)
theorem won_1 {D : Nat → Nat → Nat} {bd f : Nat → Nat} {A : Nat → List Int32} {I : Nat → Int32} {p : List Nat} {pos n : Nat} (h5 : I 5494 = Int32.ofNat n) (hn : n ≤ 7) (hp : OA (A 121) p) (hpn : p.length = n) (hpl : ∀ x, x ∈ p → x < n) (hf : ∀ i, i < n → f i < 8 ∧ g (A 123) i = Int32.ofNat (f i)) (h123 : (A 123).length = 7) (h87 : (A 87).length = 64) (hD : ∀ a b, a < 8 → b < 8 → D a b < 1000 ∧ g (A 87) (8 * a + b) = Int32.ofNat (D a b)) (h120 : (A 120).length = 8) (hbd : ∀ s, s < 8 → bd s < 1000 ∧ g (A 120) s = Int32.ofNat (bd s)) (hpos : pos < 8) : f_X12_wonBy A I (Int32.ofNat pos) = some (Int32.ofNat (wn D bd pos 0 (p.map f))) := by
  obtain ⟨r, e, Q⟩ := wl_inv (s1 := f_X12_wonBy_l1 A I) (fun m y => ∃ k ps day c, y = (Int32.ofNat ps, Int32.ofNat day, Int32.ofNat c, Int32.ofNat k) ∧ m + k = n ∧ ps < 8 ∧ day ≤ 1002 * k ∧ c ≤ k ∧ wn D bd pos 0 (p.map f) = c + wn D bd ps day ((p.map f).drop k)) (fun r => r = .inl (Int32.ofNat (wn D bd pos 0 (p.map f))) ∨ r = .inr (Int32.ofNat (wn D bd pos 0 (p.map f)))) (fun m y => by
    rintro ⟨k, ps, day, c, rfl, hm, hps, hday, hc, hw⟩
    unfold f_X12_wonBy_l1
    dsimp only
    rw [h5]
    by_cases h : n ≤ k
    · right
      rw [if_pos ((i_le (by omega) (by omega)).mpr h)]
      refine ⟨_, rfl, Or.inl ?_⟩
      rw [hw, List.drop_eq_nil_of_le (by rw [List.length_map]; omega)]
      rfl
    · have hk : k < p.length := by omega
      have hx : p[k] < n := hpl _ (List.getElem_mem hk)
      have hgk : g (A 121) k = Int32.ofNat p[k] := by rw [hp.2 k hk, List.getD_eq_getElem?_getD, List.getElem?_eq_getElem hk]; rfl
      have hl := hp.1
      obtain ⟨f1, f2⟩ := hf _ hx
      obtain ⟨d1, d2⟩ := hD ps (f p[k]) hps f1
      obtain ⟨b1, b2⟩ := hbd (f p[k]) f1
      have hdr : (p.map f).drop k = f p[k] :: (p.map f).drop (k + 1) := by
        rw [List.drop_eq_getElem_cons (by rw [List.length_map]; exact hk), List.getElem_map]
      rw [if_neg (nge (by omega) (by omega)), am_at_g (xs := A 121) (by omega) (by omega), Option.bind_some, hgk, am_at_g (xs := A 123) (by omega) (by omega), Option.bind_some, f2, i8, am_at_g (xs := A 87) (by omega) (by omega), Option.bind_some, d2, Option.bind_some, am_at_g (xs := A 123) (by omega) (by omega), Option.bind_some, f2, am_at_g (xs := A 120) (by omega) (by omega), Option.bind_some, b2, i_add]
      rw [hdr] at hw
      have hw : wn D bd pos 0 (p.map f) = c + (if D ps (f p[k]) < 999 then (if bd (f p[k]) < day + D ps (f p[k]) then 0 else 1) + wn D bd (f p[k]) (day + D ps (f p[k]) + 3) ((p.map f).drop (k + 1)) else 0) := hw
      by_cases c9 : D ps (f p[k]) < 999
      · left
        rw [if_pos c9] at hw
        rw [if_pos (show Int32.ofNat (D ps (f p[k])) < 999 from (i_lt (n := 999) (by omega) (by decide)).mpr c9)]
        by_cases c2 : bd (f p[k]) < day + D ps (f p[k])
        · rw [if_pos c2] at hw
          rw [if_pos ((i_lt (by omega) (by omega)).mpr c2), Option.bind_some, Int32.add_zero]
          refine ⟨_, rfl, m - 1, by omega, k + 1, f p[k], day + D ps (f p[k]) + 3, c, ?_, by omega, f1, by omega, by omega, by omega⟩
          rw [show Int32.ofNat (day + D ps (f p[k])) + 3 = Int32.ofNat (day + D ps (f p[k]) + 3) from i_addr (n := 3), show Int32.ofNat k + 1 = Int32.ofNat (k + 1) from i_addr (n := 1)]
        · rw [if_neg c2] at hw
          rw [if_neg (fun z => c2 ((i_lt (by omega) (by omega)).mp z)), Option.bind_some]
          refine ⟨_, rfl, m - 1, by omega, k + 1, f p[k], day + D ps (f p[k]) + 3, c + 1, ?_, by omega, f1, by omega, by omega, by omega⟩
          rw [show Int32.ofNat (day + D ps (f p[k])) + 3 = Int32.ofNat (day + D ps (f p[k]) + 3) from i_addr (n := 3), show Int32.ofNat k + 1 = Int32.ofNat (k + 1) from i_addr (n := 1), show Int32.ofNat c + 1 = Int32.ofNat (c + 1) from i_addr (n := 1)]
      · right
        rw [if_neg c9, Nat.add_zero] at hw
        rw [if_neg (show ¬ Int32.ofNat (D ps (f p[k])) < 999 from fun z => c9 ((i_lt (n := 999) (by omega) (by decide)).mp z)), hw]
        exact ⟨_, rfl, Or.inr rfl⟩) n 100000 (Int32.ofNat pos, 0, 0, 0) ⟨0, pos, 0, 0, rfl, rfl, hpos, Nat.le_refl _, Nat.le_refl _, by rw [List.drop_zero, Nat.zero_add]⟩ (by omega)
  unfold f_X12_wonBy
  rw [e, Option.bind_some]
  rcases Q with rfl | rfl <;> rfl
theorem nge' {n k : Nat} (hn : n < 2147483648) (h : k < n) : ¬ Int32.ofNat n ≤ Int32.ofNat k := nge hn h
/-- one order, the next one -/
theorem next_1 {A : Nat → List Int32} {I : Nat → Int32} {n a b : Nat} {pre us vs : List Nat} (h5 : I 5494 = Int32.ofNat n) (hn : n ≤ 7) (hp : OA (A 121) (pre ++ a :: (us ++ b :: vs))) (hpn : (pre ++ a :: (us ++ b :: vs)).length = n) (hpl : ∀ x, x ∈ pre ++ a :: (us ++ b :: vs) → x < n) (hds : ∀ i j, i < j → j < (us ++ b :: vs).length → (us ++ b :: vs).getD j 0 < (us ++ b :: vs).getD i 0) (hab : a < b) (hva : ∀ x, x ∈ vs → x < a) : ∃ q, f_X12_nextOrder A I = some (1, q) ∧ OA q (pre ++ b :: (us ++ a :: vs).reverse) := by
  obtain ⟨ds, hdse⟩ : ∃ ds, ds = us ++ b :: vs := ⟨_, rfl⟩
  obtain ⟨i, hi⟩ : ∃ i, i = pre.length := ⟨_, rfl⟩
  obtain ⟨u, hu⟩ : ∃ u, u = us.length := ⟨_, rfl⟩
  have hdl : ds.length = us.length + 1 + vs.length := by rw [hdse, List.length_append, List.length_cons]; omega
  have hlen : n = i + 1 + ds.length := by rw [← hpn, List.length_append, List.length_cons, ← hdse]; omega
  have hl := hp.1
  have hpa : (pre ++ a :: (us ++ b :: vs)).getD i 0 = a := by
    rw [hi, List.getD_eq_getElem?_getD, List.getElem?_append_right (Nat.le_refl _), Nat.sub_self]; rfl
  have hpd : ∀ j, j < ds.length → (pre ++ a :: (us ++ b :: vs)).getD (i + 1 + j) 0 = ds.getD j 0 := fun j hj => by
    rw [hi, List.getD_eq_getElem?_getD, List.getElem?_append_right (by omega), List.getD_eq_getElem?_getD, show pre.length + 1 + j - pre.length = j + 1 by omega, List.getElem?_cons_succ, hdse]
  have hdb : ds.getD u 0 = b := by
    rw [hdse, hu, List.getD_eq_getElem?_getD, List.getElem?_append_right (Nat.le_refl _), Nat.sub_self]; rfl
  have hga : g (A 121) i = Int32.ofNat a := by rw [hp.2 i (by rw [hpn]; omega), hpa]
  have hgd : ∀ j, j < ds.length → g (A 121) (i + 1 + j) = Int32.ofNat (ds.getD j 0) := fun j hj => by rw [hp.2 (i + 1 + j) (by rw [hpn]; omega), hpd j hj]
  have hd7 : ∀ j, j < ds.length → ds.getD j 0 < n := fun j hj => by
    apply hpl
    rw [List.getD_eq_getElem?_getD, List.getElem?_eq_getElem hj, ← hdse]
    exact List.mem_append_right _ (List.mem_cons_of_mem _ (List.getElem_mem hj))
  have ha7 : a < n := hpl a (List.mem_append_right _ List.mem_cons_self)
  have hvd : ∀ j, u < j → j < ds.length → ds.getD j 0 < a := fun j h1 h2 => by
    apply hva
    rw [hdse, List.getD_eq_getElem?_getD, List.getElem?_append_right (by omega), show j - us.length = (j - us.length - 1) + 1 by omega, List.getElem?_cons_succ, List.getElem?_eq_getElem (by omega)]
    exact List.getElem_mem _
  rw [← hdse] at hds
  have h0 : a < ds.getD 0 0 := by
    by_cases e : u = 0
    · have hh := hdb
      rw [e] at hh
      rw [hh]; exact hab
    · have := hds 0 u (by omega) (by omega)
      rw [hdb] at this
      omega
  -- the pivot
  obtain ⟨r1, e1, Q1⟩ := wl_inv (s1 := f_X12_nextOrder_l1 A I) (fun m y => ∃ s, y = Int32.ofNat s ∧ m = s ∧ i ≤ s ∧ s + 2 ≤ n) (fun r => r = Int32.ofNat i) (fun m y => by
    rintro ⟨s, rfl, hms, his, hsn⟩
    unfold f_X12_nextOrder_l1
    rw [if_neg (i_nn (by omega)), am_at_g (by omega) (by omega), Option.bind_some, show Int32.ofNat s + 1 = Int32.ofNat (s + 1) from i_addr (n := 1), am_at_g (by omega) (by omega), Option.bind_some]
    by_cases e : s = i
    · subst e
      right
      have := hgd 0 (by omega)
      rw [Nat.add_zero] at this
      have d0 := hd7 0 (by omega)
      rw [hga, this, if_pos ((i_le (by omega) (by omega)).mpr (by omega))]
      exact ⟨_, rfl, rfl⟩
    · left
      obtain ⟨j, rfl⟩ : ∃ j, s = i + 1 + j := ⟨s - i - 1, by omega⟩
      have g1 := hgd j (by omega)
      have g2 := hgd (j + 1) (by omega)
      have d1 := hd7 j (by omega)
      have d2 := hd7 (j + 1) (by omega)
      have hlt := hds j (j + 1) (by omega) (by omega)
      rw [g1, show i + 1 + j + 1 = i + 1 + (j + 1) by omega, g2, if_neg (nge' (by omega) hlt), i_dec (by omega)]
      exact ⟨_, rfl, i + 1 + j - 1, by omega, i + 1 + j - 1, rfl, rfl, by omega, by omega⟩) (n - 2) 100000 (Int32.ofNat (n - 2)) ⟨n - 2, rfl, rfl, by omega, by omega⟩ (by omega)
  subst Q1
  -- the one to swap with
  obtain ⟨r2, e2, Q2⟩ := wl_inv (s1 := f_X12_nextOrder_l2 A I (Int32.ofNat i)) (fun m y => ∃ j, y = Int32.ofNat (i + 1 + j) ∧ m = j ∧ u ≤ j ∧ j < ds.length) (fun r => r = Int32.ofNat (i + 1 + u)) (fun m y => by
    rintro ⟨j, rfl, hmj, huj, hjl⟩
    unfold f_X12_nextOrder_l2
    have d1 := hd7 j hjl
    rw [am_at_g (by omega) (by omega), Option.bind_some, am_at_g (by omega) (by omega), Option.bind_some, hga, hgd j hjl]
    by_cases e : j = u
    · subst e
      right
      rw [if_pos ((i_le (by omega) (by omega)).mpr (by rw [hdb]; omega))]
      exact ⟨_, rfl, rfl⟩
    · left
      rw [if_neg (nge' (by omega) (hvd j (by omega) hjl)), i_dec (by omega)]
      exact ⟨_, rfl, j - 1, by omega, j - 1, by rw [show i + 1 + j - 1 = i + 1 + (j - 1) by omega], rfl, by omega, by omega⟩) (ds.length - 1) 100000 (Int32.ofNat (n - 1)) ⟨ds.length - 1, by rw [show n - 1 = i + 1 + (ds.length - 1) by omega], rfl, by omega, by omega⟩ (by omega)
  subst Q2
  obtain ⟨q, hq⟩ : ∃ q, q = ((A 121).set i (Int32.ofNat b)).set (i + 1 + u) (Int32.ofNat a) := ⟨_, rfl⟩
  have hql : q.length = 7 := by rw [hq, List.length_set, List.length_set]; exact hl
  have hqg : ∀ k, g q k = if k = i + 1 + u then Int32.ofNat a else if k = i then Int32.ofNat b else g (A 121) k := fun k => by
    rw [hq, g_set (by rw [List.length_set]; omega), g_set (by omega)]
  -- the rest, back to front
  obtain ⟨r3, e3, Q3⟩ := wl_inv (s1 := f_X12_nextOrder_l3 (up A 121 q) I) (fun m y => ∃ t M, y = (Int32.ofNat (i + 1 + t), Int32.ofNat (n - 1 - t), M) ∧ m + t = 10 ∧ 2 * t ≤ ds.length ∧ M.length = 7 ∧ ∀ k, k < 7 → g M k = if i + 1 ≤ k ∧ k < n ∧ (k < i + 1 + t ∨ n - 1 - t < k) then g q (i + n - k) else g q k) (fun M => M.length = 7 ∧ ∀ k, k < 7 → g M k = if i + 1 ≤ k ∧ k < n then g q (i + n - k) else g q k) (fun m y => by
    rintro ⟨t, M, rfl, hm, ht, hM, hMk⟩
    unfold f_X12_nextOrder_l3
    dsimp only
    by_cases h : n - 1 - t ≤ i + 1 + t
    · right
      rw [if_pos ((i_le (by omega) (by omega)).mpr h)]
      refine ⟨M, rfl, hM, fun k hk => ?_⟩
      rw [hMk k hk]
      by_cases c1 : i + 1 ≤ k ∧ k < n
      · rw [if_pos c1]
        by_cases c2 : k < i + 1 + t ∨ n - 1 - t < k
        · rw [if_pos ⟨c1.1, c1.2, c2⟩]
        · rw [if_neg (fun z => c2 z.2.2), show i + n - k = k by omega]
      · rw [if_neg c1, if_neg (fun z => c1 ⟨z.1, z.2.1⟩)]
    · left
      rw [if_neg (fun z => h ((i_le (by omega) (by omega)).mp z)), am_at_g (by omega) (by omega), Option.bind_some, am_at_g (by omega) (by omega), Option.bind_some, am_up_g (by omega) (by omega), Option.bind_some, am_up_g (by rw [List.length_set]; omega) (by rw [List.length_set]; omega), Option.bind_some, i_dec (by omega)]
      refine ⟨_, rfl, m - 1, by omega, t + 1, _, by rw [show Int32.ofNat (i + 1 + t) + 1 = Int32.ofNat (i + 1 + t + 1) from i_addr (n := 1), show i + 1 + t + 1 = i + 1 + (t + 1) by omega, show n - 1 - t - 1 = n - 1 - (t + 1) by omega], by omega, by omega, by rw [List.length_set, List.length_set]; exact hM, fun k hk => ?_⟩
      rw [g_set (by rw [List.length_set]; omega), g_set (by omega), hMk (i + 1 + t) (by omega), hMk (n - 1 - t) (by omega), hMk k hk, if_neg (show ¬ (i + 1 ≤ i + 1 + t ∧ i + 1 + t < n ∧ (i + 1 + t < i + 1 + t ∨ n - 1 - t < i + 1 + t)) by omega), if_neg (show ¬ (i + 1 ≤ n - 1 - t ∧ n - 1 - t < n ∧ (n - 1 - t < i + 1 + t ∨ n - 1 - t < n - 1 - t)) by omega)]
      by_cases k1 : k = n - 1 - t
      · rw [if_pos k1, if_pos (by omega), show i + n - k = i + 1 + t by omega]
      · rw [if_neg k1]
        by_cases k2 : k = i + 1 + t
        · rw [if_pos k2, if_pos (by omega), show i + n - k = n - 1 - t by omega]
        · rw [if_neg k2]
          by_cases c1 : i + 1 ≤ k ∧ k < n ∧ (k < i + 1 + t ∨ n - 1 - t < k)
          · rw [if_pos c1, if_pos (by omega)]
          · rw [if_neg c1, if_neg (by omega)]) 10 100000 (Int32.ofNat (i + 1), Int32.ofNat (n - 1), q) ⟨0, q, rfl, rfl, by omega, hql, fun k hk => by rw [if_neg (by omega)]⟩ (by omega)
  refine ⟨r3, ?_, Q3.1, fun k hk => ?_⟩
  · unfold f_X12_nextOrder
    rw [h5, show Int32.ofNat n - 2 = Int32.ofNat (n - 2) from i_subr (n := 2) (by omega), e1, Option.bind_some, if_pos (Int32.not_lt.mp (i_nn (by omega))), show Int32.ofNat n - 1 = Int32.ofNat (n - 1) from i_subr (n := 1) (by omega), e2, Option.bind_some, am_at_g (by omega) (by omega), Option.bind_some, am_at_g (by omega) (by omega), Option.bind_some, hga, hgd u (by omega), hdb, am_up_g (by omega) (by omega), Option.bind_some, am_up_g (by rw [List.length_set]; omega) (by rw [List.length_set]; omega), Option.bind_some, show Int32.ofNat i + 1 = Int32.ofNat (i + 1) from i_addr (n := 1), ← hq, e3]
    rfl
  · have hrl : (us ++ a :: vs).reverse.length = ds.length := by rw [List.length_reverse, List.length_append, List.length_cons, hdl]; omega
    have hk' : k < n := by
      rw [List.length_append, List.length_cons, hrl] at hk
      omega
    rw [Q3.2 k (by omega)]
    by_cases c1 : k < i
    · rw [if_neg (by omega), hqg, if_neg (by omega), if_neg (by omega), hp.2 k (by rw [hpn]; omega), getD_app0 (by omega), getD_app0 (by omega)]
    · by_cases c2 : k = i
      · rw [if_neg (by omega), hqg, if_neg (by omega), if_pos c2, c2, hi, List.getD_eq_getElem?_getD, List.getElem?_append_right (Nat.le_refl _), Nat.sub_self]; rfl
      · obtain ⟨j, rfl⟩ : ∃ j, k = i + 1 + j := ⟨k - i - 1, by omega⟩
        have hjd : j < ds.length := by omega
        rw [if_pos (by omega), show i + n - (i + 1 + j) = i + 1 + (ds.length - 1 - j) by omega, hqg]
        have er : (pre ++ b :: (us ++ a :: vs).reverse).getD (i + 1 + j) 0 = (us ++ a :: vs).getD (ds.length - 1 - j) 0 := by
          have hl2 : (us ++ a :: vs).length = ds.length := by rw [List.length_append, List.length_cons, hdl]; omega
          rw [hi, List.getD_eq_getElem?_getD, List.getElem?_append_right (by omega), List.getD_eq_getElem?_getD, show pre.length + 1 + j - pre.length = j + 1 by omega, List.getElem?_cons_succ, List.getElem?_reverse (by omega), hl2]
        rw [er]
        by_cases c3 : ds.length - 1 - j = u
        · rw [if_pos (by omega), c3, hu, List.getD_eq_getElem?_getD, List.getElem?_append_right (Nat.le_refl _), Nat.sub_self]; rfl
        · obtain ⟨w, hw⟩ : ∃ w, w = ds.length - 1 - j := ⟨_, rfl⟩
          rw [← hw] at c3 ⊢
          rw [if_neg (by omega), if_neg (by omega), hgd w (by omega), hdse]
          congr 1
          rw [List.getD_eq_getElem?_getD, List.getD_eq_getElem?_getD]
          by_cases c4 : w < us.length
          · rw [List.getElem?_append_left c4, List.getElem?_append_left c4]
          · rw [List.getElem?_append_right (by omega), List.getElem?_append_right (by omega), show w - us.length = (w - us.length - 1) + 1 by omega, List.getElem?_cons_succ, List.getElem?_cons_succ]
