/-! ===== the law's start ===== -/
abbrev am_flat : List Cond := flatC (Jvm.Cond.and given_1 narrow_1)
theorem fl_ex : ∀ i, i < 11 → Cond.exactly (.string RX8 (am_sti i)) "java/lang/String" ∈ am_flat := by decide +kernel
theorem fl_co : ∀ i, i < 11 → Cond.eq (.field (.string RX8 (am_sti i)) "java/lang/String" "coder" "B") (.int 0) ∈ am_flat := by decide +kernel
theorem fl_ar : ∀ i, i < 11 → Cond.arrayOf (.field (.string RX8 (am_sti i)) "java/lang/String" "value" "[B") .byte ∈ am_flat := by decide +kernel
theorem fl_le : ∀ i, i < 11 → Cond.eq (.length (.field (.string RX8 (am_sti i)) "java/lang/String" "value" "[B")) (.int (Int32.ofNat (kw_len.getD i 0))) ∈ am_flat := by decide +kernel
theorem fl_el : ∀ i, i < 11 → ∀ j, j < kw_len.getD i 0 → Cond.eq (.elem (.field (.string RX8 (am_sti i)) "java/lang/String" "value" "[B") (.int (Int32.ofNat j))) (.int ((kw_byt.getD i []).getD j 0)) ∈ am_flat := by decide +kernel
theorem fl_ne : ∀ i, i < 11 → ∀ j, j < 11 → i ≠ j → (Cond.not (Cond.eq (.string RX8 (am_sti i)) (.string RX8 (am_sti j))) ∈ am_flat ∨ Cond.not (Cond.eq (.string RX8 (am_sti j)) (.string RX8 (am_sti i))) ∈ am_flat) := by decide +kernel
def am_sta (z : Nat) : List Int32 := match z with
  | 0 => [-1, 0, 0, 0, 2, 3]
  | 1 => [1, 3, 2, 1, 4, 5]
  | _ => [9999, 9999, 1000, 300, 1000, 900]
theorem fl_sa : ∀ z, z < 3 → Cond.arrayOf (.static "TwoHeads" (am_stn z) "[I") .int ∈ am_flat := by decide +kernel
theorem fl_sl : ∀ z, z < 3 → Cond.eq (.length (.static "TwoHeads" (am_stn z) "[I")) (.int (Int32.ofNat 6)) ∈ am_flat := by decide +kernel
theorem fl_se : ∀ z, z < 3 → ∀ j, j < 6 → Cond.eq (.elem (.static "TwoHeads" (am_stn z) "[I") (.int (Int32.ofNat j))) (.int ((am_sta z).getD j 0)) ∈ am_flat := by decide +kernel
theorem fl_cs : Cond.eq (.static "java/lang/String" "COMPACT_STRINGS" "Z") (.int 1) ∈ am_flat := by decide +kernel
theorem fl_si : Cond.isRef (.static "jdk/internal/util/Preconditions" "SIOOBE_FORMATTER" "Ljava/util/function/BiFunction;") ∈ am_flat := by decide +kernel
theorem tb_ls : ∀ z, z < 3 → Cond.laysStatic "TwoHeads" (am_stn z) "[I" ∈ lw_tbl
  | 0, _ => List.mem_of_getElem? (i := 1106) (by decide +kernel)
  | 1, _ => List.mem_of_getElem? (i := 582) (by decide +kernel)
  | 2, _ => List.mem_of_getElem? (i := 625) (by decide +kernel)
  | (n + 3), h => absurd h (by omega)
theorem tb_sr : ∀ j, j < 11 → Cond.stringRef RX8 (am_sti j) (am_stx j) ∈ lw_tbl
  | 0, _ => List.mem_of_getElem? (i := 675) (by decide +kernel)
  | 1, _ => List.mem_of_getElem? (i := 728) (by decide +kernel)
  | 2, _ => List.mem_of_getElem? (i := 729) (by decide +kernel)
  | 3, _ => List.mem_of_getElem? (i := 730) (by decide +kernel)
  | 4, _ => List.mem_of_getElem? (i := 731) (by decide +kernel)
  | 5, _ => List.mem_of_getElem? (i := 732) (by decide +kernel)
  | 6, _ => List.mem_of_getElem? (i := 737) (by decide +kernel)
  | 7, _ => List.mem_of_getElem? (i := 738) (by decide +kernel)
  | 8, _ => List.mem_of_getElem? (i := 739) (by decide +kernel)
  | 9, _ => List.mem_of_getElem? (i := 740) (by decide +kernel)
  | 10, _ => List.mem_of_getElem? (i := 741) (by decide +kernel)
  | (n + 11), h => absurd h (by omega)
def am_ro (xs : List Int32) (a : Nat) : Option (List Int32) := if a = am_RO + 15 then some xs else if a < am_RO then none else if a < am_RO + 3 then some (am_sta (a - am_RO)) else none
theorem am_arrC {s : State} {args : Array Value} {ty : FieldType} (hty : ∀ C, ty ≠ .object C) (h : (Cond.arrayClass ty).before args s = true) : ∃ cA, ArrOfT s cA ty ∧ va_RA s cA ty ∧ s.vm.findClass ("[" ++ ty.toString) = some cA := by
  obtain ⟨c, k, comp, h1, h2, h3⟩ := Cond.arrayClass_spec h
  refine ⟨c, fun n z => ⟨fun k h => (by cases h), k, h2, comp, h3⟩, ?_, h1⟩
  cases ty with
  | object C => exact absurd rfl (hty C)
  | _ => exact h1
theorem am_arrO {s : State} {args : Array Value} {C : String} (h : (Cond.arrayOver (.object C)).before args s = true) : ∃ cA, ArrOfT s cA (.object C) ∧ va_RA s cA (.object C) := by
  obtain ⟨comp, c, k, h1, h2, h3, h4, h5⟩ := Cond.arrayOver_spec h
  exact ⟨c, fun n z => ⟨fun k h => (by cases h), k, h3, comp, h4⟩, k, comp, h3, h4, h1, h5⟩
theorem am_clsAll {s : State} {args : Array Value} (hT : ∀ w ∈ am_T, w.before args s = true) : ∃ D : va_G, ∀ (k : Nat) (q : vw_C), vwCl[k]? = some q → u_Kn s q.1 q.2.1 q.2.2 (D.1 k) (D.2 k) := by
  have h : ∀ k : Nat, ∃ x : ClassId × (Nat → Nat), ∀ q, vwCl[k]? = some q → u_Kn s q.1 q.2.1 q.2.2 x.1 x.2 := by
    intro k
    cases hk : vwCl[k]? with
    | none => exact ⟨(0, fun _ => 0), fun q h => by cases h⟩
    | some q0 =>
      obtain ⟨f1, f2, f3, f4, f5, f6, f7, f8, f9⟩ := am_cls _ _ hk
      obtain ⟨c, iS, h1⟩ := u_known hT f1 (hT _ f4)
      exact ⟨(c, iS), fun q h => by cases h; exact h1⟩
  obtain ⟨f, hf⟩ := Classical.axiomOfChoice h
  exact ⟨(fun k => (f k).1, fun k => (f k).2), fun k q hq => hf k q hq⟩
set_option maxHeartbeats 4000000 in
theorem am_world {p : Program} {s : State} {m : MethodId} {meth : Method} {c : Code} {b L : Nat} {xs : Nat → Int32} (C0 : lw_At p s m meth c b L xs) : (∀ w ∈ am_T, w.before #[Value.ref b] s = true) ∧ ∃ (D : va_G) (kA : Nat → ClassId) (ad adV : Nat → Nat), am_Fx ad s.heap.size s.heap ∧ am_Wd D kA ad adV s.heap.size s.heap (am_ro ((List.range L).map xs)) s ∧ ad (am_RO + 15) = b := by
  obtain ⟨hx, hb, hr, hml, hown, hts, hX, hbl, hlocks, hgv⟩ := id C0
  have hT : ∀ w ∈ am_T, w.before #[Value.ref b] s = true := fun w hw => by
    rcases List.mem_append.mp hw with hw | hw
    · exact hts w (List.mem_filter.mp hw).1
    · exact hts w (am_nest_in w hw)
  refine ⟨hT, ?_⟩
  have hs := flat_of_before _ hgv
  have hA : ∀ a : Nat, a < s.heap.size → ¬ am_A s.heap.size a := fun a h q => absurd h (Nat.not_lt.mpr q)
  obtain ⟨D, hD⟩ := am_clsAll hT
  -- arrays
  obtain ⟨k0, a01, a02, a03⟩ := am_arrC (ty := .int) (fun C h => by cases h) (hts _ (List.mem_of_getElem? (i := 174) (by decide +kernel)))
  obtain ⟨k1, a11, a12, -⟩ := am_arrC (ty := .byte) (fun C h => by cases h) (hts _ (List.mem_of_getElem? (i := 366) (by decide +kernel)))
  obtain ⟨k2, a21, a22, -⟩ := am_arrC (ty := .boolean) (fun C h => by cases h) (hts _ (List.mem_of_getElem? (i := 1296) (by decide +kernel)))
  have hov : (Cond.arrayOver (.array .int)).before #[Value.ref b] s = true := hts _ (List.mem_of_getElem? (i := 127) (by decide +kernel))
  obtain ⟨comp, k3, kk3, o1, o2, o3, o4, o5⟩ := arrayOverA_spec hov
  have hf4 : (Cond.arrayOver (.object RX5)).before #[Value.ref b] s = true := hts _ (List.mem_of_getElem? (i := 250) (by decide +kernel))
  have hf5 : (Cond.arrayOver (.object RX10)).before #[Value.ref b] s = true := hts _ (List.mem_of_getElem? (i := 438) (by decide +kernel))
  obtain ⟨k4, a41, a42⟩ := am_arrO hf4
  obtain ⟨k5, a51, a52⟩ := am_arrO hf5
  have hcomp : comp = k0 := Option.some.inj (o1.symm.trans a03)
  subst hcomp
  -- statics
  have hst : ∀ z : Nat, ∃ t : Nat, z < 3 → va_Z "TwoHeads" (am_stn z) "[I" (.ref t) (am_A s.heap.size) s s.heap ∧ va_T .int t 6 (fun j => .int ((am_sta z).getD j 0)) (am_A s.heap.size) s s.heap := by
    intro z
    by_cases hz : z < 3
    · obtain ⟨t, ht, hT2⟩ := va_Tof (f := fun j => .int ((am_sta z).getD j 0)) (A := am_A s.heap.size) (N := 6) (by decide) (hs _ (fl_sa z hz)) (va_eqt (hs _ (fl_sl z hz))) (fun j hj => va_eqt (hs _ (fl_se z hz j hj))) hA
      exact ⟨t, fun _ => ⟨va_Zref (hts _ (tb_ls z hz)) (hts _ (List.mem_of_getElem? (i := 91) (by decide +kernel))) ht hA, hT2⟩⟩
    · exact ⟨0, fun h => absurd h hz⟩
  obtain ⟨sa, hsa⟩ := Classical.axiomOfChoice hst
  -- Strings
  obtain ⟨adK, adV, hS, hev⟩ := vk_Sof (N := 11) (tm := fun i => .string RX8 (am_sti i)) (len := kw_len) (byt := kw_byt) (A := am_A s.heap.size) kw_small (fun i hi => hs _ (fl_ex i hi)) (fun i hi => hs _ (fl_co i hi)) (fun i hi => hs _ (fl_ar i hi)) (fun i hi => hs _ (fl_le i hi)) (fun i hi j hj => hs _ (fl_el i hi j hj)) (fun i j hi hj hij => (fl_ne i hi j hj hij).elim (fun h => Or.inl (hs _ h)) (fun h => Or.inr (hs _ h))) hA
  obtain ⟨ad, had⟩ : ∃ ad : Nat → Nat, ad = fun k => if k < am_RO then s.heap.size + k else if k < am_RO + 3 then sa (k - am_RO) else if k = am_RO + 15 then b else adK (k - (am_RO + 16)) := ⟨_, rfl⟩
  have d1 : ∀ k, k < am_RO → ad k = s.heap.size + k := fun k hk => by rw [had]; exact if_pos hk
  have d2 : ∀ z, z < 3 → ad (am_RO + z) = sa z := fun z hz => by
    rw [had]
    show (if am_RO + z < am_RO then _ else _) = _
    rw [if_neg (by omega), if_pos (by omega), Nat.add_sub_cancel_left]
  have d3 : ad (am_RO + 15) = b := by
    rw [had]
    show (if am_RO + 15 < am_RO then _ else _) = _
    rw [if_neg (by omega), if_neg (by omega), if_pos rfl]
  have d4 : ∀ j, j < 11 → ad (am_RO + 16 + j) = adK j := fun j hj => by
    rw [had]
    show (if am_RO + 16 + j < am_RO then _ else _) = _
    rw [if_neg (by omega), if_neg (by omega), if_neg (by omega), Nat.add_sub_cancel_left]
  refine ⟨D, fun k => match k with | 0 => comp | 1 => k1 | 2 => k2 | 3 => k3 | 4 => k4 | _ => k5, ad, adV, ⟨rfl, d1⟩, ⟨⟨⟨hD, ?_⟩, ⟨kk3, o3, o4⟩, va_AO.of hf4, va_AO.of hf5⟩, ?_, fun w hw => va_Nw.of (am_nest_on w hw) (hts w (am_nest_in w hw)), fun z hz => ?_, fun j hj => ?_, ?_, va_Zof (hts _ (List.mem_of_getElem? (i := 689) (by decide +kernel))) (hts _ (List.mem_of_getElem? (i := 108) (by decide +kernel))) (va_eqi (hs _ fl_cs)) hA, va_Zqof (hts _ (List.mem_of_getElem? (i := 705) (by decide +kernel))) (hts _ (List.mem_of_getElem? (i := 110) (by decide +kernel))) (hs _ fl_si) hA⟩, d3⟩
  · intro k q hk
    match k, hk with
    | 0, hk => cases hk; exact ⟨a01, a02⟩
    | 1, hk => cases hk; exact ⟨a11, a12⟩
    | 2, hk => cases hk; exact ⟨a21, a22⟩
    | 3, hk => cases hk; exact ⟨fun n z => ⟨fun k h => (by cases h), kk3, o3, comp, o4⟩, o5⟩
    | 4, hk => cases hk; exact ⟨a41, a42⟩
    | 5, hk => cases hk; exact ⟨a51, a52⟩
    | (k + 6), hk => simp [am_tys] at hk
  · -- what was there before
    intro a ys ha hro
    unfold am_ro at hro
    split at hro
    · next e =>
      cases hro
      rw [e, d3]
      obtain ⟨scr, g1, g2, g3, g4, g5⟩ := hX
      refine ⟨hbl, scr, g1, g2, g3, fun j hj => ?_, fun _ => by simp [g4]⟩
      have hj2 : j < L := by simpa using hj
      rw [g5 j hj2]
      simp [hj2]
    · split at hro
      · cases hro
      · split at hro
        · next e1 e2 e3 =>
          have hro := Option.some.inj hro
          subst hro
          obtain ⟨z, hz, rfl⟩ : ∃ z, z < 3 ∧ a = am_RO + z := ⟨a - am_RO, by omega, by omega⟩
          rw [d2 z hz]
          obtain ⟨-, cell, g1, g2, g3, g4, g5, g6, g7⟩ := hsa z hz
          rw [Nat.add_sub_cancel_left]
          have hl6 : (am_sta z).length = 6 := by unfold am_sta; split <;> rfl
          exact ⟨(Array.getElem?_eq_some_iff.mp g1).1, cell, g1, g2, g3, fun j hj => g6 j (by omega), fun q => absurd q e1⟩
        · cases hro
  · rw [d2 z hz]
    exact (hsa z hz).1
  · rw [d4 j hj]
    exact vk_R.of (hts _ (tb_sr j hj)) (hev j hj)
  · have hcg : ∀ j, j < 11 → (fun j => ad (am_RO + 16 + j)) j = adK j := fun j hj => d4 j hj
    refine ⟨fun i hi => ?_, fun i j hi hj e => hS.2 i j hi hj (by rw [← hcg i hi, ← hcg j hj]; exact e)⟩
    rw [hcg i hi]
    exact hS.1 i hi
set_option maxHeartbeats 4000000 in
/-- the law's run, out of one of the abstract machine -/
theorem am_lawW (hall : ∀ (k : Nat) (M : am_M) (nL : Nat), am_P k = some (M, nL) → k ≠ 5 → k ≠ 0 → k ≠ 4 → am_F k M nL) (hlaw : am_ckM 13 (some .boolean) mc_L_law code 0 (16 * mc_L_law.2.2.length) = true) {p : Program} {e : Env} {s : State} {m : MethodId} {below : List Frame} {meth : Method} {c : Code} (l : Launch) {b L : Nat} {xs : Nat → Int32} (C0 : lw_At p s m meth c b L xs) {d nn : Nat} {h1 : am_H} (hd : d ≤ 2000) (hrun : am_run (am_ro ((List.range L).map xs)) (d + 1) nn 5 [.ref (am_RO + 15)] [] = some (some (.int 1), h1)) (hc : h1.length ≤ 600000) (hsl : am_sl0 h1 ≤ 7302250) :
    W p l e room_1 s m #[Value.ref b] below meth c s.heap [] 0 0 (lw_Z below #[Value.ref b] s) (entryFrame m ([Value.ref b] : List Value).toArray 4) := by
  obtain ⟨hT, D, kA, ad, adV, hF, hwd, hb15⟩ := am_world C0
  obtain ⟨hx, hb, hr, hml, hown, hts, hX, hbl, hlocks, hgv⟩ := id C0
  unfold am_run at hrun
  have hP : am_P 5 = some (mc_L_law, 4) := rfl
  rw [hP] at hrun
  dsimp only at hrun
  split at hrun
  · next hle =>
    rw [lg_entry_eq]
    have hRH : am_RH D kA ad s.heap.size s.heap [] s.heap := ⟨rfl, fun q _ => rfl, fun k c h => by simp at h⟩
    have hent := am_entry_lh (ad := ad) (as := [.ref (am_RO + 15)]) (nL := 4) hle
    have e1 : ([Value.ref (am_RO + 15)] : List Value).map (am_v ad) = [.ref b] := by
      show [Value.ref (ad (am_RO + 15))] = _
      rw [hb15]
    rw [e1] at hent
    have key := am_evW hall (am_runMet l hall nn d) (e := e) (R := room_1) (Q := lw_Z below #[Value.ref b] s) (below := below) (meth := meth) (n0 := 0) (s0 := 0) (v := some (.int 1)) (h1 := h1) (ret := some .boolean) (oc := 13) hx hb hml hown hT hwd hF hlaw (fun q => absurd q (by decide)) (by show d + 5 ≤ 2048; omega) (by show 40 * (d + 1) + 200 ≤ 84000; omega) ⟨by show h1.length - 0 ≤ 600000; omega, by show am_sl0 h1 - 0 ≤ 7302250; omega⟩ (Nat.lt_of_le_of_lt hc (Nat.le_of_ble_eq_true rfl)) ?_ nn 0 (am_entry [.ref (am_RO + 15)] 4) [] [] s.heap [] _ hrun hRH (fun q hq => by cases hq) hent (fun k c h => by simp at h) (Nat.zero_le _) (Nat.zero_le _)
    · exact key
    · intro H1 locs1 pc1 ls1 st1 i n hf hk6 hrt1 hR1 hl1
      obtain ⟨raw, hdc, hln, hk⟩ := am_ckM_at hlaw hf
      rcases am_rt_cases hrt1 with ⟨rfl, x, rfl, hv, hbx⟩ | ⟨rfl, x, rfl, hv⟩ | ⟨rfl, hst⟩ | ⟨rfl, rfl, hv⟩
      · cases hv
        have hk2 : (decide (raw = .ireturn) && am_ck5 mc_L_law.2.1 (some .boolean) .ireturn) = true := hk
        simp only [Bool.and_eq_true, decide_eq_true_eq] at hk2
        obtain ⟨rfl, -⟩ := hk2
        have hn : n = 1 := hln.resolve_left (by intro q; cases q)
        subst hn
        refine W.widen (k := 600000) (n := 7302250) (by omega) (by omega) (va_forget hl1 ?_)
        exact lw_ret hx hb hr hlocks hdc
      · cases hv
      · rcases hst with ⟨x, -, hv⟩ | ⟨-, hv⟩ <;> cases hv
      · cases hv
  · cases hrun
