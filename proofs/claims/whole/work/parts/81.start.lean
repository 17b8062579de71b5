/-! ===== the start ===== -/
set_option maxRecDepth 100000 in
theorem start_fw : fw (A0 86) = A0 86 := by decide +kernel
theorem g_rep (n k : Nat) : g (List.replicate n 0) k = 0 := by
  unfold g
  rw [List.getD_eq_getElem?_getD, List.getElem?_replicate]
  split <;> rfl
theorem g_repm {n k : Nat} (h : k < n) : g (List.replicate n (-1)) k = -1 := by
  unfold g
  rw [List.getD_eq_getElem?_getD, List.getElem?_replicate, if_pos h]
  rfl
theorem start_act (k : Nat) (h : k < 24) : v_one 0 k (A0 36) (A0 94) (A0 95) (A0 96) (A0 97) (A0 99) (A0 100) := by
  have e36 : g (A0 36) k = -1 := g_repm h
  have e94 : g (A0 94) k = 0 := g_rep 24 k
  have e95 : g (A0 95) k = 0 := g_rep 24 k
  have e96 : g (A0 96) k = 0 := g_rep 24 k
  have e97 : g (A0 97) k = 0 := g_rep 24 k
  have e99 : g (A0 99) k = 0 := g_rep 24 k
  unfold v_one
  rw [e36, e94, e95, e96, e97, e99]
  exact ⟨⟨0, by decide, rfl⟩, ⟨0, by decide, rfl⟩, ⟨0, by decide, rfl, fun _ => by decide⟩, ⟨0, by decide, rfl⟩, fun _ => rfl, fun q => absurd q (Nat.not_lt_zero k), fun _ => rfl, 0, by decide, rfl, Or.inl rfl⟩
theorem start_ele (k : Nat) : (∃ p, p < 1000 ∧ g (A0 113) k = Int32.ofNat p) ∧ (∃ b, b < 1024 ∧ g (A0 115) k = Int32.ofNat b) ∧ (0 ≤ k → g (A0 115) k = 0) := ⟨⟨0, by decide, g_rep 10 k⟩, ⟨0, by decide, g_rep 10 k⟩, fun _ => g_rep 10 k⟩
theorem start_cls (l : Nat) (h : l < 8) : (([A0 65, A0 66, A0 67, A0 68, A0 69, A0 70, A0 71, A0 72] : List (List Int32)).getD l []).length = 8 ∧ ∀ c, c < 8 → g (([A0 65, A0 66, A0 67, A0 68, A0 69, A0 70, A0 71, A0 72] : List (List Int32)).getD l []) c = g (A0 118) (8 * c + l) := by
  have e : ([A0 65, A0 66, A0 67, A0 68, A0 69, A0 70, A0 71, A0 72] : List (List Int32)).getD l [] = List.replicate 8 0 := by
    match l, h with
    | 0, _ => rfl
    | 1, _ => rfl
    | 2, _ => rfl
    | 3, _ => rfl
    | 4, _ => rfl
    | 5, _ => rfl
    | 6, _ => rfl
    | 7, _ => rfl
  rw [e]
  exact ⟨by decide, fun c _ => by rw [g_rep]; exact (g_rep 64 _).symm⟩
set_option maxRecDepth 100000 in
theorem start_rod1 : ∀ a, a < 8 → ∀ b, b < 8 → g (([A0 3, A0 4, A0 5, A0 6, A0 7, A0 8, A0 9, A0 10] : List (List Int32)).getD a []) b = (if a = b then 999 else g (A0 86) (8 * a + b)) ∧ g (([A0 12, A0 13, A0 14, A0 15, A0 16, A0 17, A0 18, A0 19] : List (List Int32)).getD a []) b = g (A0 86) (8 * a + b) := by decide +kernel
set_option maxRecDepth 100000 in
theorem start_rod2 : ∀ a, a < 8 → (([A0 3, A0 4, A0 5, A0 6, A0 7, A0 8, A0 9, A0 10] : List (List Int32)).getD a []).length = 8 ∧ (([A0 12, A0 13, A0 14, A0 15, A0 16, A0 17, A0 18, A0 19] : List (List Int32)).getD a []).length = 8 := by decide +kernel
set_option maxRecDepth 100000 in
theorem start_rod3 : (∀ k, k < 64 → g (A0 86) k = 0 ∨ g (A0 86) k = 999) ∧ (∀ a, a < 8 → g (A0 86) (8 * a + a) = 0) := by decide +kernel
theorem start_sh (s : Nat) (h : s < 4) : v_sh1 s (-1) 0 (List.replicate 40 0) (A0 124) (A0 125) (A0 126) := ⟨by decide, (show g (List.replicate 4 (-1)) s = -1 from g_repm h).symm, (g_rep 4 s).symm, fun k _ => by rw [g_rep]; exact (g_rep 160 _).symm, Or.inl rfl, 0, by decide, rfl⟩
set_option maxRecDepth 100000 in
theorem start_Iv : Iv 0 0 0 0 0 0 1 0 A0 I0 x0 := by
  refine ⟨?_, ?_, ?_, ?_, ?_, ?_, ?_, ?_, ?_, ?_, ?_, ?_, ?_⟩
  · exact ⟨rfl, by decide, by decide, rfl, rfl, fun k _ => ⟨0, by decide, g_rep 12 k⟩⟩
  · exact ⟨rfl, by decide, rfl, by decide⟩
  · exact ⟨by decide, by decide, rfl, rfl, fun k h => absurd h (Nat.not_lt_zero k)⟩
  · exact ⟨⟨rfl, rfl, rfl, rfl, rfl, rfl⟩, by decide, by decide, rfl, rfl, start_act⟩
  · exact ⟨rfl, by decide, by decide, rfl, rfl⟩
  · exact ⟨⟨rfl, rfl, rfl, rfl⟩, by decide, by decide, rfl, rfl, fun k _ => ⟨⟨0, by decide, g_rep 30 k⟩, 0, by decide, g_rep 30 k⟩⟩
  · exact ⟨⟨rfl, rfl⟩, by decide, by decide, rfl, rfl, fun k _ => start_ele k, ⟨0, by decide, rfl, fun k h => absurd h (Nat.not_lt_zero k)⟩, fun i j _ _ => by
      unfold cb
      rw [show g (A0 115) i = 0 from g_rep 10 i, show g (A0 115) j = 0 from g_rep 10 j, show (0 : Int32).toNatClampNeg = 0 from rfl, Nat.zero_testBit, Nat.zero_testBit]⟩
  · exact ⟨rfl, rfl, by decide, by decide, fun k _ => ⟨⟨0, by decide, g_rep 8 k⟩, 0, by decide, g_rep 8 k⟩⟩
  · exact ⟨⟨rfl, rfl⟩, by decide, by decide, rfl, rfl, start_cls, fun k _ => ⟨⟨0, by decide, g_rep 8 k⟩, ⟨0, by decide, g_rep 8 k⟩, fun _ => g_rep 8 k⟩, fun i j _ _ => by
      unfold cb
      rw [show g (A0 119) i = 0 from g_rep 8 i, show g (A0 119) j = 0 from g_rep 8 j, show (0 : Int32).toNatClampNeg = 0 from rfl, Nat.zero_testBit, Nat.zero_testBit]⟩
  · refine ⟨by decide, fun k h => ?_, start_rod3.2, fun a h => ⟨(start_rod2 a h).1, (start_rod2 a h).2, fun b hb => ?_⟩⟩
    · rcases start_rod3.1 k h with e | e
      · exact ⟨0, by decide, e⟩
      · exact ⟨999, by decide, e⟩
    · rw [start_fw]; exact start_rod1 a h b hb
  · exact ⟨by decide, start_sh 0 (by decide), start_sh 1 (by decide), start_sh 2 (by decide), start_sh 3 (by decide)⟩
  · refine ⟨by decide, by decide, by decide, rfl, rfl, fun k _ => ⟨0, by decide, g_rep 3 k⟩, fun t ht => ?_⟩
    have : t = 0 := by omega
    subst this
    refine ⟨⟨43, [10003], rfl, rfl, by decide, rfl, fun k hk => ?_, by decide⟩, ⟨45, [10005], rfl, rfl, by decide, rfl, fun k hk => ?_, by decide⟩⟩
    · have : k = 0 := by
        have : k < 1 := hk
        omega
      subst this; rfl
    · have : k = 0 := by
        have : k < 1 := hk
        omega
      subst this; rfl
  · exact (by decide +kernel : (v_scs A0).map List.length = [6, 40, 161, 161, 161, 160, 7, 7, 64, 161, 7, 6, 161, 7, 7, 7, 40])
theorem start_Iv0 : Iv0 0 A0 I0 x0 := ⟨⟨0, 0, 0, 0, 0, 0, 1, 0, start_Iv⟩, by decide, by decide⟩
set_option maxRecDepth 100000 in
set_option maxHeartbeats 4000000 in
theorem law_start (xs : List Int32) (hL : xs.length ≤ 3072) : ∃ nn h1, am_run (am_ro xs) 101 nn 5 [.ref (am_RO + 15)] [] = some (some (.int 1), h1) ∧ h1.length ≤ 600000 ∧ am_sl0 h1 ≤ 7302250 := by
  obtain ⟨h1, e1, e2, e3⟩ := law_loop hL xs.length 0 0 A0 I0 x0 (by omega) rfl start_Iv0 (by omega)
  have c1 : am_Rt (am_ro xs) 100 ix_X11_init [.ref 0] h_c0 (none, h_c1) := am_Rt.mono (d := 6) ⟨25000, am_run_ro _ _ _ _ _ _ (ok_r_eq boot1)⟩ (by decide)
  have c2 : am_Rt (am_ro xs) 100 ix_X12_init [.ref 85] h_c2 (none, hp A0 I0 x0) := am_Rt.mono (d := 6) ⟨25000, am_run_ro _ _ _ _ _ _ (ok_r_eq boot2)⟩ (by decide)
  have key : am_Rt (am_ro xs) 101 5 [.ref (am_RO + 15)] [] (some (.int 1), h1) := by
    refine am_Rt.of (M := mc_L_law) (nL := 4) rfl (Nat.le_of_ble_eq_true rfl) ?_
    refine am_Ev.go (cf' := (4, [some (.ref (am_RO + 15)), none, none, none], [.ref 0, .ref 0], h_c0)) 2 rfl ?_
    refine am_Ev.calln rfl c1 ?_
    refine am_Ev.go (cf' := (12, [some (.ref (am_RO + 15)), some (.ref 0), none, none], [.ref 85, .ref 85], h_c2)) 3 rfl ?_
    refine am_Ev.calln rfl c2 ?_
    exact am_Ev.go (cf' := (18, [some (.ref (am_RO + 15)), some (.ref 0), some (.ref 85), some (.int (Int32.ofNat 0))], [], hp A0 I0 x0)) 3 rfl e1
  obtain ⟨nn, hn⟩ := key
  exact ⟨nn, h1, hn, e2, e3⟩
