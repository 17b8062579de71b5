/-! ===== owed, quarrels ===== -/
abbrev hRnt (R : Nat) (A : Nat → List Int32) (I : Nat → Int32) : Prop := v_rnt R (A 48) (A 49) (A 50) (A 51) (I 3012) (A 109) (A 110) (A 111) (A 112) (I 5476)
theorem owed_2 {N R G : Nat} {A : Nat → List Int32} {I : Nat → Int32} {F1 S1 F2 S2 : List Int32} (hA : hAct N A I) (hR : hRnt R A I) (hg : G < 16777216) (to : Int32) : ∃ v, f_X9_owedAgain_37 (up (up A 41 F1) 42 S1) I (Int32.ofNat G) to = some v ∧ wl (f_X12_owed_l1 (up (up (up (up A 41 F1) 42 S1) 107 F2) 108 S2) I to (Int32.ofNat G)) 100000 (0, 0) = some v := by
  obtain ⟨⟨r1, r2, r3, r4⟩, ⟨r5, r6, r7, r8⟩, r9, r10, r11, r12⟩ := hR
  obtain ⟨v, w, e1, e2, e3⟩ := wl_two (s1 := f_X9_owedAgain_37_l1 (up (up A 41 F1) 42 S1) I (Int32.ofNat G) to) (s2 := f_X12_owed_l1 (up (up (up (up A 41 F1) 42 S1) 107 F2) 108 S2) I to (Int32.ofNat G)) (fun n x y => x = y ∧ ∃ k, x.2 = Int32.ofNat k ∧ n + k = R) (fun r w => r = w) (fun n x y => by
    rintro ⟨rfl, k, hk, hn⟩
    obtain ⟨s, i⟩ := x
    have hk : i = Int32.ofNat k := hk
    subst hk
    unfold f_X9_owedAgain_37_l1 f_X12_owed_l1
    dsimp only
    rw [r10, r11]
    by_cases hkR : R ≤ k
    · right
      rw [if_pos (by rw [i_le (by omega) (by omega)]; exact hkR), if_pos (by rw [i_le (by omega) (by omega)]; exact hkR)]
      exact ⟨s, s, rfl, rfl, rfl⟩
    · left
      rw [if_neg (by rw [i_le (by omega) (by omega)]; exact hkR), if_neg (by rw [i_le (by omega) (by omega)]; exact hkR)]
      obtain ⟨⟨p, hp, ep⟩, d, hd, ed⟩ := r12 k (by omega)
      obtain ⟨v, z1, z2⟩ := right_2 (N := N) (G := G) (F1 := F1) (S1 := S1) (F2 := F2) (S2 := S2) hA hg (g (A 109) k) (show d ≤ 9999 by omega)
      obtain ⟨v', y1, -, hv⟩ := right_1 (A := up (up A 41 F1) 42 S1) (I := I) hA hg (g (A 109) k) (show d ≤ 9999 by omega)
      have hv' : v' = v := Option.some.inj (y1.symm.trans z1)
      subst hv'
      have q1 : am_at (up (up A 41 F1) 42 S1 48) (Int32.ofNat k) = some (g (A 109) k) := by
        show am_at (A 48) _ = _
        rw [r1]; exact am_at_g (by omega) (by omega)
      have q2 : am_at (up (up A 41 F1) 42 S1 51) (Int32.ofNat k) = some (Int32.ofNat d) := by
        show am_at (A 51) _ = _
        rw [r4, ← ed]; exact am_at_g (by omega) (by omega)
      have q3 : am_at (up (up A 41 F1) 42 S1 49) (Int32.ofNat k) = some (g (A 110) k) := by
        show am_at (A 49) _ = _
        rw [r2]; exact am_at_g (by omega) (by omega)
      have q4 : am_at (up (up A 41 F1) 42 S1 50) (Int32.ofNat k) = some (g (A 111) k) := by
        show am_at (A 50) _ = _
        rw [r3]; exact am_at_g (by omega) (by omega)
      have p1 : am_at (up (up (up (up A 41 F1) 42 S1) 107 F2) 108 S2 109) (Int32.ofNat k) = some (g (A 109) k) := am_at_g (xs := A 109) (by omega) (by omega)
      have p2 : am_at (up (up (up (up A 41 F1) 42 S1) 107 F2) 108 S2 112) (Int32.ofNat k) = some (Int32.ofNat d) := by rw [← ed]; exact am_at_g (xs := A 112) (by omega) (by omega)
      have p3 : am_at (up (up (up (up A 41 F1) 42 S1) 107 F2) 108 S2 110) (Int32.ofNat k) = some (g (A 110) k) := am_at_g (xs := A 110) (by omega) (by omega)
      have p4 : am_at (up (up (up (up A 41 F1) 42 S1) 107 F2) 108 S2 111) (Int32.ofNat k) = some (g (A 111) k) := am_at_g (xs := A 111) (by omega) (by omega)
      have hneg : v' < 0 ↔ v' = -1 := by
        rcases hv with rfl | ⟨p', hp', rfl⟩
        · exact ⟨fun _ => rfl, fun _ => by decide⟩
        · exact ⟨fun q => absurd q (i_nn (by omega)), fun q => absurd q (i_nm1 (by omega))⟩
      rw [q1, Option.bind_some, q2, Option.bind_some, z1, Option.bind_some, p1, Option.bind_some, p2, Option.bind_some, z2, Option.bind_some, q3, p3, q4, p4, i_addr]
      have done : ∀ z : Int64, ∃ x' y', (some (Sum.inl (z, Int32.ofNat (k + 1))) : Option ((Int64 × Int32) ⊕ Int64)) = some (.inl x') ∧ (some (Sum.inl (z, Int32.ofNat (k + 1))) : Option ((Int64 × Int32) ⊕ Int64)) = some (.inl y') ∧ ∃ n', n' < n ∧ x' = y' ∧ ∃ k, x'.2 = Int32.ofNat k ∧ n' + k = R := fun z => ⟨_, _, rfl, rfl, n - 1, by omega, rfl, k + 1, rfl, by omega⟩
      have t1 : ¬ (1 : Int32) = 0 := by decide
      by_cases h1 : v' = -1
      · simp only [if_pos h1, if_pos (hneg.mpr h1), Option.bind_some, if_true]
        exact done s
      · by_cases h2 : v' = g (A 110) k
        · simp only [if_neg h1, if_neg (fun q => h1 (hneg.mp q)), Option.bind_some, if_true, if_pos h2]
          exact done s
        · by_cases h3 : to = -1
          · simp only [if_neg h1, if_neg (fun q => h1 (hneg.mp q)), Option.bind_some, if_neg h2, if_neg t1, if_pos h3]
            exact done _
          · by_cases h4 : to = v'
            · simp only [if_neg h1, if_neg (fun q => h1 (hneg.mp q)), Option.bind_some, if_neg h2, if_neg t1, if_neg h3, if_pos h4]
              exact done _
            · simp only [if_neg h1, if_neg (fun q => h1 (hneg.mp q)), Option.bind_some, if_neg h2, if_neg t1, if_neg h3, if_neg h4]
              exact done _) R 100000 100000 (0, 0) (0, 0) ⟨rfl, 0, rfl, rfl⟩ (by omega) (by omega)
  subst e3
  refine ⟨v, ?_, e2⟩
  unfold f_X9_owedAgain_37
  rw [e1]
  rfl
theorem quar_2 {N G H d : Nat} {A : Nat → List Int32} {I : Nat → Int32} {x : am_X} {F1 S1 F2 S2 : List Int32} (hA : hAct N A I) (hG : G < 16777216) (hH : H < 16777216) (hd : d ≤ 9999) : ∃ v, wl (f_X11_quarrels_l1 (up (up A 41 F1) 42 S1) I x (Int32.ofNat d) (Int32.ofNat G) (Int32.ofNat H)) 100000 (0, 0) = some v ∧ wl (f_X12_quarrels_l1 (up (up (up (up A 41 F1) 42 S1) 107 F2) 108 S2) I (Int32.ofNat d) (Int32.ofNat G) (Int32.ofNat H)) 100000 (0, 0) = some v := by
  obtain ⟨v, w, e1, e2, e3⟩ := wl_two (s1 := f_X11_quarrels_l1 (up (up A 41 F1) 42 S1) I x (Int32.ofNat d) (Int32.ofNat G) (Int32.ofNat H)) (s2 := f_X12_quarrels_l1 (up (up (up (up A 41 F1) 42 S1) 107 F2) 108 S2) I (Int32.ofNat d) (Int32.ofNat G) (Int32.ofNat H)) (fun n x y => x = y ∧ ∃ k, x.2 = Int32.ofNat k ∧ n + k = 6) (fun r w => r = w) (fun n x y => by
    rintro ⟨rfl, k, hk, hn⟩
    obtain ⟨s, i⟩ := x
    have hk : i = Int32.ofNat k := hk
    subst hk
    unfold f_X11_quarrels_l1 f_X12_quarrels_l1
    dsimp only
    by_cases hk6 : 6 ≤ k
    · right
      rw [if_pos (by rw [i_lel (by decide) (by omega)]; exact hk6), if_pos (by rw [i_lel (by decide) (by omega)]; exact hk6)]
      exact ⟨s, s, rfl, rfl, rfl⟩
    · left
      rw [if_neg (by rw [i_lel (by decide) (by omega)]; exact hk6), if_neg (by rw [i_lel (by decide) (by omega)]; exact hk6)]
      obtain ⟨v, z1, z2⟩ := right_2 (N := N) (G := G) (F1 := F1) (S1 := S1) (F2 := F2) (S2 := S2) hA hG (Int32.ofNat k) hd
      obtain ⟨w, y1, y2⟩ := right_2 (N := N) (G := H) (F1 := F1) (S1 := S1) (F2 := F2) (S2 := S2) hA hH (Int32.ofNat k) hd
      rw [z1, z2, Option.bind_some, Option.bind_some, y1, y2, Option.bind_some, Option.bind_some, i_addr]
      by_cases e : v = w
      · simp only [if_pos e, Option.bind_some, if_neg (show ¬ (1 : Int32) = 0 by decide)]
        exact ⟨_, _, rfl, rfl, n - 1, by omega, rfl, k + 1, rfl, by omega⟩
      · simp only [if_neg e, Option.bind_some, if_true]
        exact ⟨_, _, rfl, rfl, n - 1, by omega, rfl, k + 1, rfl, by omega⟩) 6 100000 100000 (0, 0) (0, 0) ⟨rfl, 0, rfl, rfl⟩ (by omega) (by omega)
  subst e3
  exact ⟨v, e1, e2⟩
