/-! ===== SOUND and saved, GOOD, FIRM ===== -/
/-- on which ACT k hangs, as bits -/
def hg (A : Nat → List Int32) (k : Nat) : Nat := (g (A 99) k).toNatClampNeg
theorem pc_le (n : Nat) : pc n ≤ 24 := pcf_le 24 n
theorem hg_1 {N k : Nat} {A : Nat → List Int32} {I : Nat → Int32} (hA : hAct N A I) (hk : k < 24) : am_at (A 99) (Int32.ofNat k) = some (Int32.ofNat (hg A k)) ∧ am_at (A 35) (Int32.ofNat k) = some (Int32.ofNat (hg A k)) ∧ hg A k < 16777216 := by
  obtain ⟨⟨a1, a2, a3, a4, a5, a6⟩, ⟨b1, b2, b3, b4, b5, b6, b7, b8⟩, c1, c2, c3, ho⟩ := hA
  obtain ⟨-, -, -, ⟨b, hb, eb⟩, -⟩ := ho k hk
  have e : hg A k = b := by unfold hg; rw [eb, i_tn (by omega)]
  rw [a6, e, ← eb]
  exact ⟨am_at_g (by omega) (by omega), am_at_g (by omega) (by omega), hb⟩
/-- which of the first N hang within a set -/
noncomputable def hw (N : Nat) (A : Nat → List Int32) (s : Nat) : Nat := bset (fun k => decide (hg A k &&& s = hg A k)) N
theorem hw_tb {N s i : Nat} {A : Nat → List Int32} : (hw N A s).testBit i = true ↔ i < N ∧ sb (hg A i) s := by
  unfold hw
  rw [bset_tb, Bool.and_eq_true, decide_eq_true_eq, decide_eq_true_eq, sb_and]
theorem hangs_c {N s : Nat} {A : Nat → List Int32} {I : Nat → Int32} (hA : hAct N A I) : f_X1_hangingWithin A I (Int32.ofNat s) = some (Int32.ofNat (hw N A s)) := by
  have hA2 := hA
  obtain ⟨-, -, c1, c2, c3, -⟩ := hA
  unfold f_X1_hangingWithin hw
  have key := wl_for (step := f_X1_hangingWithin_l1 A I (Int32.ofNat s)) (fun k => (Int32.ofNat (bset (fun k => decide (hg A k &&& s = hg A k)) k), Int32.ofNat k)) N (r := Int32.ofNat (bset (fun k => decide (hg A k &&& s = hg A k)) N)) (fuel := 100000) (by omega) (fun k hk => ?_) ?_
  · rw [show ((0 : Int32), (0 : Int32)) = (Int32.ofNat (bset (fun k => decide (hg A k &&& s = hg A k)) 0), Int32.ofNat 0) from rfl, key]
    rfl
  · obtain ⟨-, r1, r2⟩ := hg_1 hA2 (k := k) (by omega)
    show f_X1_hangingWithin_l1 A I _ (_, Int32.ofNat k) = some (.inl (Int32.ofNat (bset _ (k + 1)), Int32.ofNat (k + 1)))
    unfold f_X1_hangingWithin_l1
    dsimp only
    rw [c2, if_neg (by rw [i_le (by omega) (by omega)]; omega), r1, Option.bind_some, i_addr, ← i_bset (by omega)]
    by_cases e : hg A k &&& s = hg A k
    · rw [if_pos ((i_sb (by omega)).mpr (sb_and.mp e)), Option.bind_some, if_pos (decide_eq_true e)]
    · rw [if_neg (fun q => e (sb_and.mpr ((i_sb (by omega)).mp q))), Option.bind_some, if_neg (fun q => e (of_decide_eq_true q))]
  · show f_X1_hangingWithin_l1 A I _ (_, Int32.ofNat N) = _
    unfold f_X1_hangingWithin_l1
    dsimp only
    rw [c2, if_pos (Int32.le_refl _)]
/-- each of it is saved or hangs within it -/
def cl (N : Nat) (A : Nat → List Int32) (v G : Nat) : Prop := ∀ i, G.testBit i = true → v.testBit i = true ∨ (i < N ∧ sb (hg A i) G)
/-- the greatest such set within s -/
def gr (N : Nat) (A : Nat → List Int32) (s v G : Nat) : Prop := sb G s ∧ cl N A v G ∧ ∀ H, sb H s → cl N A v H → sb H G
theorem gr_eq {N s v G G' : Nat} {A : Nat → List Int32} (h : gr N A s v G) (h' : gr N A s v G') : G = G' := sb_anti (h'.2.2 G h.1 h.2.1) (h.2.2 G' h'.1 h'.2.1)
theorem good_c {N s v : Nat} {A : Nat → List Int32} {I : Nat → Int32} (hA : hAct N A I) (hs : s < 16777216) (hv : v < 16777216) : ∃ G, f_X1_goodAmong A I (Int32.ofNat s) (Int32.ofNat v) = some (Int32.ofNat G) ∧ G < 16777216 ∧ gr N A s v G := by
  have hN : N ≤ 24 := hA.2.2.1
  obtain ⟨r, e, Q⟩ := wl_inv (s1 := f_X1_goodAmong_l1 A I (Int32.ofNat v)) (fun n y => ∃ G k, y = (Int32.ofNat G, Int32.ofNat k) ∧ n + k = 24 ∧ G < 16777216 ∧ sb G s ∧ (∀ H, sb H s → cl N A v H → sb H G) ∧ pc G + k ≤ 24) (fun r => ∃ G, (r = .inl (Int32.ofNat G) ∨ r = .inr (Int32.ofNat G)) ∧ G < 16777216 ∧ gr N A s v G) (fun n y => by
      rintro ⟨G, k, rfl, hnk, hG, h1, h2, h3⟩
      have hwl : hw N A G < 16777216 := bset_lt24 _ hN
      have hor : v ||| hw N A G < 16777216 := Nat.or_lt_two_pow (n := 24) hv hwl
      unfold f_X1_goodAmong_l1
      dsimp only
      by_cases hk : 24 ≤ k
      · right
        rw [if_pos (by rw [i_lel (by decide) (by omega)]; exact hk)]
        refine ⟨_, rfl, G, Or.inr rfl, hG, h1, ?_, h2⟩
        have h4 : pc G = 0 := by omega
        have h5 : G = 0 := by
          by_cases e : 0 = G
          · exact e.symm
          · have := (pc_sb (by decide) hG (sb_0 G)).2 e
            omega
        rw [h5]
        intro i hi
        rw [Nat.zero_testBit] at hi
        cases hi
      · rw [if_neg (by rw [i_lel (by decide) (by omega)]; exact hk), hangs_c hA, Option.bind_some, i_or, i_and, i_addr]
        have hlt : G &&& (v ||| hw N A G) < 16777216 := Nat.lt_of_le_of_lt Nat.and_le_left hG
        have tb : ∀ i, (G &&& (v ||| hw N A G)).testBit i = true ↔ G.testBit i = true ∧ (v.testBit i = true ∨ (i < N ∧ sb (hg A i) G)) := fun i => by
          rw [Nat.testBit_and, Nat.testBit_or, Bool.and_eq_true, Bool.or_eq_true, hw_tb]
        by_cases e : G &&& (v ||| hw N A G) = G
        · right
          rw [if_pos (by rw [e])]
          refine ⟨_, rfl, G, Or.inl rfl, hG, h1, ?_, h2⟩
          intro i hi
          rw [← e] at hi
          exact ((tb i).mp hi).2
        · left
          rw [if_neg (fun q => e ((i_eq (by omega) (by omega)).mp q))]
          have hsb : sb (G &&& (v ||| hw N A G)) G := fun i hi => ((tb i).mp hi).1
          have := (pc_sb hlt hG hsb).2 e
          refine ⟨_, rfl, n - 1, by omega, G &&& (v ||| hw N A G), k + 1, rfl, by omega, hlt, sb_trans hsb h1, fun H hH1 hH2 i hi => ?_, by omega⟩
          rw [tb]
          refine ⟨h2 H hH1 hH2 i hi, ?_⟩
          rcases hH2 i hi with q | ⟨q1, q2⟩
          · exact Or.inl q
          · exact Or.inr ⟨q1, sb_trans q2 (h2 H hH1 hH2)⟩) 24 100000 (Int32.ofNat s, 0) ⟨s, 0, rfl, rfl, hs, sb_refl s, fun H h _ => h, (by have := pc_le s; omega)⟩ (by decide)
  obtain ⟨G, hr, hG, hgr⟩ := Q
  refine ⟨G, ?_, hG, hgr⟩
  unfold f_X1_goodAmong
  rw [e, Option.bind_some]
  rcases hr with rfl | rfl <;> rfl
set_option maxHeartbeats 4000000 in
theorem good_m {N s v : Nat} {A : Nat → List Int32} {I : Nat → Int32} (hA : hAct N A I) (hs : s < 2 ^ N) (hv : v < 16777216) : ∃ G, f_X12_goodOf A I (Int32.ofNat s) (Int32.ofNat v) = some (Int32.ofNat G) ∧ G < 16777216 ∧ gr N A s v G := by
  have hN : N ≤ 24 := hA.2.2.1
  have hi : I 5450 = Int32.ofNat N := hA.2.2.2.2.1
  have hs24 : s < 16777216 := Nat.lt_of_lt_of_le hs (Nat.pow_le_pow_right (by decide) hN)
  -- one walk over all ACTS
  have inner : ∀ G, sb G s → (∀ H, sb H s → cl N A v H → sb H G) → ∃ G' m : Nat, wl (f_X12_goodOf_l2 A I (Int32.ofNat v)) 100000 (Int32.ofNat G, 0, 0) = some (Int32.ofNat G', Int32.ofNat m) ∧ sb G' G ∧ (∀ H, sb H s → cl N A v H → sb H G') ∧ m < 2 ∧ (m = 0 → G' = G ∧ cl N A v G) ∧ (m = 1 → G' ≠ G) := by
    intro G hGs hGm
    have hG24 : ∀ G', sb G' G → G' < 16777216 := fun G' h => Nat.lt_of_le_of_lt (by
      have := sb_and.mpr (sb_trans h hGs)
      rw [← this]
      exact Nat.and_le_right) hs24
    obtain ⟨r, e, Q⟩ := wl_inv (s1 := f_X12_goodOf_l2 A I (Int32.ofNat v)) (fun n y => ∃ G' m k, y = (Int32.ofNat G', Int32.ofNat m, Int32.ofNat k) ∧ n + k = N ∧ sb G' G ∧ (∀ H, sb H s → cl N A v H → sb H G') ∧ m < 2 ∧ (m = 0 → G' = G ∧ ∀ i, i < k → G.testBit i = true → v.testBit i = true ∨ sb (hg A i) G) ∧ (m = 1 → G' ≠ G)) (fun r => ∃ G' m, r = (Int32.ofNat G', Int32.ofNat m) ∧ sb G' G ∧ (∀ H, sb H s → cl N A v H → sb H G') ∧ m < 2 ∧ (m = 0 → G' = G ∧ ∀ i, i < N → G.testBit i = true → v.testBit i = true ∨ sb (hg A i) G) ∧ (m = 1 → G' ≠ G)) (fun n y => by
        rintro ⟨G', m, k, rfl, hnk, g1, g2, g3, g4, g5⟩
        have hG' := hG24 G' g1
        unfold f_X12_goodOf_l2
        dsimp only
        rw [hi]
        by_cases hk : N ≤ k
        · right
          rw [if_pos (by rw [i_le (by omega) (by omega)]; exact hk)]
          have : k = N := by omega
          subst this
          exact ⟨_, rfl, G', m, rfl, g1, g2, g3, g4, g5⟩
        · left
          rw [if_neg (by rw [i_le (by omega) (by omega)]; exact hk), i_bit (by omega) (by omega), i_bit (by omega) (by omega), i_addr]
          have go : ∀ (w : (Int32 × Int32 × Int32) ⊕ (Int32 × Int32)), w = .inl (Int32.ofNat G', Int32.ofNat m, Int32.ofNat (k + 1)) → (G'.testBit k = true → v.testBit k = true ∨ sb (hg A k) G') → ∃ x', some w = some (.inl x') ∧ ∃ n', n' < n ∧ ∃ G'' m' k', x' = (Int32.ofNat G'', Int32.ofNat m', Int32.ofNat k') ∧ n' + k' = N ∧ sb G'' G ∧ (∀ H, sb H s → cl N A v H → sb H G'') ∧ m' < 2 ∧ (m' = 0 → G'' = G ∧ ∀ i, i < k' → G.testBit i = true → v.testBit i = true ∨ sb (hg A i) G) ∧ (m' = 1 → G'' ≠ G) := fun w hw hok => by
            subst hw
            refine ⟨_, rfl, n - 1, by omega, G', m, k + 1, rfl, by omega, g1, g2, g3, fun q => ⟨(g4 q).1, fun i hi => ?_⟩, g5⟩
            by_cases e : i = k
            · subst e; rw [← (g4 q).1]; exact hok
            · exact (g4 q).2 i (by omega)
          cases hb : G'.testBit k with
          | false =>
            simp only [Bool.false_eq_true, if_false, if_true, Option.bind_some]
            exact go _ rfl (fun q => by cases hb.symm.trans q)
          | true =>
            cases hb2 : v.testBit k with
            | true =>
              simp only [if_true, if_neg (show ¬ (1 : Int32) = 0 by decide), Option.bind_some]
              exact go _ rfl (fun _ => Or.inl hb2)
            | false =>
              obtain ⟨r1, -, r2⟩ := hg_1 hA (k := k) (by omega)
              simp only [Bool.false_eq_true, if_true, if_false, if_neg (show ¬ (1 : Int32) = 0 by decide), if_neg (show ¬ (0 : Int32) = 1 by decide), r1, Option.bind_some]
              by_cases e : sb (hg A k) G'
              · rw [if_pos ((i_sb (by omega)).mpr e), Option.bind_some]
                exact go _ rfl (fun _ => Or.inr e)
              · rw [if_neg (fun q => e ((i_sb (by omega)).mp q)), Option.bind_some, i_clear (by omega)]
                refine ⟨_, rfl, n - 1, by omega, G' ^^^ (G' &&& 2 ^ k), 1, k + 1, rfl, by omega, ?_, ?_, by decide, fun q => absurd q (by decide), fun _ q => ?_⟩
                · intro i hi
                  rw [tb_clear, Bool.and_eq_true] at hi
                  exact g1 i hi.1
                · intro H hH1 hH2 i hi
                  rw [tb_clear, Bool.and_eq_true]
                  refine ⟨g2 H hH1 hH2 i hi, ?_⟩
                  by_cases e3 : i = k
                  · subst e3
                    rcases hH2 i hi with q | ⟨q1, q2⟩
                    · cases hb2.symm.trans q
                    · exact absurd (sb_trans q2 (g2 H hH1 hH2)) e
                  · rw [decide_eq_false e3]; rfl
                · have h1 : G.testBit k = true := g1 k hb
                  rw [← q, tb_clear, decide_eq_true rfl, Bool.not_true, Bool.and_false] at h1
                  cases h1) N 100000 (Int32.ofNat G, 0, 0) ⟨G, 0, 0, rfl, rfl, sb_refl G, hGm, by decide, fun _ => ⟨rfl, fun i h => absurd h (Nat.not_lt_zero i)⟩, fun q => absurd q (by decide)⟩ (by omega)
    obtain ⟨G', m, rfl, q1, q2, q3, q4, q5⟩ := Q
    refine ⟨G', m, e, q1, q2, q3, fun h => ⟨(q4 h).1, fun i hi => ?_⟩, q5⟩
    have hlt : i < N := by
      rcases Nat.lt_or_ge i N with h | h
      · exact h
      · have := Nat.testBit_lt_two_pow (Nat.lt_of_lt_of_le hs (Nat.pow_le_pow_right (by decide) h))
        rw [hGs i hi] at this
        cases this
    rcases (q4 h).2 i hlt hi with w | w
    · exact Or.inl w
    · exact Or.inr ⟨hlt, w⟩
  obtain ⟨r, e, Q⟩ := wl_inv (s1 := f_X12_goodOf_l1 A I (Int32.ofNat v)) (fun n y => ∃ G m, y = (Int32.ofNat G, Int32.ofNat m) ∧ G < 16777216 ∧ sb G s ∧ (∀ H, sb H s → cl N A v H → sb H G) ∧ m < 2 ∧ n = pc G + m ∧ (m = 0 → cl N A v G)) (fun r => ∃ G, r = Int32.ofNat G ∧ G < 16777216 ∧ gr N A s v G) (fun n y => by
      rintro ⟨G, m, rfl, hG, h1, h2, h3, h4, h5⟩
      unfold f_X12_goodOf_l1
      dsimp only
      rcases (show m = 0 ∨ m = 1 by omega) with rfl | rfl
      · right
        rw [if_pos (show Int32.ofNat 0 = 0 from rfl)]
        exact ⟨_, rfl, G, rfl, hG, h1, h5 rfl, h2⟩
      · left
        rw [if_neg (show ¬ Int32.ofNat 1 = 0 by decide)]
        obtain ⟨G', m, e, q1, q2, q3, q4, q5⟩ := inner G h1 h2
        have hG' : G' < 16777216 := Nat.lt_of_le_of_lt (by
          rw [← sb_and.mpr q1]
          exact Nat.and_le_right) hG
        rw [e, Option.bind_some]
        have hp := pc_sb hG' hG q1
        refine ⟨_, rfl, pc G' + m, ?_, G', m, rfl, hG', sb_trans q1 h1, q2, q3, rfl, fun q => by rw [(q4 q).1]; exact (q4 q).2⟩
        rcases (show m = 0 ∨ m = 1 by omega) with rfl | rfl
        · omega
        · have := hp.2 (q5 rfl); omega) (pc s + 1) 100000 (Int32.ofNat s, 1) ⟨s, 1, rfl, hs24, sb_refl s, fun H h _ => h, by decide, rfl, fun q => absurd q (by decide)⟩ (by have := pc_le s; omega)
  obtain ⟨G, rfl, hG, hgr⟩ := Q
  refine ⟨G, ?_, hG, hgr⟩
  unfold f_X12_goodOf
  rw [show (Int32.ofNat s, (1 : Int32)) = (Int32.ofNat s, (1 : Int32)) from rfl, e]
  rfl
/-- GOOD: both alike -/
theorem good_1 {N s v : Nat} {A : Nat → List Int32} {I : Nat → Int32} (hA : hAct N A I) (hs : s < 2 ^ N) (hv : v < 16777216) : ∃ G, f_X1_goodAmong A I (Int32.ofNat s) (Int32.ofNat v) = some (Int32.ofNat G) ∧ f_X12_goodOf A I (Int32.ofNat s) (Int32.ofNat v) = some (Int32.ofNat G) ∧ G < 16777216 ∧ gr N A s v G := by
  have hN : N ≤ 24 := hA.2.2.1
  obtain ⟨G, e1, h1, g1⟩ := good_c hA (s := s) (Nat.lt_of_lt_of_le hs (Nat.pow_le_pow_right (by decide) hN)) hv
  obtain ⟨G', e2, h2, g2⟩ := good_m hA hs hv
  have := gr_eq g1 g2
  subst this
  exact ⟨G, e1, e2, h1, g1⟩
