/-! ===== FIRM ===== -/
/-- what is SOUND and is saved or hangs within F lies in F -/
def pre (N : Nat) (A : Nat → List Int32) (s v F : Nat) : Prop := ∀ i, s.testBit i = true → (v.testBit i = true ∨ (i < N ∧ sb (hg A i) F)) → F.testBit i = true
/-- the least such set -/
def ls (N : Nat) (A : Nat → List Int32) (s v F : Nat) : Prop := pre N A s v F ∧ ∀ Q, pre N A s v Q → sb F Q
theorem ls_eq {N s v F F' : Nat} {A : Nat → List Int32} (h : ls N A s v F) (h' : ls N A s v F') : F = F' := sb_anti (h.2 F' h'.1) (h'.2 F h.1)
theorem firm_c {N s v : Nat} {A : Nat → List Int32} {I : Nat → Int32} (hA : hAct N A I) (hs : s < 2 ^ N) (hv : v < 16777216) : ∃ F, f_X1_firmAmong A I (Int32.ofNat s) (Int32.ofNat v) = some (Int32.ofNat F) ∧ F < 16777216 ∧ ls N A s v F := by
  have hN : N ≤ 24 := hA.2.2.1
  have hs24 : s < 16777216 := Nat.lt_of_lt_of_le hs (Nat.pow_le_pow_right (by decide) hN)
  have tb : ∀ F i, (s &&& (v ||| hw N A F)).testBit i = true ↔ s.testBit i = true ∧ (v.testBit i = true ∨ (i < N ∧ sb (hg A i) F)) := fun F i => by
    rw [Nat.testBit_and, Nat.testBit_or, Bool.and_eq_true, Bool.or_eq_true, hw_tb]
  obtain ⟨r, e, Q⟩ := wl_inv (s1 := f_X1_firmAmong_l1 A I (Int32.ofNat s) (Int32.ofNat v)) (fun n y => ∃ F k, y = (Int32.ofNat F, Int32.ofNat k) ∧ n + k = 24 ∧ F < 16777216 ∧ sb F (s &&& (v ||| hw N A F)) ∧ (∀ Q, pre N A s v Q → sb F Q) ∧ k ≤ pc F) (fun r => ∃ F, (r = .inl (Int32.ofNat F) ∨ r = .inr (Int32.ofNat F)) ∧ F < 16777216 ∧ ls N A s v F) (fun n y => by
      rintro ⟨F, k, rfl, hnk, hF, h1, h2, h3⟩
      have hwl : hw N A F < 16777216 := bset_lt24 _ hN
      have hor : v ||| hw N A F < 16777216 := Nat.or_lt_two_pow (n := 24) hv hwl
      have hlt : s &&& (v ||| hw N A F) < 16777216 := Nat.lt_of_le_of_lt Nat.and_le_left hs24
      unfold f_X1_firmAmong_l1
      dsimp only
      by_cases hk : 24 ≤ k
      · right
        rw [if_pos (by rw [i_lel (by decide) (by omega)]; exact hk)]
        refine ⟨_, rfl, F, Or.inr rfl, hF, ?_, h2⟩
        have h4 : pc F = 24 := by have := pc_le F; omega
        intro i hi _
        have : i < 24 := by
          rcases Nat.lt_or_ge i 24 with h | h
          · exact h
          · have := Nat.testBit_lt_two_pow (Nat.lt_of_lt_of_le hs24 (Nat.pow_le_pow_right (n := 2) (by decide) h))
            rw [hi] at this
            cases this
        exact pcf_full 24 F h4 i this
      · rw [if_neg (by rw [i_lel (by decide) (by omega)]; exact hk), hangs_c hA, Option.bind_some, i_or, i_and, i_addr]
        by_cases e : s &&& (v ||| hw N A F) = F
        · right
          rw [if_pos (by rw [e])]
          refine ⟨_, rfl, F, Or.inl rfl, hF, ?_, h2⟩
          intro i hi hx
          rw [← e]
          exact (tb F i).mpr ⟨hi, hx⟩
        · left
          rw [if_neg (fun q => e ((i_eq (by omega) (by omega)).mp q))]
          have := (pc_sb hF hlt h1).2 (fun q => e q.symm)
          refine ⟨_, rfl, n - 1, by omega, s &&& (v ||| hw N A F), k + 1, rfl, by omega, hlt, fun i hi => ?_, fun Q hQ i hi => ?_, by omega⟩
          · rw [tb] at hi ⊢
            refine ⟨hi.1, ?_⟩
            rcases hi.2 with q | ⟨q1, q2⟩
            · exact Or.inl q
            · exact Or.inr ⟨q1, sb_trans q2 h1⟩
          · rw [tb] at hi
            refine hQ i hi.1 ?_
            rcases hi.2 with q | ⟨q1, q2⟩
            · exact Or.inl q
            · exact Or.inr ⟨q1, sb_trans q2 (h2 Q hQ)⟩) 24 100000 (0, 0) ⟨0, 0, rfl, rfl, by decide, sb_0 _, fun Q _ => sb_0 Q, Nat.zero_le _⟩ (by decide)
  obtain ⟨F, hr, hF, hls⟩ := Q
  refine ⟨F, ?_, hF, hls⟩
  unfold f_X1_firmAmong
  rw [e, Option.bind_some]
  rcases hr with rfl | rfl <;> rfl
set_option maxHeartbeats 4000000 in
theorem firm_m {N s v : Nat} {A : Nat → List Int32} {I : Nat → Int32} (hA : hAct N A I) (hs : s < 2 ^ N) (hv : v < 16777216) : ∃ F, f_X12_firmOf A I (Int32.ofNat s) (Int32.ofNat v) = some (Int32.ofNat F) ∧ F < 16777216 ∧ ls N A s v F := by
  have hN : N ≤ 24 := hA.2.2.1
  have hi : I 5450 = Int32.ofNat N := hA.2.2.2.2.1
  have hs24 : s < 16777216 := Nat.lt_of_lt_of_le hs (Nat.pow_le_pow_right (by decide) hN)
  have inner : ∀ F, F < 16777216 → (∀ Q, pre N A s v Q → sb F Q) → ∃ F' m : Nat, wl (f_X12_firmOf_l2 A I (Int32.ofNat s) (Int32.ofNat v)) 100000 (Int32.ofNat F, 0, 0) = some (Int32.ofNat F', Int32.ofNat m) ∧ sb F F' ∧ F' < 16777216 ∧ (∀ Q, pre N A s v Q → sb F' Q) ∧ m < 2 ∧ (m = 0 → F' = F ∧ pre N A s v F) ∧ (m = 1 → F ≠ F') := by
    intro F hF hFm
    obtain ⟨r, e, Q⟩ := wl_inv (s1 := f_X12_firmOf_l2 A I (Int32.ofNat s) (Int32.ofNat v)) (fun n y => ∃ F' m k, y = (Int32.ofNat F', Int32.ofNat m, Int32.ofNat k) ∧ n + k = N ∧ sb F F' ∧ F' < 16777216 ∧ (∀ Q, pre N A s v Q → sb F' Q) ∧ m < 2 ∧ (m = 0 → F' = F ∧ ∀ i, i < k → s.testBit i = true → (v.testBit i = true ∨ sb (hg A i) F) → F.testBit i = true) ∧ (m = 1 → F ≠ F')) (fun r => ∃ F' m, r = (Int32.ofNat F', Int32.ofNat m) ∧ sb F F' ∧ F' < 16777216 ∧ (∀ Q, pre N A s v Q → sb F' Q) ∧ m < 2 ∧ (m = 0 → F' = F ∧ ∀ i, i < N → s.testBit i = true → (v.testBit i = true ∨ sb (hg A i) F) → F.testBit i = true) ∧ (m = 1 → F ≠ F')) (fun n y => by
        rintro ⟨F', m, k, rfl, hnk, g1, hF', g2, g3, g4, g5⟩
        unfold f_X12_firmOf_l2
        dsimp only
        rw [hi]
        by_cases hk : N ≤ k
        · right
          rw [if_pos (by rw [i_le (by omega) (by omega)]; exact hk)]
          have : k = N := by omega
          subst this
          exact ⟨_, rfl, F', m, rfl, g1, hF', g2, g3, g4, g5⟩
        · left
          rw [if_neg (by rw [i_le (by omega) (by omega)]; exact hk), i_bit (by omega) (by omega), i_bit (by omega) (by omega), i_bit (by omega) (by omega), i_addr]
          have go : ∀ (w : (Int32 × Int32 × Int32) ⊕ (Int32 × Int32)), w = .inl (Int32.ofNat F', Int32.ofNat m, Int32.ofNat (k + 1)) → (s.testBit k = true → (v.testBit k = true ∨ sb (hg A k) F') → F'.testBit k = true) → ∃ x', some w = some (.inl x') ∧ ∃ n', n' < n ∧ ∃ F'' m' k', x' = (Int32.ofNat F'', Int32.ofNat m', Int32.ofNat k') ∧ n' + k' = N ∧ sb F F'' ∧ F'' < 16777216 ∧ (∀ Q, pre N A s v Q → sb F'' Q) ∧ m' < 2 ∧ (m' = 0 → F'' = F ∧ ∀ i, i < k' → s.testBit i = true → (v.testBit i = true ∨ sb (hg A i) F) → F.testBit i = true) ∧ (m' = 1 → F ≠ F'') := fun w hw hok => by
            subst hw
            refine ⟨_, rfl, n - 1, by omega, F', m, k + 1, rfl, by omega, g1, hF', g2, g3, fun q => ⟨(g4 q).1, fun i hi => ?_⟩, g5⟩
            by_cases e : i = k
            · subst e; rw [← (g4 q).1]; exact hok
            · exact (g4 q).2 i (by omega)
          have add : F'.testBit k = false → s.testBit k = true → (v.testBit k = true ∨ sb (hg A k) F') → ∃ x', some (Sum.inl (Int32.ofNat (F' ||| 2 ^ k), (1 : Int32), Int32.ofNat (k + 1)) : (Int32 × Int32 × Int32) ⊕ (Int32 × Int32)) = some (.inl x') ∧ ∃ n', n' < n ∧ ∃ F'' m' k', x' = (Int32.ofNat F'', Int32.ofNat m', Int32.ofNat k') ∧ n' + k' = N ∧ sb F F'' ∧ F'' < 16777216 ∧ (∀ Q, pre N A s v Q → sb F'' Q) ∧ m' < 2 ∧ (m' = 0 → F'' = F ∧ ∀ i, i < k' → s.testBit i = true → (v.testBit i = true ∨ sb (hg A i) F) → F.testBit i = true) ∧ (m' = 1 → F ≠ F'') := fun hb hsk hx => by
            refine ⟨_, rfl, n - 1, by omega, F' ||| 2 ^ k, 1, k + 1, rfl, by omega, fun i hi => ?_, or_lt (n := 24) hF' (by omega), fun Q hQ i hi => ?_, by decide, fun q => absurd q (by decide), fun _ q => ?_⟩
            · rw [tb_or, g1 i hi]; rfl
            · rw [tb_or, Bool.or_eq_true, decide_eq_true_eq] at hi
              rcases hi with h | h
              · exact g2 Q hQ i h
              · subst h
                refine hQ i hsk ?_
                rcases hx with w | w
                · exact Or.inl w
                · exact Or.inr ⟨by omega, sb_trans w (g2 Q hQ)⟩
            · have h1 : F.testBit k = true := by rw [q, tb_or, decide_eq_true rfl, Bool.or_true]
              cases hb.symm.trans (g1 k h1)
          cases hb : F'.testBit k with
          | true =>
            simp only [if_true, Option.bind_some]
            exact go _ rfl (fun _ _ => hb)
          | false =>
            cases hb1 : s.testBit k with
            | false =>
              simp only [Bool.false_eq_true, if_true, if_false, if_neg (show ¬ (0 : Int32) = 1 by decide), Option.bind_some]
              exact go _ rfl (fun q => by cases hb1.symm.trans q)
            | true =>
              cases hb2 : v.testBit k with
              | true =>
                simp only [Bool.false_eq_true, if_true, if_false, if_neg (show ¬ (0 : Int32) = 1 by decide), if_neg (show ¬ (1 : Int32) = 0 by decide), Option.bind_some, i_set (show k < 32 by omega)]
                exact add hb hb1 (Or.inl hb2)
              | false =>
                obtain ⟨r1, -, r2⟩ := hg_1 hA (k := k) (by omega)
                simp only [Bool.false_eq_true, if_true, if_false, if_neg (show ¬ (0 : Int32) = 1 by decide), if_neg (show ¬ (1 : Int32) = 0 by decide), r1, Option.bind_some]
                by_cases e : sb (hg A k) F'
                · rw [if_pos ((i_sb (by omega)).mpr e), Option.bind_some, i_set (show k < 32 by omega)]
                  exact add hb hb1 (Or.inr e)
                · rw [if_neg (fun q => e ((i_sb (by omega)).mp q)), Option.bind_some]
                  exact go _ rfl (fun _ q => by
                    rcases q with q | q
                    · cases hb2.symm.trans q
                    · exact absurd q e)) N 100000 (Int32.ofNat F, 0, 0) ⟨F, 0, 0, rfl, rfl, sb_refl F, hF, hFm, by decide, fun _ => ⟨rfl, fun i h => absurd h (Nat.not_lt_zero i)⟩, fun q => absurd q (by decide)⟩ (by omega)
    obtain ⟨F', m, rfl, q1, q0, q2, q3, q4, q5⟩ := Q
    refine ⟨F', m, e, q1, q0, q2, q3, fun h => ⟨(q4 h).1, fun i hi hx => ?_⟩, q5⟩
    have hlt : i < N := by
      rcases Nat.lt_or_ge i N with h | h
      · exact h
      · have := Nat.testBit_lt_two_pow (Nat.lt_of_lt_of_le hs (Nat.pow_le_pow_right (by decide) h))
        rw [hi] at this
        cases this
    exact (q4 h).2 i hlt hi (hx.imp id (fun w => w.2))
  obtain ⟨r, e, Q⟩ := wl_inv (s1 := f_X12_firmOf_l1 A I (Int32.ofNat s) (Int32.ofNat v)) (fun n y => ∃ F m, y = (Int32.ofNat F, Int32.ofNat m) ∧ F < 16777216 ∧ (∀ Q, pre N A s v Q → sb F Q) ∧ m < 2 ∧ n + pc F = 24 + m ∧ (m = 0 → pre N A s v F)) (fun r => ∃ F, r = Int32.ofNat F ∧ F < 16777216 ∧ ls N A s v F) (fun n y => by
      rintro ⟨F, m, rfl, hF, h2, h3, h4, h5⟩
      unfold f_X12_firmOf_l1
      dsimp only
      rcases (show m = 0 ∨ m = 1 by omega) with rfl | rfl
      · right
        rw [if_pos (show Int32.ofNat 0 = 0 from rfl)]
        exact ⟨_, rfl, F, rfl, hF, h5 rfl, h2⟩
      · left
        rw [if_neg (show ¬ Int32.ofNat 1 = 0 by decide)]
        obtain ⟨F', m, e, q1, q0, q2, q3, q4, q5⟩ := inner F hF h2
        rw [e, Option.bind_some]
        have hp := pc_sb hF q0 q1
        have hle := pc_le F'
        refine ⟨_, rfl, 24 + m - pc F', ?_, F', m, rfl, q0, q2, q3, by omega, fun q => by rw [(q4 q).1]; exact (q4 q).2⟩
        rcases (show m = 0 ∨ m = 1 by omega) with rfl | rfl
        · omega
        · have := hp.2 (q5 rfl); omega) (25 - pc 0) 100000 (0, 1) ⟨0, 1, rfl, by decide, fun Q _ => sb_0 Q, by decide, by have := pc_le 0; omega, fun q => absurd q (by decide)⟩ (by omega)
  obtain ⟨F, rfl, hF, hls⟩ := Q
  refine ⟨F, ?_, hF, hls⟩
  unfold f_X12_firmOf
  rw [e]
  rfl
/-- FIRM: both alike -/
theorem firm_1 {N s v : Nat} {A : Nat → List Int32} {I : Nat → Int32} (hA : hAct N A I) (hs : s < 2 ^ N) (hv : v < 16777216) : ∃ F, f_X1_firmAmong A I (Int32.ofNat s) (Int32.ofNat v) = some (Int32.ofNat F) ∧ f_X12_firmOf A I (Int32.ofNat s) (Int32.ofNat v) = some (Int32.ofNat F) ∧ F < 16777216 := by
  obtain ⟨F, e1, h1, g1⟩ := firm_c hA hs hv
  obtain ⟨F', e2, h2, g2⟩ := firm_m hA hs hv
  have := ls_eq g1 g2
  subst this
  exact ⟨F, e1, e2, h1⟩
/-! the sets of ACTS under a SIDE -/
noncomputable def tr (N T : Nat) (A : Nat → List Int32) (s q : Nat) : Nat := bset (fun k => !decide (vl T A s k q = 0)) N
theorem tr_lt {N T s q : Nat} {A : Nat → List Int32} : tr N T A s q < 2 ^ N := bset_lt _ _
section Tr
variable {P N T X s q : Nat} {A : Nat → List Int32} {I : Nat → Int32} {x : am_X}
theorem tr_c (hP : hPpl P A I) (hT : hTrn T A I) (hA : hAct N A I) (hX : hTxt X A I x) (h41 : (A 41).length = 6) (h42 : (A 42).length = 40) (hs : s < 3) (hq : q < 2) : ∃ F' S', f_X1_trueUnder A I x (Int32.ofNat s) (Int32.ofNat q) = some (Int32.ofNat (tr N T A s q), F', S') ∧ F'.length = 6 ∧ S'.length = 40 := by
  obtain ⟨-, -, c1, c2, c3, -⟩ := id hA
  obtain ⟨r, e, Q⟩ := wl_inv (s1 := f_X1_trueUnder_l1 A I x (Int32.ofNat s) (Int32.ofNat q)) (fun n y => ∃ k F S, y = (Int32.ofNat (bset (fun k => !decide (vl T A s k q = 0)) k), Int32.ofNat k, F, S) ∧ n + k = N ∧ F.length = 6 ∧ S.length = 40) (fun r => ∃ F S, r = (Int32.ofNat (tr N T A s q), F, S) ∧ F.length = 6 ∧ S.length = 40) (fun n y => by
    rintro ⟨k, F, S, rfl, hnk, hF, hS⟩
    unfold f_X1_trueUnder_l1
    dsimp only
    rw [c2]
    by_cases hk : N ≤ k
    · right
      rw [if_pos (by rw [i_le (by omega) (by omega)]; exact hk)]
      have : k = N := by omega
      subst this
      exact ⟨_, rfl, F, S, rfl, hF, hS⟩
    · left
      rw [if_neg (by rw [i_le (by omega) (by omega)]; exact hk)]
      obtain ⟨F', S', e, l1, l2⟩ := valueOf_c (A := up (up A 41 F) 42 S) (I := I) (x := x) hP hT hA hX hF hS hs (show k < 24 by omega) hq
      rw [e, Option.bind_some, i_addr]
      refine ⟨(Int32.ofNat (bset (fun k => !decide (vl T A s k q = 0)) (k + 1)), Int32.ofNat (k + 1), F', S'), ?_, n - 1, by omega, k + 1, F', S', rfl, by omega, l1, l2⟩
      rw [← i_bset (by omega)]
      show ((if vl T A s k q = 0 then some 0 else some (1 <<< (Int32.ofNat k &&& 31))) : Option Int32).bind _ = _
      by_cases e0 : vl T A s k q = 0
      · rw [if_pos e0, Option.bind_some, if_neg (by rw [decide_eq_true e0]; decide)]
      · rw [if_neg e0, Option.bind_some, if_pos (by rw [decide_eq_false e0]; rfl)]) N 100000 (0, 0, A 41, A 42) ⟨0, A 41, A 42, rfl, rfl, h41, h42⟩ (by omega)
  obtain ⟨F, S, rfl, l1, l2⟩ := Q
  refine ⟨F, S, ?_, l1, l2⟩
  unfold f_X1_trueUnder
  rw [e]
  rfl
theorem tr_m0 (hP : hPpl P A I) (hT : hTm T A I) (hA : hAct N A I) (hX : hTxt X A I x) (h107 : (A 107).length = 6) (h108 : (A 108).length = 161) (hs : s < 3) : ∃ F' S', f_X12_soundBy A I (Int32.ofNat s) = some (Int32.ofNat (tr N T A s 0), F', S') ∧ F'.length = 6 ∧ S'.length = 161 := by
  obtain ⟨-, -, c1, c2, c3, -⟩ := id hA
  obtain ⟨r, e, Q⟩ := wl_inv (s1 := f_X12_soundBy_l1 A I (Int32.ofNat s)) (fun n y => ∃ k F S, y = (Int32.ofNat (bset (fun k => !decide (vl T A s k 0 = 0)) k), Int32.ofNat k, F, S) ∧ n + k = N ∧ F.length = 6 ∧ S.length = 161) (fun r => ∃ F S, r = (Int32.ofNat (tr N T A s 0), F, S) ∧ F.length = 6 ∧ S.length = 161) (fun n y => by
    rintro ⟨k, F, S, rfl, hnk, hF, hS⟩
    unfold f_X12_soundBy_l1
    dsimp only
    rw [c3]
    by_cases hk : N ≤ k
    · right
      rw [if_pos (by rw [i_le (by omega) (by omega)]; exact hk)]
      have : k = N := by omega
      subst this
      exact ⟨_, rfl, F, S, rfl, hF, hS⟩
    · left
      rw [if_neg (by rw [i_le (by omega) (by omega)]; exact hk)]
      obtain ⟨F', S', e, l1, l2⟩ := ask_m (A := up (up A 107 F) 108 S) (I := I) (x := x) (q := 0) hP hT hA hX hF hS hs (show k < 24 by omega) (by decide)
      rw [show f_X12_ask (up (up A 107 F) 108 S) I (Int32.ofNat s) (Int32.ofNat k) 0 = _ from e, Option.bind_some, i_addr]
      refine ⟨(Int32.ofNat (bset (fun k => !decide (vl T A s k 0 = 0)) (k + 1)), Int32.ofNat (k + 1), F', S'), ?_, n - 1, by omega, k + 1, F', S', rfl, by omega, l1, l2⟩
      rw [← i_bset (by omega)]
      show ((if vl T A s k 0 = 0 then some 0 else some (1 <<< (Int32.ofNat k &&& 31))) : Option Int32).bind _ = _
      by_cases e0 : vl T A s k 0 = 0
      · rw [if_pos e0, Option.bind_some, if_neg (by rw [decide_eq_true e0]; decide)]
      · rw [if_neg e0, Option.bind_some, if_pos (by rw [decide_eq_false e0]; rfl)]) N 100000 (0, 0, A 107, A 108) ⟨0, A 107, A 108, rfl, rfl, h107, h108⟩ (by omega)
  obtain ⟨F, S, rfl, l1, l2⟩ := Q
  refine ⟨F, S, ?_, l1, l2⟩
  unfold f_X12_soundBy
  rw [e]
  rfl
theorem tr_m1 (hP : hPpl P A I) (hT : hTm T A I) (hA : hAct N A I) (hX : hTxt X A I x) (h107 : (A 107).length = 6) (h108 : (A 108).length = 161) (hs : s < 3) : ∃ F' S', f_X12_savedBy A I (Int32.ofNat s) = some (Int32.ofNat (tr N T A s 1), F', S') ∧ F'.length = 6 ∧ S'.length = 161 := by
  obtain ⟨-, -, c1, c2, c3, -⟩ := id hA
  obtain ⟨r, e, Q⟩ := wl_inv (s1 := f_X12_savedBy_l1 A I (Int32.ofNat s)) (fun n y => ∃ k F S, y = (Int32.ofNat (bset (fun k => !decide (vl T A s k 1 = 0)) k), Int32.ofNat k, F, S) ∧ n + k = N ∧ F.length = 6 ∧ S.length = 161) (fun r => ∃ F S, r = (Int32.ofNat (tr N T A s 1), F, S) ∧ F.length = 6 ∧ S.length = 161) (fun n y => by
    rintro ⟨k, F, S, rfl, hnk, hF, hS⟩
    unfold f_X12_savedBy_l1
    dsimp only
    rw [c3]
    by_cases hk : N ≤ k
    · right
      rw [if_pos (by rw [i_le (by omega) (by omega)]; exact hk)]
      have : k = N := by omega
      subst this
      exact ⟨_, rfl, F, S, rfl, hF, hS⟩
    · left
      rw [if_neg (by rw [i_le (by omega) (by omega)]; exact hk)]
      obtain ⟨F', S', e, l1, l2⟩ := ask_m (A := up (up A 107 F) 108 S) (I := I) (x := x) (q := 1) hP hT hA hX hF hS hs (show k < 24 by omega) (by decide)
      rw [show f_X12_ask (up (up A 107 F) 108 S) I (Int32.ofNat s) (Int32.ofNat k) 1 = _ from e, Option.bind_some, i_addr]
      refine ⟨(Int32.ofNat (bset (fun k => !decide (vl T A s k 1 = 0)) (k + 1)), Int32.ofNat (k + 1), F', S'), ?_, n - 1, by omega, k + 1, F', S', rfl, by omega, l1, l2⟩
      rw [← i_bset (by omega)]
      show ((if vl T A s k 1 = 0 then some 0 else some (1 <<< (Int32.ofNat k &&& 31))) : Option Int32).bind _ = _
      by_cases e0 : vl T A s k 1 = 0
      · rw [if_pos e0, Option.bind_some, if_neg (by rw [decide_eq_true e0]; decide)]
      · rw [if_neg e0, Option.bind_some, if_pos (by rw [decide_eq_false e0]; rfl)]) N 100000 (0, 0, A 107, A 108) ⟨0, A 107, A 108, rfl, rfl, h107, h108⟩ (by omega)
  obtain ⟨F, S, rfl, l1, l2⟩ := Q
  refine ⟨F, S, ?_, l1, l2⟩
  unfold f_X12_savedBy
  rw [e]
  rfl
end Tr
