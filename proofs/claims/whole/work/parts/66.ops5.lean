/-! ===== calls: act, elector, clause, clash, against, count, feed (by wip/whole/gen_ops5.py) ===== -/
theorem act_new {N q p y d : Nat} {A : Nat → List Int32} {I : Nat → Int32} (hA : hAct N A I) (hN : N < 24) (hq : q < 6) (hp : p < 12) (hy : y < 100) (h72 : q = 1 → y < 72) (hd : d < 10000) (f : Int32) : v_act (N + 1) ((A 94).set N (Int32.ofNat q)) ((A 95).set N (Int32.ofNat p)) ((A 96).set N (Int32.ofNat y)) ((A 97).set N (Int32.ofNat d)) ((A 98).set N f) (A 35) (A 36) (Int32.ofNat (N + 1)) ((A 94).set N (Int32.ofNat q)) ((A 95).set N (Int32.ofNat p)) ((A 96).set N (Int32.ofNat y)) ((A 97).set N (Int32.ofNat d)) ((A 98).set N f) ((A 99).set N 0) ((A 100).set N (-1)) (Int32.ofNat (N + 1)) := by
  obtain ⟨⟨a1, a2, a3, a4, a5, a6⟩, ⟨b1, b2, b3, b4, b5, b6, b7, b8⟩, c1, c2, c3, ho⟩ := hA
  obtain ⟨-, -, -, -, z5, -, z7, -⟩ := ho N hN
  have e99 : (A 99).set N 0 = A 99 := set_self (by omega) (z5 (Nat.le_refl _))
  refine ⟨⟨rfl, rfl, rfl, rfl, rfl, by rw [e99]; exact a6⟩, ⟨b1, by rw [List.length_set]; exact b2, by rw [List.length_set]; exact b3, by rw [List.length_set]; exact b4, by rw [List.length_set]; exact b5, by rw [List.length_set]; exact b6, by rw [List.length_set]; exact b7, by rw [List.length_set]; exact b8⟩, by omega, rfl, rfl, fun k hk => ?_⟩
  unfold v_one
  rw [e99]
  by_cases e : k = N
  · subst e
    rw [g_set_eq (by omega), g_set_eq (by omega), g_set_eq (by omega), g_set_eq (by omega), g_set_eq (by omega)]
    have := z7 (Nat.le_refl _)
    refine ⟨⟨q, hq, rfl⟩, ⟨p, hp, rfl⟩, ⟨y, hy, rfl, fun h => h72 ((i_eqr (by omega) (by decide)).mp h)⟩, ⟨0, by decide, z5 (Nat.le_refl _)⟩, fun h => absurd h (by omega), fun _ => this, fun h => absurd h (by omega), d, hd, rfl, Or.inl this⟩
  · rw [g_set_ne e, g_set_ne e, g_set_ne e, g_set_ne e, g_set_ne e]
    obtain ⟨y1, y2, y3, y4, y5, y6, y7, y8⟩ := ho k hk
    exact ⟨y1, y2, y3, y4, fun h => y5 (by omega), fun h => y6 (by omega), fun h => y7 (by omega), y8⟩
theorem op_act (xs : List Int32) {n : Nat} {A : Nat → List Int32} {I : Nat → Int32} {x : am_X} (h : Iv0 n A I x) (a1 : Int32) (a2 : Int32) (a3 : Int32) (a4 : Int32) (a5 : Int32) : am_op xs n ix_X11_act ix_X12_act [.int a1, .int a2, .int a3, .int a4, .int a5] A I x := by
  obtain ⟨⟨P, N, T, R, E, C, X, Z, hI⟩, hx⟩ := h
  have hA := hI.2.2.2.1
  have z10 : ¬ (1 : Int32) = 0 := by decide
  obtain ⟨⟨a1', a2', a3', a4', a5', a6'⟩, ⟨b1, b2, b3, b4, b5, b6, b7, b8⟩, c1, c2, c3, ho⟩ := id hA
  obtain ⟨-, -, p3, p4, p5, -⟩ := id hI.1
  rcases wi_l 5 (by decide) a1 with w | ⟨q, hq, rfl, w⟩
  · skip
    have e1 : f_X11_act A I a1 a2 a3 a4 a5 = some (-2, (A 30), (A 31), (A 32), (A 33), (A 34), (I 1863)) := by
      unfold f_X11_act f_X11_isDay
      rw [w, Option.bind_some, if_pos rfl]
    have e2 : f_X12_act (up (up (up (up (up A 30 (A 30)) 31 (A 31)) 32 (A 32)) 33 (A 33)) 34 (A 34)) (up I 1863 (I 1863)) a1 a2 a3 a4 a5 = some (-2, (A 94), (A 95), (A 96), (A 97), (A 98), (A 99), (A 100), (I 5450)) := by
      unfold f_X12_act f_X12_isDay
      rw [in_X, w, Option.bind_some, if_pos rfl]
      rfl
    have c1 := t_X11_act (xs := xs) A I x a1 a2 a3 a4 a5 e1
    have c2 := t_X12_act (xs := xs) (up (up (up (up (up A 30 (A 30)) 31 (A 31)) 32 (A 32)) 33 (A 33)) 34 (A 34)) (up I 1863 (I 1863)) x a1 a2 a3 a4 a5 e2
    exact am_op.mk hx c1 (by decide) c2 (by decide) ⟨P, N, T, R, E, C, X, Z, ⟨hI.1, hI.2.1, hI.2.2.1, hI.2.2.2.1, hI.2.2.2.2.1, hI.2.2.2.2.2.1, hI.2.2.2.2.2.2.1, hI.2.2.2.2.2.2.2.1, hI.2.2.2.2.2.2.2.2.1, hI.2.2.2.2.2.2.2.2.2.1, hI.2.2.2.2.2.2.2.2.2.2.1, hI.2.2.2.2.2.2.2.2.2.2.2.1, hI.2.2.2.2.2.2.2.2.2.2.2.2⟩⟩
  · rcases c_Person P (by omega) a2 with ⟨w2, v2⟩ | ⟨p, hp, rfl, w2, v2⟩
    · have w2 := w2 A I p4
      have v2 := v2 (up (up (up (up (up A 30 (A 30)) 31 (A 31)) 32 (A 32)) 33 (A 33)) 34 (A 34)) (up I 1863 (I 1863)) p5
      have e1 : f_X11_act A I (Int32.ofNat q) a2 a3 a4 a5 = some (-2, (A 30), (A 31), (A 32), (A 33), (A 34), (I 1863)) := by
        unfold f_X11_act f_X11_isDay
        rw [w, Option.bind_some, if_neg z10]
        rw [w2, Option.bind_some, if_pos rfl]
      have e2 : f_X12_act (up (up (up (up (up A 30 (A 30)) 31 (A 31)) 32 (A 32)) 33 (A 33)) 34 (A 34)) (up I 1863 (I 1863)) (Int32.ofNat q) a2 a3 a4 a5 = some (-2, (A 94), (A 95), (A 96), (A 97), (A 98), (A 99), (A 100), (I 5450)) := by
        unfold f_X12_act f_X12_isDay
        rw [in_X, w, Option.bind_some, if_neg z10]
        rw [v2, Option.bind_some, if_pos rfl]
        rfl
      have c1 := t_X11_act (xs := xs) A I x (Int32.ofNat q) a2 a3 a4 a5 e1
      have c2 := t_X12_act (xs := xs) (up (up (up (up (up A 30 (A 30)) 31 (A 31)) 32 (A 32)) 33 (A 33)) 34 (A 34)) (up I 1863 (I 1863)) x (Int32.ofNat q) a2 a3 a4 a5 e2
      exact am_op.mk hx c1 (by decide) c2 (by decide) ⟨P, N, T, R, E, C, X, Z, ⟨hI.1, hI.2.1, hI.2.2.1, hI.2.2.2.1, hI.2.2.2.2.1, hI.2.2.2.2.2.1, hI.2.2.2.2.2.2.1, hI.2.2.2.2.2.2.2.1, hI.2.2.2.2.2.2.2.2.1, hI.2.2.2.2.2.2.2.2.2.1, hI.2.2.2.2.2.2.2.2.2.2.1, hI.2.2.2.2.2.2.2.2.2.2.2.1, hI.2.2.2.2.2.2.2.2.2.2.2.2⟩⟩
    · have w2 := w2 A I p4
      have v2' := v2 (up (up (up (up (up A 30 (A 30)) 31 (A 31)) 32 (A 32)) 33 (A 33)) 34 (A 34)) (up I 1863 (I 1863)) p5
      by_cases hq1 : q = 1
      · have hqe : Int32.ofNat q = 1 := (i_eqr (by omega) (by decide)).mpr hq1
        have hql : ((if Int32.ofNat q = 1 then some 71 else some 99) : Option Int32) = some 71 := if_pos hqe
        rcases wi_l 71 (by decide) a3 with w3 | ⟨y, hy, rfl, w3⟩
        · skip
          have e1 : f_X11_act A I (Int32.ofNat q) (Int32.ofNat p) a3 a4 a5 = some (-2, (A 30), (A 31), (A 32), (A 33), (A 34), (I 1863)) := by
            unfold f_X11_act f_X11_isDay
            rw [w, Option.bind_some, if_neg z10]
            rw [w2, Option.bind_some, if_neg z10]
            rw [hql, Option.bind_some]
            rw [w3, Option.bind_some, if_pos rfl]
          have e2 : f_X12_act (up (up (up (up (up A 30 (A 30)) 31 (A 31)) 32 (A 32)) 33 (A 33)) 34 (A 34)) (up I 1863 (I 1863)) (Int32.ofNat q) (Int32.ofNat p) a3 a4 a5 = some (-2, (A 94), (A 95), (A 96), (A 97), (A 98), (A 99), (A 100), (I 5450)) := by
            unfold f_X12_act f_X12_isDay
            rw [in_X, w, Option.bind_some, if_neg z10]
            rw [v2', Option.bind_some, if_neg z10]
            rw [hql, Option.bind_some]
            rw [in_X, w3, Option.bind_some, if_pos rfl]
            rfl
          have c1 := t_X11_act (xs := xs) A I x (Int32.ofNat q) (Int32.ofNat p) a3 a4 a5 e1
          have c2 := t_X12_act (xs := xs) (up (up (up (up (up A 30 (A 30)) 31 (A 31)) 32 (A 32)) 33 (A 33)) 34 (A 34)) (up I 1863 (I 1863)) x (Int32.ofNat q) (Int32.ofNat p) a3 a4 a5 e2
          exact am_op.mk hx c1 (by decide) c2 (by decide) ⟨P, N, T, R, E, C, X, Z, ⟨hI.1, hI.2.1, hI.2.2.1, hI.2.2.2.1, hI.2.2.2.2.1, hI.2.2.2.2.2.1, hI.2.2.2.2.2.2.1, hI.2.2.2.2.2.2.2.1, hI.2.2.2.2.2.2.2.2.1, hI.2.2.2.2.2.2.2.2.2.1, hI.2.2.2.2.2.2.2.2.2.2.1, hI.2.2.2.2.2.2.2.2.2.2.2.1, hI.2.2.2.2.2.2.2.2.2.2.2.2⟩⟩
        · rcases wi_l 9999 (by decide) a4 with w4 | ⟨d, hd, rfl, w4⟩
          · skip
            have e1 : f_X11_act A I (Int32.ofNat q) (Int32.ofNat p) (Int32.ofNat y) a4 a5 = some (-2, (A 30), (A 31), (A 32), (A 33), (A 34), (I 1863)) := by
              unfold f_X11_act f_X11_isDay
              rw [w, Option.bind_some, if_neg z10]
              rw [w2, Option.bind_some, if_neg z10]
              rw [hql, Option.bind_some]
              rw [w3, Option.bind_some, if_neg z10]
              rw [w4, Option.bind_some, Option.bind_some, if_pos rfl]
            have e2 : f_X12_act (up (up (up (up (up A 30 (A 30)) 31 (A 31)) 32 (A 32)) 33 (A 33)) 34 (A 34)) (up I 1863 (I 1863)) (Int32.ofNat q) (Int32.ofNat p) (Int32.ofNat y) a4 a5 = some (-2, (A 94), (A 95), (A 96), (A 97), (A 98), (A 99), (A 100), (I 5450)) := by
              unfold f_X12_act f_X12_isDay
              rw [in_X, w, Option.bind_some, if_neg z10]
              rw [v2', Option.bind_some, if_neg z10]
              rw [hql, Option.bind_some]
              rw [in_X, w3, Option.bind_some, if_neg z10]
              rw [in_X, w4, Option.bind_some, Option.bind_some, if_pos rfl]
              rfl
            have c1 := t_X11_act (xs := xs) A I x (Int32.ofNat q) (Int32.ofNat p) (Int32.ofNat y) a4 a5 e1
            have c2 := t_X12_act (xs := xs) (up (up (up (up (up A 30 (A 30)) 31 (A 31)) 32 (A 32)) 33 (A 33)) 34 (A 34)) (up I 1863 (I 1863)) x (Int32.ofNat q) (Int32.ofNat p) (Int32.ofNat y) a4 a5 e2
            exact am_op.mk hx c1 (by decide) c2 (by decide) ⟨P, N, T, R, E, C, X, Z, ⟨hI.1, hI.2.1, hI.2.2.1, hI.2.2.2.1, hI.2.2.2.2.1, hI.2.2.2.2.2.1, hI.2.2.2.2.2.2.1, hI.2.2.2.2.2.2.2.1, hI.2.2.2.2.2.2.2.2.1, hI.2.2.2.2.2.2.2.2.2.1, hI.2.2.2.2.2.2.2.2.2.2.1, hI.2.2.2.2.2.2.2.2.2.2.2.1, hI.2.2.2.2.2.2.2.2.2.2.2.2⟩⟩
          · rcases wi_l 1 (by decide) a5 with w5 | ⟨f, hf, rfl, w5⟩
            · skip
              have e1 : f_X11_act A I (Int32.ofNat q) (Int32.ofNat p) (Int32.ofNat y) (Int32.ofNat d) a5 = some (-2, (A 30), (A 31), (A 32), (A 33), (A 34), (I 1863)) := by
                unfold f_X11_act f_X11_isDay
                rw [w, Option.bind_some, if_neg z10]
                rw [w2, Option.bind_some, if_neg z10]
                rw [hql, Option.bind_some]
                rw [w3, Option.bind_some, if_neg z10]
                rw [w4, Option.bind_some, Option.bind_some, if_neg z10]
                rw [w5, Option.bind_some, if_pos rfl]
              have e2 : f_X12_act (up (up (up (up (up A 30 (A 30)) 31 (A 31)) 32 (A 32)) 33 (A 33)) 34 (A 34)) (up I 1863 (I 1863)) (Int32.ofNat q) (Int32.ofNat p) (Int32.ofNat y) (Int32.ofNat d) a5 = some (-2, (A 94), (A 95), (A 96), (A 97), (A 98), (A 99), (A 100), (I 5450)) := by
                unfold f_X12_act f_X12_isDay
                rw [in_X, w, Option.bind_some, if_neg z10]
                rw [v2', Option.bind_some, if_neg z10]
                rw [hql, Option.bind_some]
                rw [in_X, w3, Option.bind_some, if_neg z10]
                rw [in_X, w4, Option.bind_some, Option.bind_some, if_neg z10]
                rw [in_X, w5, Option.bind_some, if_pos rfl]
                rfl
              have c1 := t_X11_act (xs := xs) A I x (Int32.ofNat q) (Int32.ofNat p) (Int32.ofNat y) (Int32.ofNat d) a5 e1
              have c2 := t_X12_act (xs := xs) (up (up (up (up (up A 30 (A 30)) 31 (A 31)) 32 (A 32)) 33 (A 33)) 34 (A 34)) (up I 1863 (I 1863)) x (Int32.ofNat q) (Int32.ofNat p) (Int32.ofNat y) (Int32.ofNat d) a5 e2
              exact am_op.mk hx c1 (by decide) c2 (by decide) ⟨P, N, T, R, E, C, X, Z, ⟨hI.1, hI.2.1, hI.2.2.1, hI.2.2.2.1, hI.2.2.2.2.1, hI.2.2.2.2.2.1, hI.2.2.2.2.2.2.1, hI.2.2.2.2.2.2.2.1, hI.2.2.2.2.2.2.2.2.1, hI.2.2.2.2.2.2.2.2.2.1, hI.2.2.2.2.2.2.2.2.2.2.1, hI.2.2.2.2.2.2.2.2.2.2.2.1, hI.2.2.2.2.2.2.2.2.2.2.2.2⟩⟩
            · skip
              rcases c_Person P (by omega) (Int32.ofNat y - Int32.ofNat y / 12 * 12) with ⟨w6, v6⟩ | ⟨p2, hp2, e6, w6, v6⟩
              · have w6 := w6 A I p4
                have v6 := v6 (up (up (up (up (up A 30 (A 30)) 31 (A 31)) 32 (A 32)) 33 (A 33)) 34 (A 34)) (up I 1863 (I 1863)) p5
                have e1 : f_X11_act A I (Int32.ofNat q) (Int32.ofNat p) (Int32.ofNat y) (Int32.ofNat d) (Int32.ofNat f) = some (-2, (A 30), (A 31), (A 32), (A 33), (A 34), (I 1863)) := by
                  unfold f_X11_act f_X11_isDay
                  rw [w, Option.bind_some, if_neg z10]
                  rw [w2, Option.bind_some, if_neg z10]
                  rw [hql, Option.bind_some]
                  rw [w3, Option.bind_some, if_neg z10]
                  rw [w4, Option.bind_some, Option.bind_some, if_neg z10]
                  rw [w5, Option.bind_some, if_neg z10]
                  rw [if_pos hqe]
                  rw [w6, Option.bind_some, if_pos rfl]
                have e2 : f_X12_act (up (up (up (up (up A 30 (A 30)) 31 (A 31)) 32 (A 32)) 33 (A 33)) 34 (A 34)) (up I 1863 (I 1863)) (Int32.ofNat q) (Int32.ofNat p) (Int32.ofNat y) (Int32.ofNat d) (Int32.ofNat f) = some (-2, (A 94), (A 95), (A 96), (A 97), (A 98), (A 99), (A 100), (I 5450)) := by
                  unfold f_X12_act f_X12_isDay
                  rw [in_X, w, Option.bind_some, if_neg z10]
                  rw [v2', Option.bind_some, if_neg z10]
                  rw [hql, Option.bind_some]
                  rw [in_X, w3, Option.bind_some, if_neg z10]
                  rw [in_X, w4, Option.bind_some, Option.bind_some, if_neg z10]
                  rw [in_X, w5, Option.bind_some, if_neg z10]
                  rw [if_pos hqe]
                  rw [v6, Option.bind_some, if_pos rfl]
                  rfl
                have c1 := t_X11_act (xs := xs) A I x (Int32.ofNat q) (Int32.ofNat p) (Int32.ofNat y) (Int32.ofNat d) (Int32.ofNat f) e1
                have c2 := t_X12_act (xs := xs) (up (up (up (up (up A 30 (A 30)) 31 (A 31)) 32 (A 32)) 33 (A 33)) 34 (A 34)) (up I 1863 (I 1863)) x (Int32.ofNat q) (Int32.ofNat p) (Int32.ofNat y) (Int32.ofNat d) (Int32.ofNat f) e2
                exact am_op.mk hx c1 (by decide) c2 (by decide) ⟨P, N, T, R, E, C, X, Z, ⟨hI.1, hI.2.1, hI.2.2.1, hI.2.2.2.1, hI.2.2.2.2.1, hI.2.2.2.2.2.1, hI.2.2.2.2.2.2.1, hI.2.2.2.2.2.2.2.1, hI.2.2.2.2.2.2.2.2.1, hI.2.2.2.2.2.2.2.2.2.1, hI.2.2.2.2.2.2.2.2.2.2.1, hI.2.2.2.2.2.2.2.2.2.2.2.1, hI.2.2.2.2.2.2.2.2.2.2.2.2⟩⟩
              · have w6 := w6 A I p4
                have v6' := v6 (up (up (up (up (up A 30 (A 30)) 31 (A 31)) 32 (A 32)) 33 (A 33)) 34 (A 34)) (up I 1863 (I 1863)) p5
                by_cases hN : N < 24
                · have v2 := v2 (up (up (up (up (up A 30 ((A 94).set N (Int32.ofNat q))) 31 ((A 95).set N (Int32.ofNat p))) 32 ((A 96).set N (Int32.ofNat y))) 33 ((A 97).set N (Int32.ofNat d))) 34 ((A 98).set N (Int32.ofNat f))) (up I 1863 (Int32.ofNat (N + 1))) p5
                  have v6 := v6 (up (up (up (up (up A 30 ((A 94).set N (Int32.ofNat q))) 31 ((A 95).set N (Int32.ofNat p))) 32 ((A 96).set N (Int32.ofNat y))) 33 ((A 97).set N (Int32.ofNat d))) 34 ((A 98).set N (Int32.ofNat f))) (up I 1863 (Int32.ofNat (N + 1))) p5
                  have q1 := act_new hA hN (show q < 6 by omega) (show p < 12 by omega) (show y < 100 by omega) (fun _ => by omega) (show d < 10000 by omega) (Int32.ofNat f)
                  have e1 : f_X11_act A I (Int32.ofNat q) (Int32.ofNat p) (Int32.ofNat y) (Int32.ofNat d) (Int32.ofNat f) = some ((Int32.ofNat N), ((A 94).set N (Int32.ofNat q)), ((A 95).set N (Int32.ofNat p)), ((A 96).set N (Int32.ofNat y)), ((A 97).set N (Int32.ofNat d)), ((A 98).set N (Int32.ofNat f)), (Int32.ofNat (N + 1))) := by
                    unfold f_X11_act f_X11_isDay
                    rw [w, Option.bind_some, if_neg z10]
                    rw [w2, Option.bind_some, if_neg z10]
                    rw [hql, Option.bind_some]
                    rw [w3, Option.bind_some, if_neg z10]
                    rw [w4, Option.bind_some, Option.bind_some, if_neg z10]
                    rw [w5, Option.bind_some, if_neg z10]
                    rw [if_pos hqe]
                    rw [w6, Option.bind_some, if_neg z10]
                    rw [c2, if_pos ((i_ltr (by omega) (by decide)).mpr hN)]
                    unfold f_X2_add
                    rw [c2, a1', a2', a3', a4', a5', am_up_g (by omega) (by omega), am_up_g (by omega) (by omega), am_up_g (by omega) (by omega), am_up_g (by omega) (by omega), am_up_g (by omega) (by omega), show Int32.ofNat N + 1 = Int32.ofNat (N + 1) from i_addr (m := N) (n := 1)]
                    rfl
                  have e2 : f_X12_act (up (up (up (up (up A 30 ((A 94).set N (Int32.ofNat q))) 31 ((A 95).set N (Int32.ofNat p))) 32 ((A 96).set N (Int32.ofNat y))) 33 ((A 97).set N (Int32.ofNat d))) 34 ((A 98).set N (Int32.ofNat f))) (up I 1863 (Int32.ofNat (N + 1))) (Int32.ofNat q) (Int32.ofNat p) (Int32.ofNat y) (Int32.ofNat d) (Int32.ofNat f) = some ((Int32.ofNat N), ((A 94).set N (Int32.ofNat q)), ((A 95).set N (Int32.ofNat p)), ((A 96).set N (Int32.ofNat y)), ((A 97).set N (Int32.ofNat d)), ((A 98).set N (Int32.ofNat f)), ((A 99).set N 0), ((A 100).set N (-1)), (Int32.ofNat (N + 1))) := by
                    unfold f_X12_act f_X12_isDay
                    rw [in_X, w, Option.bind_some, if_neg z10]
                    rw [v2, Option.bind_some, if_neg z10]
                    rw [hql, Option.bind_some]
                    rw [in_X, w3, Option.bind_some, if_neg z10]
                    rw [in_X, w4, Option.bind_some, Option.bind_some, if_neg z10]
                    rw [in_X, w5, Option.bind_some, if_neg z10]
                    rw [if_pos hqe]
                    rw [v6, Option.bind_some, if_neg z10]
                    rw [show (up I 1863 (Int32.ofNat (N + 1))) 5450 = Int32.ofNat N from c3, if_neg (fun q => absurd ((i_eqr (by omega) (by decide)).mp q) (show ¬ N = 24 by omega))]
                    rw [show (up (up (up (up (up A 30 ((A 94).set N (Int32.ofNat q))) 31 ((A 95).set N (Int32.ofNat p))) 32 ((A 96).set N (Int32.ofNat y))) 33 ((A 97).set N (Int32.ofNat d))) 34 ((A 98).set N (Int32.ofNat f))) 94 = A 94 from rfl]
                    rw [show (up (up (up (up (up A 30 ((A 94).set N (Int32.ofNat q))) 31 ((A 95).set N (Int32.ofNat p))) 32 ((A 96).set N (Int32.ofNat y))) 33 ((A 97).set N (Int32.ofNat d))) 34 ((A 98).set N (Int32.ofNat f))) 95 = A 95 from rfl]
                    rw [show (up (up (up (up (up A 30 ((A 94).set N (Int32.ofNat q))) 31 ((A 95).set N (Int32.ofNat p))) 32 ((A 96).set N (Int32.ofNat y))) 33 ((A 97).set N (Int32.ofNat d))) 34 ((A 98).set N (Int32.ofNat f))) 96 = A 96 from rfl]
                    rw [show (up (up (up (up (up A 30 ((A 94).set N (Int32.ofNat q))) 31 ((A 95).set N (Int32.ofNat p))) 32 ((A 96).set N (Int32.ofNat y))) 33 ((A 97).set N (Int32.ofNat d))) 34 ((A 98).set N (Int32.ofNat f))) 97 = A 97 from rfl]
                    rw [show (up (up (up (up (up A 30 ((A 94).set N (Int32.ofNat q))) 31 ((A 95).set N (Int32.ofNat p))) 32 ((A 96).set N (Int32.ofNat y))) 33 ((A 97).set N (Int32.ofNat d))) 34 ((A 98).set N (Int32.ofNat f))) 98 = A 98 from rfl]
                    rw [show (up (up (up (up (up A 30 ((A 94).set N (Int32.ofNat q))) 31 ((A 95).set N (Int32.ofNat p))) 32 ((A 96).set N (Int32.ofNat y))) 33 ((A 97).set N (Int32.ofNat d))) 34 ((A 98).set N (Int32.ofNat f))) 99 = A 99 from rfl]
                    rw [show (up (up (up (up (up A 30 ((A 94).set N (Int32.ofNat q))) 31 ((A 95).set N (Int32.ofNat p))) 32 ((A 96).set N (Int32.ofNat y))) 33 ((A 97).set N (Int32.ofNat d))) 34 ((A 98).set N (Int32.ofNat f))) 100 = A 100 from rfl]
                    rw [am_up_g (by omega) (by omega), am_up_g (by omega) (by omega), am_up_g (by omega) (by omega), am_up_g (by omega) (by omega), am_up_g (by omega) (by omega), am_up_g (by omega) (by omega), am_up_g (by omega) (by omega), show Int32.ofNat N + 1 = Int32.ofNat (N + 1) from i_addr (m := N) (n := 1), i_sub1]
                    rfl
                  have c1 := t_X11_act (xs := xs) A I x (Int32.ofNat q) (Int32.ofNat p) (Int32.ofNat y) (Int32.ofNat d) (Int32.ofNat f) e1
                  have c2 := t_X12_act (xs := xs) (up (up (up (up (up A 30 ((A 94).set N (Int32.ofNat q))) 31 ((A 95).set N (Int32.ofNat p))) 32 ((A 96).set N (Int32.ofNat y))) 33 ((A 97).set N (Int32.ofNat d))) 34 ((A 98).set N (Int32.ofNat f))) (up I 1863 (Int32.ofNat (N + 1))) x (Int32.ofNat q) (Int32.ofNat p) (Int32.ofNat y) (Int32.ofNat d) (Int32.ofNat f) e2
                  exact am_op.mk hx c1 (by decide) c2 (by decide) ⟨P, N + 1, T, R, E, C, X, Z, ⟨hI.1, hI.2.1, hI.2.2.1, q1, hI.2.2.2.2.1, hI.2.2.2.2.2.1, hI.2.2.2.2.2.2.1, hI.2.2.2.2.2.2.2.1, hI.2.2.2.2.2.2.2.2.1, hI.2.2.2.2.2.2.2.2.2.1, hI.2.2.2.2.2.2.2.2.2.2.1, hI.2.2.2.2.2.2.2.2.2.2.2.1, hI.2.2.2.2.2.2.2.2.2.2.2.2⟩⟩
                · skip
                  have e1 : f_X11_act A I (Int32.ofNat q) (Int32.ofNat p) (Int32.ofNat y) (Int32.ofNat d) (Int32.ofNat f) = some (-4, (A 30), (A 31), (A 32), (A 33), (A 34), (I 1863)) := by
                    unfold f_X11_act f_X11_isDay
                    rw [w, Option.bind_some, if_neg z10]
                    rw [w2, Option.bind_some, if_neg z10]
                    rw [hql, Option.bind_some]
                    rw [w3, Option.bind_some, if_neg z10]
                    rw [w4, Option.bind_some, Option.bind_some, if_neg z10]
                    rw [w5, Option.bind_some, if_neg z10]
                    rw [if_pos hqe]
                    rw [w6, Option.bind_some, if_neg z10]
                    rw [c2, if_neg (fun q => hN ((i_ltr (by omega) (by decide)).mp q))]
                  have e2 : f_X12_act (up (up (up (up (up A 30 (A 30)) 31 (A 31)) 32 (A 32)) 33 (A 33)) 34 (A 34)) (up I 1863 (I 1863)) (Int32.ofNat q) (Int32.ofNat p) (Int32.ofNat y) (Int32.ofNat d) (Int32.ofNat f) = some (-4, (A 94), (A 95), (A 96), (A 97), (A 98), (A 99), (A 100), (I 5450)) := by
                    unfold f_X12_act f_X12_isDay
                    rw [in_X, w, Option.bind_some, if_neg z10]
                    rw [v2', Option.bind_some, if_neg z10]
                    rw [hql, Option.bind_some]
                    rw [in_X, w3, Option.bind_some, if_neg z10]
                    rw [in_X, w4, Option.bind_some, Option.bind_some, if_neg z10]
                    rw [in_X, w5, Option.bind_some, if_neg z10]
                    rw [if_pos hqe]
                    rw [v6', Option.bind_some, if_neg z10]
                    rw [show up I 1863 (I 1863) 5450 = Int32.ofNat N from c3, if_pos ((i_eqr (by omega) (by decide)).mpr (show N = 24 by omega))]
                    rw [← c3]
                    rfl
                  have c1 := t_X11_act (xs := xs) A I x (Int32.ofNat q) (Int32.ofNat p) (Int32.ofNat y) (Int32.ofNat d) (Int32.ofNat f) e1
                  have c2 := t_X12_act (xs := xs) (up (up (up (up (up A 30 (A 30)) 31 (A 31)) 32 (A 32)) 33 (A 33)) 34 (A 34)) (up I 1863 (I 1863)) x (Int32.ofNat q) (Int32.ofNat p) (Int32.ofNat y) (Int32.ofNat d) (Int32.ofNat f) e2
                  exact am_op.mk hx c1 (by decide) c2 (by decide) ⟨P, N, T, R, E, C, X, Z, ⟨hI.1, hI.2.1, hI.2.2.1, hI.2.2.2.1, hI.2.2.2.2.1, hI.2.2.2.2.2.1, hI.2.2.2.2.2.2.1, hI.2.2.2.2.2.2.2.1, hI.2.2.2.2.2.2.2.2.1, hI.2.2.2.2.2.2.2.2.2.1, hI.2.2.2.2.2.2.2.2.2.2.1, hI.2.2.2.2.2.2.2.2.2.2.2.1, hI.2.2.2.2.2.2.2.2.2.2.2.2⟩⟩
      · have hqe : ¬ Int32.ofNat q = 1 := fun e => hq1 ((i_eqr (by omega) (by decide)).mp e)
        have hql : ((if Int32.ofNat q = 1 then some 71 else some 99) : Option Int32) = some 99 := if_neg hqe
        rcases wi_l 99 (by decide) a3 with w3 | ⟨y, hy, rfl, w3⟩
        · skip
          have e1 : f_X11_act A I (Int32.ofNat q) (Int32.ofNat p) a3 a4 a5 = some (-2, (A 30), (A 31), (A 32), (A 33), (A 34), (I 1863)) := by
            unfold f_X11_act f_X11_isDay
            rw [w, Option.bind_some, if_neg z10]
            rw [w2, Option.bind_some, if_neg z10]
            rw [hql, Option.bind_some]
            rw [w3, Option.bind_some, if_pos rfl]
          have e2 : f_X12_act (up (up (up (up (up A 30 (A 30)) 31 (A 31)) 32 (A 32)) 33 (A 33)) 34 (A 34)) (up I 1863 (I 1863)) (Int32.ofNat q) (Int32.ofNat p) a3 a4 a5 = some (-2, (A 94), (A 95), (A 96), (A 97), (A 98), (A 99), (A 100), (I 5450)) := by
            unfold f_X12_act f_X12_isDay
            rw [in_X, w, Option.bind_some, if_neg z10]
            rw [v2', Option.bind_some, if_neg z10]
            rw [hql, Option.bind_some]
            rw [in_X, w3, Option.bind_some, if_pos rfl]
            rfl
          have c1 := t_X11_act (xs := xs) A I x (Int32.ofNat q) (Int32.ofNat p) a3 a4 a5 e1
          have c2 := t_X12_act (xs := xs) (up (up (up (up (up A 30 (A 30)) 31 (A 31)) 32 (A 32)) 33 (A 33)) 34 (A 34)) (up I 1863 (I 1863)) x (Int32.ofNat q) (Int32.ofNat p) a3 a4 a5 e2
          exact am_op.mk hx c1 (by decide) c2 (by decide) ⟨P, N, T, R, E, C, X, Z, ⟨hI.1, hI.2.1, hI.2.2.1, hI.2.2.2.1, hI.2.2.2.2.1, hI.2.2.2.2.2.1, hI.2.2.2.2.2.2.1, hI.2.2.2.2.2.2.2.1, hI.2.2.2.2.2.2.2.2.1, hI.2.2.2.2.2.2.2.2.2.1, hI.2.2.2.2.2.2.2.2.2.2.1, hI.2.2.2.2.2.2.2.2.2.2.2.1, hI.2.2.2.2.2.2.2.2.2.2.2.2⟩⟩
        · rcases wi_l 9999 (by decide) a4 with w4 | ⟨d, hd, rfl, w4⟩
          · skip
            have e1 : f_X11_act A I (Int32.ofNat q) (Int32.ofNat p) (Int32.ofNat y) a4 a5 = some (-2, (A 30), (A 31), (A 32), (A 33), (A 34), (I 1863)) := by
              unfold f_X11_act f_X11_isDay
              rw [w, Option.bind_some, if_neg z10]
              rw [w2, Option.bind_some, if_neg z10]
              rw [hql, Option.bind_some]
              rw [w3, Option.bind_some, if_neg z10]
              rw [w4, Option.bind_some, Option.bind_some, if_pos rfl]
            have e2 : f_X12_act (up (up (up (up (up A 30 (A 30)) 31 (A 31)) 32 (A 32)) 33 (A 33)) 34 (A 34)) (up I 1863 (I 1863)) (Int32.ofNat q) (Int32.ofNat p) (Int32.ofNat y) a4 a5 = some (-2, (A 94), (A 95), (A 96), (A 97), (A 98), (A 99), (A 100), (I 5450)) := by
              unfold f_X12_act f_X12_isDay
              rw [in_X, w, Option.bind_some, if_neg z10]
              rw [v2', Option.bind_some, if_neg z10]
              rw [hql, Option.bind_some]
              rw [in_X, w3, Option.bind_some, if_neg z10]
              rw [in_X, w4, Option.bind_some, Option.bind_some, if_pos rfl]
              rfl
            have c1 := t_X11_act (xs := xs) A I x (Int32.ofNat q) (Int32.ofNat p) (Int32.ofNat y) a4 a5 e1
            have c2 := t_X12_act (xs := xs) (up (up (up (up (up A 30 (A 30)) 31 (A 31)) 32 (A 32)) 33 (A 33)) 34 (A 34)) (up I 1863 (I 1863)) x (Int32.ofNat q) (Int32.ofNat p) (Int32.ofNat y) a4 a5 e2
            exact am_op.mk hx c1 (by decide) c2 (by decide) ⟨P, N, T, R, E, C, X, Z, ⟨hI.1, hI.2.1, hI.2.2.1, hI.2.2.2.1, hI.2.2.2.2.1, hI.2.2.2.2.2.1, hI.2.2.2.2.2.2.1, hI.2.2.2.2.2.2.2.1, hI.2.2.2.2.2.2.2.2.1, hI.2.2.2.2.2.2.2.2.2.1, hI.2.2.2.2.2.2.2.2.2.2.1, hI.2.2.2.2.2.2.2.2.2.2.2.1, hI.2.2.2.2.2.2.2.2.2.2.2.2⟩⟩
          · rcases wi_l 1 (by decide) a5 with w5 | ⟨f, hf, rfl, w5⟩
            · skip
              have e1 : f_X11_act A I (Int32.ofNat q) (Int32.ofNat p) (Int32.ofNat y) (Int32.ofNat d) a5 = some (-2, (A 30), (A 31), (A 32), (A 33), (A 34), (I 1863)) := by
                unfold f_X11_act f_X11_isDay
                rw [w, Option.bind_some, if_neg z10]
                rw [w2, Option.bind_some, if_neg z10]
                rw [hql, Option.bind_some]
                rw [w3, Option.bind_some, if_neg z10]
                rw [w4, Option.bind_some, Option.bind_some, if_neg z10]
                rw [w5, Option.bind_some, if_pos rfl]
              have e2 : f_X12_act (up (up (up (up (up A 30 (A 30)) 31 (A 31)) 32 (A 32)) 33 (A 33)) 34 (A 34)) (up I 1863 (I 1863)) (Int32.ofNat q) (Int32.ofNat p) (Int32.ofNat y) (Int32.ofNat d) a5 = some (-2, (A 94), (A 95), (A 96), (A 97), (A 98), (A 99), (A 100), (I 5450)) := by
                unfold f_X12_act f_X12_isDay
                rw [in_X, w, Option.bind_some, if_neg z10]
                rw [v2', Option.bind_some, if_neg z10]
                rw [hql, Option.bind_some]
                rw [in_X, w3, Option.bind_some, if_neg z10]
                rw [in_X, w4, Option.bind_some, Option.bind_some, if_neg z10]
                rw [in_X, w5, Option.bind_some, if_pos rfl]
                rfl
              have c1 := t_X11_act (xs := xs) A I x (Int32.ofNat q) (Int32.ofNat p) (Int32.ofNat y) (Int32.ofNat d) a5 e1
              have c2 := t_X12_act (xs := xs) (up (up (up (up (up A 30 (A 30)) 31 (A 31)) 32 (A 32)) 33 (A 33)) 34 (A 34)) (up I 1863 (I 1863)) x (Int32.ofNat q) (Int32.ofNat p) (Int32.ofNat y) (Int32.ofNat d) a5 e2
              exact am_op.mk hx c1 (by decide) c2 (by decide) ⟨P, N, T, R, E, C, X, Z, ⟨hI.1, hI.2.1, hI.2.2.1, hI.2.2.2.1, hI.2.2.2.2.1, hI.2.2.2.2.2.1, hI.2.2.2.2.2.2.1, hI.2.2.2.2.2.2.2.1, hI.2.2.2.2.2.2.2.2.1, hI.2.2.2.2.2.2.2.2.2.1, hI.2.2.2.2.2.2.2.2.2.2.1, hI.2.2.2.2.2.2.2.2.2.2.2.1, hI.2.2.2.2.2.2.2.2.2.2.2.2⟩⟩
            · skip
              by_cases hN : N < 24
              · have v2 := v2 (up (up (up (up (up A 30 ((A 94).set N (Int32.ofNat q))) 31 ((A 95).set N (Int32.ofNat p))) 32 ((A 96).set N (Int32.ofNat y))) 33 ((A 97).set N (Int32.ofNat d))) 34 ((A 98).set N (Int32.ofNat f))) (up I 1863 (Int32.ofNat (N + 1))) p5
                have q1 := act_new hA hN (show q < 6 by omega) (show p < 12 by omega) (show y < 100 by omega) (fun q => absurd q hq1) (show d < 10000 by omega) (Int32.ofNat f)
                have e1 : f_X11_act A I (Int32.ofNat q) (Int32.ofNat p) (Int32.ofNat y) (Int32.ofNat d) (Int32.ofNat f) = some ((Int32.ofNat N), ((A 94).set N (Int32.ofNat q)), ((A 95).set N (Int32.ofNat p)), ((A 96).set N (Int32.ofNat y)), ((A 97).set N (Int32.ofNat d)), ((A 98).set N (Int32.ofNat f)), (Int32.ofNat (N + 1))) := by
                  unfold f_X11_act f_X11_isDay
                  rw [w, Option.bind_some, if_neg z10]
                  rw [w2, Option.bind_some, if_neg z10]
                  rw [hql, Option.bind_some]
                  rw [w3, Option.bind_some, if_neg z10]
                  rw [w4, Option.bind_some, Option.bind_some, if_neg z10]
                  rw [w5, Option.bind_some, if_neg z10]
                  rw [if_neg hqe]
                  rw [c2, if_pos ((i_ltr (by omega) (by decide)).mpr hN)]
                  unfold f_X2_add
                  rw [c2, a1', a2', a3', a4', a5', am_up_g (by omega) (by omega), am_up_g (by omega) (by omega), am_up_g (by omega) (by omega), am_up_g (by omega) (by omega), am_up_g (by omega) (by omega), show Int32.ofNat N + 1 = Int32.ofNat (N + 1) from i_addr (m := N) (n := 1)]
                  rfl
                have e2 : f_X12_act (up (up (up (up (up A 30 ((A 94).set N (Int32.ofNat q))) 31 ((A 95).set N (Int32.ofNat p))) 32 ((A 96).set N (Int32.ofNat y))) 33 ((A 97).set N (Int32.ofNat d))) 34 ((A 98).set N (Int32.ofNat f))) (up I 1863 (Int32.ofNat (N + 1))) (Int32.ofNat q) (Int32.ofNat p) (Int32.ofNat y) (Int32.ofNat d) (Int32.ofNat f) = some ((Int32.ofNat N), ((A 94).set N (Int32.ofNat q)), ((A 95).set N (Int32.ofNat p)), ((A 96).set N (Int32.ofNat y)), ((A 97).set N (Int32.ofNat d)), ((A 98).set N (Int32.ofNat f)), ((A 99).set N 0), ((A 100).set N (-1)), (Int32.ofNat (N + 1))) := by
                  unfold f_X12_act f_X12_isDay
                  rw [in_X, w, Option.bind_some, if_neg z10]
                  rw [v2, Option.bind_some, if_neg z10]
                  rw [hql, Option.bind_some]
                  rw [in_X, w3, Option.bind_some, if_neg z10]
                  rw [in_X, w4, Option.bind_some, Option.bind_some, if_neg z10]
                  rw [in_X, w5, Option.bind_some, if_neg z10]
                  rw [if_neg hqe]
                  rw [show (up I 1863 (Int32.ofNat (N + 1))) 5450 = Int32.ofNat N from c3, if_neg (fun q => absurd ((i_eqr (by omega) (by decide)).mp q) (show ¬ N = 24 by omega))]
                  rw [show (up (up (up (up (up A 30 ((A 94).set N (Int32.ofNat q))) 31 ((A 95).set N (Int32.ofNat p))) 32 ((A 96).set N (Int32.ofNat y))) 33 ((A 97).set N (Int32.ofNat d))) 34 ((A 98).set N (Int32.ofNat f))) 94 = A 94 from rfl]
                  rw [show (up (up (up (up (up A 30 ((A 94).set N (Int32.ofNat q))) 31 ((A 95).set N (Int32.ofNat p))) 32 ((A 96).set N (Int32.ofNat y))) 33 ((A 97).set N (Int32.ofNat d))) 34 ((A 98).set N (Int32.ofNat f))) 95 = A 95 from rfl]
                  rw [show (up (up (up (up (up A 30 ((A 94).set N (Int32.ofNat q))) 31 ((A 95).set N (Int32.ofNat p))) 32 ((A 96).set N (Int32.ofNat y))) 33 ((A 97).set N (Int32.ofNat d))) 34 ((A 98).set N (Int32.ofNat f))) 96 = A 96 from rfl]
                  rw [show (up (up (up (up (up A 30 ((A 94).set N (Int32.ofNat q))) 31 ((A 95).set N (Int32.ofNat p))) 32 ((A 96).set N (Int32.ofNat y))) 33 ((A 97).set N (Int32.ofNat d))) 34 ((A 98).set N (Int32.ofNat f))) 97 = A 97 from rfl]
                  rw [show (up (up (up (up (up A 30 ((A 94).set N (Int32.ofNat q))) 31 ((A 95).set N (Int32.ofNat p))) 32 ((A 96).set N (Int32.ofNat y))) 33 ((A 97).set N (Int32.ofNat d))) 34 ((A 98).set N (Int32.ofNat f))) 98 = A 98 from rfl]
                  rw [show (up (up (up (up (up A 30 ((A 94).set N (Int32.ofNat q))) 31 ((A 95).set N (Int32.ofNat p))) 32 ((A 96).set N (Int32.ofNat y))) 33 ((A 97).set N (Int32.ofNat d))) 34 ((A 98).set N (Int32.ofNat f))) 99 = A 99 from rfl]
                  rw [show (up (up (up (up (up A 30 ((A 94).set N (Int32.ofNat q))) 31 ((A 95).set N (Int32.ofNat p))) 32 ((A 96).set N (Int32.ofNat y))) 33 ((A 97).set N (Int32.ofNat d))) 34 ((A 98).set N (Int32.ofNat f))) 100 = A 100 from rfl]
                  rw [am_up_g (by omega) (by omega), am_up_g (by omega) (by omega), am_up_g (by omega) (by omega), am_up_g (by omega) (by omega), am_up_g (by omega) (by omega), am_up_g (by omega) (by omega), am_up_g (by omega) (by omega), show Int32.ofNat N + 1 = Int32.ofNat (N + 1) from i_addr (m := N) (n := 1), i_sub1]
                  rfl
                have c1 := t_X11_act (xs := xs) A I x (Int32.ofNat q) (Int32.ofNat p) (Int32.ofNat y) (Int32.ofNat d) (Int32.ofNat f) e1
                have c2 := t_X12_act (xs := xs) (up (up (up (up (up A 30 ((A 94).set N (Int32.ofNat q))) 31 ((A 95).set N (Int32.ofNat p))) 32 ((A 96).set N (Int32.ofNat y))) 33 ((A 97).set N (Int32.ofNat d))) 34 ((A 98).set N (Int32.ofNat f))) (up I 1863 (Int32.ofNat (N + 1))) x (Int32.ofNat q) (Int32.ofNat p) (Int32.ofNat y) (Int32.ofNat d) (Int32.ofNat f) e2
                exact am_op.mk hx c1 (by decide) c2 (by decide) ⟨P, N + 1, T, R, E, C, X, Z, ⟨hI.1, hI.2.1, hI.2.2.1, q1, hI.2.2.2.2.1, hI.2.2.2.2.2.1, hI.2.2.2.2.2.2.1, hI.2.2.2.2.2.2.2.1, hI.2.2.2.2.2.2.2.2.1, hI.2.2.2.2.2.2.2.2.2.1, hI.2.2.2.2.2.2.2.2.2.2.1, hI.2.2.2.2.2.2.2.2.2.2.2.1, hI.2.2.2.2.2.2.2.2.2.2.2.2⟩⟩
              · skip
                have e1 : f_X11_act A I (Int32.ofNat q) (Int32.ofNat p) (Int32.ofNat y) (Int32.ofNat d) (Int32.ofNat f) = some (-4, (A 30), (A 31), (A 32), (A 33), (A 34), (I 1863)) := by
                  unfold f_X11_act f_X11_isDay
                  rw [w, Option.bind_some, if_neg z10]
                  rw [w2, Option.bind_some, if_neg z10]
                  rw [hql, Option.bind_some]
                  rw [w3, Option.bind_some, if_neg z10]
                  rw [w4, Option.bind_some, Option.bind_some, if_neg z10]
                  rw [w5, Option.bind_some, if_neg z10]
                  rw [if_neg hqe]
                  rw [c2, if_neg (fun q => hN ((i_ltr (by omega) (by decide)).mp q))]
                have e2 : f_X12_act (up (up (up (up (up A 30 (A 30)) 31 (A 31)) 32 (A 32)) 33 (A 33)) 34 (A 34)) (up I 1863 (I 1863)) (Int32.ofNat q) (Int32.ofNat p) (Int32.ofNat y) (Int32.ofNat d) (Int32.ofNat f) = some (-4, (A 94), (A 95), (A 96), (A 97), (A 98), (A 99), (A 100), (I 5450)) := by
                  unfold f_X12_act f_X12_isDay
                  rw [in_X, w, Option.bind_some, if_neg z10]
                  rw [v2', Option.bind_some, if_neg z10]
                  rw [hql, Option.bind_some]
                  rw [in_X, w3, Option.bind_some, if_neg z10]
                  rw [in_X, w4, Option.bind_some, Option.bind_some, if_neg z10]
                  rw [in_X, w5, Option.bind_some, if_neg z10]
                  rw [if_neg hqe]
                  rw [show up I 1863 (I 1863) 5450 = Int32.ofNat N from c3, if_pos ((i_eqr (by omega) (by decide)).mpr (show N = 24 by omega))]
                  rw [← c3]
                  rfl
                have c1 := t_X11_act (xs := xs) A I x (Int32.ofNat q) (Int32.ofNat p) (Int32.ofNat y) (Int32.ofNat d) (Int32.ofNat f) e1
                have c2 := t_X12_act (xs := xs) (up (up (up (up (up A 30 (A 30)) 31 (A 31)) 32 (A 32)) 33 (A 33)) 34 (A 34)) (up I 1863 (I 1863)) x (Int32.ofNat q) (Int32.ofNat p) (Int32.ofNat y) (Int32.ofNat d) (Int32.ofNat f) e2
                exact am_op.mk hx c1 (by decide) c2 (by decide) ⟨P, N, T, R, E, C, X, Z, ⟨hI.1, hI.2.1, hI.2.2.1, hI.2.2.2.1, hI.2.2.2.2.1, hI.2.2.2.2.2.1, hI.2.2.2.2.2.2.1, hI.2.2.2.2.2.2.2.1, hI.2.2.2.2.2.2.2.2.1, hI.2.2.2.2.2.2.2.2.2.1, hI.2.2.2.2.2.2.2.2.2.2.1, hI.2.2.2.2.2.2.2.2.2.2.2.1, hI.2.2.2.2.2.2.2.2.2.2.2.2⟩⟩

theorem op_elector (xs : List Int32) {n : Nat} {A : Nat → List Int32} {I : Nat → Int32} {x : am_X} (h : Iv0 n A I x) (a1 : Int32) (a2 : Int32) : am_op xs n ix_X11_elector ix_X12_elector [.int a1, .int a2] A I x := by
  obtain ⟨⟨P, N, T, R, E, C, X, Z, hI⟩, hx⟩ := h
  obtain ⟨⟨e1', e2'⟩, ⟨l1, l2, l3⟩, hE, i1, i2, hk, ⟨ow, how, ei, hb⟩, sy⟩ := id hI.2.2.2.2.2.2.1
  rcases wi_l 999 (by decide) a1 with w | ⟨p, hp, rfl, w⟩
  · skip
    have e1 : f_X11_elector A I a1 a2 = some (-2, (A 59), (I 3714), (I 3715)) := by
      simp (disch := first | omega | decide | assumption | (simp [up_app]; assumption)) [-Int32.xor_neg_one, -Int32.ofNat_add, -Int32.ofNat_mul, -Int32.ofNat_sub, i_lel, i_ler, i_ltl, i_ltr, i_eql, i_eqr, i_le, i_lt, i_eq, i_addl, i_addr, i_add, i_mull, i_mulr, i_mul, i_subr, i_sub, am_at_g, am_at_gl, am_up_g, am_up_gl, up_app, in_X, i_sub1, f_X11_elector, w]
    have e2 : f_X12_elector (up A 59 (A 59)) (up (up I 3714 (I 3714)) 3715 (I 3715)) a1 a2 = some (-2, (A 113), (A 114), (A 115), (I 5481)) := by
      simp (disch := first | omega | decide | assumption | (simp [up_app]; assumption)) [-Int32.xor_neg_one, -Int32.ofNat_add, -Int32.ofNat_mul, -Int32.ofNat_sub, i_lel, i_ler, i_ltl, i_ltr, i_eql, i_eqr, i_le, i_lt, i_eq, i_addl, i_addr, i_add, i_mull, i_mulr, i_mul, i_subr, i_sub, am_at_g, am_at_gl, am_up_g, am_up_gl, up_app, in_X, i_sub1, f_X12_elector, w]
    have c1 := t_X11_elector (xs := xs) A I x a1 a2 e1
    have c2 := t_X12_elector (xs := xs) (up A 59 (A 59)) (up (up I 3714 (I 3714)) 3715 (I 3715)) x a1 a2 e2
    exact am_op.mk hx c1 (by decide) c2 (by decide) ⟨P, N, T, R, E, C, X, Z, ⟨hI.1, hI.2.1, hI.2.2.1, hI.2.2.2.1, hI.2.2.2.2.1, hI.2.2.2.2.2.1, hI.2.2.2.2.2.2.1, hI.2.2.2.2.2.2.2.1, hI.2.2.2.2.2.2.2.2.1, hI.2.2.2.2.2.2.2.2.2.1, hI.2.2.2.2.2.2.2.2.2.2.1, hI.2.2.2.2.2.2.2.2.2.2.2.1, hI.2.2.2.2.2.2.2.2.2.2.2.2⟩⟩
  · rcases wi_l 1 (by decide) a2 with w2 | ⟨o, ho, rfl, w2⟩
    · skip
      have e1 : f_X11_elector A I (Int32.ofNat p) a2 = some (-2, (A 59), (I 3714), (I 3715)) := by
        simp (disch := first | omega | decide | assumption | (simp [up_app]; assumption)) [-Int32.xor_neg_one, -Int32.ofNat_add, -Int32.ofNat_mul, -Int32.ofNat_sub, i_lel, i_ler, i_ltl, i_ltr, i_eql, i_eqr, i_le, i_lt, i_eq, i_addl, i_addr, i_add, i_mull, i_mulr, i_mul, i_subr, i_sub, am_at_g, am_at_gl, am_up_g, am_up_gl, up_app, in_X, i_sub1, f_X11_elector, w, w2]
      have e2 : f_X12_elector (up A 59 (A 59)) (up (up I 3714 (I 3714)) 3715 (I 3715)) (Int32.ofNat p) a2 = some (-2, (A 113), (A 114), (A 115), (I 5481)) := by
        simp (disch := first | omega | decide | assumption | (simp [up_app]; assumption)) [-Int32.xor_neg_one, -Int32.ofNat_add, -Int32.ofNat_mul, -Int32.ofNat_sub, i_lel, i_ler, i_ltl, i_ltr, i_eql, i_eqr, i_le, i_lt, i_eq, i_addl, i_addr, i_add, i_mull, i_mulr, i_mul, i_subr, i_sub, am_at_g, am_at_gl, am_up_g, am_up_gl, up_app, in_X, i_sub1, f_X12_elector, w, w2]
      have c1 := t_X11_elector (xs := xs) A I x (Int32.ofNat p) a2 e1
      have c2 := t_X12_elector (xs := xs) (up A 59 (A 59)) (up (up I 3714 (I 3714)) 3715 (I 3715)) x (Int32.ofNat p) a2 e2
      exact am_op.mk hx c1 (by decide) c2 (by decide) ⟨P, N, T, R, E, C, X, Z, ⟨hI.1, hI.2.1, hI.2.2.1, hI.2.2.2.1, hI.2.2.2.2.1, hI.2.2.2.2.2.1, hI.2.2.2.2.2.2.1, hI.2.2.2.2.2.2.2.1, hI.2.2.2.2.2.2.2.2.1, hI.2.2.2.2.2.2.2.2.2.1, hI.2.2.2.2.2.2.2.2.2.2.1, hI.2.2.2.2.2.2.2.2.2.2.2.1, hI.2.2.2.2.2.2.2.2.2.2.2.2⟩⟩
    · by_cases hE1 : E < 10
      · have n1 := eq_true hE1
        have n2 := eq_false (show ¬ E = 10 by omega)
        have sh := i_shl (a := o) (k := E) (by omega)
        have z0 := (hk E (by omega)).2.2 (Nat.le_refl _)
        have e115 : (A 115).set E 0 = A 115 := set_self (by omega) z0
        have ob : ∀ k, (o <<< E).testBit k = (decide (k = E) && decide (o = 1)) := fun k => by
          rw [Nat.testBit_shiftLeft]
          rcases (show o = 0 ∨ o = 1 by omega) with rfl | rfl
          · rw [Nat.zero_testBit, Bool.and_false]; cases decide (k = E) <;> rfl
          · by_cases hkE : k = E
            · subst hkE; rw [Nat.sub_self, decide_eq_true (Nat.le_refl _), decide_eq_true rfl]; rfl
            · rw [decide_eq_false hkE]
              by_cases hge : E ≤ k
              · obtain ⟨m, hm⟩ : ∃ m, k - E = m + 1 := ⟨k - E - 1, by omega⟩
                rw [decide_eq_true hge, hm, Nat.testBit_succ, show 1 / 2 = 0 from rfl, Nat.zero_testBit]; rfl
              · rw [decide_eq_false hge]; rfl
        have q1 : v_ele (E + 1) ((A 113).set E (Int32.ofNat p)) (A 60) (Int32.ofNat (ow ||| o <<< E)) (Int32.ofNat (E + 1)) ((A 113).set E (Int32.ofNat p)) ((A 114).set E (Int32.ofNat o)) ((A 115).set E 0) (Int32.ofNat (E + 1)) := by
          rw [e115]
          refine ⟨⟨rfl, e2'⟩, ⟨by rw [List.length_set]; exact l1, by rw [List.length_set]; exact l2, l3⟩, by omega, rfl, rfl, fun k hk' => ?_, ⟨ow ||| o <<< E, Nat.or_lt_two_pow (Nat.lt_trans how (Nat.pow_lt_pow_right (by decide) (Nat.lt_succ_self E))) ?_, rfl, fun k hk' => ?_⟩, sy⟩
          · obtain ⟨y1, y2, y3⟩ := hk k hk'
            refine ⟨?_, y2, fun h => y3 (by omega)⟩
            rw [g_set (by omega)]
            split
            · exact ⟨p, by omega, rfl⟩
            · exact y1
          · rw [Nat.shiftLeft_eq, Nat.pow_succ, Nat.mul_comm]
            have := Nat.two_pow_pos E
            exact Nat.mul_lt_mul_of_pos_left (by omega) this
          · rw [Nat.testBit_or, ob]
            by_cases hkE : k = E
            · subst hkE
              rw [g_set_eq (by omega), decide_eq_true rfl, Nat.testBit_lt_two_pow how]
              rcases (show o = 0 ∨ o = 1 by omega) with rfl | rfl <;> rfl
            · rw [g_set_ne hkE, decide_eq_false hkE, Bool.false_and, Bool.or_false]
              exact hb k (by omega)
        have e1 : f_X11_elector A I (Int32.ofNat p) (Int32.ofNat o) = some ((Int32.ofNat E), ((A 113).set E (Int32.ofNat p)), (Int32.ofNat (ow ||| o <<< E)), (Int32.ofNat (E + 1))) := by
          simp (disch := first | omega | decide | assumption | (simp [up_app]; assumption)) [-Int32.xor_neg_one, -Int32.ofNat_add, -Int32.ofNat_mul, -Int32.ofNat_sub, i_lel, i_ler, i_ltl, i_ltr, i_eql, i_eqr, i_le, i_lt, i_eq, i_addl, i_addr, i_add, i_mull, i_mulr, i_mul, i_subr, i_sub, am_at_g, am_at_gl, am_up_g, am_up_gl, up_app, in_X, i_sub1, f_X11_elector, f_X3_add, w, w2, i1, n1, e1', ei, sh, i_or]
        have e2 : f_X12_elector (up A 59 ((A 113).set E (Int32.ofNat p))) (up (up I 3714 (Int32.ofNat (ow ||| o <<< E))) 3715 (Int32.ofNat (E + 1))) (Int32.ofNat p) (Int32.ofNat o) = some ((Int32.ofNat E), ((A 113).set E (Int32.ofNat p)), ((A 114).set E (Int32.ofNat o)), ((A 115).set E 0), (Int32.ofNat (E + 1))) := by
          simp (disch := first | omega | decide | assumption | (simp [up_app]; assumption)) [-Int32.xor_neg_one, -Int32.ofNat_add, -Int32.ofNat_mul, -Int32.ofNat_sub, i_lel, i_ler, i_ltl, i_ltr, i_eql, i_eqr, i_le, i_lt, i_eq, i_addl, i_addr, i_add, i_mull, i_mulr, i_mul, i_subr, i_sub, am_at_g, am_at_gl, am_up_g, am_up_gl, up_app, in_X, i_sub1, f_X12_elector, w, w2, i2, n2]
        have c1 := t_X11_elector (xs := xs) A I x (Int32.ofNat p) (Int32.ofNat o) e1
        have c2 := t_X12_elector (xs := xs) (up A 59 ((A 113).set E (Int32.ofNat p))) (up (up I 3714 (Int32.ofNat (ow ||| o <<< E))) 3715 (Int32.ofNat (E + 1))) x (Int32.ofNat p) (Int32.ofNat o) e2
        exact am_op.mk hx c1 (by decide) c2 (by decide) ⟨P, N, T, R, E + 1, C, X, Z, ⟨hI.1, hI.2.1, hI.2.2.1, hI.2.2.2.1, hI.2.2.2.2.1, hI.2.2.2.2.2.1, q1, hI.2.2.2.2.2.2.2.1, hI.2.2.2.2.2.2.2.2.1, hI.2.2.2.2.2.2.2.2.2.1, hI.2.2.2.2.2.2.2.2.2.2.1, hI.2.2.2.2.2.2.2.2.2.2.2.1, hI.2.2.2.2.2.2.2.2.2.2.2.2⟩⟩
      · have n1 := eq_false hE1
        have n2 := eq_true (show E = 10 by omega)
        have e1 : f_X11_elector A I (Int32.ofNat p) (Int32.ofNat o) = some (-4, (A 59), (I 3714), (I 3715)) := by
          simp (disch := first | omega | decide | assumption | (simp [up_app]; assumption)) [-Int32.xor_neg_one, -Int32.ofNat_add, -Int32.ofNat_mul, -Int32.ofNat_sub, i_lel, i_ler, i_ltl, i_ltr, i_eql, i_eqr, i_le, i_lt, i_eq, i_addl, i_addr, i_add, i_mull, i_mulr, i_mul, i_subr, i_sub, am_at_g, am_at_gl, am_up_g, am_up_gl, up_app, in_X, i_sub1, f_X11_elector, w, w2, i1, n1]
        have e2 : f_X12_elector (up A 59 (A 59)) (up (up I 3714 (I 3714)) 3715 (I 3715)) (Int32.ofNat p) (Int32.ofNat o) = some (-4, (A 113), (A 114), (A 115), (I 5481)) := by
          simp (disch := first | omega | decide | assumption | (simp [up_app]; assumption)) [-Int32.xor_neg_one, -Int32.ofNat_add, -Int32.ofNat_mul, -Int32.ofNat_sub, i_lel, i_ler, i_ltl, i_ltr, i_eql, i_eqr, i_le, i_lt, i_eq, i_addl, i_addr, i_add, i_mull, i_mulr, i_mul, i_subr, i_sub, am_at_g, am_at_gl, am_up_g, am_up_gl, up_app, in_X, i_sub1, f_X12_elector, w, w2, i2, n2]
        have c1 := t_X11_elector (xs := xs) A I x (Int32.ofNat p) (Int32.ofNat o) e1
        have c2 := t_X12_elector (xs := xs) (up A 59 (A 59)) (up (up I 3714 (I 3714)) 3715 (I 3715)) x (Int32.ofNat p) (Int32.ofNat o) e2
        exact am_op.mk hx c1 (by decide) c2 (by decide) ⟨P, N, T, R, E, C, X, Z, ⟨hI.1, hI.2.1, hI.2.2.1, hI.2.2.2.1, hI.2.2.2.2.1, hI.2.2.2.2.2.1, hI.2.2.2.2.2.2.1, hI.2.2.2.2.2.2.2.1, hI.2.2.2.2.2.2.2.2.1, hI.2.2.2.2.2.2.2.2.2.1, hI.2.2.2.2.2.2.2.2.2.2.1, hI.2.2.2.2.2.2.2.2.2.2.2.1, hI.2.2.2.2.2.2.2.2.2.2.2.2⟩⟩

theorem op_clause (xs : List Int32) {n : Nat} {A : Nat → List Int32} {I : Nat → Int32} {x : am_X} (h : Iv0 n A I x) (a1 : Int32) : am_op xs n ix_X11_clause ix_X12_clause [.int a1] A I x := by
  obtain ⟨⟨P, N, T, R, E, C, X, Z, hI⟩, hx⟩ := h
  obtain ⟨⟨e1', e2'⟩, ⟨l1, l2, l3⟩, hC, i1, i2, hw, hk, sy⟩ := id hI.2.2.2.2.2.2.2.2.1
  rcases wi_l 16777215 (by decide) a1 with w | ⟨p, hp, rfl, w⟩
  · skip
    have e1 : f_X11_clause A I a1 = some (-2, (A 62), (I 3907)) := by
      simp (disch := first | omega | decide | assumption | (simp [up_app]; assumption)) [-Int32.xor_neg_one, -Int32.ofNat_add, -Int32.ofNat_mul, -Int32.ofNat_sub, i_lel, i_ler, i_ltl, i_ltr, i_eql, i_eqr, i_le, i_lt, i_eq, i_addl, i_addr, i_add, i_mull, i_mulr, i_mul, i_subr, i_sub, am_at_g, am_at_gl, am_up_g, am_up_gl, up_app, in_X, i_sub1, f_X11_clause, w]
    have e2 : f_X12_clause (up A 62 (A 62)) (up I 3907 (I 3907)) a1 = some (-2, (A 117), (A 119), (I 5486)) := by
      simp (disch := first | omega | decide | assumption | (simp [up_app]; assumption)) [-Int32.xor_neg_one, -Int32.ofNat_add, -Int32.ofNat_mul, -Int32.ofNat_sub, i_lel, i_ler, i_ltl, i_ltr, i_eql, i_eqr, i_le, i_lt, i_eq, i_addl, i_addr, i_add, i_mull, i_mulr, i_mul, i_subr, i_sub, am_at_g, am_at_gl, am_up_g, am_up_gl, up_app, in_X, i_sub1, f_X12_clause, w]
    have c1 := t_X11_clause (xs := xs) A I x a1 e1
    have c2 := t_X12_clause (xs := xs) (up A 62 (A 62)) (up I 3907 (I 3907)) x a1 e2
    exact am_op.mk hx c1 (by decide) c2 (by decide) ⟨P, N, T, R, E, C, X, Z, ⟨hI.1, hI.2.1, hI.2.2.1, hI.2.2.2.1, hI.2.2.2.2.1, hI.2.2.2.2.2.1, hI.2.2.2.2.2.2.1, hI.2.2.2.2.2.2.2.1, hI.2.2.2.2.2.2.2.2.1, hI.2.2.2.2.2.2.2.2.2.1, hI.2.2.2.2.2.2.2.2.2.2.1, hI.2.2.2.2.2.2.2.2.2.2.2.1, hI.2.2.2.2.2.2.2.2.2.2.2.2⟩⟩
  · by_cases hC1 : C < 8
    · have n1 := eq_true hC1
      have n2 := eq_false (show ¬ C = 8 by omega)
      have z0 := (hk C (by omega)).2.2 (Nat.le_refl _)
      have e119 : (A 119).set C 0 = A 119 := set_self (by omega) z0
      have q1 : v_cls (C + 1) ((A 117).set C (Int32.ofNat p)) (A 63) [A 65, A 66, A 67, A 68, A 69, A 70, A 71, A 72] (Int32.ofNat (C + 1)) ((A 117).set C (Int32.ofNat p)) (A 118) ((A 119).set C 0) (Int32.ofNat (C + 1)) := by
        rw [e119]
        refine ⟨⟨rfl, e2'⟩, ⟨by rw [List.length_set]; exact l1, l2, l3⟩, by omega, rfl, rfl, hw, fun k hk' => ?_, sy⟩
        obtain ⟨y1, y2, y3⟩ := hk k hk'
        refine ⟨?_, y2, fun h => y3 (by omega)⟩
        rw [g_set (by omega)]
        split
        · exact ⟨p, by omega, rfl⟩
        · exact y1
      have e1 : f_X11_clause A I (Int32.ofNat p) = some ((Int32.ofNat C), ((A 117).set C (Int32.ofNat p)), (Int32.ofNat (C + 1))) := by
        simp (disch := first | omega | decide | assumption | (simp [up_app]; assumption)) [-Int32.xor_neg_one, -Int32.ofNat_add, -Int32.ofNat_mul, -Int32.ofNat_sub, i_lel, i_ler, i_ltl, i_ltr, i_eql, i_eqr, i_le, i_lt, i_eq, i_addl, i_addr, i_add, i_mull, i_mulr, i_mul, i_subr, i_sub, am_at_g, am_at_gl, am_up_g, am_up_gl, up_app, in_X, i_sub1, f_X11_clause, f_X0_add, w, i1, n1, e1']
      have e2 : f_X12_clause (up A 62 ((A 117).set C (Int32.ofNat p))) (up I 3907 (Int32.ofNat (C + 1))) (Int32.ofNat p) = some ((Int32.ofNat C), ((A 117).set C (Int32.ofNat p)), ((A 119).set C 0), (Int32.ofNat (C + 1))) := by
        simp (disch := first | omega | decide | assumption | (simp [up_app]; assumption)) [-Int32.xor_neg_one, -Int32.ofNat_add, -Int32.ofNat_mul, -Int32.ofNat_sub, i_lel, i_ler, i_ltl, i_ltr, i_eql, i_eqr, i_le, i_lt, i_eq, i_addl, i_addr, i_add, i_mull, i_mulr, i_mul, i_subr, i_sub, am_at_g, am_at_gl, am_up_g, am_up_gl, up_app, in_X, i_sub1, f_X12_clause, w, i2, n2]
      have c1 := t_X11_clause (xs := xs) A I x (Int32.ofNat p) e1
      have c2 := t_X12_clause (xs := xs) (up A 62 ((A 117).set C (Int32.ofNat p))) (up I 3907 (Int32.ofNat (C + 1))) x (Int32.ofNat p) e2
      exact am_op.mk hx c1 (by decide) c2 (by decide) ⟨P, N, T, R, E, C + 1, X, Z, ⟨hI.1, hI.2.1, hI.2.2.1, hI.2.2.2.1, hI.2.2.2.2.1, hI.2.2.2.2.2.1, hI.2.2.2.2.2.2.1, hI.2.2.2.2.2.2.2.1, q1, hI.2.2.2.2.2.2.2.2.2.1, hI.2.2.2.2.2.2.2.2.2.2.1, hI.2.2.2.2.2.2.2.2.2.2.2.1, hI.2.2.2.2.2.2.2.2.2.2.2.2⟩⟩
    · have n1 := eq_false hC1
      have n2 := eq_true (show C = 8 by omega)
      have e1 : f_X11_clause A I (Int32.ofNat p) = some (-4, (A 62), (I 3907)) := by
        simp (disch := first | omega | decide | assumption | (simp [up_app]; assumption)) [-Int32.xor_neg_one, -Int32.ofNat_add, -Int32.ofNat_mul, -Int32.ofNat_sub, i_lel, i_ler, i_ltl, i_ltr, i_eql, i_eqr, i_le, i_lt, i_eq, i_addl, i_addr, i_add, i_mull, i_mulr, i_mul, i_subr, i_sub, am_at_g, am_at_gl, am_up_g, am_up_gl, up_app, in_X, i_sub1, f_X11_clause, w, i1, n1]
      have e2 : f_X12_clause (up A 62 (A 62)) (up I 3907 (I 3907)) (Int32.ofNat p) = some (-4, (A 117), (A 119), (I 5486)) := by
        simp (disch := first | omega | decide | assumption | (simp [up_app]; assumption)) [-Int32.xor_neg_one, -Int32.ofNat_add, -Int32.ofNat_mul, -Int32.ofNat_sub, i_lel, i_ler, i_ltl, i_ltr, i_eql, i_eqr, i_le, i_lt, i_eq, i_addl, i_addr, i_add, i_mull, i_mulr, i_mul, i_subr, i_sub, am_at_g, am_at_gl, am_up_g, am_up_gl, up_app, in_X, i_sub1, f_X12_clause, w, i2, n2]
      have c1 := t_X11_clause (xs := xs) A I x (Int32.ofNat p) e1
      have c2 := t_X12_clause (xs := xs) (up A 62 (A 62)) (up I 3907 (I 3907)) x (Int32.ofNat p) e2
      exact am_op.mk hx c1 (by decide) c2 (by decide) ⟨P, N, T, R, E, C, X, Z, ⟨hI.1, hI.2.1, hI.2.2.1, hI.2.2.2.1, hI.2.2.2.2.1, hI.2.2.2.2.2.1, hI.2.2.2.2.2.2.1, hI.2.2.2.2.2.2.2.1, hI.2.2.2.2.2.2.2.2.1, hI.2.2.2.2.2.2.2.2.2.1, hI.2.2.2.2.2.2.2.2.2.2.1, hI.2.2.2.2.2.2.2.2.2.2.2.1, hI.2.2.2.2.2.2.2.2.2.2.2.2⟩⟩

/-- two set apart: the array behind it -/
theorem apart_1 {xs : List Int32} {n m a b : Nat} (hl : xs.length = n) (hn : n ≤ 24) (hmn : m ≤ n) (ha : a < m) (hb : b < m) (hab : ¬ a = b) (he : ∀ k, k < n → ∃ v, v < 2 ^ n ∧ g xs k = Int32.ofNat v) (sy : ∀ i j, i < n → j < n → (cb xs i).testBit j = (cb xs j).testBit i) (h0 : ∀ k, k < n → m ≤ k → g xs k = 0) : ∃ (r : Int32) (ys : List Int32), ys.length = n ∧ (∀ k, k < n → ∃ v, v < 2 ^ n ∧ g ys k = Int32.ofNat v) ∧ (∀ i j, i < n → j < n → (cb ys i).testBit j = (cb ys j).testBit i) ∧ (∀ k, k < n → m ≤ k → g ys k = 0) ∧ ((am_at xs (Int32.ofNat a)).bind fun v1 => (f_X11_has v1 (Int32.ofNat b)).bind fun r2 => if r2 = 0 then ((am_at xs (Int32.ofNat a)).bind fun v3 => (am_up xs (Int32.ofNat a) (v3 ||| (1 <<< (Int32.ofNat b &&& 31)))).bind fun y4 => (am_at y4 (Int32.ofNat b)).bind fun v5 => (am_up y4 (Int32.ofNat b) (v5 ||| (1 <<< (Int32.ofNat a &&& 31)))).bind fun y6 => some ((1 : Int32), y6)) else some (0, xs)) = some (r, ys) ∧ ((am_at xs (Int32.ofNat a)).bind fun v3 => ((if ((v3 >>> (Int32.ofNat b &&& 31)) &&& 1) = 1 then some 0 else some 1) : Option Int32).bind fun j4 => (am_at xs (Int32.ofNat a)).bind fun v5 => (am_up xs (Int32.ofNat a) (v5 ||| (1 <<< (Int32.ofNat b &&& 31)))).bind fun y6 => (am_at y6 (Int32.ofNat b)).bind fun v7 => (am_up y6 (Int32.ofNat b) (v7 ||| (1 <<< (Int32.ofNat a &&& 31)))).bind fun y8 => some (j4, y8)) = some (r, ys) := by
  obtain ⟨va, hva, eva⟩ := he a (by omega)
  obtain ⟨vb, hvb, evb⟩ := he b (by omega)
  have h24 : ∀ v, v < 2 ^ n → v < 16777216 := fun v h => Nat.lt_of_lt_of_le h (Nat.pow_le_pow_right (by decide) hn)
  have h1 := h24 va hva
  have h2 := h24 vb hvb
  have ca : cb xs a = va := by unfold cb; rw [eva, i_tn (by omega)]
  have cbb : cb xs b = vb := by unfold cb; rw [evb, i_tn (by omega)]
  have r1 : am_at xs (Int32.ofNat a) = some (Int32.ofNat va) := by rw [← eva]; exact am_at_g (by omega) (by omega)
  have u1 : ∀ v, am_up xs (Int32.ofNat a) v = some (xs.set a v) := fun v => am_up_g (by omega) (by omega)
  have r2 : ∀ v, am_at (xs.set a v) (Int32.ofNat b) = some (Int32.ofNat vb) := fun v => by
    rw [am_at_g (by rw [List.length_set]; omega) (by rw [List.length_set]; omega), g_set_ne (fun q => hab q.symm), evb]
  have u2 : ∀ v w, am_up (xs.set a v) (Int32.ofNat b) w = some ((xs.set a v).set b w) := fun v w => am_up_g (by rw [List.length_set]; omega) (by rw [List.length_set]; omega)
  have hh := has_1 (a := va) (k := b) (by omega) (by omega)
  have hbit := i_bit (a := va) (k := b) (by omega) (by omega)
  have sab := sy a b (by omega) (by omega)
  rw [ca, cbb] at sab
  cases ht : va.testBit b with
  | true =>
    rw [ht] at sab
    rw [ht, if_pos rfl] at hh hbit
    have orself : ∀ v k : Nat, v.testBit k = true → v ||| 2 ^ k = v := fun v k h => by
      apply Nat.eq_of_testBit_eq
      intro i
      rw [tb_or]
      by_cases e : i = k
      · subst e; rw [h, Bool.true_or]
      · rw [decide_eq_false e, Bool.or_false]
    refine ⟨0, xs, hl, he, sy, h0, ?_, ?_⟩
    · rw [r1, Option.bind_some, hh, Option.bind_some, if_neg (by decide)]
    · rw [r1, Option.bind_some, hbit, if_pos rfl, Option.bind_some, Option.bind_some, i_set (by omega), orself va b ht, u1, Option.bind_some, r2, Option.bind_some, i_set (by omega), orself vb a sab.symm, u2, Option.bind_some, set_self (by omega) eva, set_self (by omega) evb]
  | false =>
    rw [ht] at sab
    rw [ht, if_neg (by decide)] at hh hbit
    refine ⟨1, (xs.set a (Int32.ofNat (va ||| 2 ^ b))).set b (Int32.ofNat (vb ||| 2 ^ a)), by rw [List.length_set, List.length_set]; exact hl, ?_, ?_, ?_, ?_, ?_⟩
    · intro k hk
      by_cases e1 : k = b
      · subst e1
        rw [g_set_eq (by rw [List.length_set]; omega)]
        exact ⟨_, or_lt hvb (by omega), rfl⟩
      · rw [g_set_ne e1]
        by_cases e2 : k = a
        · subst e2
          rw [g_set_eq (by omega)]
          exact ⟨_, or_lt hva (by omega), rfl⟩
        · rw [g_set_ne e2]; exact he k hk
    · have cbn : ∀ k, cb ((xs.set a (Int32.ofNat (va ||| 2 ^ b))).set b (Int32.ofNat (vb ||| 2 ^ a))) k = if k = b then vb ||| 2 ^ a else if k = a then va ||| 2 ^ b else cb xs k := fun k => by
        unfold cb
        by_cases e1 : k = b
        · subst e1
          rw [g_set_eq (by rw [List.length_set]; omega), if_pos rfl, i_tn (Nat.lt_trans (h24 _ (or_lt hvb (by omega))) (by decide))]
        · rw [g_set_ne e1, if_neg e1]
          by_cases e2 : k = a
          · subst e2
            rw [g_set_eq (by omega), if_pos rfl, i_tn (Nat.lt_trans (h24 _ (or_lt hva (by omega))) (by decide))]
          · rw [g_set_ne e2, if_neg e2]
      have tbn : ∀ i j, (cb ((xs.set a (Int32.ofNat (va ||| 2 ^ b))).set b (Int32.ofNat (vb ||| 2 ^ a))) i).testBit j = ((cb xs i).testBit j || ((decide (i = b) && decide (j = a)) || (decide (i = a) && decide (j = b)))) := fun i j => by
        rw [cbn]
        by_cases e1 : i = b
        · subst e1
          rw [if_pos rfl, tb_or, cbb, decide_eq_true rfl, decide_eq_false (show ¬ i = a from fun q => hab q.symm), Bool.true_and, Bool.false_and, Bool.or_false]
        · rw [if_neg e1, decide_eq_false e1, Bool.false_and, Bool.false_or]
          by_cases e2 : i = a
          · subst e2
            rw [if_pos rfl, tb_or, ca, decide_eq_true rfl, Bool.true_and]
          · rw [if_neg e2, decide_eq_false e2, Bool.false_and, Bool.or_false]
      intro i j hi hj
      rw [tbn, tbn, sy i j hi hj]
      congr 1
      cases decide (i = b) <;> cases decide (j = a) <;> cases decide (i = a) <;> cases decide (j = b) <;> rfl
    · intro k hk hm
      rw [g_set_ne (by omega), g_set_ne (by omega)]
      exact h0 k hk hm
    · rw [r1, Option.bind_some, hh, Option.bind_some, if_pos rfl, Option.bind_some, i_set (by omega), u1, Option.bind_some, r2, Option.bind_some, i_set (by omega), u2, Option.bind_some]
    · rw [r1, Option.bind_some, hbit, if_neg (by decide), Option.bind_some, Option.bind_some, i_set (by omega), u1, Option.bind_some, r2, Option.bind_some, i_set (by omega), u2, Option.bind_some]
theorem op_clash (xs : List Int32) {n : Nat} {A : Nat → List Int32} {I : Nat → Int32} {x : am_X} (h : Iv0 n A I x) (a1 : Int32) (a2 : Int32) : am_op xs n ix_X11_clash ix_X12_clash [.int a1, .int a2] A I x := by
  obtain ⟨⟨P, N, T, R, E, C, X, Z, hI⟩, hx⟩ := h
  obtain ⟨⟨e1', e2'⟩, ⟨l1, l2, l3⟩, hE, i1, i2, hk, hB, sy⟩ := id hI.2.2.2.2.2.2.1
  rcases wi_p E (by omega) a1 with w | ⟨a, ha, rfl, w⟩
  · rw [← i1] at w
    have v := w
    rw [i1, ← i2] at v
    have e1 : f_X11_clash A I a1 a2 = some (-2, (A 60)) := by
      simp (disch := first | omega | decide | assumption | (simp [up_app]; assumption)) [-Int32.xor_neg_one, -Int32.ofNat_add, -Int32.ofNat_mul, -Int32.ofNat_sub, i_lel, i_ler, i_ltl, i_ltr, i_eql, i_eqr, i_le, i_lt, i_eq, i_addl, i_addr, i_add, i_mull, i_mulr, i_mul, i_subr, i_sub, am_at_g, am_at_gl, am_up_g, am_up_gl, up_app, in_X, i_sub1, f_X11_clash, w]
    have e2 : f_X12_clash (up A 60 (A 60)) I a1 a2 = some (-2, (A 115)) := by
      simp (disch := first | omega | decide | assumption | (simp [up_app]; assumption)) [-Int32.xor_neg_one, -Int32.ofNat_add, -Int32.ofNat_mul, -Int32.ofNat_sub, i_lel, i_ler, i_ltl, i_ltr, i_eql, i_eqr, i_le, i_lt, i_eq, i_addl, i_addr, i_add, i_mull, i_mulr, i_mul, i_subr, i_sub, am_at_g, am_at_gl, am_up_g, am_up_gl, up_app, in_X, i_sub1, f_X12_clash, v]
    have c1 := t_X11_clash (xs := xs) A I x a1 a2 e1
    have c2 := t_X12_clash (xs := xs) (up A 60 (A 60)) I x a1 a2 e2
    exact am_op.mk hx c1 (by decide) c2 (by decide) ⟨P, N, T, R, E, C, X, Z, ⟨hI.1, hI.2.1, hI.2.2.1, hI.2.2.2.1, hI.2.2.2.2.1, hI.2.2.2.2.2.1, hI.2.2.2.2.2.2.1, hI.2.2.2.2.2.2.2.1, hI.2.2.2.2.2.2.2.2.1, hI.2.2.2.2.2.2.2.2.2.1, hI.2.2.2.2.2.2.2.2.2.2.1, hI.2.2.2.2.2.2.2.2.2.2.2.1, hI.2.2.2.2.2.2.2.2.2.2.2.2⟩⟩
  · rw [← i1] at w
    have v := w
    rw [i1, ← i2] at v
    rcases wi_p E (by omega) a2 with w2 | ⟨b, hb, rfl, w2⟩
    · rw [← i1] at w2
      have v2 := w2
      rw [i1, ← i2] at v2
      have e1 : f_X11_clash A I (Int32.ofNat a) a2 = some (-2, (A 60)) := by
        simp (disch := first | omega | decide | assumption | (simp [up_app]; assumption)) [-Int32.xor_neg_one, -Int32.ofNat_add, -Int32.ofNat_mul, -Int32.ofNat_sub, i_lel, i_ler, i_ltl, i_ltr, i_eql, i_eqr, i_le, i_lt, i_eq, i_addl, i_addr, i_add, i_mull, i_mulr, i_mul, i_subr, i_sub, am_at_g, am_at_gl, am_up_g, am_up_gl, up_app, in_X, i_sub1, f_X11_clash, w, w2]
      have e2 : f_X12_clash (up A 60 (A 60)) I (Int32.ofNat a) a2 = some (-2, (A 115)) := by
        simp (disch := first | omega | decide | assumption | (simp [up_app]; assumption)) [-Int32.xor_neg_one, -Int32.ofNat_add, -Int32.ofNat_mul, -Int32.ofNat_sub, i_lel, i_ler, i_ltl, i_ltr, i_eql, i_eqr, i_le, i_lt, i_eq, i_addl, i_addr, i_add, i_mull, i_mulr, i_mul, i_subr, i_sub, am_at_g, am_at_gl, am_up_g, am_up_gl, up_app, in_X, i_sub1, f_X12_clash, v, v2]
      have c1 := t_X11_clash (xs := xs) A I x (Int32.ofNat a) a2 e1
      have c2 := t_X12_clash (xs := xs) (up A 60 (A 60)) I x (Int32.ofNat a) a2 e2
      exact am_op.mk hx c1 (by decide) c2 (by decide) ⟨P, N, T, R, E, C, X, Z, ⟨hI.1, hI.2.1, hI.2.2.1, hI.2.2.2.1, hI.2.2.2.2.1, hI.2.2.2.2.2.1, hI.2.2.2.2.2.2.1, hI.2.2.2.2.2.2.2.1, hI.2.2.2.2.2.2.2.2.1, hI.2.2.2.2.2.2.2.2.2.1, hI.2.2.2.2.2.2.2.2.2.2.1, hI.2.2.2.2.2.2.2.2.2.2.2.1, hI.2.2.2.2.2.2.2.2.2.2.2.2⟩⟩
    · rw [← i1] at w2
      have v2 := w2
      rw [i1, ← i2] at v2
      by_cases hab : a = b
      · have hab := eq_true hab
        have e1 : f_X11_clash A I (Int32.ofNat a) (Int32.ofNat b) = some (-2, (A 60)) := by
          simp (disch := first | omega | decide | assumption | (simp [up_app]; assumption)) [-Int32.xor_neg_one, -Int32.ofNat_add, -Int32.ofNat_mul, -Int32.ofNat_sub, i_lel, i_ler, i_ltl, i_ltr, i_eql, i_eqr, i_le, i_lt, i_eq, i_addl, i_addr, i_add, i_mull, i_mulr, i_mul, i_subr, i_sub, am_at_g, am_at_gl, am_up_g, am_up_gl, up_app, in_X, i_sub1, f_X11_clash, w, w2, hab]
        have e2 : f_X12_clash (up A 60 (A 60)) I (Int32.ofNat a) (Int32.ofNat b) = some (-2, (A 115)) := by
          simp (disch := first | omega | decide | assumption | (simp [up_app]; assumption)) [-Int32.xor_neg_one, -Int32.ofNat_add, -Int32.ofNat_mul, -Int32.ofNat_sub, i_lel, i_ler, i_ltl, i_ltr, i_eql, i_eqr, i_le, i_lt, i_eq, i_addl, i_addr, i_add, i_mull, i_mulr, i_mul, i_subr, i_sub, am_at_g, am_at_gl, am_up_g, am_up_gl, up_app, in_X, i_sub1, f_X12_clash, v, v2, hab]
        have c1 := t_X11_clash (xs := xs) A I x (Int32.ofNat a) (Int32.ofNat b) e1
        have c2 := t_X12_clash (xs := xs) (up A 60 (A 60)) I x (Int32.ofNat a) (Int32.ofNat b) e2
        exact am_op.mk hx c1 (by decide) c2 (by decide) ⟨P, N, T, R, E, C, X, Z, ⟨hI.1, hI.2.1, hI.2.2.1, hI.2.2.2.1, hI.2.2.2.2.1, hI.2.2.2.2.2.1, hI.2.2.2.2.2.2.1, hI.2.2.2.2.2.2.2.1, hI.2.2.2.2.2.2.2.2.1, hI.2.2.2.2.2.2.2.2.2.1, hI.2.2.2.2.2.2.2.2.2.2.1, hI.2.2.2.2.2.2.2.2.2.2.2.1, hI.2.2.2.2.2.2.2.2.2.2.2.2⟩⟩
      · obtain ⟨r, ys, y1, y2, y3, y4, y5, y6⟩ := apart_1 (xs := A 115) (n := 10) (m := E) (a := a) (b := b) l3 (by decide) hE ha hb hab (fun k hk' => (hk k hk').2.1) sy (fun k hk' => (hk k hk').2.2)
        have hab := eq_false hab
        have q1 : v_ele E (A 59) ys (I 3714) (I 3715) (A 113) (A 114) ys (I 5481) := ⟨⟨e1', rfl⟩, ⟨l1, l2, y1⟩, hE, i1, i2, fun k hk' => ⟨(hk k hk').1, y2 k hk', y4 k hk'⟩, hB, y3⟩
        have e1 : f_X11_clash A I (Int32.ofNat a) (Int32.ofNat b) = some (r, ys) := by
          have hne : ¬ Int32.ofNat a = Int32.ofNat b := by rw [i_eq (by omega) (by omega), hab]; exact id
          unfold f_X11_clash
          rw [w, Option.bind_some, if_neg (show ¬ (1 : Int32) = 0 by decide), w2, Option.bind_some, if_neg (show ¬ (1 : Int32) = 0 by decide), if_neg hne]
          unfold f_X11_setApart_60
          rw [e2', y5]
          rfl
        have e2 : f_X12_clash (up A 60 ys) I (Int32.ofNat a) (Int32.ofNat b) = some (r, ys) := by
          have hne : ¬ Int32.ofNat a = Int32.ofNat b := by rw [i_eq (by omega) (by omega), hab]; exact id
          unfold f_X12_clash
          rw [in_X, v, Option.bind_some, if_neg (show ¬ (1 : Int32) = 0 by decide), in_X, v2, Option.bind_some, if_neg (show ¬ (1 : Int32) = 0 by decide), if_neg hne]
          exact y6
        have c1 := t_X11_clash (xs := xs) A I x (Int32.ofNat a) (Int32.ofNat b) e1
        have c2 := t_X12_clash (xs := xs) (up A 60 ys) I x (Int32.ofNat a) (Int32.ofNat b) e2
        exact am_op.mk hx c1 (by decide) c2 (by decide) ⟨P, N, T, R, E, C, X, Z, ⟨hI.1, hI.2.1, hI.2.2.1, hI.2.2.2.1, hI.2.2.2.2.1, hI.2.2.2.2.2.1, q1, hI.2.2.2.2.2.2.2.1, hI.2.2.2.2.2.2.2.2.1, hI.2.2.2.2.2.2.2.2.2.1, hI.2.2.2.2.2.2.2.2.2.2.1, hI.2.2.2.2.2.2.2.2.2.2.2.1, hI.2.2.2.2.2.2.2.2.2.2.2.2⟩⟩

theorem op_against (xs : List Int32) {n : Nat} {A : Nat → List Int32} {I : Nat → Int32} {x : am_X} (h : Iv0 n A I x) (a1 : Int32) (a2 : Int32) : am_op xs n ix_X11_against ix_X12_against [.int a1, .int a2] A I x := by
  obtain ⟨⟨P, N, T, R, E, C, X, Z, hI⟩, hx⟩ := h
  obtain ⟨⟨e1', e2'⟩, ⟨l1, l2, l3⟩, hE, i1, i2, hw, hk, sy⟩ := id hI.2.2.2.2.2.2.2.2.1
  rcases c_Clause C (by omega) a1 with ⟨w, v'⟩ | ⟨a, ha, rfl, w, v'⟩
  · have w := w A I i1
    have v := v' (up A 63 (A 63)) I i2
    have e1 : f_X11_against A I a1 a2 = some (-2, (A 63)) := by
      simp (disch := first | omega | decide | assumption | (simp [up_app]; assumption)) [-Int32.xor_neg_one, -Int32.ofNat_add, -Int32.ofNat_mul, -Int32.ofNat_sub, i_lel, i_ler, i_ltl, i_ltr, i_eql, i_eqr, i_le, i_lt, i_eq, i_addl, i_addr, i_add, i_mull, i_mulr, i_mul, i_subr, i_sub, am_at_g, am_at_gl, am_up_g, am_up_gl, up_app, in_X, i_sub1, f_X11_against, w]
    have e2 : f_X12_against (up A 63 (A 63)) I a1 a2 = some (-2, (A 119)) := by
      simp (disch := first | omega | decide | assumption | (simp [up_app]; assumption)) [-Int32.xor_neg_one, -Int32.ofNat_add, -Int32.ofNat_mul, -Int32.ofNat_sub, i_lel, i_ler, i_ltl, i_ltr, i_eql, i_eqr, i_le, i_lt, i_eq, i_addl, i_addr, i_add, i_mull, i_mulr, i_mul, i_subr, i_sub, am_at_g, am_at_gl, am_up_g, am_up_gl, up_app, in_X, i_sub1, f_X12_against, v]
    have c1 := t_X11_against (xs := xs) A I x a1 a2 e1
    have c2 := t_X12_against (xs := xs) (up A 63 (A 63)) I x a1 a2 e2
    exact am_op.mk hx c1 (by decide) c2 (by decide) ⟨P, N, T, R, E, C, X, Z, ⟨hI.1, hI.2.1, hI.2.2.1, hI.2.2.2.1, hI.2.2.2.2.1, hI.2.2.2.2.2.1, hI.2.2.2.2.2.2.1, hI.2.2.2.2.2.2.2.1, hI.2.2.2.2.2.2.2.2.1, hI.2.2.2.2.2.2.2.2.2.1, hI.2.2.2.2.2.2.2.2.2.2.1, hI.2.2.2.2.2.2.2.2.2.2.2.1, hI.2.2.2.2.2.2.2.2.2.2.2.2⟩⟩
  · have w := w A I i1
    have v := v' (up A 63 (A 63)) I i2
    rcases c_Clause C (by omega) a2 with ⟨w2, v2'⟩ | ⟨b, hb, rfl, w2, v2'⟩
    · have w2 := w2 A I i1
      have v2 := v2' (up A 63 (A 63)) I i2
      have e1 : f_X11_against A I (Int32.ofNat a) a2 = some (-2, (A 63)) := by
        simp (disch := first | omega | decide | assumption | (simp [up_app]; assumption)) [-Int32.xor_neg_one, -Int32.ofNat_add, -Int32.ofNat_mul, -Int32.ofNat_sub, i_lel, i_ler, i_ltl, i_ltr, i_eql, i_eqr, i_le, i_lt, i_eq, i_addl, i_addr, i_add, i_mull, i_mulr, i_mul, i_subr, i_sub, am_at_g, am_at_gl, am_up_g, am_up_gl, up_app, in_X, i_sub1, f_X11_against, w, w2]
      have e2 : f_X12_against (up A 63 (A 63)) I (Int32.ofNat a) a2 = some (-2, (A 119)) := by
        simp (disch := first | omega | decide | assumption | (simp [up_app]; assumption)) [-Int32.xor_neg_one, -Int32.ofNat_add, -Int32.ofNat_mul, -Int32.ofNat_sub, i_lel, i_ler, i_ltl, i_ltr, i_eql, i_eqr, i_le, i_lt, i_eq, i_addl, i_addr, i_add, i_mull, i_mulr, i_mul, i_subr, i_sub, am_at_g, am_at_gl, am_up_g, am_up_gl, up_app, in_X, i_sub1, f_X12_against, v, v2]
      have c1 := t_X11_against (xs := xs) A I x (Int32.ofNat a) a2 e1
      have c2 := t_X12_against (xs := xs) (up A 63 (A 63)) I x (Int32.ofNat a) a2 e2
      exact am_op.mk hx c1 (by decide) c2 (by decide) ⟨P, N, T, R, E, C, X, Z, ⟨hI.1, hI.2.1, hI.2.2.1, hI.2.2.2.1, hI.2.2.2.2.1, hI.2.2.2.2.2.1, hI.2.2.2.2.2.2.1, hI.2.2.2.2.2.2.2.1, hI.2.2.2.2.2.2.2.2.1, hI.2.2.2.2.2.2.2.2.2.1, hI.2.2.2.2.2.2.2.2.2.2.1, hI.2.2.2.2.2.2.2.2.2.2.2.1, hI.2.2.2.2.2.2.2.2.2.2.2.2⟩⟩
    · have w2 := w2 A I i1
      have v2 := v2' (up A 63 (A 63)) I i2
      by_cases hab : a = b
      · have hab := eq_true hab
        have e1 : f_X11_against A I (Int32.ofNat a) (Int32.ofNat b) = some (-2, (A 63)) := by
          simp (disch := first | omega | decide | assumption | (simp [up_app]; assumption)) [-Int32.xor_neg_one, -Int32.ofNat_add, -Int32.ofNat_mul, -Int32.ofNat_sub, i_lel, i_ler, i_ltl, i_ltr, i_eql, i_eqr, i_le, i_lt, i_eq, i_addl, i_addr, i_add, i_mull, i_mulr, i_mul, i_subr, i_sub, am_at_g, am_at_gl, am_up_g, am_up_gl, up_app, in_X, i_sub1, f_X11_against, w, w2, hab]
        have e2 : f_X12_against (up A 63 (A 63)) I (Int32.ofNat a) (Int32.ofNat b) = some (-2, (A 119)) := by
          simp (disch := first | omega | decide | assumption | (simp [up_app]; assumption)) [-Int32.xor_neg_one, -Int32.ofNat_add, -Int32.ofNat_mul, -Int32.ofNat_sub, i_lel, i_ler, i_ltl, i_ltr, i_eql, i_eqr, i_le, i_lt, i_eq, i_addl, i_addr, i_add, i_mull, i_mulr, i_mul, i_subr, i_sub, am_at_g, am_at_gl, am_up_g, am_up_gl, up_app, in_X, i_sub1, f_X12_against, v, v2, hab]
        have c1 := t_X11_against (xs := xs) A I x (Int32.ofNat a) (Int32.ofNat b) e1
        have c2 := t_X12_against (xs := xs) (up A 63 (A 63)) I x (Int32.ofNat a) (Int32.ofNat b) e2
        exact am_op.mk hx c1 (by decide) c2 (by decide) ⟨P, N, T, R, E, C, X, Z, ⟨hI.1, hI.2.1, hI.2.2.1, hI.2.2.2.1, hI.2.2.2.2.1, hI.2.2.2.2.2.1, hI.2.2.2.2.2.2.1, hI.2.2.2.2.2.2.2.1, hI.2.2.2.2.2.2.2.2.1, hI.2.2.2.2.2.2.2.2.2.1, hI.2.2.2.2.2.2.2.2.2.2.1, hI.2.2.2.2.2.2.2.2.2.2.2.1, hI.2.2.2.2.2.2.2.2.2.2.2.2⟩⟩
      · obtain ⟨r, ys, y1, y2, y3, y4, y5, y6⟩ := apart_1 (xs := A 119) (n := 8) (m := C) (a := a) (b := b) l3 (by decide) hE ha hb hab (fun k hk' => (hk k hk').2.1) sy (fun k hk' => (hk k hk').2.2)
        have hab := eq_false hab
        have q1 : v_cls C (A 62) ys [A 65, A 66, A 67, A 68, A 69, A 70, A 71, A 72] (I 3907) (A 117) (A 118) ys (I 5486) := ⟨⟨e1', rfl⟩, ⟨l1, l2, y1⟩, hE, i1, i2, hw, fun k hk' => ⟨(hk k hk').1, y2 k hk', y4 k hk'⟩, y3⟩
        have v := v' (up A 63 ys) I i2
        have v2 := v2' (up A 63 ys) I i2
        have e1 : f_X11_against A I (Int32.ofNat a) (Int32.ofNat b) = some (r, ys) := by
          have hne : ¬ Int32.ofNat a = Int32.ofNat b := by rw [i_eq (by omega) (by omega), hab]; exact id
          unfold f_X11_against
          rw [w, Option.bind_some, if_neg (show ¬ (1 : Int32) = 0 by decide), w2, Option.bind_some, if_neg (show ¬ (1 : Int32) = 0 by decide), if_neg hne]
          unfold f_X11_setApart_63
          rw [e2', y5]
          rfl
        have e2 : f_X12_against (up A 63 ys) I (Int32.ofNat a) (Int32.ofNat b) = some (r, ys) := by
          have hne : ¬ Int32.ofNat a = Int32.ofNat b := by rw [i_eq (by omega) (by omega), hab]; exact id
          unfold f_X12_against
          rw [v, Option.bind_some, if_neg (show ¬ (1 : Int32) = 0 by decide), v2, Option.bind_some, if_neg (show ¬ (1 : Int32) = 0 by decide), if_neg hne]
          exact y6
        have c1 := t_X11_against (xs := xs) A I x (Int32.ofNat a) (Int32.ofNat b) e1
        have c2 := t_X12_against (xs := xs) (up A 63 ys) I x (Int32.ofNat a) (Int32.ofNat b) e2
        exact am_op.mk hx c1 (by decide) c2 (by decide) ⟨P, N, T, R, E, C, X, Z, ⟨hI.1, hI.2.1, hI.2.2.1, hI.2.2.2.1, hI.2.2.2.2.1, hI.2.2.2.2.2.1, hI.2.2.2.2.2.2.1, hI.2.2.2.2.2.2.2.1, q1, hI.2.2.2.2.2.2.2.2.2.1, hI.2.2.2.2.2.2.2.2.2.2.1, hI.2.2.2.2.2.2.2.2.2.2.2.1, hI.2.2.2.2.2.2.2.2.2.2.2.2⟩⟩

theorem op_count (xs : List Int32) {n : Nat} {A : Nat → List Int32} {I : Nat → Int32} {x : am_X} (h : Iv0 n A I x) (a1 : Int32) : am_op xs n ix_X11_count ix_X12_count [.int a1] A I x := by
  obtain ⟨⟨P, N, T, R, E, C, X, Z, hI⟩, hx⟩ := h
  have key : ∃ v, f_X11_count A I a1 = some v ∧ f_X12_count A I a1 = some v := by
    obtain ⟨-, -, -, p4, p5, -⟩ := id hI.1
    obtain ⟨-, -, t8, t9, -⟩ := id hI.2.2.1
    obtain ⟨-, -, -, c2, c3, -⟩ := id hI.2.2.2.1
    obtain ⟨-, -, -, z4, z5⟩ := id hI.2.2.2.2.1
    obtain ⟨-, -, -, r10, r11, -⟩ := id hI.2.2.2.2.2.1
    obtain ⟨-, -, -, i1, i2, -⟩ := id hI.2.2.2.2.2.2.1
    obtain ⟨-, -, -, j1, j2, -⟩ := id hI.2.2.2.2.2.2.2.2.1
    obtain ⟨⟨x1, x2, x3, x4, -⟩, -, -, x11, x12, -⟩ := id hI.2.2.2.2.2.2.2.2.2.2.2.1
    have r : ∀ k, k < 3 → am_at (A 102) (Int32.ofNat k) = some (g (A 102) k) := fun k hk => am_at_g (by omega) (by omega)
    by_cases h0 : a1 = 0
    · subst h0; exact ⟨I 1601, rfl, by rw [p4, ← p5]; rfl⟩
    by_cases h1 : a1 = 1
    · subst h1; exact ⟨I 1863, rfl, by rw [c2, ← c3]; rfl⟩
    by_cases h2 : a1 = 2
    · subst h2; exact ⟨I 69, rfl, by rw [t8, ← t9]; rfl⟩
    by_cases h3 : a1 = 3
    · subst h3; exact ⟨I 3012, rfl, by rw [r10, ← r11]; rfl⟩
    by_cases h4 : a1 = 4
    · subst h4; exact ⟨I 3715, rfl, by rw [i1, ← i2]; rfl⟩
    by_cases h5 : a1 = 5
    · subst h5; exact ⟨I 3907, rfl, by rw [j1, ← j2]; rfl⟩
    by_cases h6 : a1 = 6
    · subst h6; exact ⟨I 2373, rfl, by rw [x11, ← x12]; rfl⟩
    by_cases h7 : a1 = 7
    · subst h7; exact ⟨I 3329, rfl, by rw [z4, ← z5]; rfl⟩
    by_cases h8 : a1 = 8
    · subst h8; exact ⟨g (A 102) 0, by show (am_at (A 40) (Int32.ofNat 0)).bind _ = _; rw [x1, r 0 (by decide)]; rfl, by show (am_at (A 102) (Int32.ofNat 0)).bind _ = _; rw [r 0 (by decide)]; rfl⟩
    by_cases h9 : a1 = 9
    · subst h9; exact ⟨g (A 102) 1, by show (am_at (A 40) (Int32.ofNat 1)).bind _ = _; rw [x1, r 1 (by decide)]; rfl, by show (am_at (A 102) (Int32.ofNat 1)).bind _ = _; rw [r 1 (by decide)]; rfl⟩
    by_cases h10 : a1 = 10
    · subst h10; exact ⟨g (A 102) 2, by show (am_at (A 40) (Int32.ofNat 2)).bind _ = _; rw [x1, r 2 (by decide)]; rfl, by show (am_at (A 102) (Int32.ofNat 2)).bind _ = _; rw [r 2 (by decide)]; rfl⟩
    refine ⟨-2, ?_, ?_⟩
    · unfold f_X11_count
      rw [if_neg h0, if_neg h1, if_neg h2, if_neg h3, if_neg h4, if_neg h5, if_neg h6, if_neg h7, if_neg h8, if_neg h9, if_neg h10]
    · unfold f_X12_count
      rw [if_neg h0, if_neg h1, if_neg h2, if_neg h3, if_neg h4, if_neg h5, if_neg h6, if_neg h7, if_neg h8, if_neg h9, if_neg h10]
  obtain ⟨v, e1, e2⟩ := key
  have c1 := t_X11_count (xs := xs) A I x a1 e1
  have c2 := t_X12_count (xs := xs) A I x a1 e2
  exact am_op.mk hx c1 (by decide) c2 (by decide) ⟨P, N, T, R, E, C, X, Z, hI⟩

theorem op_feed (xs : List Int32) {n : Nat} {A : Nat → List Int32} {I : Nat → Int32} {x : am_X} (h : Iv0 n A I x) (a1 : Int32) (a2 : Int64) : am_op xs n ix_X11_feed ix_X12_feed [.int a1, .long a2] A I x := by
  obtain ⟨⟨P, N, T, R, E, C, X, Z, hI⟩, hx⟩ := h
  obtain ⟨z1, z2, z3, z4, z5⟩ := id hI.2.2.2.2.1
  rcases wi_1 8 (by decide) a1 with w | ⟨k, hk0, hk, rfl, w⟩
  · skip
    have e1 : f_X11_feed A I a1 a2 = some (-2, (A 53), (I 3329)) := by
      simp (disch := first | omega | decide | assumption | (simp [up_app]; assumption)) [-Int32.xor_neg_one, -Int32.ofNat_add, -Int32.ofNat_mul, -Int32.ofNat_sub, i_lel, i_ler, i_ltl, i_ltr, i_eql, i_eqr, i_le, i_lt, i_eq, i_addl, i_addr, i_add, i_mull, i_mulr, i_mul, i_subr, i_sub, am_at_g, am_at_gl, am_up_g, am_up_gl, up_app, in_X, i_sub1, f_X11_feed, w]
    have e2 : f_X12_feed (up A 53 (A 53)) (up I 3329 (I 3329)) a1 a2 = some (-2, (A 101), (I 5459)) := by
      simp (disch := first | omega | decide | assumption | (simp [up_app]; assumption)) [-Int32.xor_neg_one, -Int32.ofNat_add, -Int32.ofNat_mul, -Int32.ofNat_sub, i_lel, i_ler, i_ltl, i_ltr, i_eql, i_eqr, i_le, i_lt, i_eq, i_addl, i_addr, i_add, i_mull, i_mulr, i_mul, i_subr, i_sub, am_at_g, am_at_gl, am_up_g, am_up_gl, up_app, in_X, i_sub1, f_X12_feed, w]
    have c1 := t_X11_feed (xs := xs) A I x a1 a2 e1
    have c2 := t_X12_feed (xs := xs) (up A 53 (A 53)) (up I 3329 (I 3329)) x a1 a2 e2
    exact am_op.mk hx c1 (by decide) c2 (by decide) ⟨P, N, T, R, E, C, X, Z, ⟨hI.1, hI.2.1, hI.2.2.1, hI.2.2.2.1, hI.2.2.2.2.1, hI.2.2.2.2.2.1, hI.2.2.2.2.2.2.1, hI.2.2.2.2.2.2.2.1, hI.2.2.2.2.2.2.2.2.1, hI.2.2.2.2.2.2.2.2.2.1, hI.2.2.2.2.2.2.2.2.2.2.1, hI.2.2.2.2.2.2.2.2.2.2.2.1, hI.2.2.2.2.2.2.2.2.2.2.2.2⟩⟩
  · by_cases hZ : Z + k ≤ 160
    · have hZ' := eq_true hZ
      obtain ⟨r, v, y1, y2, y3⟩ := wl_two (s1 := f_X8_append_l1 A I (Int32.ofNat k) a2) (s2 := f_X12_feed_l1 (up A 53 (A 53)) (up I 3329 (I 3329)) (Int32.ofNat k) a2) (fun n x y => x = y ∧ ∃ i tp, x = (Int32.ofNat i, tp, Int32.ofNat (Z + i)) ∧ n + i = k ∧ tp.length = 160) (fun r w => r = w ∧ ∃ tp, r = (tp, Int32.ofNat (Z + k)) ∧ tp.length = 160) (fun n x y => by
        rintro ⟨rfl, i, tp, rfl, hn, hl⟩
        unfold f_X8_append_l1 f_X12_feed_l1
        dsimp only
        by_cases hi : k ≤ i
        · right
          rw [if_pos (by rw [i_le (by omega) (by omega)]; exact hi), if_pos (by rw [i_le (by omega) (by omega)]; exact hi)]
          have : i = k := by omega
          subst this
          exact ⟨_, _, rfl, rfl, rfl, tp, rfl, hl⟩
        · left
          have n160 : ¬ (160 : Int32) ≤ Int32.ofNat (Z + i) := fun q => absurd ((i_le (m := 160) (by decide) (by omega)).mp q) (by omega)
          have nki : ¬ Int32.ofNat k ≤ Int32.ofNat i := by rw [i_le (by omega) (by omega)]; exact hi
          rw [if_neg nki, if_neg n160, if_neg nki, am_up_g (by omega) (by omega), Option.bind_some, i_addr, i_addr]
          exact ⟨_, _, rfl, rfl, n - 1, by omega, rfl, i + 1, _, rfl, by omega, by rw [List.length_set]; exact hl⟩) k 100000 100000 (0, A 101, Int32.ofNat Z) (0, A 101, Int32.ofNat Z) ⟨rfl, 0, A 101, rfl, by omega, z2⟩ (by omega) (by omega)
      obtain ⟨rfl, tp, rfl, hl⟩ := y3
      have q1 : v_tap (Z + k) tp (Int32.ofNat (Z + k)) tp (Int32.ofNat (Z + k)) := ⟨rfl, hl, hZ, rfl, rfl⟩
      have y2' : wl (f_X12_feed_l1 (up A 53 tp) (up I 3329 (Int32.ofNat (Z + k))) (Int32.ofNat k) a2) 100000 (0, A 101, Int32.ofNat Z) = some (tp, Int32.ofNat (Z + k)) := y2
      have e1 : f_X11_feed A I (Int32.ofNat k) a2 = some ((Int32.ofNat (Z + k)), tp, (Int32.ofNat (Z + k))) := by
        simp (disch := first | omega | decide | assumption | (simp [up_app]; assumption)) [-Int32.xor_neg_one, -Int32.ofNat_add, -Int32.ofNat_mul, -Int32.ofNat_sub, i_lel, i_ler, i_ltl, i_ltr, i_eql, i_eqr, i_le, i_lt, i_eq, i_addl, i_addr, i_add, i_mull, i_mulr, i_mul, i_subr, i_sub, am_at_g, am_at_gl, am_up_g, am_up_gl, up_app, in_X, i_sub1, f_X11_feed, f_X8_append, w, z4, hZ', z1, y1]
      have e2 : f_X12_feed (up A 53 tp) (up I 3329 (Int32.ofNat (Z + k))) (Int32.ofNat k) a2 = some ((Int32.ofNat (Z + k)), tp, (Int32.ofNat (Z + k))) := by
        simp (disch := first | omega | decide | assumption | (simp [up_app]; assumption)) [-Int32.xor_neg_one, -Int32.ofNat_add, -Int32.ofNat_mul, -Int32.ofNat_sub, i_lel, i_ler, i_ltl, i_ltr, i_eql, i_eqr, i_le, i_lt, i_eq, i_addl, i_addr, i_add, i_mull, i_mulr, i_mul, i_subr, i_sub, am_at_g, am_at_gl, am_up_g, am_up_gl, up_app, in_X, i_sub1, f_X12_feed, w, z5, hZ', y2']
      have c1 := t_X11_feed (xs := xs) A I x (Int32.ofNat k) a2 e1
      have c2 := t_X12_feed (xs := xs) (up A 53 tp) (up I 3329 (Int32.ofNat (Z + k))) x (Int32.ofNat k) a2 e2
      exact am_op.mk hx c1 (by decide) c2 (by decide) ⟨P, N, T, R, E, C, X, Z + k, ⟨hI.1, hI.2.1, hI.2.2.1, hI.2.2.2.1, q1, hI.2.2.2.2.2.1, hI.2.2.2.2.2.2.1, hI.2.2.2.2.2.2.2.1, hI.2.2.2.2.2.2.2.2.1, hI.2.2.2.2.2.2.2.2.2.1, hI.2.2.2.2.2.2.2.2.2.2.1, hI.2.2.2.2.2.2.2.2.2.2.2.1, hI.2.2.2.2.2.2.2.2.2.2.2.2⟩⟩
    · have hZ' := eq_false hZ
      have e1 : f_X11_feed A I (Int32.ofNat k) a2 = some (-4, (A 53), (I 3329)) := by
        simp (disch := first | omega | decide | assumption | (simp [up_app]; assumption)) [-Int32.xor_neg_one, -Int32.ofNat_add, -Int32.ofNat_mul, -Int32.ofNat_sub, i_lel, i_ler, i_ltl, i_ltr, i_eql, i_eqr, i_le, i_lt, i_eq, i_addl, i_addr, i_add, i_mull, i_mulr, i_mul, i_subr, i_sub, am_at_g, am_at_gl, am_up_g, am_up_gl, up_app, in_X, i_sub1, f_X11_feed, w, z4, hZ']
      have e2 : f_X12_feed (up A 53 (A 53)) (up I 3329 (I 3329)) (Int32.ofNat k) a2 = some (-4, (A 101), (I 5459)) := by
        simp (disch := first | omega | decide | assumption | (simp [up_app]; assumption)) [-Int32.xor_neg_one, -Int32.ofNat_add, -Int32.ofNat_mul, -Int32.ofNat_sub, i_lel, i_ler, i_ltl, i_ltr, i_eql, i_eqr, i_le, i_lt, i_eq, i_addl, i_addr, i_add, i_mull, i_mulr, i_mul, i_subr, i_sub, am_at_g, am_at_gl, am_up_g, am_up_gl, up_app, in_X, i_sub1, f_X12_feed, w, z5, hZ']
      have c1 := t_X11_feed (xs := xs) A I x (Int32.ofNat k) a2 e1
      have c2 := t_X12_feed (xs := xs) (up A 53 (A 53)) (up I 3329 (I 3329)) x (Int32.ofNat k) a2 e2
      exact am_op.mk hx c1 (by decide) c2 (by decide) ⟨P, N, T, R, E, C, X, Z, ⟨hI.1, hI.2.1, hI.2.2.1, hI.2.2.2.1, hI.2.2.2.2.1, hI.2.2.2.2.2.1, hI.2.2.2.2.2.2.1, hI.2.2.2.2.2.2.2.1, hI.2.2.2.2.2.2.2.2.1, hI.2.2.2.2.2.2.2.2.2.1, hI.2.2.2.2.2.2.2.2.2.2.1, hI.2.2.2.2.2.2.2.2.2.2.2.1, hI.2.2.2.2.2.2.2.2.2.2.2.2⟩⟩
