/-! ===== all lengths ===== -/
theorem v_rows8 {P : List Int32 → Nat → Prop} {b0 b1 b2 b3 b4 b5 b6 b7 : List Int32} (h : ∀ a, a < 8 → P (([b0, b1, b2, b3, b4, b5, b6, b7] : List (List Int32)).getD a []) a) : P b0 0 ∧ P b1 1 ∧ P b2 2 ∧ P b3 3 ∧ P b4 4 ∧ P b5 5 ∧ P b6 6 ∧ P b7 7 := ⟨h 0 (by decide), h 1 (by decide), h 2 (by decide), h 3 (by decide), h 4 (by decide), h 5 (by decide), h 6 (by decide), h 7 (by decide)⟩
set_option maxRecDepth 10000 in
set_option maxHeartbeats 4000000 in
theorem Iv0_sl {n : Nat} {A : Nat → List Int32} {I : Nat → Int32} {x : am_X} (hI : Iv0 n A I x) : am_sl0 (hp A I (x.1, x.2.1, x.2.2.1, x.2.2.2.1, [])) ≤ 100000 := by
  obtain ⟨⟨P, N, T, R, E, C, X, Z, h1, h2, h3, h4, h5, h6, h7, h8, h9, h10, h11, h12, h13⟩, -, -⟩ := hI
  obtain ⟨p1, p2, -⟩ := h1
  obtain ⟨o1, o2, o3, o4⟩ := h2
  obtain ⟨⟨t1, t2, t3, t4, t5, t6⟩, -⟩ := h3
  obtain ⟨⟨a1, a2, a3, a4, a5, a6⟩, ⟨b1, b2, b3, b4, b5, b6, b7, b8⟩, -⟩ := h4
  obtain ⟨z1, z2, -⟩ := h5
  obtain ⟨⟨r1, r2, r3, r4⟩, ⟨r5, r6, r7, r8⟩, -⟩ := h6
  obtain ⟨⟨e1, e2⟩, ⟨e3, e4, e5⟩, -⟩ := h7
  obtain ⟨s1, s2, s3, s4, -⟩ := h8
  obtain ⟨⟨c1, c2⟩, ⟨c3, c4, c5⟩, -, -, -, c6, -⟩ := h9
  obtain ⟨d1, -, -, d2⟩ := h10
  obtain ⟨⟨q1, q2, q3⟩, q4, q5, q6, q7⟩ := h11
  obtain ⟨⟨x1, x2, x3, x4, x5, x6, x7, x8⟩, -⟩ := h12
  obtain ⟨w0, w1, w2, w3, w4, w5, w6, w7⟩ := v_rows8 (P := fun b _ => b.length = 8) (fun a ha => (c6 a ha).1)
  obtain ⟨u0, u1, u2, u3, u4, u5, u6, u7⟩ := v_rows8 (P := fun b _ => b.length = 8) (fun a ha => (d2 a ha).1)
  obtain ⟨v0, v1, v2, v3, v4, v5, v6, v7⟩ := v_rows8 (P := fun b _ => b.length = 8) (fun a ha => (d2 a ha).2.1)
  have q4 := q4.1
  have q5 := q5.1
  have q6 := q6.1
  have q7 := q7.1
  unfold v_scr v_scs at h13
  simp only [List.map_cons, List.map_nil, List.cons.injEq, and_true] at h13
  obtain ⟨k1, k2, k3, k4, k5, k6, k7, k8, k9, k10, k11, k12, k13, k14, k15, k16, k17⟩ := h13
  simp only [hp, am_sl0, am_csz, List.map_cons, List.map_nil, List.sum_cons, List.sum_nil, List.length_cons, List.length_nil]
  rw [p1, o1, o3, a1, a2, a3, a4, a5, a6, z1, r1, r2, r3, r4, e1, e2, s1, s2, c1, c2, x1]
  omega
