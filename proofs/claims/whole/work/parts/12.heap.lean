/-! ===== the heap of the abstract machine and the machine's ===== -/
def am_ca (D : va_G) (kA : Nat → ClassId) (ad : Nat → Nat) (a : Nat) (c : am_C) (H : Heap) : Prop := match c with
  | .inl (t, xs) => H[a]? = some (arrV (kA t) xs.length (fun j => .int (xs.getD j 0)))
  | .inr (.inl (t, xs)) => H[a]? = some (arrV (kA t) xs.length (fun j => va_rf ((xs.getD j none).map ad)))
  | .inr (.inr (ci, fs)) => ∃ r : vw_C, vwCl[ci]? = some r ∧ fs.length = r.2.2 ∧ t_OB a (D.1 ci) r.2.2 (D.2 ci) H (vp_V (fs.map (am_v ad)))
def am_RH (D : va_G) (kA : Nat → ClassId) (ad : Nat → Nat) (sz0 : Nat) (H00 : Heap) (h : am_H) (H : Heap) : Prop :=
  H.size = sz0 + h.length ∧ (∀ q : Nat, q < sz0 → H[q]? = H00[q]?) ∧ ∀ (k : Nat) (c : am_C), h[k]? = some c → am_ca D kA ad (sz0 + k) c H
theorem am_ca.kept {D : va_G} {kA : Nat → ClassId} {ad : Nat → Nat} {a : Nat} {c : am_C} {H H1 : Heap} (h : am_ca D kA ad a c H) (e : H1[a]? = H[a]?) : am_ca D kA ad a c H1 := by
  rcases c with ⟨t, xs⟩ | ⟨t, xs⟩ | ⟨ci, fs⟩
  · exact e.trans h
  · exact e.trans h
  · obtain ⟨r, h1, h2, h3⟩ := h
    exact ⟨r, h1, h2, h3.kept e⟩
theorem am_RH.set {D : va_G} {kA : Nat → ClassId} {ad : Nat → Nat} {sz0 : Nat} {H00 H H1 : Heap} {h : am_H} {k : Nat} {c : am_C} (R : am_RH D kA ad sz0 H00 h H) (z : H1.size = H.size) (o : ∀ q, q ≠ sz0 + k → H1[q]? = H[q]?) (hc : am_ca D kA ad (sz0 + k) c H1) : am_RH D kA ad sz0 H00 (h.set k c) H1 := by
  refine ⟨by rw [z, R.1, List.length_set], fun q hq => (o q (by omega)).trans (R.2.1 q hq), fun j c' hj => ?_⟩
  rw [List.getElem?_set] at hj
  split at hj
  · next e =>
    subst e
    split at hj
    · cases hj; exact hc
    · cases hj
  · next e => exact (R.2.2 j c' hj).kept (o _ (by omega))
theorem am_RH.push {D : va_G} {kA : Nat → ClassId} {ad : Nat → Nat} {sz0 : Nat} {H00 H H1 : Heap} {h : am_H} {c : am_C} (R : am_RH D kA ad sz0 H00 h H) (z : H1.size = H.size + 1) (o : ∀ q, q < H.size → H1[q]? = H[q]?) (hc : am_ca D kA ad H.size c H1) : am_RH D kA ad sz0 H00 (h ++ [c]) H1 := by
  have hs := R.1
  refine ⟨by rw [z, hs, List.length_append]; rfl, fun q hq => (o q (by omega)).trans (R.2.1 q hq), fun j c' hj => ?_⟩
  by_cases hl : j < h.length
  · rw [List.getElem?_append_left hl] at hj
    exact (R.2.2 j c' hj).kept (o _ (by omega))
  · rw [List.getElem?_append_right (by omega)] at hj
    have hz : j - h.length < 1 := (List.getElem?_eq_some_iff.mp hj).1
    rw [show j - h.length = 0 by omega] at hj
    cases hj
    rw [show sz0 + j = H.size by omega]
    exact hc
theorem am_at_some {xs : List Int32} {i v : Int32} (h : am_at xs i = some v) : vp_in i xs.length ∧ xs.getD i.toNatClampNeg 0 = v := by
  unfold am_at at h
  split at h
  · cases h
  · next hi =>
    obtain ⟨h1, h2⟩ := List.getElem?_eq_some_iff.mp h
    refine ⟨fun q => ?_, ?_⟩
    · rcases q with q | q
      · exact hi q
      · omega
    · rw [List.getD_eq_getElem?_getD, h]; rfl
theorem am_atr_some {xs : List (Option Nat)} {i : Int32} {v : Option Nat} (h : am_atr xs i = some v) : vp_in i xs.length ∧ xs.getD i.toNatClampNeg none = v := by
  unfold am_atr at h
  split at h
  · cases h
  · next hi =>
    obtain ⟨h1, h2⟩ := List.getElem?_eq_some_iff.mp h
    refine ⟨fun q => ?_, ?_⟩
    · rcases q with q | q
      · exact hi q
      · omega
    · rw [List.getD_eq_getElem?_getD, h]; rfl
theorem am_up_some {xs ys : List Int32} {i v : Int32} (h : am_up xs i v = some ys) : vp_in i xs.length ∧ ys = xs.set i.toNatClampNeg v := by
  unfold am_up at h
  split at h
  · cases h
  · next hi =>
    split at h
    · next hl => cases h; exact ⟨fun q => q.elim (fun q => hi q) (fun q => by omega), rfl⟩
    · cases h
theorem am_upr_some {xs ys : List (Option Nat)} {i : Int32} {v : Option Nat} (h : am_upr xs i v = some ys) : vp_in i xs.length ∧ ys = xs.set i.toNatClampNeg v := by
  unfold am_upr at h
  split at h
  · cases h
  · next hi =>
    split at h
    · next hl => cases h; exact ⟨fun q => q.elim (fun q => hi q) (fun q => by omega), rfl⟩
    · cases h
theorem am_arr_set {cA : ClassId} {xs : List Int32} {k : Nat} {x : Int32} (hk : k < xs.length) : (arrV cA xs.length (fun j => .int (xs.getD j 0))).setSlot k (.int x) = arrV cA (xs.set k x).length (fun j => .int ((xs.set k x).getD j 0)) := by
  rw [arrV_store, List.length_set]
  congr 1
  funext j
  simp only [updV, List.getD_eq_getElem?_getD, List.getElem?_set]
  by_cases e : j = k
  · subst e; simp [hk]
  · rw [if_neg e, if_neg (fun q => e q.symm)]
theorem am_arr_setr {cA : ClassId} {ad : Nat → Nat} {xs : List (Option Nat)} {k : Nat} {x : Option Nat} (hk : k < xs.length) : (arrV cA xs.length (fun j => va_rf ((xs.getD j none).map ad))).setSlot k (va_rf (x.map ad)) = arrV cA (xs.set k x).length (fun j => va_rf (((xs.set k x).getD j none).map ad)) := by
  rw [arrV_store, List.length_set]
  congr 1
  funext j
  simp only [updV, List.getD_eq_getElem?_getD, List.getElem?_set]
  by_cases e : j = k
  · subst e; simp [hk]
  · rw [if_neg e, if_neg (fun q => e q.symm)]
def am_tys (kA : Nat → ClassId) : List (ClassId × FieldType) := [(kA 0, .int), (kA 1, .byte), (kA 2, .boolean), (kA 3, .array .int), (kA 4, .object RX5), (kA 5, .object RX10)]
theorem vp_in_lt {i : Int32} {n : Nat} (h : vp_in i n) : i.toNatClampNeg < n := Nat.not_le.mp fun q => h (Or.inr q)
