/-! ===== rules for what text makes, sheets, strings, recursion ===== -/
abbrev am_OrX : Type := (Nat → List Int32) → (Nat → Int32) → Int32 → Option ((List Int32) × Int32 × Int32 × Int32 × Int32)
def am_OrXh (xs : List Int32) (d ix : Nat) (g : am_OrX) : Prop := ∀ (A : Nat → List Int32) (I : Nat → Int32) (x : am_X) (a : Int32) {z : (List Int32) × Int32 × Int32 × Int32 × Int32}, g A I a = some z → am_Rt (am_ro xs) d ix [.ref 52, .int a] (hp A I x) (none, hp (up A 57 z.1) (up (up (up (up I 3336 z.2.1) 3337 z.2.2.1) 3338 z.2.2.2.1) 3340 z.2.2.2.2) x)
abbrev am_OrG : Type := (Nat → List Int32) → (Nat → Int32) → Int32 → Int32 → Int32 → Int32 → Int32 → Option ((List Int32) × (List Int32) × Int32)
def am_OrGh (xs : List Int32) (d ix : Nat) (g : am_OrG) : Prop := ∀ (A : Nat → List Int32) (I : Nat → Int32) (x : am_X) (a1 a2 a3 a4 a5 : Int32) {z : (List Int32) × (List Int32) × Int32}, g A I a1 a2 a3 a4 a5 = some z → am_Rt (am_ro xs) d ix [.ref 73, .int a1, .int a2, .int a3, .int a4, .int a5] (hp A I x) (none, hp (up (up A 74 z.1) 75 z.2.1) (up I 4676 z.2.2) x)
def am_fat (l : List (Option Nat)) (i : Int32) : Option Nat := (am_atr l i).bind id
/-- the code of the Formula w -/
def am_fcode (A : Nat → List Int32) (x : am_X) (w : Nat) : Option (List Int32) := if w = 43 then some (A 44) else if w = 45 then some (A 46) else if w < 128 then none else
  match x.2.2.2.2[w - 128]? with
  | some (.inr (.inr (5, [.ref c]))) => if c < 128 then none else if am_RO ≤ c then none else (match x.2.2.2.2[c - 128]? with
    | some (.inl (0, ys)) => some ys
    | _ => none)
  | _ => none
def am_fo (A : Nat → List Int32) (x : am_X) (w c : Nat) (ys : List Int32) : Prop := c < am_RO ∧ ∀ (A' : Nat → List Int32) (I' : Nat → Int32), A' 44 = A 44 → A' 46 = A 46 → (hp A' I' x)[w]? = some (.inr (.inr (5, [.ref c]))) ∧ (hp A' I' x)[c]? = some (.inl (0, ys))
set_option maxRecDepth 10000 in
theorem hp_app (A : Nat → List Int32) (I : Nat → Int32) (x : am_X) : hp A I x = hp A I (x.1, x.2.1, x.2.2.1, x.2.2.2.1, []) ++ x.2.2.2.2 := rfl
theorem hp_len (A : Nat → List Int32) (I : Nat → Int32) (x : am_X) : (hp A I x).length = 128 + x.2.2.2.2.length := by
  rw [hp_app, List.length_append]
  rfl
theorem hp_tail {A : Nat → List Int32} {I : Nat → Int32} {x : am_X} {w : Nat} (h : 128 ≤ w) : (hp A I x)[w]? = x.2.2.2.2[w - 128]? := by
  rw [hp_app, List.getElem?_append_right (by exact h)]
  rfl
theorem am_fcode_fo {A : Nat → List Int32} {x : am_X} {w : Nat} {ys : List Int32} (h : am_fcode A x w = some ys) : ∃ c, am_fo A x w c ys := by
  unfold am_fcode at h
  split at h
  · next e =>
    subst e
    cases h
    exact ⟨44, Nat.le_of_ble_eq_true rfl, fun A' I' h1 h2 => ⟨rfl, by rw [← h1]; rfl⟩⟩
  · split at h
    · next e =>
      subst e
      cases h
      exact ⟨46, Nat.le_of_ble_eq_true rfl, fun A' I' h1 h2 => ⟨rfl, by rw [← h2]; rfl⟩⟩
    · split at h
      · cases h
      · next hw =>
        split at h
        · next c hc =>
          by_cases h1 : c < 128
          · rw [if_pos h1] at h; cases h
          · have h3 : 128 ≤ c := Nat.le_of_not_lt h1
            rw [if_neg h1] at h
            by_cases h2 : am_RO ≤ c
            · rw [if_pos h2] at h; cases h
            · rw [if_neg h2] at h
              split at h
              · next ys2 hy =>
                cases h
                refine ⟨c, by omega, fun A' I' _ _ => ⟨?_, ?_⟩⟩
                · rw [hp_tail (by omega)]; exact hc
                · rw [hp_tail h3]; exact hy
              · cases h
        · cases h
theorem am_one_v {ro : Nat → Option (List Int32)} {M : am_M} {pc z b ci : Nat} {L : am_L} {st : List Value} {h : am_H} {fs as rest : List Value} (hf : am_fi M pc = some (.invokevirtual z, 3)) (hp : am_pop (z / 16 % 16) [] st = some (.ref b :: as, rest)) (hw : am_w rest ≤ 8) (hh : h[b]? = some (.inr (.inr (ci, fs)))) (hc : ci = z % 16) : am_one ro M (pc, L, st, h) = some (.inr (.inl (z / 256, .ref b :: as, (pc + 3, L, rest, h)))) := by
  show am_onx ro M pc L st h = _
  simp only [am_onx, hf, am_kind, am_cz, am_cl, hp, if_pos hw, hh]
  exact if_pos hc
section AmJ3
variable {ro : Nat → Option (List Int32)} {d : Nat} {M : am_M} {r : am_An} {α : Type} {pc : Nat} {L : am_L} {st : List Value} {h : am_H} {cf : am_Cf} {o o0 o1 o2 o3 : Option α} {K : α → Prop} {i j n v : Int32} {a b : Nat}
theorem am_J.sat {j : Nat} {f : Int32 → Option α} (hf : am_fi M pc = some (.invokedynamic 3, 3)) (hw : am_w st ≤ 8) (hj : j < 11) (k : ∀ v, am_J ro d M r (pc + 3, L, .int v :: st, h) (f v) K) : am_J ro d M r (pc, L, .int i :: .ref (am_RO + 16 + j) :: st, h) ((am_at (am_str j) i).bind f) K := fun z hz hk => by
  cases hv : am_at (am_str j) i with
  | none => rw [hv] at hz; cases hz
  | some v =>
    rw [hv] at hz
    refine am_Ev.step ?_ (k v z hz hk)
    show am_onx ro M pc L _ h = _
    have e : am_RO + 16 + j - (am_RO + 16) = j := by omega
    have c : am_RO + 16 ≤ am_RO + 16 + j ∧ am_RO + 16 + j < am_RO + 27 ∧ am_w st ≤ 8 := ⟨by omega, by omega, hw⟩
    simp only [am_onx, hf, am_kind, am_heap, am_sat, if_pos c, e, hv]
theorem am_J.sel (hf : am_fi M pc = some (.aaload, 1)) (hh : h[a]? = some (.inr (.inl (5, [some 77, some 79, some 81, some 83])))) (k0 : am_J ro d M r (pc + 1, L, .ref 77 :: st, h) o0 K) (k1 : am_J ro d M r (pc + 1, L, .ref 79 :: st, h) o1 K) (k2 : am_J ro d M r (pc + 1, L, .ref 81 :: st, h) o2 K) (k3 : am_J ro d M r (pc + 1, L, .ref 83 :: st, h) o3 K) : am_J ro d M r (pc, L, .int i :: .ref a :: st, h) (if i = 0 then o0 else if i = 1 then o1 else if i = 2 then o2 else if i = 3 then o3 else none) K := fun z hz hk => by
  have key : ∀ (j : Int32) (w : Nat), i = j → am_atr [some 77, some 79, some 81, some 83] j = some (some w) → am_one ro M (pc, L, .int i :: .ref a :: st, h) = some (.inl (pc + 1, L, .ref w :: st, h)) := fun j w e e2 => by
    show am_onx ro M pc L _ h = _
    simp only [am_onx, hf, am_kind, am_heap, am_aal, hh, e, e2]
    rfl
  split at hz
  · next e => exact am_Ev.step (key 0 77 e rfl) (k0 z hz hk)
  · split at hz
    · next e => exact am_Ev.step (key 1 79 e rfl) (k1 z hz hk)
    · split at hz
      · next e => exact am_Ev.step (key 2 81 e rfl) (k2 z hz hk)
      · split at hz
        · next e => exact am_Ev.step (key 3 83 e rfl) (k3 z hz hk)
        · cases hz
theorem am_J.fat {t : Nat} {l : List (Option Nat)} {f : Nat → Option α} (hf : am_fi M pc = some (.aaload, 1)) (hh : h[a]? = some (.inr (.inl (t, l)))) (k : ∀ w, am_J ro d M r (pc + 1, L, .ref w :: st, h) (f w) K) : am_J ro d M r (pc, L, .int i :: .ref a :: st, h) ((am_fat l i).bind f) K := fun z hz hk => by
  unfold am_fat at hz
  cases hv : am_atr l i with
  | none => rw [hv] at hz; cases hz
  | some q =>
    rw [hv] at hz
    cases q with
    | none => cases hz
    | some w =>
      refine am_Ev.step ?_ (k w z hz hk)
      show am_onx ro M pc L _ h = _
      simp only [am_onx, hf, am_kind, am_heap, am_aal, hh, hv]
      rfl
theorem am_J.fcg {c : Nat} {fs : List Value} (hf : am_fi M pc = some (.getfield 320, 3)) (e : fs = [.ref c]) (hh : h[a]? = some (.inr (.inr (5, fs)))) (k : am_J ro d M r (pc + 3, L, .ref c :: st, h) o K) : am_J ro d M r (pc, L, .ref a :: st, h) o K := fun z hz hk => by
  refine am_Ev.step ?_ (k z hz hk)
  show am_onx ro M pc L _ h = _
  subst e
  simp only [am_onx, hf, am_kind, am_heap, am_getf, hh]
  rfl
theorem am_J.fo {A : Nat → List Int32} {x : am_X} {w : Nat} {f : List Int32 → Option α} (k : ∀ c ys, am_fo A x w c ys → am_J ro d M r cf (f ys) K) : am_J ro d M r cf ((am_fcode A x w).bind f) K := fun z hz hk => by
  cases hv : am_fcode A x w with
  | none => rw [hv] at hz; cases hz
  | some ys =>
    rw [hv] at hz
    obtain ⟨c, hc⟩ := am_fcode_fo hv
    exact k c ys hc z hz hk
end AmJ3
