/-! ===== the abstract machine is the machine: locals, what is pure ===== -/
/-- a value of the abstract machine as the machine has it -/
def am_v (ad : Nat → Nat) (v : Value) : Value := match v with
  | .ref k => .ref (ad k)
  | w => w
theorem am_v_cat (ad : Nat → Nat) (v : Value) : (am_v ad v).category = v.category := by cases v <;> rfl
def am_lh (ls : Array Slot) (nL : Nat) (ad : Nat → Nat) (L : am_L) : Prop := ls.size = nL ∧ L.length = nL ∧ lv_wf ls ∧ ∀ (i : Nat) (v : Value), L[i]? = some (some v) → ls[i]? = some (.val (am_v ad v))
def am_as (ad : Nat → Nat) (L : am_L) : List (Nat × Value) := (List.range L.length).filterMap (fun i => (am_ld L i).map (fun v => (i, am_v ad v)))
theorem am_ld_iff {L : am_L} {i : Nat} {v : Value} : am_ld L i = some v ↔ L[i]? = some (some v) := by
  unfold am_ld
  constructor
  · intro h
    split at h
    · next w hw => rw [hw]; cases h; rfl
    · cases h
  · intro h
    rw [h]
theorem am_as_mem {ad : Nat → Nat} {L : am_L} {j : Nat} {w : Value} : (j, w) ∈ am_as ad L ↔ ∃ v, L[j]? = some (some v) ∧ w = am_v ad v := by
  unfold am_as
  rw [List.mem_filterMap]
  constructor
  · rintro ⟨i, hi, h⟩
    cases hl : am_ld L i with
    | none => rw [hl] at h; cases h
    | some v =>
      rw [hl] at h
      simp only [Option.map_some, Option.some.injEq, Prod.mk.injEq] at h
      obtain ⟨rfl, rfl⟩ := h
      exact ⟨v, am_ld_iff.mp hl, rfl⟩
  · rintro ⟨v, hv, rfl⟩
    refine ⟨j, List.mem_range.mpr ?_, ?_⟩
    · exact (List.getElem?_eq_some_iff.mp hv).1
    · rw [am_ld_iff.mpr hv]; rfl
theorem am_lh.has {ls : Array Slot} {nL : Nat} {ad : Nat → Nat} {L : am_L} (h : am_lh ls nL ad L) : lv_has ls nL (am_as ad L) := by
  refine ⟨h.1, h.2.2.1, fun q hq => ?_⟩
  obtain ⟨v, hv, e⟩ := am_as_mem.mp (show (q.1, q.2) ∈ am_as ad L from hq)
  rw [h.2.2.2 _ _ hv, e]
theorem am_lh.ld {ls : Array Slot} {nL : Nat} {ad : Nat → Nat} {L : am_L} (h : am_lh ls nL ad L) {i : Nat} {v : Value} (hv : am_ld L i = some v) : ls[i]? = some (.val (am_v ad v)) := h.2.2.2 _ _ (am_ld_iff.mp hv)
theorem am_clr_len (L : am_L) (i : Nat) : (am_clr L i).length = L.length := by
  unfold am_clr
  split
  · rfl
  · split <;> simp
theorem am_clr_get {L : am_L} {i j : Nat} {v : Value} (h : (am_clr L i)[j]? = some (some v)) : L[j]? = some (some v) ∧ ¬ (j + 1 = i ∧ v.category = 2) := by
  unfold am_clr at h
  split at h
  · exact ⟨h, fun q => by omega⟩
  · next k =>
    split at h
    · next x hx =>
      rw [List.getElem?_set] at h
      split at h
      · next e => subst e; split at h <;> simp at h
      · next e => exact ⟨h, fun q => e (by omega)⟩
    · next x hx =>
      rw [List.getElem?_set] at h
      split at h
      · next e => subst e; split at h <;> simp at h
      · next e => exact ⟨h, fun q => e (by omega)⟩
    · next h1 h2 =>
      refine ⟨h, fun q => ?_⟩
      have e : j = k := by omega
      subst e
      cases v with
      | long x => exact h1 x h
      | double x => exact h2 x h
      | _ => simp [Value.category] at q
theorem am_lh.st1 {ls' : Array Slot} {nL : Nat} {ad : Nat → Nat} {L L' : am_L} {i : Nat} {v : Value} (hn : L.length = nL) (hs : am_st1 L i v = some L') (h : lv_has ls' nL ((i, am_v ad v) :: (am_as ad L).filter (fun q => !(q.1 == i) && !(q.1 + 1 == i && q.2.category == 2)))) : am_lh ls' nL ad L' := by
  unfold am_st1 at hs
  split at hs
  · next hi =>
    cases hs
    refine ⟨h.1, by rw [List.length_set, am_clr_len]; exact hn, h.2.1, fun j w hw => ?_⟩
    rw [List.getElem?_set] at hw
    split at hw
    · next e =>
      subst e
      split at hw
      · cases hw
        exact h.2.2 (i, am_v ad v) List.mem_cons_self
      · cases hw
    · next e =>
      obtain ⟨h1, h2⟩ := am_clr_get hw
      refine h.2.2 (j, am_v ad w) (List.mem_cons_of_mem _ (List.mem_filter.mpr ⟨am_as_mem.mpr ⟨w, h1, rfl⟩, ?_⟩))
      simp only [am_v_cat, Bool.and_eq_true, Bool.not_eq_true', beq_eq_false_iff_ne, ne_eq, Bool.and_eq_false_iff]
      refine ⟨fun q => e q.symm, ?_⟩
      by_cases e2 : j + 1 = i
      · exact Or.inr (fun q => h2 ⟨e2, q⟩)
      · exact Or.inl e2
  · cases hs
theorem am_lh.st2 {ls' : Array Slot} {nL : Nat} {ad : Nat → Nat} {L L' : am_L} {i : Nat} {v : Value} (hn : L.length = nL) (hs : am_st2 L i v = some L') (h : lv_has ls' nL ((i, am_v ad v) :: (am_as ad L).filter (fun q => !(q.1 == i) && (!(q.1 == i + 1) && !(q.1 + 1 == i && q.2.category == 2))))) : am_lh ls' nL ad L' := by
  unfold am_st2 at hs
  split at hs
  · next hi =>
    cases hs
    refine ⟨h.1, by rw [List.length_set, List.length_set, am_clr_len]; exact hn, h.2.1, fun j w hw => ?_⟩
    rw [List.getElem?_set] at hw
    split at hw
    · split at hw <;> simp at hw
    · next e1 =>
      rw [List.getElem?_set] at hw
      split at hw
      · next e =>
        subst e
        split at hw
        · cases hw
          exact h.2.2 (i, am_v ad v) List.mem_cons_self
        · cases hw
      · next e =>
        obtain ⟨h1, h2⟩ := am_clr_get hw
        refine h.2.2 (j, am_v ad w) (List.mem_cons_of_mem _ (List.mem_filter.mpr ⟨am_as_mem.mpr ⟨w, h1, rfl⟩, ?_⟩))
        simp only [am_v_cat, Bool.and_eq_true, Bool.not_eq_true', beq_eq_false_iff_ne, ne_eq, Bool.and_eq_false_iff]
        refine ⟨fun q => e q.symm, fun q => e1 q.symm, ?_⟩
        by_cases e2 : j + 1 = i
        · exact Or.inr (fun q => h2 ⟨e2, q⟩)
        · exact Or.inl e2
  · cases hs
