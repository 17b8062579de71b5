/-! ===== cells are made and written, never taken away; types of arrays stay ===== -/
def am_wfc (c : am_C) : Prop := match c with
  | .inl (t, _) => t = 0 ∨ t = 1 ∨ t = 2
  | .inr (.inl (t, _)) => t = 3 ∨ t = 4 ∨ t = 5
  | .inr (.inr _) => True
def am_wf (h : am_H) : Prop := ∀ (k : Nat) (c : am_C), h[k]? = some c → am_wfc c
theorem am_wf.hok {h : am_H} (w : am_wf h) : am_hok h := fun k t xs e => w k _ e
theorem am_wf.hty {h : am_H} (w : am_wf h) : ∀ (k t : Nat) (xs : List Int32), h[k]? = some (.inl (t, xs)) → t = 0 ∨ t = 1 ∨ t = 2 := fun k t xs e => w k _ e
def am_gr (h h' : am_H) : Prop := h.length ≤ h'.length ∧ am_sl0 h ≤ am_sl0 h' ∧ (am_wf h → am_wf h')
theorem am_gr.refl (h : am_H) : am_gr h h := ⟨Nat.le_refl _, Nat.le_refl _, fun w => w⟩
theorem am_gr.trans {a b c : am_H} (x : am_gr a b) (y : am_gr b c) : am_gr a c := ⟨Nat.le_trans x.1 y.1, Nat.le_trans x.2.1 y.2.1, fun w => y.2.2 (x.2.2 w)⟩
theorem am_set_self {α : Type} {l : List α} {k : Nat} {v : α} (h : l[k]? = some v) : l.set k v = l := by
  apply List.ext_getElem?
  intro i
  rw [List.getElem?_set]
  split
  · next e =>
    subst e
    split
    · exact h.symm
    · next hl => rw [List.getElem?_eq_none (by omega)]
  · rfl
theorem am_gr.set {h : am_H} {k : Nat} {c c' : am_C} (e : h[k]? = some c) (z : am_csz c' = am_csz c) (w : am_wfc c → am_wfc c') : am_gr h (h.set k c') := by
  refine ⟨by rw [List.length_set]; exact Nat.le_refl _, ?_, fun hw j d hj => ?_⟩
  · unfold am_sl0
    rw [List.map_set, am_set_self (by rw [List.getElem?_map, e, z]; rfl)]
    exact Nat.le_refl _
  · rw [List.getElem?_set] at hj
    split at hj
    · next ek =>
      split at hj
      · cases hj; exact w (hw k c e)
      · cases hj
    · exact hw j d hj
theorem am_gr.app {h g : am_H} (w : ∀ c ∈ g, am_wfc c) : am_gr h (h ++ g) := by
  refine ⟨by rw [List.length_append]; omega, by rw [am_sl0_app]; omega, fun hw j d hj => ?_⟩
  by_cases hl : j < h.length
  · rw [List.getElem?_append_left hl] at hj
    exact hw j d hj
  · rw [List.getElem?_append_right (by omega)] at hj
    exact w d (List.mem_of_getElem? hj)
theorem am_nt_lt {t : ArrayType} {k : Nat} (h : am_nt t = some k) : k = 0 ∨ k = 1 ∨ k = 2 := by
  cases t <;> cases h <;> simp
set_option maxHeartbeats 4000000 in
theorem am_heap_gr {ro : Nat → Option (List Int32)} {cn : Nat} {i : Instr} {st st' : List Value} {h h' : am_H} (e : am_heap ro cn i st h = some (st', h')) : am_gr h h' := by
  unfold am_heap at e
  split at e
  · -- getfield
    unfold am_getf at e
    split at e
    · split at e
      · split at e
        · split at e
          · cases e; exact am_gr.refl _
          · cases e
        · cases e
      · cases e
    · cases e
  · -- putfield
    unfold am_putf at e
    split at e
    · split at e
      · next ci fs hh =>
        split at e
        · cases e; exact am_gr.set hh (by simp [am_csz]) (fun w => w)
        · cases e
      · cases e
    · cases e
  · -- iaload
    unfold am_ial at e
    split at e
    · split at e
      · split at e
        · split at e
          · cases e; exact am_gr.refl _
          · cases e
        · cases e
      · split at e
        · split at e
          · cases e; exact am_gr.refl _
          · cases e
        · cases e
    · cases e
  · -- baload
    unfold am_bal at e
    split at e
    · split at e
      · split at e
        · split at e
          · cases e; exact am_gr.refl _
          · cases e
        · cases e
      · cases e
    · cases e
  · -- aaload
    unfold am_aal at e
    split at e
    · split at e
      · split at e
        · cases e; exact am_gr.refl _
        · cases e
      · cases e
    · cases e
  · -- iastore
    unfold am_ias at e
    split at e
    · split at e
      · next xs hh =>
        split at e
        · next ys hy => cases e; obtain ⟨-, rfl⟩ := am_up_some hy; exact am_gr.set hh (by simp [am_csz]) (fun w => w)
        · cases e
      · cases e
    · cases e
  · -- bastore
    unfold am_bas at e
    split at e
    · split at e
      · next t xs hh =>
        split at e
        · split at e
          · next ys hy => cases e; obtain ⟨-, rfl⟩ := am_up_some hy; exact am_gr.set hh (by simp [am_csz]) (fun w => w)
          · cases e
        · cases e
      · cases e
    · cases e
  · -- aastore
    unfold am_aas at e
    split at e
    · split at e
      · next t xs hh =>
        split at e
        · split at e
          · split at e
            · next ys hy => cases e; obtain ⟨-, rfl⟩ := am_upr_some hy; exact am_gr.set hh (by simp [am_csz]) (fun w => w)
            · cases e
          · cases e
        · cases e
      · cases e
    · cases e
  · -- arraylength
    unfold am_len at e
    split at e
    · split at e
      · split at e
        · cases e; exact am_gr.refl _
        · cases e; exact am_gr.refl _
        · cases e
      · split at e
        · split at e
          · cases e; exact am_gr.refl _
          · cases e
        · cases e
    · cases e
  · -- new
    unfold am_new at e
    cases e
    exact am_gr.app (fun c hc => by rw [List.mem_singleton.mp hc]; exact trivial)
  · -- newarray
    unfold am_newa at e
    split at e
    · split at e
      · next k hk =>
        split at e
        · cases e
        · cases e
          exact am_gr.app (fun c hc => by rw [List.mem_singleton.mp hc]; exact am_nt_lt hk)
      · cases e
    · cases e
  · -- anewarray
    unfold am_anew at e
    split at e
    · split at e
      · cases e
      · next z _ n r hn =>
        cases e
        refine am_gr.app (fun c hc => ?_)
        rw [List.mem_singleton.mp hc]
        have hz : z = 4 ∨ z = 5 := Classical.byContradiction fun q => hn (Or.inr q)
        exact Or.inr hz
    · cases e
  · -- multianewarray
    unfold am_mna at e
    split at e
    · split at e
      · cases e
      · cases e
        rw [List.append_assoc]
        refine am_gr.app (fun c hc => ?_)
        rcases List.mem_append.mp hc with hc | hc
        · rw [List.mem_singleton.mp hc]; exact Or.inl rfl
        · rw [(List.mem_replicate.mp hc).2]; exact Or.inl rfl
    · cases e
  · cases e; exact am_gr.refl _
  · cases e; exact am_gr.refl _
  · cases e; exact am_gr.refl _
  · cases e; exact am_gr.refl _
  · -- checkcast
    split at e
    · split at e
      · cases e; exact am_gr.refl _
      · cases e
    · cases e
  · -- arraycopy
    unfold am_acp at e
    split at e
    · split at e
      · split at e
        · next ys hy =>
          split at e
          · cases e
          · next hn =>
            cases e
            refine am_gr.set hy ?_ (fun w => w)
            exact am_cpy_len (Nat.le_of_not_lt fun q => hn (Or.inr (Or.inr (Or.inr (Or.inl q))))) (Nat.le_of_not_lt fun q => hn (Or.inr (Or.inr (Or.inr (Or.inr (Or.inl q))))))
        · cases e
      · cases e
    · cases e
  · -- clone
    unfold am_cln at e
    split at e
    · split at e
      · split at e
        · cases e
        · cases e
          exact am_gr.app (fun c hc => by rw [List.mem_singleton.mp hc]; exact Or.inl rfl)
      · cases e
    · cases e
  · unfold am_slen at e
    split at e
    · split at e
      · cases e; exact am_gr.refl _
      · cases e
    · cases e
  · unfold am_sat at e
    split at e
    · split at e
      · split at e
        · cases e; exact am_gr.refl _
        · cases e
      · cases e
    · cases e
  · unfold am_mmin at e
    split at e
    · split at e
      · cases e
      · cases e; exact am_gr.refl _
    · cases e
  · cases e
theorem am_cl_h {md z pc : Nat} {L : am_L} {st : List Value} {h : am_H} {o : am_O} (e : am_cl md z pc L st h = some o) : ∃ as rest, am_pop (z / 16 % 16) [] st = some (as, rest) ∧ am_w rest ≤ 8 ∧ o = .inr (.inl (z / 256, as, (pc + 3, L, rest, h))) ∧ (md = 1 → ∃ b As ci fs, as = .ref b :: As ∧ h[b]? = some (.inr (.inr (ci, fs))) ∧ ci = z % 16) ∧ (md ≠ 0 → ∃ b As, as = .ref b :: As) := by
  unfold am_cl at e
  split at e
  · next as rest hp =>
    split at e
    · next hw =>
      split at e
      · cases e; exact ⟨as, rest, hp, hw, rfl, fun q => by omega, fun q => absurd rfl q⟩
      · split at e
        · next b As =>
          split at e
          · next ci fs hh =>
            split at e
            · next hc => cases e; exact ⟨_, rest, hp, hw, rfl, fun _ => ⟨b, As, ci, fs, rfl, hh, hc⟩, fun _ => ⟨b, As, rfl⟩⟩
            · cases e
          · cases e
        · cases e
      · next h0 h1 =>
        split at e
        · next b As => cases e; exact ⟨_, rest, hp, hw, rfl, fun q => absurd q h1, fun _ => ⟨b, As, rfl⟩⟩
        · cases e
    · cases e
  · cases e
/-- what one step is -/
theorem am_one_cases {ro : Nat → Option (List Int32)} {M : am_M} {pc : Nat} {L : am_L} {st : List Value} {h : am_H} {o : am_O} (e : am_one ro M (pc, L, st, h) = some o) : ∃ i n, am_fi M pc = some (i, n) ∧
    ((am_kind i = 0 ∧ ∃ L' st', am_pure i L st = some (L', st') ∧ o = .inl (pc + n, L', st', h)) ∨ (am_kind i = 1 ∧ ∃ pc' st', am_br i pc st = some (pc', st') ∧ o = .inl (pc', L, st', h)) ∨ (am_kind i = 2 ∧ ∃ st' h', am_heap ro M.1 i st h = some (st', h') ∧ o = .inl (pc + n, L, st', h')) ∨
     (am_kind i = 3 ∧ am_cl 1 (am_cz i) pc L st h = some o) ∨ (am_kind i = 4 ∧ am_cl 0 (am_cz i) pc L st h = some o) ∨ (am_kind i = 5 ∧ am_cl 2 (am_cz i) pc L st h = some o) ∨ (6 ≤ am_kind i ∧ ∃ v, am_rt M i st = some v ∧ o = .inr (.inr v))) := by
  have e : am_onx ro M pc L st h = some o := e
  unfold am_onx at e
  split at e
  · cases e
  · next i n hf =>
    refine ⟨i, n, hf, ?_⟩
    split at e
    · next hk =>
      split at e
      · next L' st' hp => cases e; exact Or.inl ⟨hk, L', st', hp, rfl⟩
      · cases e
    · next hk =>
      split at e
      · next pc' st' hp => cases e; exact Or.inr (Or.inl ⟨hk, pc', st', hp, rfl⟩)
      · cases e
    · next hk =>
      split at e
      · next st' h' hp => cases e; exact Or.inr (Or.inr (Or.inl ⟨hk, st', h', hp, rfl⟩))
      · cases e
    · next hk => exact Or.inr (Or.inr (Or.inr (Or.inl ⟨hk, e⟩)))
    · next hk => exact Or.inr (Or.inr (Or.inr (Or.inr (Or.inl ⟨hk, e⟩))))
    · next hk => exact Or.inr (Or.inr (Or.inr (Or.inr (Or.inr (Or.inl ⟨hk, e⟩)))))
    · next h0 h1 h2 h3 h4 h5 =>
      split at e
      · next v hv => cases e; exact Or.inr (Or.inr (Or.inr (Or.inr (Or.inr (Or.inr ⟨by have a0 : am_kind i ≠ 0 := h0; have a1 : am_kind i ≠ 1 := h1; have a2 : am_kind i ≠ 2 := h2; have a3 : am_kind i ≠ 3 := h3; have a4 : am_kind i ≠ 4 := h4; have a5 : am_kind i ≠ 5 := h5; omega, v, hv, rfl⟩)))))
      · cases e
theorem am_ev_gr {ro : Nat → Option (List Int32)} {call : Nat → List Value → am_H → Option am_An} {M : am_M} (hc : ∀ k as h v h1, call k as h = some (v, h1) → am_gr h h1) : ∀ (n pc : Nat) (L : am_L) (st : List Value) (h : am_H) (v : Option Value) (h1 : am_H), am_ev ro call M n (pc, L, st, h) = some (v, h1) → am_gr h h1 := by
  intro n
  induction n with
  | zero => intro pc L st h v h1 e; simp [am_ev] at e
  | succ n ih =>
    intro pc L st h v h1 e
    unfold am_ev at e
    cases ho : am_one ro M (pc, L, st, h) with
    | none => rw [ho] at e; simp at e
    | some o =>
      rw [ho] at e
      obtain ⟨i, n2, hf, hcs⟩ := am_one_cases ho
      rcases hcs with ⟨-, L', st', -, rfl⟩ | ⟨-, pc', st', -, rfl⟩ | ⟨-, st', h', hh, rfl⟩ | ⟨-, hh⟩ | ⟨-, hh⟩ | ⟨-, hh⟩ | ⟨-, v', -, rfl⟩
      · exact ih _ _ _ _ _ _ e
      · exact ih _ _ _ _ _ _ e
      · exact (am_heap_gr hh).trans (ih _ _ _ _ _ _ e)
      all_goals first
        | (obtain ⟨as, rest, -, -, rfl, -, -⟩ := am_cl_h hh
           dsimp only at e
           split at e
           · next v2 h2 hcl => exact (hc _ _ _ _ _ hcl).trans (ih _ _ _ _ _ _ e)
           · cases e)
        | (cases e; exact am_gr.refl _)
theorem am_run_gr {ro : Nat → Option (List Int32)} : ∀ (d n k : Nat) (as : List Value) (h : am_H) (v : Option Value) (h1 : am_H), am_run ro d n k as h = some (v, h1) → am_gr h h1 := by
  intro d
  induction d with
  | zero => intro n k as h v h1 e; simp [am_run] at e
  | succ d ih =>
    intro n k as h v h1 e
    unfold am_run at e
    split at e
    · split at e
      · exact am_ev_gr (fun k as h v h1 hr => ih n k as h v h1 hr) _ _ _ _ _ _ _ e
      · cases e
    · cases e
