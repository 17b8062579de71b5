/-! ===== fewer locals known: what ends with fewer ends with more ===== -/
def am_Lg (L' L : am_L) : Prop := L'.length = L.length ∧ ∀ (i : Nat) (v : Value), L'[i]? = some (some v) → L[i]? = some (some v)
theorem am_Lg.ld {L' L : am_L} (g : am_Lg L' L) {i : Nat} {v : Value} (h : am_ld L' i = some v) : am_ld L i = some v := am_ld_iff.mpr (g.2 _ _ (am_ld_iff.mp h))
theorem am_Lg.li {L' L L1 : am_L} {st st1 : List Value} {i : Nat} (g : am_Lg L' L) (h : am_li L' st i = some (L1, st1)) : ∃ L2, am_li L st i = some (L2, st1) ∧ am_Lg L1 L2 := by
  obtain ⟨x, hx, rfl, rfl⟩ := am_li_inv h
  exact ⟨L, by unfold am_li; rw [g.ld hx], g⟩
theorem am_Lg.ll {L' L L1 : am_L} {st st1 : List Value} {i : Nat} (g : am_Lg L' L) (h : am_ll L' st i = some (L1, st1)) : ∃ L2, am_ll L st i = some (L2, st1) ∧ am_Lg L1 L2 := by
  obtain ⟨x, hx, rfl, rfl⟩ := am_ll_inv h
  exact ⟨L, by unfold am_ll; rw [g.ld hx], g⟩
theorem am_Lg.la {L' L L1 : am_L} {st st1 : List Value} {i : Nat} (g : am_Lg L' L) (h : am_la L' st i = some (L1, st1)) : ∃ L2, am_la L st i = some (L2, st1) ∧ am_Lg L1 L2 := by
  rcases am_la_inv h with ⟨x, hx, rfl, rfl⟩ | ⟨hx, rfl, rfl⟩
  · exact ⟨L, by unfold am_la; rw [g.ld hx], g⟩
  · exact ⟨L, by unfold am_la; rw [g.ld hx], g⟩
theorem am_clr_at {L : am_L} {i j : Nat} {v : Value} (h : L[j]? = some (some v)) (n : ¬ (j + 1 = i ∧ v.category = 2)) : (am_clr L i)[j]? = some (some v) := by
  unfold am_clr
  split
  · exact h
  · next k =>
    have key : ∀ w : Value, L[k]? = some (some w) → w.category = 2 → (L.set k none)[j]? = some (some v) := fun w hw hc => by
      rw [List.getElem?_set]
      split
      · next e =>
        subst e
        rw [hw] at h
        cases h
        exact absurd ⟨rfl, hc⟩ n
      · exact h
    split
    · next x hx => exact key _ hx rfl
    · next x hx => exact key _ hx rfl
    · exact h
theorem am_Lg.clr {L' L : am_L} (g : am_Lg L' L) (i : Nat) : am_Lg (am_clr L' i) (am_clr L i) := by
  refine ⟨by rw [am_clr_len, am_clr_len]; exact g.1, fun j v h => ?_⟩
  obtain ⟨h1, h2⟩ := am_clr_get h
  exact am_clr_at (g.2 _ _ h1) h2
theorem am_Lg.set {L' L : am_L} (g : am_Lg L' L) (i : Nat) (w : Option Value) : am_Lg (L'.set i w) (L.set i w) := by
  refine ⟨by rw [List.length_set, List.length_set]; exact g.1, fun j v h => ?_⟩
  rw [List.getElem?_set] at h ⊢
  split
  · next e =>
    rw [if_pos e] at h
    rw [← g.1]
    exact h
  · next e => rw [if_neg e] at h; exact g.2 _ _ h
theorem am_Lg.st1 {L' L L1 : am_L} {i : Nat} {v : Value} (g : am_Lg L' L) (h : am_st1 L' i v = some L1) : ∃ L2, am_st1 L i v = some L2 ∧ am_Lg L1 L2 := by
  unfold am_st1 at h ⊢
  split at h
  · next hi => cases h; exact ⟨_, if_pos (by rw [← g.1]; exact hi), (g.clr i).set i _⟩
  · cases h
theorem am_Lg.st2 {L' L L1 : am_L} {i : Nat} {v : Value} (g : am_Lg L' L) (h : am_st2 L' i v = some L1) : ∃ L2, am_st2 L i v = some L2 ∧ am_Lg L1 L2 := by
  unfold am_st2 at h ⊢
  split at h
  · next hi => cases h; exact ⟨_, if_pos (by rw [← g.1]; exact hi), ((g.clr i).set i _).set _ _⟩
  · cases h
theorem am_Lg.si {L' L L1 : am_L} {st st1 : List Value} {i : Nat} (g : am_Lg L' L) (h : am_si L' st i = some (L1, st1)) : ∃ L2, am_si L st i = some (L2, st1) ∧ am_Lg L1 L2 := by
  obtain ⟨x, rfl, hx⟩ := am_si_inv h
  obtain ⟨L2, h2, g2⟩ := g.st1 hx
  exact ⟨L2, by simp only [am_si, h2], g2⟩
theorem am_Lg.sl {L' L L1 : am_L} {st st1 : List Value} {i : Nat} (g : am_Lg L' L) (h : am_sl L' st i = some (L1, st1)) : ∃ L2, am_sl L st i = some (L2, st1) ∧ am_Lg L1 L2 := by
  obtain ⟨x, rfl, hx⟩ := am_sl_inv h
  obtain ⟨L2, h2, g2⟩ := g.st2 hx
  exact ⟨L2, by simp only [am_sl, h2], g2⟩
theorem am_Lg.sa {L' L L1 : am_L} {st st1 : List Value} {i : Nat} (g : am_Lg L' L) (h : am_sa L' st i = some (L1, st1)) : ∃ L2, am_sa L st i = some (L2, st1) ∧ am_Lg L1 L2 := by
  obtain ⟨x, rfl, hx⟩ := am_sa_inv h
  obtain ⟨L2, h2, g2⟩ := g.st1 hx
  exact ⟨L2, by simp only [am_sa, h2], g2⟩
set_option maxHeartbeats 4000000 in
theorem am_Lg.pure {L' L L1 : am_L} {st st1 : List Value} {i : Instr} (g : am_Lg L' L) (h : am_pure i L' st = some (L1, st1)) : ∃ L2, am_pure i L st = some (L2, st1) ∧ am_Lg L1 L2 := by
  unfold am_pure at h ⊢
  split at h
  all_goals first
    | exact g.li h
    | exact g.ll h
    | exact g.la h
    | exact g.si h
    | exact g.sl h
    | exact g.sa h
    | (obtain ⟨x, y, r, rfl, rfl, rfl⟩ := am_b_inv h; exact ⟨L, rfl, g⟩)
    | (obtain ⟨x, r, rfl, rfl, rfl⟩ := am_u_inv h; exact ⟨L, rfl, g⟩)
    | (obtain ⟨x, y, r, rfl, rfl, rfl⟩ := am_bl_inv h; exact ⟨L, rfl, g⟩)
    | (obtain ⟨x, y, r, rfl, rfl, rfl⟩ := am_sh_inv h; exact ⟨L, rfl, g⟩)
    | (obtain ⟨x, y, r, hy, rfl, rfl, rfl⟩ := am_dv_inv h; exact ⟨L, by simp only [am_dv]; rw [if_neg hy], g⟩)
    | (cases h; exact ⟨L, rfl, g⟩)
    | (cases h; done)
    | (split at h
       · next x hx =>
         split at h
         · next L2 h2 =>
           cases h
           obtain ⟨L3, h3, g3⟩ := g.st1 h2
           exact ⟨L3, by simp only [g.ld hx, h3], g3⟩
         · cases h
       · cases h)
    | (split at h
       · first
         | (cases h; exact ⟨L, rfl, g⟩)
         | (split at h
            · next hc => cases h; exact ⟨L, if_pos hc, g⟩
            · cases h)
       · cases h)
section AmWeak
variable {ro : Nat → Option (List Int32)} {call : Nat → List Value → am_H → Option am_An} {M : am_M} {d : Nat}
theorem am_cl_L {md z pc : Nat} {L L' : am_L} {st : List Value} {h : am_H} {o : am_O} (e : am_cl md z pc L' st h = some o) : ∃ k as rest, o = .inr (.inl (k, as, (pc + 3, L', rest, h))) ∧ am_cl md z pc L st h = some (.inr (.inl (k, as, (pc + 3, L, rest, h)))) := by
  unfold am_cl at e ⊢
  split at e
  · next as rest hp =>
    split at e
    · next hw =>
      rw [if_pos hw]
      split at e
      · cases e; exact ⟨_, _, _, rfl, rfl⟩
      · split at e
        · split at e
          · next ci fs hh =>
            split at e
            · next hc => cases e; exact ⟨_, _, _, rfl, if_pos hc⟩
            · cases e
          · cases e
        · cases e
      · next h0 h1 =>
        split at e
        · next b As => cases e; exact ⟨_, _, _, rfl, rfl⟩
        · cases e
    · cases e
  · cases e
theorem am_ev_weak : ∀ (n pc : Nat) (L' L : am_L) (st : List Value) (h : am_H) (r : am_An), am_Lg L' L → am_ev ro call M n (pc, L', st, h) = some r → am_ev ro call M n (pc, L, st, h) = some r := by
  intro n
  induction n with
  | zero => intro pc L' L st h r g e; simp [am_ev] at e
  | succ n ih =>
    intro pc L' L st h r g e
    unfold am_ev at e ⊢
    cases ho : am_one ro M (pc, L', st, h) with
    | none => rw [ho] at e; simp at e
    | some o =>
      rw [ho] at e
      obtain ⟨i, n2, hf, hcs⟩ := am_one_cases ho
      have hon : am_one ro M (pc, L, st, h) = am_onx ro M pc L st h := rfl
      rw [hon]
      unfold am_onx
      rw [hf]
      dsimp only
      rcases hcs with ⟨hk, L1, st1, hp, rfl⟩ | ⟨hk, pc1, st1, hp, rfl⟩ | ⟨hk, st1, h2, hp, rfl⟩ | ⟨hk, hp⟩ | ⟨hk, hp⟩ | ⟨hk, hp⟩ | ⟨hk, v1, hp, rfl⟩
      · obtain ⟨L2, h2, g2⟩ := g.pure hp
        simp only [hk, h2]
        exact ih _ _ _ _ _ _ g2 e
      · simp only [hk, hp]
        exact ih _ _ _ _ _ _ g e
      · simp only [hk, hp]
        exact ih _ _ _ _ _ _ g e
      · obtain ⟨k, as, rest, rfl, h2⟩ := am_cl_L (L := L) hp
        simp only [hk, h2]
        dsimp only at e
        split at e
        · next v3 h3 hc => exact ih _ _ _ _ _ _ g e
        · cases e
      · obtain ⟨k, as, rest, rfl, h2⟩ := am_cl_L (L := L) hp
        simp only [hk, h2]
        dsimp only at e
        split at e
        · next v3 h3 hc => exact ih _ _ _ _ _ _ g e
        · cases e
      · obtain ⟨k, as, rest, rfl, h2⟩ := am_cl_L (L := L) hp
        simp only [hk, h2]
        dsimp only at e
        split at e
        · next v3 h3 hc => exact ih _ _ _ _ _ _ g e
        · cases e
      · cases e
        rcases am_rt_cases hp with ⟨rfl, _⟩ | ⟨rfl, _⟩ | ⟨rfl, _⟩ | ⟨rfl, _⟩ <;> simp only [am_kind, hp]
/-- for lists that are written out -/
def am_Lle : am_L → am_L → Prop
  | [], [] => True
  | a :: l, b :: m => (a = none ∨ a = b) ∧ am_Lle l m
  | _, _ => False
theorem am_Lle.nil : am_Lle [] [] := trivial
theorem am_Lle.k {a : Option Value} {l m : am_L} (h : am_Lle l m) : am_Lle (a :: l) (a :: m) := ⟨Or.inr rfl, h⟩
theorem am_Lle.o {a : Option Value} {l m : am_L} (h : am_Lle l m) : am_Lle (none :: l) (a :: m) := ⟨Or.inl rfl, h⟩
theorem am_Lle.g : ∀ (L' L : am_L), am_Lle L' L → am_Lg L' L
  | [], [], _ => ⟨rfl, fun i v h => h⟩
  | a :: l, b :: m, h => by
    obtain ⟨h1, h2⟩ := am_Lle.g l m h.2
    refine ⟨by simp only [List.length_cons, h1], fun i v hv => ?_⟩
    match i, hv with
    | 0, hv =>
      have hv : some a = some (some v) := hv
      rcases h.1 with q | q
      · rw [q] at hv; cases hv
      · rw [q] at hv; exact hv
    | (i + 1), hv => exact h2 i v hv
theorem am_Ev.weak {pc : Nat} {L' L : am_L} {st : List Value} {h : am_H} {r : am_An} (hl : am_Lle L' L) (H : am_Ev ro d M (pc, L', st, h) r) : am_Ev ro d M (pc, L, st, h) r := by
  obtain ⟨n, hn⟩ := H
  exact ⟨n, am_ev_weak n pc L' L st h r (am_Lle.g _ _ hl) hn⟩
theorem am_J.weak {α : Type} {o : Option α} {K : α → Prop} {pc : Nat} {L' L : am_L} {st : List Value} {h : am_H} {r : am_An} (hl : am_Lle L' L) (H : am_J ro d M r (pc, L', st, h) o K) : am_J ro d M r (pc, L, st, h) o K := fun z hz hk => am_Ev.weak hl (H z hz hk)
end AmWeak
