/-! ===== what a frame does, held against a function: rules ===== -/
/-- if the function comes to x, and x is well, then from the frame cf on all ends with r -/
def am_J (ro : Nat → Option (List Int32)) (d : Nat) (M : am_M) (r : am_An) {α : Type} (cf : am_Cf) (o : Option α) (K : α → Prop) : Prop := ∀ x, o = some x → K x → am_Ev ro d M cf r
/-- a loop: a step goes on (inl) or ends (inr) -/
def wl {σ ρ : Type} (step : σ → Option (σ ⊕ ρ)) : Nat → σ → Option ρ
  | 0, _ => none
  | n + 1, x => match step x with
    | some (.inl y) => wl step n y
    | some (.inr z) => some z
    | none => none
def up {α : Type} (f : Nat → α) (k : Nat) (v : α) : Nat → α := fun j => if j = k then v else f j
section AmJ
variable {ro : Nat → Option (List Int32)} {d : Nat} {M : am_M} {r : am_An} {α β σ ρ : Type} {pc : Nat} {L : am_L} {st : List Value} {h : am_H} {cf cf' : am_Cf} {o o1 o2 : Option α} {K : α → Prop} {x y i v : Int32} {a b : Nat}
theorem am_J.go (n : Nat) (h1 : am_go ro M n cf = some cf') (k : am_J ro d M r cf' o K) : am_J ro d M r cf o K := fun z hz hk => am_Ev.go n h1 (k z hz hk)
theorem am_J.leaf {z : α} (e : K z → am_Ev ro d M cf r) : am_J ro d M r cf (some z) K := fun w hw hk => by cases hw; exact e hk
theorem am_J.ret {z : α} {w : Option Value} (h1 : am_one ro M (pc, L, st, h) = some (.inr (.inr w))) (e : K z → r = (w, h)) : am_J ro d M r (pc, L, st, h) (some z) K := fun q hq hk => by
  cases hq
  rw [e hk]
  exact am_Ev.ret h1
theorem am_J.retz {z : α} (hi : am_fi M pc = some (.ireturn, 1)) (hz : v = 0 ∨ v = 1) (e : K z → r = (some (.int v), h)) : am_J ro d M r (pc, L, [.int v], h) (some z) K := fun q hq hk => by
  cases hq
  rw [e hk]
  exact am_Ev.retz hi hz
theorem am_J.eq (h1 : am_one ro M cf = some (.inl (am_cc .eq x y a b, L, st, h))) (kt : am_J ro d M r (a, L, st, h) o1 K) (kf : am_J ro d M r (b, L, st, h) o2 K) : am_J ro d M r cf (if x = y then o1 else o2) K := fun z hz hk => by
  by_cases c : x = y
  · rw [if_pos c] at hz; exact am_Ev.step (by rw [h1]; simp only [am_cc]; rw [if_pos c]) (kt z hz hk)
  · rw [if_neg c] at hz; exact am_Ev.step (by rw [h1]; simp only [am_cc]; rw [if_neg c]) (kf z hz hk)
theorem am_J.ne (h1 : am_one ro M cf = some (.inl (am_cc .ne x y a b, L, st, h))) (kf : am_J ro d M r (b, L, st, h) o2 K) (kt : am_J ro d M r (a, L, st, h) o1 K) : am_J ro d M r cf (if x = y then o2 else o1) K := fun z hz hk => by
  by_cases c : x = y
  · rw [if_pos c] at hz; exact am_Ev.step (by rw [h1]; simp only [am_cc]; rw [if_neg (fun q => q c)]) (kf z hz hk)
  · rw [if_neg c] at hz; exact am_Ev.step (by rw [h1]; simp only [am_cc]; rw [if_pos c]) (kt z hz hk)
theorem am_J.lt (h1 : am_one ro M cf = some (.inl (am_cc .lt x y a b, L, st, h))) (kt : am_J ro d M r (a, L, st, h) o1 K) (kf : am_J ro d M r (b, L, st, h) o2 K) : am_J ro d M r cf (if x < y then o1 else o2) K := fun z hz hk => by
  by_cases c : x < y
  · rw [if_pos c] at hz; exact am_Ev.step (by rw [h1]; simp only [am_cc]; rw [if_pos c]) (kt z hz hk)
  · rw [if_neg c] at hz; exact am_Ev.step (by rw [h1]; simp only [am_cc]; rw [if_neg c]) (kf z hz hk)
theorem am_J.ge (h1 : am_one ro M cf = some (.inl (am_cc .ge x y a b, L, st, h))) (kt : am_J ro d M r (a, L, st, h) o1 K) (kf : am_J ro d M r (b, L, st, h) o2 K) : am_J ro d M r cf (if y ≤ x then o1 else o2) K := fun z hz hk => by
  by_cases c : y ≤ x
  · rw [if_pos c] at hz; exact am_Ev.step (by rw [h1]; simp only [am_cc]; rw [if_pos c]) (kt z hz hk)
  · rw [if_neg c] at hz; exact am_Ev.step (by rw [h1]; simp only [am_cc]; rw [if_neg c]) (kf z hz hk)
theorem am_J.gt (h1 : am_one ro M cf = some (.inl (am_cc .gt x y a b, L, st, h))) (kt : am_J ro d M r (a, L, st, h) o1 K) (kf : am_J ro d M r (b, L, st, h) o2 K) : am_J ro d M r cf (if y < x then o1 else o2) K := fun z hz hk => by
  by_cases c : y < x
  · rw [if_pos c] at hz; exact am_Ev.step (by rw [h1]; simp only [am_cc]; rw [if_pos c]) (kt z hz hk)
  · rw [if_neg c] at hz; exact am_Ev.step (by rw [h1]; simp only [am_cc]; rw [if_neg c]) (kf z hz hk)
theorem am_J.le (h1 : am_one ro M cf = some (.inl (am_cc .le x y a b, L, st, h))) (kt : am_J ro d M r (a, L, st, h) o1 K) (kf : am_J ro d M r (b, L, st, h) o2 K) : am_J ro d M r cf (if x ≤ y then o1 else o2) K := fun z hz hk => by
  by_cases c : x ≤ y
  · rw [if_pos c] at hz; exact am_Ev.step (by rw [h1]; simp only [am_cc]; rw [if_pos c]) (kt z hz hk)
  · rw [if_neg c] at hz; exact am_Ev.step (by rw [h1]; simp only [am_cc]; rw [if_neg c]) (kf z hz hk)
theorem am_J.ial {xs : List Int32} {f : Int32 → Option α} (hf : am_fi M pc = some (.iaload, 1)) (ha : a < am_RO) (hh : h[a]? = some (.inl (0, xs))) (k : ∀ v, am_J ro d M r (pc + 1, L, .int v :: st, h) (f v) K) : am_J ro d M r (pc, L, .int i :: .ref a :: st, h) ((am_at xs i).bind f) K := fun z hz hk => by
  cases hv : am_at xs i with
  | none => rw [hv] at hz; cases hz
  | some v =>
    rw [hv] at hz
    refine am_Ev.step ?_ (k v z hz hk)
    show am_onx ro M pc L _ h = _
    simp only [am_onx, hf, am_kind, am_heap, am_ial, if_pos ha, hh, hv]
theorem am_J.iar {xs : List Int32} {f : Int32 → Option α} (hf : am_fi M pc = some (.iaload, 1)) (ha : ¬ a < am_RO) (hh : ro a = some xs) (k : ∀ v, am_J ro d M r (pc + 1, L, .int v :: st, h) (f v) K) : am_J ro d M r (pc, L, .int i :: .ref a :: st, h) ((am_at xs i).bind f) K := fun z hz hk => by
  cases hv : am_at xs i with
  | none => rw [hv] at hz; cases hz
  | some v =>
    rw [hv] at hz
    refine am_Ev.step ?_ (k v z hz hk)
    show am_onx ro M pc L _ h = _
    simp only [am_onx, hf, am_kind, am_heap, am_ial, if_neg ha, hh, hv]
theorem am_J.bal {xs : List Int32} {t : Nat} {f : Int32 → Option α} (hf : am_fi M pc = some (.baload, 1)) (ht : t = 1 ∨ t = 2) (hh : h[a]? = some (.inl (t, xs))) (k : ∀ v, am_J ro d M r (pc + 1, L, .int v :: st, h) (f v) K) : am_J ro d M r (pc, L, .int i :: .ref a :: st, h) ((am_at xs i).bind f) K := fun z hz hk => by
  cases hv : am_at xs i with
  | none => rw [hv] at hz; cases hz
  | some v =>
    rw [hv] at hz
    refine am_Ev.step ?_ (k v z hz hk)
    show am_onx ro M pc L _ h = _
    simp only [am_onx, hf, am_kind, am_heap, am_bal, hh, if_pos ht, hv]
theorem am_J.ias {xs : List Int32} {f : List Int32 → Option α} {h' : List Int32 → am_H} (hf : am_fi M pc = some (.iastore, 1)) (hh : h[a]? = some (.inl (0, xs))) (hs : ∀ ys, h.set a (.inl (0, ys)) = h' ys) (k : ∀ ys, am_J ro d M r (pc + 1, L, st, h' ys) (f ys) K) : am_J ro d M r (pc, L, .int v :: .int i :: .ref a :: st, h) ((am_up xs i v).bind f) K := fun z hz hk => by
  cases hv : am_up xs i v with
  | none => rw [hv] at hz; cases hz
  | some ys =>
    rw [hv] at hz
    refine am_Ev.step ?_ (k ys z hz hk)
    show am_onx ro M pc L _ h = _
    simp only [am_onx, hf, am_kind, am_heap, am_ias, hh, hv, hs]
theorem am_J.bas {xs : List Int32} {t : Nat} {f : List Int32 → Option α} {h' : List Int32 → am_H} (hf : am_fi M pc = some (.bastore, 1)) (ht : t = 1 ∨ t = 2) (hh : h[a]? = some (.inl (t, xs))) (hs : ∀ ys, h.set a (.inl (t, ys)) = h' ys) (k : ∀ ys, am_J ro d M r (pc + 1, L, st, h' ys) (f ys) K) : am_J ro d M r (pc, L, .int v :: .int i :: .ref a :: st, h) ((am_up xs i (am_nar t v)).bind f) K := fun z hz hk => by
  cases hv : am_up xs i (am_nar t v) with
  | none => rw [hv] at hz; cases hz
  | some ys =>
    rw [hv] at hz
    refine am_Ev.step ?_ (k ys z hz hk)
    show am_onx ro M pc L _ h = _
    simp only [am_onx, hf, am_kind, am_heap, am_bas, hh, if_pos ht, hv, hs]
/-- a branch over whose ends all is one again -/
theorem am_J.join {q : Option β} {f : β → Option α} {cj : β → am_Cf} (hq : am_J ro d M r cf q (fun j => am_Ev ro d M (cj j) r)) (k : ∀ j, am_J ro d M r (cj j) (f j) K) : am_J ro d M r cf (q.bind f) K := fun z hz hk => by
  cases hv : q with
  | none => rw [hv] at hz; cases hz
  | some j =>
    rw [hv] at hz
    exact hq j hv (k j z hz hk)
/-- a loop -/
theorem am_J.loop {step : σ → Option (σ ⊕ ρ)} {f : ρ → Option α} {n : Nat} {x0 : σ} (cl : σ → am_Cf) (GX : ρ → Prop) (hs : ∀ x, am_J ro d M r (cl x) (step x) (fun y => y.elim (fun x' => am_Ev ro d M (cl x') r) GX)) (hr : ∀ w z, f w = some z → K z → GX w) : am_J ro d M r (cl x0) ((wl step n x0).bind f) K := fun z hz hk => by
  have key : ∀ (n : Nat) (x : σ) (w : ρ), wl step n x = some w → GX w → am_Ev ro d M (cl x) r := by
    intro n
    induction n with
    | zero => intro x w h; simp [wl] at h
    | succ n ih =>
      intro x w h g
      unfold wl at h
      split at h
      · next y hy => exact hs x _ hy (ih y w h g)
      · next w2 hy => cases h; exact hs x _ hy g
      · cases h
  cases hv : wl step n x0 with
  | none => rw [hv] at hz; cases hz
  | some w =>
    rw [hv] at hz
    exact key n x0 w hv (hr w z hz hk)
/-- a call that answers -/
theorem am_J.call {q : Option β} {f : β → Option α} {k : Nat} {as : List Value} {v : β → Value} {h' : β → am_H} (h1 : am_one ro M cf = some (.inr (.inl (k, as, (pc, L, st, h))))) (hc : ∀ w, q = some w → am_Rt ro d k as h (some (v w), h' w)) (kk : ∀ w, am_J ro d M r (pc, L, v w :: st, h' w) (f w) K) : am_J ro d M r cf (q.bind f) K := fun z hz hk => by
  cases hv : q with
  | none => rw [hv] at hz; cases hz
  | some w =>
    rw [hv] at hz
    exact am_Ev.callv h1 (hc w hv) (kk w z hz hk)
/-- a call that answers nothing -/
theorem am_J.calln {q : Option β} {f : β → Option α} {k : Nat} {as : List Value} {h' : β → am_H} (h1 : am_one ro M cf = some (.inr (.inl (k, as, (pc, L, st, h))))) (hc : ∀ w, q = some w → am_Rt ro d k as h (none, h' w)) (kk : ∀ w, am_J ro d M r (pc, L, st, h' w) (f w) K) : am_J ro d M r cf (q.bind f) K := fun z hz hk => by
  cases hv : q with
  | none => rw [hv] at hz; cases hz
  | some w =>
    rw [hv] at hz
    exact am_Ev.calln h1 (hc w hv) (kk w z hz hk)
theorem am_ev_z {call : Nat → List Value → am_H → Option am_An} (hM : M.2.1 = true) : ∀ (n : Nat) (cf : am_Cf) (v : Int32) (h1 : am_H), am_ev ro call M n cf = some (some (.int v), h1) → v = 0 ∨ v = 1 := by
  intro n
  induction n with
  | zero => intro cf v h1 e; simp [am_ev] at e
  | succ n ih =>
    intro cf v h1 e
    obtain ⟨pc, L, st, h⟩ := cf
    unfold am_ev at e
    cases ho : am_one ro M (pc, L, st, h) with
    | none => rw [ho] at e; simp at e
    | some w =>
      rw [ho] at e
      rcases w with cf' | ⟨k, as, cf'⟩ | w
      · exact ih _ _ _ e
      · dsimp only at e
        split at e
        · exact ih _ _ _ e
        · cases e
      · obtain ⟨i, n2, hf, hcs⟩ := am_one_cases ho
        rcases hcs with ⟨-, L1, st1, -, ho2⟩ | ⟨-, pc1, st1, -, ho2⟩ | ⟨-, st1, h2, hh, ho2⟩ | ⟨-, hh⟩ | ⟨-, hh⟩ | ⟨-, hh⟩ | ⟨-, v1, hrt, ho2⟩
        · cases ho2
        · cases ho2
        · cases ho2
        · obtain ⟨as, rest, -, -, ho2, -, -⟩ := am_cl_h hh; cases ho2
        · obtain ⟨as, rest, -, -, ho2, -, -⟩ := am_cl_h hh; cases ho2
        · obtain ⟨as, rest, -, -, ho2, -, -⟩ := am_cl_h hh; cases ho2
        · cases ho2
          cases e
          rcases am_rt_cases hrt with ⟨-, x, -, hv, hb⟩ | ⟨-, x, -, hv⟩ | ⟨-, hst⟩ | ⟨-, -, hv⟩
          · cases hv; exact hb hM
          · cases hv
          · rcases hst with ⟨x, -, hv⟩ | ⟨-, hv⟩ <;> cases hv
          · cases hv
/-- what a method answers that answers a boolean -/
theorem am_Rt.z {k nL : Nat} {as : List Value} {h1 : am_H} (hP : am_P k = some (M, nL)) (hM : M.2.1 = true) (H : am_Rt ro d k as h (some (.int v), h1)) : v = 0 ∨ v = 1 := by
  obtain ⟨n, hn⟩ := H
  cases d with
  | zero => simp [am_run] at hn
  | succ d =>
    unfold am_run at hn
    rw [hP] at hn
    dsimp only at hn
    split at hn
    · exact am_ev_z hM _ _ _ _ hn
    · cases hn
theorem am_J.callz {q : Option β} {f : β → Option α} {k nL : Nat} {M2 : am_M} {as : List Value} {v : β → Int32} {h' : β → am_H} (h1 : am_one ro M cf = some (.inr (.inl (k, as, (pc, L, st, h))))) (hP : am_P k = some (M2, nL)) (hM : M2.2.1 = true) (hc : ∀ w, q = some w → am_Rt ro d k as h (some (.int (v w)), h' w)) (kk : ∀ w, (v w = 0 ∨ v w = 1) → am_J ro d M r (pc, L, .int (v w) :: st, h' w) (f w) K) : am_J ro d M r cf (q.bind f) K := fun z hz hk => by
  cases hv : q with
  | none => rw [hv] at hz; cases hz
  | some w =>
    rw [hv] at hz
    exact am_Ev.callv h1 (hc w hv) (kk w (am_Rt.z hP hM (hc w hv)) z hz hk)
/-- a method held against its function -/
theorem am_Rt.J {k nL : Nat} {as : List Value} {z : α} {res : α → am_An} (hP : am_P k = some (M, nL)) (hle : (am_args as).length ≤ nL) (H : ∀ r, am_J ro d M r (0, am_entry as nL, [], h) o (fun x => r = res x)) (hz : o = some z) : am_Rt ro (d + 1) k as h (res z) := am_Rt.of hP hle (H _ z hz rfl)
end AmJ
