/-! ===== one step, a run, a call ===== -/
def am_pop : Nat → List Value → List Value → Option (List Value × List Value)
  | 0, acc, st => some (acc, st)
  | n + 1, acc, v :: st => am_pop n (v :: acc) st
  | _ + 1, _, [] => none
/-- a step: on in the frame; a call (whom, with what, and where it goes on); the end -/
abbrev am_O : Type := am_Cf ⊕ ((Nat × List Value × am_Cf) ⊕ Option Value)
/-- md: 0 static, 1 virtual, 2 a constructor -/
def am_cl (md : Nat) (z : Nat) (pc : Nat) (L : am_L) (st : List Value) (h : am_H) : Option am_O := match am_pop (z / 16 % 16) [] st with
  | some (as, rest) => if am_w rest ≤ 8 then (match md with
      | 0 => some (.inr (.inl (z / 256, as, (pc + 3, L, rest, h))))
      | 1 => (match as with
        | .ref b :: _ => (match h[b]? with
          | some (.inr (.inr (ci, _))) => if ci = z % 16 then some (.inr (.inl (z / 256, as, (pc + 3, L, rest, h)))) else none
          | _ => none)
        | _ => none)
      | _ => (match as with
        | .ref _ :: _ => some (.inr (.inl (z / 256, as, (pc + 3, L, rest, h))))
        | _ => none)) else none
  | none => none
def am_rt (M : am_M) (i : Instr) (st : List Value) : Option (Option Value) := match i with
  | .ireturn => match st with
    | [.int v] => if M.2.1 = true then (if v = 0 ∨ v = 1 then some (some (.int v)) else none) else some (some (.int v))
    | _ => none
  | .lreturn => match st with
    | [.long v] => some (some (.long v))
    | _ => none
  | .areturn => match st with
    | [.ref v] => some (some (.ref v))
    | [.null] => some (some .null)
    | _ => none
  | .return_ => match st with
    | [] => some none
    | _ => none
  | _ => none
/-- 0 pure, 1 branch, 2 heap, 3 virtual call, 4 static call, 5 a constructor's, 6 return -/
def am_kind (i : Instr) : Nat := match i with
  | .goto _ | .ifCond _ _ | .if_icmp _ _ | .ifnonnull _ | .tableswitch _ _ _ _ => 1
  | .getfield _ | .putfield _ | .iaload | .baload | .aaload | .iastore | .bastore | .aastore | .arraylength | .new _ | .newarray _ | .anewarray _ | .multianewarray _ _ | .getstatic _ | .ldc _ | .ldc_w _ | .ldc2_w _ | .checkcast _ | .invokedynamic _ => 2
  | .invokevirtual _ => 3
  | .invokestatic _ => 4
  | .invokespecial _ => 5
  | .ireturn | .lreturn | .areturn | .return_ => 6
  | _ => 0
def am_cz (i : Instr) : Nat := match i with
  | .invokevirtual z => z
  | .invokestatic z => z
  | .invokespecial z => z
  | _ => 0
def am_onx (ro : Nat → Option (List Int32)) (M : am_M) (pc : Nat) (L : am_L) (st : List Value) (h : am_H) : Option am_O := match am_fi M pc with
  | none => none
  | some (i, n) => match am_kind i with
    | 0 => (match am_pure i L st with
      | some (L', st') => some (.inl (pc + n, L', st', h))
      | none => none)
    | 1 => (match am_br i pc st with
      | some (pc', st') => some (.inl (pc', L, st', h))
      | none => none)
    | 2 => (match am_heap ro M.1 i st h with
      | some (st', h') => some (.inl (pc + n, L, st', h'))
      | none => none)
    | 3 => am_cl 1 (am_cz i) pc L st h
    | 4 => am_cl 0 (am_cz i) pc L st h
    | 5 => am_cl 2 (am_cz i) pc L st h
    | _ => (match am_rt M i st with
      | some v => some (.inr (.inr v))
      | none => none)
def am_one (ro : Nat → Option (List Int32)) (M : am_M) (cf : am_Cf) : Option am_O := match cf with
  | (pc, L, st, h) => am_onx ro M pc L st h
abbrev am_An : Type := Option Value × am_H
def am_ev (ro : Nat → Option (List Int32)) (call : Nat → List Value → am_H → Option am_An) (M : am_M) : Nat → am_Cf → Option am_An
  | 0, _ => none
  | n + 1, cf => match am_one ro M cf with
    | some (.inl cf') => am_ev ro call M n cf'
    | some (.inr (.inl (k, as, cf'))) => (match call k as cf'.2.2.2 with
      | some (v, h) => am_ev ro call M n (cf'.1, cf'.2.1, v.toList ++ cf'.2.2.1, h)
      | none => none)
    | some (.inr (.inr v)) => some (v, cf.2.2.2)
    | none => none
def am_args : List Value → am_L
  | [] => []
  | .long x :: r => some (.long x) :: none :: am_args r
  | .double x :: r => some (.double x) :: none :: am_args r
  | v :: r => some v :: am_args r
def am_entry (as : List Value) (nL : Nat) : am_L := am_args as ++ List.replicate (nL - (am_args as).length) none
def am_run (ro : Nat → Option (List Int32)) : Nat → Nat → Nat → List Value → am_H → Option am_An
  | 0, _, _, _, _ => none
  | d + 1, n, k, as, h => match am_P k with
    | some (M, nL) => if (am_args as).length ≤ nL then am_ev ro (am_run ro d n) M n (0, am_entry as nL, [], h) else none
    | none => none
theorem am_ev_mono {ro : Nat → Option (List Int32)} {c1 c2 : Nat → List Value → am_H → Option am_An} {M : am_M} (hc : ∀ k as h r, c1 k as h = some r → c2 k as h = some r) : ∀ (n : Nat) (n' : Nat) (cf : am_Cf) (r : am_An), n ≤ n' → am_ev ro c1 M n cf = some r → am_ev ro c2 M n' cf = some r := by
  intro n
  induction n with
  | zero => intro n' cf r _ h; simp [am_ev] at h
  | succ n ih =>
    intro n' cf r hn h
    obtain ⟨m, rfl⟩ : ∃ m, n' = m + 1 := ⟨n' - 1, by omega⟩
    have hm : n ≤ m := by omega
    unfold am_ev at h ⊢
    cases ho : am_one ro M cf with
    | none => rw [ho] at h; simp at h
    | some o =>
      rw [ho] at h
      rcases o with cf' | ⟨k, as, cf'⟩ | v
      · exact ih m cf' r hm h
      · dsimp only at h ⊢
        cases hq : c1 k as cf'.2.2.2 with
        | none => rw [hq] at h; simp at h
        | some q =>
          obtain ⟨v, h1⟩ := q
          rw [hq] at h
          rw [hc _ _ _ _ hq]
          exact ih m _ r hm h
      · exact h
theorem am_run_mono {ro : Nat → Option (List Int32)} : ∀ (d d' n n' k : Nat) (as : List Value) (h : am_H) (r : am_An), d ≤ d' → n ≤ n' → am_run ro d n k as h = some r → am_run ro d' n' k as h = some r := by
  intro d
  induction d with
  | zero => intro d' n n' k as h r _ _ h1; simp [am_run] at h1
  | succ d ih =>
    intro d' n n' k as h r hd hn h1
    obtain ⟨e, rfl⟩ : ∃ e, d' = e + 1 := ⟨d' - 1, by omega⟩
    unfold am_run at h1 ⊢
    cases hP : am_P k with
    | none => rw [hP] at h1; simp at h1
    | some q =>
      obtain ⟨M, nL⟩ := q
      rw [hP] at h1
      dsimp only at h1 ⊢
      split at h1
      · next hle => rw [if_pos hle]; exact am_ev_mono (fun k as h r hr => ih e n n' k as h r (by omega) hn hr) n n' _ r hn h1
      · cases h1
/-- method k, called with as on the heap h, at a depth of d at most, ends with r -/
def am_Rt (ro : Nat → Option (List Int32)) (d k : Nat) (as : List Value) (h : am_H) (r : am_An) : Prop := ∃ n, am_run ro d n k as h = some r
/-- from the frame cf of a method M, whose callees have a depth of d at most, it ends with r -/
def am_Ev (ro : Nat → Option (List Int32)) (d : Nat) (M : am_M) (cf : am_Cf) (r : am_An) : Prop := ∃ n, am_ev ro (am_run ro d n) M n cf = some r
theorem am_Rt.mono {ro : Nat → Option (List Int32)} {d d' k : Nat} {as : List Value} {h : am_H} {r : am_An} (H : am_Rt ro d k as h r) (hd : d ≤ d') : am_Rt ro d' k as h r := by
  obtain ⟨n, hn⟩ := H
  exact ⟨n, am_run_mono d d' n n k as h r hd (Nat.le_refl _) hn⟩
theorem am_Ev.step {ro : Nat → Option (List Int32)} {d : Nat} {M : am_M} {cf cf' : am_Cf} {r : am_An} (h : am_one ro M cf = some (.inl cf')) (H : am_Ev ro d M cf' r) : am_Ev ro d M cf r := by
  obtain ⟨n, hn⟩ := H
  refine ⟨n + 1, ?_⟩
  unfold am_ev
  rw [h]
  exact am_ev_mono (fun k as h r hr => am_run_mono d d n (n + 1) k as h r (Nat.le_refl _) (Nat.le_succ _) hr) n n cf' r (Nat.le_refl _) hn
theorem am_Ev.ret {ro : Nat → Option (List Int32)} {d : Nat} {M : am_M} {pc : Nat} {L : am_L} {st : List Value} {h0 : am_H} {v : Option Value} (h : am_one ro M (pc, L, st, h0) = some (.inr (.inr v))) : am_Ev ro d M (pc, L, st, h0) (v, h0) := by
  refine ⟨1, ?_⟩
  unfold am_ev
  rw [h]
theorem am_Ev.call {ro : Nat → Option (List Int32)} {d k pc : Nat} {M : am_M} {cf : am_Cf} {L : am_L} {st as : List Value} {v : Option Value} {h0 h1 : am_H} {r : am_An} (h : am_one ro M cf = some (.inr (.inl (k, as, (pc, L, st, h0))))) (hc : am_Rt ro d k as h0 (v, h1)) (H : am_Ev ro d M (pc, L, v.toList ++ st, h1) r) : am_Ev ro d M cf r := by
  obtain ⟨n, hn⟩ := H
  obtain ⟨n2, hn2⟩ := hc
  refine ⟨(n + n2) + 1, ?_⟩
  unfold am_ev
  rw [h]
  dsimp only
  rw [am_run_mono d d n2 (n + n2 + 1) k as _ _ (Nat.le_refl _) (by omega) hn2]
  exact am_ev_mono (fun k as h r hr => am_run_mono d d n (n + n2 + 1) k as h r (Nat.le_refl _) (by omega) hr) n (n + n2) _ r (by omega) hn
theorem am_Ev.callv {ro : Nat → Option (List Int32)} {d k pc : Nat} {M : am_M} {cf : am_Cf} {L : am_L} {st as : List Value} {v : Value} {h0 h1 : am_H} {r : am_An} (h : am_one ro M cf = some (.inr (.inl (k, as, (pc, L, st, h0))))) (hc : am_Rt ro d k as h0 (some v, h1)) (H : am_Ev ro d M (pc, L, v :: st, h1) r) : am_Ev ro d M cf r := am_Ev.call h hc H
theorem am_Ev.calln {ro : Nat → Option (List Int32)} {d k pc : Nat} {M : am_M} {cf : am_Cf} {L : am_L} {st as : List Value} {h0 h1 : am_H} {r : am_An} (h : am_one ro M cf = some (.inr (.inl (k, as, (pc, L, st, h0))))) (hc : am_Rt ro d k as h0 (none, h1)) (H : am_Ev ro d M (pc, L, st, h1) r) : am_Ev ro d M cf r := am_Ev.call h hc H
theorem am_Ev.retz {ro : Nat → Option (List Int32)} {d pc : Nat} {M : am_M} {L : am_L} {v : Int32} {h : am_H} (hi : am_fi M pc = some (.ireturn, 1)) (hz : v = 0 ∨ v = 1) : am_Ev ro d M (pc, L, [.int v], h) (some (.int v), h) := by
  refine am_Ev.ret ?_
  show am_onx ro M pc L [.int v] h = _
  unfold am_onx
  rw [hi]
  simp only [am_kind, am_rt]
  rw [if_pos hz]
  split <;> simp_all
theorem am_Rt.of {ro : Nat → Option (List Int32)} {d k nL : Nat} {M : am_M} {as : List Value} {h : am_H} {r : am_An} (hP : am_P k = some (M, nL)) (hle : (am_args as).length ≤ nL) (H : am_Ev ro d M (0, am_entry as nL, [], h) r) : am_Rt ro (d + 1) k as h r := by
  obtain ⟨n, hn⟩ := H
  refine ⟨n, ?_⟩
  unfold am_run
  rw [hP]
  dsimp only
  rw [if_pos hle]
  exact hn
/-- n steps within the frame, no call -/
def am_go (ro : Nat → Option (List Int32)) (M : am_M) : Nat → am_Cf → Option am_Cf
  | 0, cf => some cf
  | n + 1, cf => match am_one ro M cf with
    | some (.inl cf') => am_go ro M n cf'
    | _ => none
theorem am_Ev.go {ro : Nat → Option (List Int32)} {d : Nat} {M : am_M} {r : am_An} : ∀ (n : Nat) {cf cf' : am_Cf}, am_go ro M n cf = some cf' → am_Ev ro d M cf' r → am_Ev ro d M cf r := by
  intro n
  induction n with
  | zero =>
    intro cf cf' h H
    cases h
    exact H
  | succ n ih =>
    intro cf cf' h H
    unfold am_go at h
    split at h
    · next cf1 h1 => exact am_Ev.step h1 (ih h H)
    · cases h
