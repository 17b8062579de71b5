/-! ===== new int[n][k] ===== -/
/-- int[][] is an array over int[] -/
def am_MA (kA : Nat → ClassId) (U : State) : Prop := ∃ k : Class, U.vm.classes[kA 3]? = some k ∧ k.kind = .array (kA 0) (.array .int)
theorem am_MA.moved {kA : Nat → ClassId} {u U : State} (hvm : u.vm.Alike U.vm) (h : am_MA kA u) : am_MA kA U := by
  obtain ⟨k, h1, h2⟩ := h
  obtain ⟨k', hk', he⟩ := hvm.2.2 _ _ h1
  exact ⟨k', hk', by rw [he]; exact h2⟩
/-- the outer array when i rows stand -/
def mw_out (c : ClassId) (N h0 i : Nat) : Cell := arrV c N (fun j => if j < i then .ref (h0 + 1 + j) else .null)
def mw_in (c : ClassId) (M : Nat) : Cell := arrV c M (fun _ => .int 0)
def mw_fill (s : State) (c d : ClassId) (N M : Nat) : Nat → State
  | 0 => s.pushCell (mw_out c N s.heap.size 0)
  | i + 1 => ((mw_fill s c d N M i).pushCell (mw_in d M)).setCell s.heap.size (mw_out c N s.heap.size (i + 1))
theorem mw_out_set (c : ClassId) (N h0 i : Nat) : (mw_out c N h0 i).setSlot i (.ref (h0 + 1 + i)) = mw_out c N h0 (i + 1) := by
  unfold mw_out
  rw [arrV_store]
  congr 1
  funext j
  simp only [updV]
  by_cases e : j = i
  · subst e; rw [if_pos rfl, if_pos (by omega)]
  · rw [if_neg e]
    by_cases h : j < i
    · rw [if_pos h, if_pos (by omega)]
    · rw [if_neg h, if_neg (by omega)]
theorem mw_facts (s : State) (c d : ClassId) (N M : Nat) : ∀ i, (mw_fill s c d N M i).heap.size = s.heap.size + 1 + i ∧ (mw_fill s c d N M i).heap[s.heap.size]? = some (mw_out c N s.heap.size i) ∧ (mw_fill s c d N M i).vm = s.vm ∧ (mw_fill s c d N M i).slotsUsed = s.slotsUsed + N + i * M ∧ (∀ a : Nat, a < s.heap.size → (mw_fill s c d N M i).heap[a]? = s.heap[a]?) ∧ (∀ j : Nat, j < i → (mw_fill s c d N M i).heap[s.heap.size + 1 + j]? = some (mw_in d M)) := by
  intro i
  induction i with
  | zero => exact ⟨by simp [mw_fill], by simp [mw_fill], rfl, by simp [mw_fill, mw_out, arrV_size], fun a ha => State.heap_pushCell_of_lt _ _ ha, fun j hj => absurd hj (Nat.not_lt_zero _)⟩
  | succ i ih =>
    obtain ⟨h1, h2, h3, h4, h5, h6⟩ := ih
    have hlt : s.heap.size < (mw_fill s c d N M i).heap.size := by omega
    have hb : ((mw_fill s c d N M i).pushCell (mw_in d M)).heap[s.heap.size]? = some (mw_out c N s.heap.size i) := by rw [State.heap_pushCell_of_lt (h := hlt)]; exact h2
    refine ⟨?_, State.heap_setCell_self hb, by simp [mw_fill, h3], ?_, ?_, ?_⟩
    · simp [mw_fill, State.setCell, h1]; omega
    · have hz : (mw_in d M).slots.size = M := arrV_size _ _ _
      simp [mw_fill, h4, hz, Nat.succ_mul]; omega
    · intro a ha
      show (((mw_fill s c d N M i).pushCell (mw_in d M)).setCell s.heap.size _).heap[a]? = _
      have hq : a < (mw_fill s c d N M i).heap.size := by omega
      rw [State.heap_setCell_other (Nat.ne_of_gt ha), State.heap_pushCell_of_lt (h := hq)]
      exact h5 a ha
    · intro j hj
      show (((mw_fill s c d N M i).pushCell (mw_in d M)).setCell s.heap.size _).heap[s.heap.size + 1 + j]? = _
      rw [State.heap_setCell_other (show s.heap.size ≠ s.heap.size + 1 + j by omega)]
      rcases Nat.lt_or_ge j i with hj2 | hj2
      · have hq : s.heap.size + 1 + j < (mw_fill s c d N M i).heap.size := by omega
        rw [State.heap_pushCell_of_lt (h := hq)]
        exact h6 j hj2
      · rw [show s.heap.size + 1 + j = (mw_fill s c d N M i).heap.size by omega]
        exact State.heap_pushCell_size _ _
theorem mw_top (s : State) (f : JFrame) (c d : ClassId) (N M : Nat) : ∀ i, mw_fill (s.setTop f) c d N M i = (mw_fill s c d N M i).setTop f := by
  intro i
  induction i with
  | zero => rfl
  | succ i ih => simp only [mw_fill, ih, State.heap_setTop, State.pushCell_setTop, State.setCell_setTop]
section
variable {E : CtlPost} {e : Env} {d : Bool} {acts : List Action} {s : State}
theorem mw_newArray {c comp : ClassId} {k : Class} {type : FieldType} {len : Nat} {init : Value} (hk : s.vm.classes[c]? = some k) (hkind : k.kind = .array comp type) (hlimit : ¬ len > e.platform.arrayLengthLimit) (hheap : ¬ len * componentBytes type > e.platform.maxHeapBytes) (hfit : fits type init = true) (hdef : init.isDefault = true) {Q : Addr → Pre}
    (h1 : s.heap.size < e.platform.maxCells) (h2 : s.slotsUsed + len ≤ e.platform.maxSlots) (hq : Q s.heap.size d acts (s.pushCell (arrV c len (fun _ => init)))) : wp (Jvm.newArray c len init) Q E e d acts s := by
  rw [← arrV_new] at hq
  have hfits : ∀ i v, (Array.replicate len init)[i]? = some v → s.fitsSlot c .none i v = true := by
    intro i v hv
    simp only [Array.getElem?_replicate] at hv
    split at hv
    · cases hv; simp [State.fitsSlot, State.slotType?, hk, hkind, hfit]
    · cases hv
  have hda : allocActs (Array.replicate len init) s.heap.size acts = acts := by
    have hall : ((Array.replicate len init).all (·.isDefault)) = true := by
      rw [Array.all_replicate]; split <;> simp [hdef]
    unfold allocActs; rw [if_pos hall]
  simp only [Jvm.newArray, Jvm.arrayFits, wp_bind', W.ask, W.ite, hlimit, if_false, wp_pure', W.theClass, hk, hkind, hheap, W.alloc, W.stop, Option.some.injEq, exists_eq_left', Array.size_replicate, hda]
  rw [if_neg (by omega)]
  exact ⟨h1, h2, hfits, hq⟩
theorem mw_make {c comp cc : ClassId} {k kc : Class} {n m : Int32} (hk : s.vm.classes[c]? = some k) (hkind : k.kind = .array comp (.array .int)) (hkc : s.vm.classes[comp]? = some kc) (hkindc : kc.kind = .array cc .int) (hn : ¬ n < 0) (hm : ¬ m < 0) (hln : n.toNatClampNeg ≤ 256) (hlm : m.toNatClampNeg ≤ 256) (hal : 256 ≤ e.platform.arrayLengthLimit) (hmh : 1024 ≤ e.platform.maxHeapBytes)
    (hc : s.heap.size + 1 + n.toNatClampNeg ≤ e.platform.maxCells) (hs : s.slotsUsed + n.toNatClampNeg + n.toNatClampNeg * m.toNatClampNeg ≤ e.platform.maxSlots) {Q : Addr → Pre} (hq : ∀ d' acts', Q s.heap.size d' acts' (mw_fill s c comp n.toNatClampNeg m.toNatClampNeg n.toNatClampNeg)) : wp (multianewarray.make c [n, m]) Q E e d acts s := by
  have hfind : ([m].find? (· < 0)) = none := by simp [hm]
  have b1 : ∀ z : Nat, z ≤ 256 → ¬ z * componentBytes (.array .int) > e.platform.maxHeapBytes := fun z hz => by
    show ¬ z * 4 > _
    omega
  have b2 : ∀ z : Nat, z ≤ 256 → ¬ z * componentBytes .int > e.platform.maxHeapBytes := fun z hz => by
    show ¬ z * 4 > _
    omega
  rw [multianewarray.make]
  simp only [wp_bind', W.ite, hn, if_false, wp_pure', W.theClass, hk, hkind, Option.some.injEq, exists_eq_left']
  refine mw_newArray hk hkind (by omega) (b1 _ hln) rfl rfl (by omega) (by have := Nat.zero_le (n.toNatClampNeg * m.toNatClampNeg); omega) ?_
  simp only [hfind]
  rw [ite_self, wp_bind', Std.Legacy.Range.forIn_eq_forIn_range']
  have hsz : ([:n.toNatClampNeg] : Std.Legacy.Range).size = n.toNatClampNeg := by simp [Std.Legacy.Range.size]
  rw [hsz]
  show wp (forIn (List.range' 0 n.toNatClampNeg 1) PUnit.unit _) _ E e d acts _
  refine wp_forIn_inv (fun rest s' => ∃ i, i ≤ n.toNatClampNeg ∧ rest = List.range' i (n.toNatClampNeg - i) ∧ s' = mw_fill s c comp n.toNatClampNeg m.toNatClampNeg i) _ _ ⟨0, Nat.zero_le _, rfl, rfl⟩ ?_ ?_
  · rintro x rest s' d' acts' Q' ⟨i, hi, hl, rfl⟩ hnext
    have hlt : i < n.toNatClampNeg := by
      rcases Nat.lt_or_ge i n.toNatClampNeg with h | h
      · exact h
      · rw [show n.toNatClampNeg - i = 0 by omega] at hl; simp at hl
    rw [show n.toNatClampNeg - i = (n.toNatClampNeg - (i + 1)) + 1 by omega, List.range'_succ] at hl
    obtain ⟨rfl, hrest⟩ := List.cons.inj hl
    obtain ⟨f1, f2, f3, f4, -, -⟩ := mw_facts s c comp n.toNatClampNeg m.toNatClampNeg x
    have hmul : x * m.toNatClampNeg + m.toNatClampNeg ≤ n.toNatClampNeg * m.toNatClampNeg := by
      have := Nat.mul_le_mul_right m.toNatClampNeg (show x + 1 ≤ n.toNatClampNeg from hlt)
      rw [Nat.succ_mul] at this; exact this
    simp only [wp_bind']
    rw [multianewarray.make]
    simp only [wp_bind', W.ite, hm, if_false, wp_pure', W.theClass, f3, hkc, hkindc, Option.some.injEq, exists_eq_left']
    refine mw_newArray (by rw [f3]; exact hkc) hkindc (by omega) (b2 _ hlm) rfl rfl (by rw [f1]; omega) (by rw [f4]; omega) ?_
    have hlt0 : s.heap.size < (mw_fill s c comp n.toNatClampNeg m.toNatClampNeg x).heap.size := by rw [f1]; omega
    simp only [wp_bind', W.writeLoc, wp_pure']
    refine ⟨mw_out c n.toNatClampNeg s.heap.size x, by rw [State.heap_pushCell_of_lt (h := hlt0)]; exact f2, (fun q => nomatch q), by rw [show (mw_out c n.toNatClampNeg s.heap.size x).slots.size = n.toNatClampNeg from arrV_size _ _ _]; exact hlt, ?_, hnext _ _ _ ⟨x + 1, hlt, hrest, ?_⟩⟩
    · show State.fitsSlot _ c .none x _ = true
      simp [State.fitsSlot, State.slotType?, f3, hk, hkind, fits]
    · rw [f1, mw_out_set]; rfl
  · rintro s' d' acts' ⟨i, hi, hl, rfl⟩
    have hiN : i = n.toNatClampNeg := by
      rcases Nat.lt_or_ge i n.toNatClampNeg with h | h
      · rw [show n.toNatClampNeg - i = (n.toNatClampNeg - (i + 1)) + 1 by omega, List.range'_succ] at hl; cases hl
      · omega
    subst hiN
    simp only [wp_pure']
    exact hq _ _
end
section AmMulti
variable {p : Program} {l : Launch} {e : Env} {R : Room} {s : State} {m : MethodId} {args : Array Value} {below : List Frame} {meth : Method} {c : Code} {H : Heap} {locs : List Loc} {cells slots : Nat} {Q : State → Prop} {cc : ByteArray} {pc nL : Nat} {ls : Array Slot} {ad : Nat → Nat} {D : va_G} {kA : Nat → ClassId} {sz0 : Nat} {H00 : Heap} {h h' : am_H} {st st' : List Value} {T : State}
theorem mw_filled (X : Stand p l e R s m args below meth c T locs cells slots) (cA comp : ClassId) (N M : Nat) : ∀ i, Stand p l e R s m args below meth c (mw_fill T cA comp N M i) (locs ++ (List.range i).map fun j => ⟨T.heap.size, j⟩) (cells + 1 + i) (slots + N + i * M) := by
  intro i
  induction i with
  | zero =>
    have h := X.pushed (mw_out cA N T.heap.size 0)
    rw [show (mw_out cA N T.heap.size 0).slots.size = N from arrV_size _ _ _] at h
    simpa [mw_fill] using h
  | succ i ih =>
    obtain ⟨f1, f2, f3, f4, -, -⟩ := mw_facts T cA comp N M i
    have hlt0 : T.heap.size < (mw_fill T cA comp N M i).heap.size := by rw [f1]; omega
    have hcell : ((mw_fill T cA comp N M i).pushCell (mw_in comp M)).heap[T.heap.size]? = some (mw_out cA N T.heap.size i) := by rw [State.heap_pushCell_of_lt (h := hlt0)]; exact f2
    have h := (ih.pushed (mw_in comp M)).stored hcell i (.ref (T.heap.size + 1 + i))
    rw [mw_out_set, show (mw_in comp M).slots.size = M from arrV_size _ _ _] at h
    have e2 : (locs ++ (List.range (i + 1)).map fun j => (⟨T.heap.size, j⟩ : Loc)) = (locs ++ (List.range i).map fun j => (⟨T.heap.size, j⟩ : Loc)) ++ [⟨T.heap.size, i⟩] := by simp [List.range_succ, List.append_assoc]
    have e3 : slots + N + (i + 1) * M = slots + N + i * M + M := by rw [Nat.succ_mul]; omega
    rw [e2, e3]
    exact h
theorem am_s_mna (hx : p.tables.exec = Jvm.exec) (hb : c.code = cc) {own : String} {index : Nat} {Ts : List Cond} (hts : ∀ w ∈ Ts, w.before args s = true) (hown : s.vm.findClass own = some m.cls) (hclink : Cond.classLink own index "[[I" ∈ Ts) (had : ∀ k, k < am_RO → ad k = sz0 + k) (hlen : h'.length < am_RO) (hK : va_K D vwCl (am_tys kA) s) (hMA : am_MA kA s) (hR : am_RH D kA ad sz0 H00 h H) (hl : ∀ q ∈ locs, sz0 ≤ q.base)
    (hcells : cells + (h'.length - h.length) ≤ R.cells) (hslots : slots + (am_sl0 h' - am_sl0 h) ≤ R.slots) (hd : decode cc pc = .ok (.multianewarray index 2, 4)) (hp : am_mna st h = some (st', h'))
    (kk : ∀ (H1 : Heap) (locs1 : List Loc), am_RH D kA ad sz0 H00 h' H1 → (∀ q ∈ locs1, sz0 ≤ q.base) → W p l e R s m args below meth c H1 locs1 (cells + (h'.length - h.length)) (slots + (am_sl0 h' - am_sl0 h)) Q (F0 m (pc + 4) ls (st'.map (am_v ad)))) : W p l e R s m args below meth c H locs cells slots Q (F0 m pc ls (st.map (am_v ad))) := by
  unfold am_mna at hp
  split at hp
  · next k n r =>
    split at hp
    · cases hp
    · next hn =>
      have hn0 : ¬ n < 0 := fun q => hn (Or.inl q)
      have hk0 : ¬ k < 0 := fun q => hn (Or.inr (Or.inl q))
      have hnl : n.toNatClampNeg ≤ 256 := Nat.le_of_not_lt fun q => hn (Or.inr (Or.inr (Or.inl q)))
      have hkl : k.toNatClampNeg ≤ 256 := Nat.le_of_not_lt fun q => hn (Or.inr (Or.inr (Or.inr q)))
      have hp1 := Option.some.inj hp
      have hst : st' = .ref h.length :: r := (congrArg Prod.fst hp1).symm
      have hh1 : h' = (h ++ [.inr (.inl (3, (List.range n.toNatClampNeg).map (fun j => some (h.length + 1 + j))))]) ++ List.replicate n.toNatClampNeg (.inl (0, List.replicate k.toNatClampNeg 0)) := (congrArg Prod.snd hp1).symm
      have hL : h'.length - h.length = 1 + n.toNatClampNeg := by
        rw [hh1]
        simp only [List.length_append, List.length_cons, List.length_nil, List.length_replicate]
        omega
      have hS : am_sl0 h' - am_sl0 h = n.toNatClampNeg + n.toNatClampNeg * k.toNatClampNeg := by
        rw [hh1, am_sl0_app, am_sl0_app]
        have e1 : am_sl0 [.inr (.inl (3, (List.range n.toNatClampNeg).map (fun j => some (h.length + 1 + j))))] = n.toNatClampNeg := by simp [am_sl0, am_csz]
        have e2 : am_sl0 (List.replicate n.toNatClampNeg (.inl (0, List.replicate k.toNatClampNeg 0))) = n.toNatClampNeg * k.toNatClampNeg := by simp [am_sl0, am_csz]
        rw [e1, e2]
        omega
      rw [hL] at hcells kk
      rw [hS] at hslots kk
      intro T hT X
      obtain ⟨kA3, hkA, hkindA⟩ := hMA
      obtain ⟨-, kC, hkC, ccl, hkindC⟩ := (hK.2 0 _ rfl).1 0 (fun _ => .null)
      have hnameA : s.vm.findClass "[[I" = some (kA 3) := (hK.2 3 _ rfl).2
      have hpl : e.platform.magicAccessors = ({} : Platform).magicAccessors := by rw [X.admits.platform]
      obtain ⟨c0, hfc0, hcl⟩ := Cond.classLink_spec hown (hts _ hclink) e.platform hpl
      cases hnameA.symm.trans hfc0
      obtain ⟨hg₁, hwarm₁, hready₁⟩ := State.classEntry (e := e) X.warmed hcl
      generalize T.vm.noted m.cls index (.cls (kA 3)) = vm₁ at hg₁ hwarm₁ hready₁
      have hal : s.vm.Alike vm₁ := hwarm₁.alike
      obtain ⟨kA₁, hkA₁, heA⟩ := hal.2.2 _ _ hkA
      obtain ⟨kC₁, hkC₁, heC⟩ := hal.2.2 _ _ hkC
      have hkindA₁ : kA₁.kind = .array (kA 0) (.array .int) := by rw [heA]; exact hkindA
      have hkindC₁ : kC₁.kind = .array ccl .int := by rw [heC]; exact hkindC
      have X₁ := X.noted hwarm₁
      obtain ⟨hr1, hr2⟩ := X.roomAbove hcells hslots
      have XF := mw_filled X₁ (kA 3) (kA 0) n.toNatClampNeg k.toNatClampNeg n.toNatClampNeg
      obtain ⟨f1, f2, f3, f4, f5, f6⟩ := mw_facts (T.setVm vm₁) (kA 3) (kA 0) n.toNatClampNeg k.toNatClampNeg n.toNatClampNeg
      have hTs : (T.setVm vm₁).heap.size = T.heap.size := rfl
      have hTh : (T.setVm vm₁).heap = T.heap := rfl
      have hHs : T.heap.size = sz0 + h.length := by rw [hT, hR.1]
      have adl : ∀ j, j ≤ n.toNatClampNeg → ad (h.length + j) = T.heap.size + j := fun j hj => by
        rw [had _ (by rw [hh1] at hlen; simp only [List.length_append, List.length_cons, List.length_nil, List.length_replicate] at hlen; omega), hHs]
        omega
      have hRH : am_RH D kA ad sz0 H00 h' (mw_fill (T.setVm vm₁) (kA 3) (kA 0) n.toNatClampNeg k.toNatClampNeg n.toNatClampNeg).heap := by
        refine ⟨?_, ?_, ?_⟩
        · rw [f1, hTs, hHs, hh1]
          simp only [List.length_append, List.length_cons, List.length_nil, List.length_replicate]
          omega
        · intro q hq
          rw [f5 q (by rw [hTs]; omega), hTh, hT]
          exact hR.2.1 q hq
        · intro j cj hj
          rw [hh1] at hj
          by_cases h1 : j < h.length
          · rw [List.append_assoc, List.getElem?_append_left h1] at hj
            refine (hR.2.2 j cj hj).kept ?_
            rw [f5 _ (by rw [hTs]; omega), hTh, hT]
          · by_cases h2 : j = h.length
            · subst h2
              rw [List.append_assoc, List.getElem?_append_right (Nat.le_refl _), Nat.sub_self] at hj
              cases hj
              rw [hTs] at f2
              rw [← hHs]
              show _ = some (arrV (kA 3) _ _)
              rw [f2]
              unfold mw_out
              simp only [List.length_map, List.length_range]
              congr 2
              funext j
              simp only [List.getD_eq_getElem?_getD, List.getElem?_map, List.getElem?_range']
              by_cases hj2 : j < n.toNatClampNeg
              · rw [if_pos hj2, List.getElem?_range hj2]
                show _ = va_rf (some (ad (h.length + 1 + j)))
                rw [Nat.add_assoc h.length, Nat.add_comm 1 j, adl _ (by omega)]
                have e7 : (T.heap.size + 1 + j : Nat) = T.heap.size + (j + 1) := by omega
                exact congrArg Value.ref e7
              · rw [if_neg hj2, List.getElem?_eq_none (by simp; omega)]
                rfl
            · rw [List.getElem?_append_right (by simp; omega)] at hj
              simp only [List.length_append, List.length_cons, List.length_nil] at hj
              rw [List.getElem?_replicate] at hj
              split at hj
              · next h3 =>
                cases hj
                have f6' := f6 (j - (h.length + 1)) (by omega)
                rw [hTs, hHs, show sz0 + h.length + 1 + (j - (h.length + 1)) = sz0 + j by omega] at f6'
                show _ = some (arrV (kA 0) _ _)
                rw [f6']
                unfold mw_in
                rw [List.length_replicate]
                congr 2
                funext q
                simp only [List.getD_eq_getElem?_getD, List.getElem?_replicate]
                split <;> rfl
              · cases hj
      obtain ⟨t, a1, b1⟩ := kk _ (locs ++ (List.range n.toNatClampNeg).map fun j => ⟨T.heap.size, j⟩) hRH (fun q hq => by
        rcases List.mem_append.mp hq with hq | hq
        · exact hl q hq
        · obtain ⟨z, -, hz⟩ := List.mem_map.mp hq
          rw [← hz]
          show sz0 ≤ T.heap.size
          omega) _ rfl (by rw [show cells + (1 + n.toNatClampNeg) = cells + 1 + n.toNatClampNeg by omega, show slots + (n.toNatClampNeg + n.toNatClampNeg * k.toNatClampNeg) = slots + n.toNatClampNeg + n.toNatClampNeg * k.toNatClampNeg by omega]; exact XF)
      refine ⟨t, ?_, b1⟩
      subst hst
      have e9 : (Value.ref h.length :: r).map (am_v ad) = .ref T.heap.size :: r.map (am_v ad) := by
        show Value.ref (ad h.length) :: _ = _
        rw [show ad h.length = T.heap.size from adl 0 (Nat.zero_le _)]
      rw [e9] at a1
      have hal1 : 256 ≤ e.platform.arrayLengthLimit := by rw [Launch.admits_arrayLengthLimit X.admits]; exact Nat.le_of_ble_eq_true rfl
      have hmh1 : 1024 ≤ e.platform.maxHeapBytes := by rw [Launch.admits_maxHeapBytes X.admits]; exact Nat.le_of_ble_eq_true rfl
      generalize hg : F0 m pc ls ((Value.int k :: Value.int n :: r).map (am_v ad)) = g
      have hgm : g.method = m := by rw [← hg]
      have hgp : g.pc = pc := by rw [← hg]
      have hgs : g.stack = .int k :: .int n :: r.map (am_v ad) := by rw [← hg]; rfl
      have hgl : F0 m (pc + 4) ls (.ref T.heap.size :: r.map (am_v ad)) = { g with pc := g.pc + 4, stack := .ref T.heap.size :: r.map (am_v ad) } := by rw [← hg]
      rw [hgl] at a1
      clear hg
      subst hgm
      have hdg : decode c.code g.pc = .ok (.multianewarray index 2, 4) := by rw [hb, hgp]; exact hd
      jvm_step X.here [hx, hdg]
      simp only [multianewarray.sem, wp_bind', W.resolveClassAt_links (State.method?_setTop g X.here.top) hg₁]
      rw [W.popN, if_neg (by decide)]
      refine ⟨g, State.topJava?_setTop' (s := T.setVm vm₁) g X.here.top, [.int n, .int k], r.map (am_v ad), rfl, hgs, ?_⟩
      simp only [List.mapM_cons, List.mapM_nil, wp_bind', wp_pure']
      refine mw_make (k := kA₁) (kc := kC₁) (comp := kA 0) (cc := ccl) hkA₁ hkindA₁ hkC₁ hkindC₁ hn0 hk0 hnl hkl hal1 hmh1 (by show T.heap.size + 1 + _ ≤ _; omega) (by show T.slotsUsed + _ + _ ≤ _; omega) (fun d' acts' => ?_)
      have eS : ((T.setTop g).setVm vm₁).setTop { g with stack := r.map (am_v ad) } = (T.setVm vm₁).setTop { g with stack := r.map (am_v ad) } := by
        show ((T.setVm vm₁).setTop g).setTop _ = _
        rw [State.setTop_setTop]
      rw [eS, mw_top]
      simp only [wp_bind', W.mark, W.pushRef, State.topJava?_setTop' _ XF.here.top, Option.some.injEq, exists_eq_left', State.setTop_setTop, State.heap_setTop]
      intro acts
      simp [jvm, XF.here.top]
      exact a1
  · cases hp
end AmMulti
