/-! ===== statics, constants, casts, arraycopy, clone ===== -/
theorem am_cpy_get {xs ys : List Int32} {i j n : Nat} (h1 : i + n ≤ xs.length) (h2 : j + n ≤ ys.length) (k : Nat) : (am_cpy xs ys i j n).getD k 0 = va_cpy (fun q => xs.getD q 0) (fun q => ys.getD q 0) i j n k := by
  unfold am_cpy va_cpy
  simp only [List.getD_eq_getElem?_getD]
  by_cases hk : k < j
  · rw [List.append_assoc, List.getElem?_append_left (by simp; omega), List.getElem?_take_of_lt hk, if_neg (by omega)]
  · by_cases hk2 : k < j + n
    · rw [List.append_assoc, List.getElem?_append_right (by simp; omega), List.getElem?_append_left (by simp; omega), List.getElem?_take_of_lt (by simp; omega), List.getElem?_drop, if_pos (by omega)]
      simp only [List.length_take]
      rw [show min j ys.length = j by omega]
    · rw [List.getElem?_append_right (by simp; omega), List.getElem?_drop, if_neg (by omega)]
      simp only [List.length_append, List.length_take, List.length_drop]
      rw [show j + n + (k - (min j ys.length + min n (xs.length - i))) = k by omega]
theorem am_cpy_len {xs ys : List Int32} {i j n : Nat} (h1 : i + n ≤ xs.length) (h2 : j + n ≤ ys.length) : (am_cpy xs ys i j n).length = ys.length := by
  unfold am_cpy
  simp only [List.length_append, List.length_take, List.length_drop]
  omega
section AmHeap3
variable {p : Program} {l : Launch} {e : Env} {R : Room} {s : State} {m : MethodId} {args : Array Value} {below : List Frame} {meth : Method} {c : Code} {H : Heap} {locs : List Loc} {cells slots : Nat} {Q : State → Prop} {cc : ByteArray} {pc nL : Nat} {ls : Array Slot} {ad : Nat → Nat} {D : va_G} {kA : Nat → ClassId} {sz0 : Nat} {H00 : Heap} {h h' : am_H} {st st' : List Value} {ro : Nat → Option (List Int32)}
theorem am_toInt {z : Int32} (hz : ¬ z < 0) : z.toInt = (z.toNatClampNeg : Int) := by
  have hz0 : (0 : Int) ≤ z.toInt := by
    have := Int32.not_lt.mp hz
    simpa using Int32.le_iff_toInt_le.mp this
  show z.toInt = ((z.toInt.toNat : Nat) : Int)
  omega
/-- System.arraycopy -/
theorem am_s_acp (hx : p.tables.exec = Jvm.exec) (hb : c.code = cc) (hml : c.maxLocals = ls.size) {own : String} {index : Nat} {Ts : List Cond} (hts : ∀ w ∈ Ts, w.before args s = true) (hown : s.vm.findClass own = some m.cls) (hlink : Cond.methodLink own index arraycopyName ∈ Ts) (hnat : Cond.native arraycopyName ∈ Ts) (hstat : Cond.static arraycopyName ∈ Ts) (hini : Cond.initialized "java/lang/System" ∈ Ts)
    (had : ∀ k, k < am_RO → ad k = sz0 + k) (hlen : h.length ≤ am_RO) (hK : va_K D vwCl (am_tys kA) s) (hR : am_RH D kA ad sz0 H00 h H) (hl : ∀ q ∈ locs, sz0 ≤ q.base) (hframes : 1 ≤ R.frames) (hlocals : 26 ≤ R.locals) (hd : decode cc pc = .ok (.invokestatic index, 3)) (hp : am_acp st h = some (st', h'))
    (kk : ∀ (H1 : Heap) (locs1 : List Loc), am_RH D kA ad sz0 H00 h' H1 → (∀ q ∈ locs1, sz0 ≤ q.base) → W p l e R s m args below meth c H1 locs1 cells slots Q (F0 m (pc + 3) ls (st'.map (am_v ad)))) : W p l e R s m args below meth c H locs cells slots Q (F0 m pc ls (st.map (am_v ad))) := by
  unfold am_acp at hp
  split at hp
  · next n j b i a r =>
    split at hp
    · next xs hh =>
      split at hp
      · next ys hy =>
        split at hp
        · cases hp
        · next hn =>
          cases hp
          have h3 : ¬ n < 0 := fun q => hn (Or.inl q)
          have h1 : ¬ i < 0 := fun q => hn (Or.inr (Or.inl q))
          have h2 : ¬ j < 0 := fun q => hn (Or.inr (Or.inr (Or.inl q)))
          have h4 : i.toNatClampNeg + n.toNatClampNeg ≤ xs.length := Nat.le_of_not_lt fun q => hn (Or.inr (Or.inr (Or.inr (Or.inl q))))
          have h5 : j.toNatClampNeg + n.toNatClampNeg ≤ ys.length := Nat.le_of_not_lt fun q => hn (Or.inr (Or.inr (Or.inr (Or.inr (Or.inl q)))))
          have hw : am_w st' ≤ 8 := Nat.le_of_not_lt fun q => hn (Or.inr (Or.inr (Or.inr (Or.inr (Or.inr q)))))
          have ha := had a (by have := am_hlt hh; omega)
          have hbb := had b (by have := am_hlt hy; omega)
          have hc0 : H[ad a]? = some (arrV (kA 0) xs.length (fun j => .int (xs.getD j 0))) := by rw [ha]; exact hR.2.2 a _ hh
          have hc1 : H[ad b]? = some (arrV (kA 0) ys.length (fun j => .int (ys.getD j 0))) := by rw [hbb]; exact hR.2.2 b _ hy
          obtain ⟨-, k0, hk0, cm0, hkk0⟩ := (hK.2 0 _ rfl).1 xs.length (fun j => .int (xs.getD j 0))
          intro T hT X
          obtain ⟨vm', X', step⟩ := X.arraycopy hx hown (hts _ hlink) (hts _ hnat) (hts _ hstat) (hts _ hini) (src := ad a) (dst := ad b) (cs := arrV (kA 0) xs.length (fun j => .int (xs.getD j 0))) (cd := arrV (kA 0) ys.length (fun j => .int (ys.getD j 0))) (srcPos := i) (destPos := j) (n := n) (by rw [hT]; exact hc0) (by rw [hT]; exact hc1)
            (fun _ h => by cases h) (fun _ h => by cases h) (fun h => by cases h) (fun h => by cases h) hk0 hk0 hkk0 hkk0 (by rfl) h1 h2 h3
            (by rw [am_toInt h1, am_toInt h3, arrV_size]; omega)
            (by rw [am_toInt h2, am_toInt h3, arrV_size]; omega)
            (fun vm₁ _ q hq => by
              have e : (arrV (kA 0) xs.length (fun j => .int (xs.getD j 0))).slots.getD (i.toNatClampNeg + q) .null = .int (xs.getD (i.toNatClampNeg + q) 0) := by
                rw [Array.getD_eq_getD_getElem?, arrV_read _ _ (by omega)]
                rfl
              refine ⟨?_, ?_⟩
              · rw [e]; rfl
              · rw [e]; exact trivial)
            (g := F0 m pc ls ((.int n :: .int j :: .ref b :: .int i :: .ref a :: st').map (am_v ad))) rfl (by rw [hml]) (rest := st'.map (am_v ad)) rfl (by rw [hb]; exact hd) hframes (by
              have e2 : ((st'.map (am_v ad)).map fun v => v.category).sum = am_w st' := by
                unfold am_w
                rw [List.map_map]
                congr 1
                apply List.map_congr_left
                intro v _
                exact am_v_cat ad v
              have e3 : nativeFrameWords "java/lang/System" "arraycopy" 5 = 7 := by decide +kernel
              rw [e2, e3]
              show 2 * 0 + _ + _ ≤ _
              omega)
          have e1 : copied (arrV (kA 0) xs.length (fun j => .int (xs.getD j 0))) (arrV (kA 0) ys.length (fun j => .int (ys.getD j 0))) i j n = arrV (kA 0) (am_cpy xs ys i.toNatClampNeg j.toNatClampNeg n.toNatClampNeg).length (fun q => .int ((am_cpy xs ys i.toNatClampNeg j.toNatClampNeg n.toNatClampNeg).getD q 0)) := by
            rw [am_cpy_len h4 h5]
            refine (va_copied (fun z => .int z) (kA 0) (kA 0) (fun q => xs.getD q 0) (fun q => ys.getD q 0) h4).trans ?_
            congr 1
            funext q
            rw [am_cpy_get h4 h5]
          rw [e1] at X' step
          have hbl : ad b < T.heap.size := by rw [hT]; exact (Array.getElem?_eq_some_iff.mp hc1).1
          obtain ⟨t, a1, b1⟩ := kk _ _ (hR.set (k := b) (c := .inl (0, am_cpy xs ys i.toNatClampNeg j.toNatClampNeg n.toNatClampNeg)) (H1 := ((T.setVm vm').setCell (ad b) (arrV (kA 0) (am_cpy xs ys i.toNatClampNeg j.toNatClampNeg n.toNatClampNeg).length (fun q => .int ((am_cpy xs ys i.toNatClampNeg j.toNatClampNeg n.toNatClampNeg).getD q 0)))).heap)
              (by rw [size_setCell]; show T.heap.size = _; rw [hT]) (fun q hq => by rw [← hbb] at hq; rw [heapAt_setCell_ne _ (Ne.symm hq)]; show T.heap[q]? = _; rw [hT])
              (by rw [← hbb]; exact heapAt_setCell_self _ hbl)) (fun q hq => by
              rcases List.mem_append.mp hq with hq | hq
              · exact hl q hq
              · obtain ⟨z, -, hz⟩ := List.mem_map.mp hq
                rw [← hz]
                show sz0 ≤ ad b
                omega) _ rfl X'
          exact ⟨t, step t a1, b1⟩
      · cases hp
    · cases hp
  · cases hp
/-- clone of an int array -/
theorem am_s_cln (hx : p.tables.exec = Jvm.exec) (hb : c.code = cc) (hml : c.maxLocals = ls.size) {own : String} {index : Nat} {Ts : List Cond} (hts : ∀ w ∈ Ts, w.before args s = true) (hown : s.vm.findClass own = some m.cls)
    (hlink : Cond.methodLink own index ⟨"[I", "clone", "()Ljava/lang/Object;"⟩ ∈ Ts) (hsame : Cond.sameMethod "[I" "java/lang/Object" "clone" "()Ljava/lang/Object;" ∈ Ts) (hnat : Cond.native ⟨"java/lang/Object", "clone", "()Ljava/lang/Object;"⟩ ∈ Ts) (hinst : Cond.instanceMethod ⟨"java/lang/Object", "clone", "()Ljava/lang/Object;"⟩ ∈ Ts) (hsel : Cond.selects "[I" ⟨"[I", "clone", "()Ljava/lang/Object;"⟩ ⟨"java/lang/Object", "clone", "()Ljava/lang/Object;"⟩ ∈ Ts) (hcl : Cond.castable "[I" "java/lang/Cloneable" ∈ Ts)
    (had : ∀ k, k < am_RO → ad k = sz0 + k) (hlen : h.length < am_RO) (hK : va_K D vwCl (am_tys kA) s) (hR : am_RH D kA ad sz0 H00 h H) (hframes : 1 ≤ R.frames) (hlocals : 22 ≤ R.locals) (hcells : cells + 1 ≤ R.cells) (hslots : slots + (am_sl0 h' - am_sl0 h) ≤ R.slots) (hd : decode cc pc = .ok (.invokevirtual index, 3)) (hp : am_cln st h = some (st', h'))
    (kk : ∀ (H1 : Heap), am_RH D kA ad sz0 H00 h' H1 → W p l e R s m args below meth c H1 locs (cells + 1) (slots + (am_sl0 h' - am_sl0 h)) Q (F0 m (pc + 3) ls (st'.map (am_v ad)))) : W p l e R s m args below meth c H locs cells slots Q (F0 m pc ls (st.map (am_v ad))) := by
  unfold am_cln at hp
  split at hp
  · next a r =>
    split at hp
    · next xs hh =>
      split at hp
      · cases hp
      next hnw =>
      cases hp
      have hw : am_w r ≤ 8 := Nat.le_of_not_lt hnw
      have hS : am_sl0 (h ++ [.inl (0, xs)]) - am_sl0 h = xs.length := by
        rw [am_sl0_app]
        simp [am_sl0, am_csz]
      rw [hS] at kk hslots
      have ha := had a (by have := am_hlt hh; omega)
      have hc0 : H[ad a]? = some (arrV (kA 0) xs.length (fun j => .int (xs.getD j 0))) := by rw [ha]; exact hR.2.2 a _ hh
      have hnm : s.vm.findClass "[I" = some (kA 0) := (hK.2 0 _ rfl).2
      obtain ⟨c0, t0', f1, f2, f3⟩ := Cond.castable_spec (hts _ hcl)
      cases hnm.symm.trans f1
      intro T hT X
      obtain ⟨-, kA1, hkA, comp, hkind⟩ := State.isArrayOf_alike X.warmed.alike ((hK.2 0 _ rfl).1 0 (fun _ => .null))
      obtain ⟨-, kS, hkS, compS, hkindS⟩ := (hK.2 0 _ rfl).1 0 (fun _ => .null)
      obtain ⟨vm', X', stp⟩ := X.cloneArray hx hown (hts _ hlink) (hts _ hsame) (hts _ hnat) (hts _ hinst) (hts _ hsel) (a := ad a) (cell := arrV (kA 0) xs.length (fun j => .int (xs.getD j 0))) (by rw [hT]; exact hc0) (fun k h => by cases h) (fun h => by cases h) hnm f2 f3
        (fun i v hv => by
          have hk' : T.vm.classes[kA 0]? = some kA1 := hkA
          have hv2 : ∃ x, v = .int x := by
            by_cases hi : i < xs.length
            · rw [arrV_read _ _ hi] at hv
              cases hv
              exact ⟨_, rfl⟩
            · rw [Array.getElem?_eq_none (by rw [arrV_size]; omega)] at hv
              cases hv
          obtain ⟨x, rfl⟩ := hv2
          show T.fitsSlot (kA 0) .none i (.int x) = true
          simp [State.fitsSlot, State.slotType?, hk', hkind, fits])
        (g := F0 m pc ls ((.ref a :: r).map (am_v ad))) rfl (by rw [hml]) rfl (by rw [hb]; exact hd) hframes (by
          have e2 : ((r.map (am_v ad)).map fun v => v.category).sum = am_w r := by
            unfold am_w
            rw [List.map_map]
            congr 1
            apply List.map_congr_left
            intro v _
            exact am_v_cat ad v
          show 2 * 0 + ((r.map (am_v ad)).map fun v => v.category).sum + 14 ≤ _
          rw [e2]
          omega) hcells (by rw [arrV_size]; exact hslots) (hloader := Vm.clonesLoader_of_array hkS hkindS)
      rw [arrV_size] at X'
      have ha2 : ad h.length = T.heap.size := by rw [had _ hlen, hT, hR.1]
      obtain ⟨t, b1, b2⟩ := kk ((T.setVm vm').pushCell (arrV (kA 0) xs.length (fun j => .int (xs.getD j 0)))).heap (hR.push (by show (T.heap.push _).size = _; rw [Array.size_push, hT]) (fun q hq => by show (T.heap.push _)[q]? = _; rw [hT, Array.getElem?_push, if_neg (Nat.ne_of_lt hq)]) (by
        show (T.heap.push _)[H.size]? = some _
        rw [hT, Array.getElem?_push_size])) _ rfl X'
      refine ⟨t, stp t ?_, b2⟩
      have e2 : F0 m (pc + 3) ls ((.ref h.length :: r).map (am_v ad)) = F0 m (pc + 3) ls (.ref T.heap.size :: r.map (am_v ad)) := by
        show F0 m (pc + 3) ls (.ref (ad h.length) :: _) = _
        rw [ha2]
      rw [e2] at b1
      exact b1
    · cases hp
  · cases hp
/-- checkcast to int[] -/
theorem am_s_cst (hx : p.tables.exec = Jvm.exec) (hb : c.code = cc) {own : String} {index z : Nat} {Ts : List Cond} (hts : ∀ w ∈ Ts, w.before args s = true) (hown : s.vm.findClass own = some m.cls) (hlink : Cond.classLink own index "[I" ∈ Ts) (had : ∀ k, k < am_RO → ad k = sz0 + k) (hlen : h.length ≤ am_RO) (hK : va_K D vwCl (am_tys kA) s) (hR : am_RH D kA ad sz0 H00 h H) (hd : decode cc pc = .ok (.checkcast index, 3)) (hp : am_heap ro nL (.checkcast z) st h = some (st', h'))
    (kk : h' = h → W p l e R s m args below meth c H locs cells slots Q (F0 m (pc + 3) ls (st'.map (am_v ad)))) : W p l e R s m args below meth c H locs cells slots Q (F0 m pc ls (st.map (am_v ad))) := by
  simp only [am_heap] at hp
  split at hp
  · next a r =>
    split at hp
    · next xs hh =>
      cases hp
      have ha := had a (by have := am_hlt hh; omega)
      have hc0 : H[ad a]? = some (arrV (kA 0) xs.length (fun j => .int (xs.getD j 0))) := by rw [ha]; exact hR.2.2 a _ hh
      have hnm : s.vm.findClass "[I" = some (kA 0) := (hK.2 0 _ rfl).2
      intro T hT X
      obtain ⟨vm', X', stp⟩ := X.checkcastYes hx hown (hts _ hlink) (by rw [hT]; exact hc0) rfl hnm (va_asg _ _) (g := F0 m pc ls ((.ref a :: r).map (am_v ad))) rfl rfl (by rw [hb]; exact hd)
      obtain ⟨t, a1, b1⟩ := kk rfl (T.setVm vm') hT X'
      exact ⟨t, stp t a1, b1⟩
    · cases hp
  · cases hp
end AmHeap3
