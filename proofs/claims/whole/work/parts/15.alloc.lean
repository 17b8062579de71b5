/-! ===== what makes cells, and the rest of the heap's steps ===== -/
section AmAlloc
variable {p : Program} {l : Launch} {e : Env} {R : Room} {s : State} {m : MethodId} {args : Array Value} {below : List Frame} {meth : Method} {c : Code} {H : Heap} {locs : List Loc} {cells slots : Nat} {Q : State → Prop} {cc : ByteArray} {pc nL : Nat} {ls : Array Slot} {ad : Nat → Nat} {D : va_G} {kA : Nat → ClassId} {sz0 : Nat} {H00 : Heap} {h h' : am_H} {st st' : List Value} {ro : Nat → Option (List Int32)}
theorem am_s_aas (hx : p.tables.exec = Jvm.exec) (hb : c.code = cc) (had : ∀ k, k < am_RO → ad k = sz0 + k) (hlen : h.length ≤ am_RO) (hK : va_K D vwCl (am_tys kA) s) (hR : am_RH D kA ad sz0 H00 h H) (hl : ∀ q ∈ locs, sz0 ≤ q.base) (hd : decode cc pc = .ok (.aastore, 1)) (hp : am_aas st h = some (st', h'))
    (kk : ∀ (H1 : Heap) (locs1 : List Loc), am_RH D kA ad sz0 H00 h' H1 → (∀ q ∈ locs1, sz0 ≤ q.base) → W p l e R s m args below meth c H1 locs1 cells slots Q (F0 m (pc + 1) ls (st'.map (am_v ad)))) : W p l e R s m args below meth c H locs cells slots Q (F0 m pc ls (st.map (am_v ad))) := by
  unfold am_aas at hp
  split at hp
  · next v i a r =>
    split at hp
    · next t xs hh =>
      split at hp
      · next ci fs hv =>
        split at hp
        · next hty =>
          split at hp
          · next ys hy =>
            cases hp
            obtain ⟨hin, rfl⟩ := am_upr_some hy
            have hc : H[sz0 + a]? = some (arrV (kA t) xs.length (fun j => va_rf ((xs.getD j none).map ad))) := hR.2.2 a _ hh
            have ha := had a (by have := am_hlt hh; omega)
            have hva := had v (by have := am_hlt hv; omega)
            rw [← ha] at hc
            obtain ⟨r0, h1, h2, cellV, g1, g2, g3, -⟩ := hR.2.2 v _ hv
            rw [← hva] at g1
            have hcls := (hK.1 ci r0 h1).2
            have fin : ∀ H1 : Heap, H1[ad a]? = some ((arrV (kA t) xs.length (fun j => va_rf ((xs.getD j none).map ad))).setSlot i.toNatClampNeg (.ref (ad v))) → H1.size = H.size → (∀ q, q ≠ ad a → H1[q]? = H[q]?) → am_RH D kA ad sz0 H00 (h.set a (.inr (.inl (t, xs.set i.toNatClampNeg (some v))))) H1 := fun H1 e1 z1 o1 => by
              rw [ha] at e1 o1
              refine hR.set z1 o1 ?_
              show H1[sz0 + a]? = some _
              rw [e1]
              exact congrArg some (am_arr_setr (x := some v) (vp_in_lt hin))
            rcases hty with ⟨rfl, rfl⟩ | ⟨rfl, rfl⟩
            · obtain ⟨kA1, comp, k1, k2, k3, -⟩ := (hK.2 4 _ rfl).2
              have e0 : r0 = (RX5, TX5, _) := Option.some.inj (h1.symm.trans rfl)
              have hcomp : comp = D.1 5 := Option.some.inj (k3.symm.trans (by have := hcls.1; rw [e0] at this; exact this))
              subst hcomp
              obtain ⟨kC, hkC, -⟩ := hcls.2
              exact W.aast hx hb hc (fun q h => by cases h) (fun h => by cases h) k1 k2 rfl hkC ⟨fun q => hin (Or.inl q), by rw [arrV_size]; exact vp_in_lt hin⟩ g1 (fun q h => by rw [g3] at h; cases h) (by rw [g2]; exact hkC) (by rw [g2]; exact va_assign hcls) rfl rfl hd fun H1 e1 z1 o1 => kk H1 _ (fin H1 e1 z1 o1) (fun q hq => am_lb hl (by rw [ha]; omega) hq)
            · obtain ⟨kA1, comp, k1, k2, k3, -⟩ := (hK.2 5 _ rfl).2
              have e0 : r0 = (RX10, TX10, _) := Option.some.inj (h1.symm.trans rfl)
              have hcomp : comp = D.1 10 := Option.some.inj (k3.symm.trans (by have := hcls.1; rw [e0] at this; exact this))
              subst hcomp
              obtain ⟨kC, hkC, -⟩ := hcls.2
              exact W.aast hx hb hc (fun q h => by cases h) (fun h => by cases h) k1 k2 rfl hkC ⟨fun q => hin (Or.inl q), by rw [arrV_size]; exact vp_in_lt hin⟩ g1 (fun q h => by rw [g3] at h; cases h) (by rw [g2]; exact hkC) (by rw [g2]; exact va_assign hcls) rfl rfl hd fun H1 e1 z1 o1 => kk H1 _ (fin H1 e1 z1 o1) (fun q hq => am_lb hl (by rw [ha]; omega) hq)
          · cases hp
        · cases hp
      · cases hp
    · cases hp
  · cases hp
/-- how many places a cell has -/
def am_csz (c : am_C) : Nat := match c with
  | .inl (_, xs) => xs.length
  | .inr (.inl (_, xs)) => xs.length
  | .inr (.inr (_, fs)) => fs.length
def am_sl0 (h : am_H) : Nat := (h.map am_csz).sum
theorem am_sl0_app (h g : am_H) : am_sl0 (h ++ g) = am_sl0 h + am_sl0 g := by
  unfold am_sl0
  rw [List.map_append, List.sum_append]
/-- new -/
theorem am_s_new (hx : p.tables.exec = Jvm.exec) (hb : c.code = cc) {own : String} {index z : Nat} {Ts : List Cond} (hts : ∀ w ∈ Ts, w.before args s = true) (had : ∀ k, k < am_RO → ad k = sz0 + k) (hlen : h.length < am_RO) (hown : s.vm.findClass own = some m.cls) (hK : va_K D vwCl (am_tys kA) s) (hR : am_RH D kA ad sz0 H00 h H) {C : String} {T : u_T} {N : Nat} (hc : vwCl[z]? = some (C, T, N)) (hin : ∀ w ∈ u_ws C T N, w ∈ Ts)
    (hcl : Cond.classLink own index C ∈ Ts) (hinst : Cond.instantiable C N ∈ Ts) (hini : Cond.initialized C ∈ Ts) (hty : ∀ k, k < N → parseFieldDescriptor (T k).2.2.1 = some (am_fty z k)) (hdf : ∀ k, k < N → defaultValue (am_fty z k) = am_dfv (am_fty z k)) (hcells : cells + 1 ≤ R.cells) (hslots : slots + N ≤ R.slots) (hd : decode cc pc = .ok (.new index, 3)) (hp : am_new z st h = some (st', h'))
    (kk : ∀ (H1 : Heap), am_RH D kA ad sz0 H00 h' H1 → W p l e R s m args below meth c H1 locs (cells + 1) (slots + N) Q (F0 m (pc + 3) ls (st'.map (am_v ad)))) : W p l e R s m args below meth c H locs cells slots Q (F0 m pc ls (st.map (am_v ad))) := by
  unfold am_new at hp
  cases hp
  have hN : am_nf z = N := by unfold am_nf; rw [hc]
  have hKn := hK.1 z _ hc
  refine W.newcK hx hb hown (hts _ hcl) (hts _ hinst) (hts _ hini) rfl hd hcells hslots hKn.2.1 rfl fun H1 kC hkC e1 z1 o1 => ?_
  have ha : ad h.length = H.size := by rw [had _ hlen, hR.1]
  have e2 : F0 m (pc + 3) ls ((.ref h.length :: st).map (am_v ad)) = F0 m (pc + 3) ls (.ref H.size :: st.map (am_v ad)) := by
    show F0 m (pc + 3) ls (.ref (ad h.length) :: _) = _
    rw [ha]
  refine W.eq e2.symm (kk H1 (hR.push z1 o1 ?_))
  refine ⟨_, hc, by rw [hN, List.length_map, List.length_range], ?_⟩
  refine (u_born (am_fty z) hts hin hKn hkC e1 hty).to (fun j hj => ?_)
  rw [hdf j hj, hN]
  have hv : am_v ad (am_dfv (am_fty z j)) = am_dfv (am_fty z j) := by
    unfold am_dfv
    split <;> rfl
  simp [vp_V, List.getElem?_map, List.getElem?_range hj, hv]
theorem am_nt_df {t : ArrayType} {k : Nat} (h : am_nt t = some k) : k < 3 ∧ defaultValue (newarray.typeOf t) = .int 0 ∧ componentBytes (newarray.typeOf t) ≤ 4 ∧ (am_tys kA)[k]? = some (kA k, newarray.typeOf t) := by
  cases t <;> cases h <;> exact ⟨by decide, rfl, by decide, rfl⟩
/-- newarray -/
theorem am_s_newa (hx : p.tables.exec = Jvm.exec) (hb : c.code = cc) {t : ArrayType} {Ts : List Cond} (hts : ∀ w ∈ Ts, w.before args s = true) (had : ∀ k, k < am_RO → ad k = sz0 + k) (hlen : h.length < am_RO) (hK : va_K D vwCl (am_tys kA) s) (hR : am_RH D kA ad sz0 H00 h H) (harr : Cond.arrayClass (newarray.typeOf t) ∈ Ts)
    (hcells : cells + 1 ≤ R.cells) (hslots : slots + (am_sl0 h' - am_sl0 h) ≤ R.slots) (hd : decode cc pc = .ok (.newarray t, 2)) (hp : am_newa t st h = some (st', h'))
    (kk : ∀ (H1 : Heap), am_RH D kA ad sz0 H00 h' H1 → W p l e R s m args below meth c H1 locs (cells + 1) (slots + (am_sl0 h' - am_sl0 h)) Q (F0 m (pc + 2) ls (st'.map (am_v ad)))) : W p l e R s m args below meth c H locs cells slots Q (F0 m pc ls (st.map (am_v ad))) := by
  unfold am_newa at hp
  split at hp
  · next n r =>
    split at hp
    · next k hk =>
      split at hp
      · cases hp
      · next hn =>
        cases hp
        obtain ⟨hk3, hdf, hcb, hty⟩ := am_nt_df (kA := kA) hk
        have hS : am_sl0 (h ++ [.inl (k, List.replicate n.toNatClampNeg 0)]) - am_sl0 h = n.toNatClampNeg := by
          rw [am_sl0_app]
          simp [am_sl0, am_csz]
        rw [hS] at kk hslots
        have hn0 : ¬ n < 0 := fun q => hn (Or.inl q)
        have hnl : n.toNatClampNeg ≤ 65536 := by
          rcases Nat.lt_or_ge 65536 n.toNatClampNeg with q | q
          · exact absurd (Or.inr q) hn
          · exact q
        have hbytes : n.toNatClampNeg * componentBytes (newarray.typeOf t) ≤ 536870912 := Nat.le_trans (Nat.mul_le_mul hnl hcb) (by decide)
        refine va_newaK hx hb (hts _ harr) rfl hd rfl hn0 rfl hbytes hcells hslots rfl fun H1 cA e1 z1 o1 hAr hNm => ?_
        have hcA : cA = kA k := by
          have h1 := (hK.2 k _ hty).2
          have h2 : s.vm.findClass ("[" ++ (newarray.typeOf t).toString) = some (kA k) := by
            cases t <;> exact h1
          exact Option.some.inj (hNm.symm.trans h2)
        subst hcA
        have ha : ad h.length = H.size := by rw [had _ hlen, hR.1]
        have e2 : F0 m (pc + 2) ls ((.ref h.length :: r).map (am_v ad)) = F0 m (pc + 2) ls (.ref H.size :: r.map (am_v ad)) := by
          show F0 m (pc + 2) ls (.ref (ad h.length) :: _) = _
          rw [ha]
        refine W.eq e2.symm (kk H1 (hR.push z1 o1 ?_))
        show H1[H.size]? = some _
        rw [e1, hdf, List.length_replicate]
        congr 2
        funext j
        simp only [List.getD_eq_getElem?_getD, List.getElem?_replicate]
        split <;> rfl
    · cases hp
  · cases hp
/-- anewarray: Formula[], Sheet[] -/
theorem am_s_anew (hx : p.tables.exec = Jvm.exec) (hb : c.code = cc) {own C : String} {index z : Nat} {Ts : List Cond} (hts : ∀ w ∈ Ts, w.before args s = true) (had : ∀ k, k < am_RO → ad k = sz0 + k) (hlen : h.length < am_RO) (hown : s.vm.findClass own = some m.cls) (hK : va_K D vwCl (am_tys kA) s) (hR : am_RH D kA ad sz0 H00 h H) (hty : (am_tys kA)[z]? = some (kA z, .object C)) (hcl : Cond.classLink own index C ∈ Ts) (hao : va_AO C s)
    (hcells : cells + 1 ≤ R.cells) (hslots : slots + (am_sl0 h' - am_sl0 h) ≤ R.slots) (hd : decode cc pc = .ok (.anewarray index, 3)) (hp : am_anew z st h = some (st', h'))
    (kk : ∀ (H1 : Heap), am_RH D kA ad sz0 H00 h' H1 → W p l e R s m args below meth c H1 locs (cells + 1) (slots + (am_sl0 h' - am_sl0 h)) Q (F0 m (pc + 3) ls (st'.map (am_v ad)))) : W p l e R s m args below meth c H locs cells slots Q (F0 m pc ls (st.map (am_v ad))) := by
  unfold am_anew at hp
  split at hp
  · next n r =>
    split at hp
    · cases hp
    · next hn =>
      cases hp
      have hS : am_sl0 (h ++ [.inr (.inl (z, List.replicate n.toNatClampNeg none))]) - am_sl0 h = n.toNatClampNeg := by
        rw [am_sl0_app]
        simp [am_sl0, am_csz]
      rw [hS] at kk hslots
      have hn0 : ¬ n < 0 := fun q => hn (Or.inl (Or.inl q))
      have hnl : n.toNatClampNeg ≤ 65536 := by
        rcases Nat.lt_or_ge 65536 n.toNatClampNeg with q | q
        · exact absurd (Or.inl (Or.inr q)) hn
        · exact q
      refine W.anew hx hb hown (hts _ hcl) (va_AO.use hao) rfl hd rfl hn0 (by omega) hcells hslots fun cA kA1 comp f1 f2 f3 f4 => ?_
      generalize hH1 : H.push ({ cls := cA, slots := Array.replicate n.toNatClampNeg .null, vm := .none } : Cell) = H1
      have z1 : H1.size = H.size + 1 := by rw [← hH1, Array.size_push]
      have e1 : H1[H.size]? = some (arrV cA n.toNatClampNeg (fun _ => .null)) := by rw [← hH1, Array.getElem?_push_size, ← arrV_new]
      have o1 : ∀ q : Nat, q < H.size → H1[q]? = H[q]? := fun q hq => by rw [← hH1, Array.getElem?_push, if_neg (Nat.ne_of_lt hq)]
      have hcA : cA = kA z := by
        obtain ⟨-, -, -, -, -, h4⟩ := (hK.2 z _ hty).2
        exact Option.some.inj (f1.symm.trans h4)
      subst hcA
      have ha : ad h.length = H.size := by rw [had _ hlen, hR.1]
      have e2 : F0 m (pc + 3) ls ((.ref h.length :: r).map (am_v ad)) = F0 m (pc + 3) ls (.ref H.size :: r.map (am_v ad)) := by
        show F0 m (pc + 3) ls (.ref (ad h.length) :: _) = _
        rw [ha]
      refine W.eq e2.symm (kk H1 (hR.push z1 o1 ?_))
      show H1[H.size]? = some _
      rw [e1, List.length_replicate]
      congr 2
      funext j
      simp only [List.getD_eq_getElem?_getD, List.getElem?_replicate]
      split <;> rfl
  · cases hp
end AmAlloc
