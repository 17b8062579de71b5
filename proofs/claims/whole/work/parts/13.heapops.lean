/-! ===== heap steps of the abstract machine are the machine's ===== -/
section AmHeap
variable {p : Program} {l : Launch} {e : Env} {R : Room} {s : State} {m : MethodId} {args : Array Value} {below : List Frame} {meth : Method} {c : Code} {H : Heap} {locs : List Loc} {cells slots : Nat} {Q : State → Prop} {cc : ByteArray} {pc nL : Nat} {ls : Array Slot} {ad : Nat → Nat} {D : va_G} {kA : Nat → ClassId} {sz0 : Nat} {H00 : Heap} {h h' : am_H} {st st' : List Value}
theorem am_hlt {k : Nat} {x : am_C} (hh : h[k]? = some x) : k < h.length := (List.getElem?_eq_some_iff.mp hh).1
/-- getfield -/
theorem am_s_getf (hx : p.tables.exec = Jvm.exec) (hb : c.code = cc) {own : String} {index z : Nat} {Ts : List Cond} (hts : ∀ w ∈ Ts, w.before args s = true) (had : ∀ k, k < am_RO → ad k = sz0 + k) (hlen : h.length ≤ am_RO) (hown : s.vm.findClass own = some m.cls) (hK : va_K D vwCl (am_tys kA) s) (hR : am_RH D kA ad sz0 H00 h H) {C : String} {T : u_T} {N : Nat} (hc : vwCl[z / 64]? = some (C, T, N)) (hin : ∀ w ∈ u_ws C T N, w ∈ Ts) (hk : z % 64 < N) (hlink : Cond.fieldLink own index (T (z % 64)).1 (T (z % 64)).2.1 (T (z % 64)).2.2.1 ∈ Ts) (hd : decode cc pc = .ok (.getfield index, 3)) (hp : am_getf z st h = some (st', h'))
    (kk : h' = h → W p l e R s m args below meth c H locs cells slots Q (F0 m (pc + 3) ls (st'.map (am_v ad)))) : W p l e R s m args below meth c H locs cells slots Q (F0 m pc ls (st.map (am_v ad))) := by
  unfold am_getf at hp
  split at hp
  · next a r =>
    split at hp
    · next ci fs hh =>
      split at hp
      · next hci =>
        split at hp
        · next v hv =>
          cases hp
          subst hci
          obtain ⟨r0, h1, h2, cell, q1, q2, q3, q4⟩ := hR.2.2 a _ hh
          have hr : r0 = (C, T, N) := Option.some.inj (h1.symm.trans hc)
          subst hr
          obtain ⟨hS, hfc, kC, hkC, hkind⟩ := hK.1 _ _ hc
          obtain ⟨cf, kf, fi, f, hi, hsl⟩ := hS _ hk
          have ha : ad a = sz0 + a := had a (by have := am_hlt hh; omega)
          refine W.getf hx hb hown (hts _ hlink) hi (u_facts hfc hkC (u_lays hts hin hk) hi).1 (a := ad a) (by rw [ha]; exact q1) (by rw [q3]; exact fun h => by cases h) (v := am_v ad v) ?_ rfl rfl hd (kk rfl)
          rw [hsl, q4 _ hk]
          simp [vp_V, hv]
        · cases hp
      · cases hp
    · cases hp
  · cases hp
theorem am_ft_ok {ty : FieldType} {v : Value} (h : am_ft ty v = true) : narrow ty (am_v ad v) = am_v ad v ∧ fits ty (am_v ad v) = true := by
  unfold am_ft at h
  split at h
  · split at h
    · exact ⟨rfl, rfl⟩
    · cases h
  · cases ty <;> first | exact ⟨rfl, rfl⟩ | (simp [FieldType.isReference] at h)
  · cases ty <;> first | exact ⟨rfl, rfl⟩ | (simp [FieldType.isReference] at h)
  · cases h
/-- putfield -/
theorem am_s_putf (hx : p.tables.exec = Jvm.exec) (hb : c.code = cc) {own : String} {index z cn : Nat} {Ts : List Cond} (hts : ∀ w ∈ Ts, w.before args s = true) (had : ∀ k, k < am_RO → ad k = sz0 + k) (hlen : h.length ≤ am_RO) (hown : s.vm.findClass own = some m.cls) (hK : va_K D vwCl (am_tys kA) s) (hR : am_RH D kA ad sz0 H00 h H) {C : String} {T : u_T} {N : Nat} (hc : vwCl[z / 64]? = some (C, T, N)) (hin : ∀ w ∈ u_ws C T N, w ∈ Ts) (hk : z % 64 < N) (hlink : Cond.fieldLink own index (T (z % 64)).1 (T (z % 64)).2.1 (T (z % 64)).2.2.1 ∈ Ts)
    (hty : ∀ k, k < N → parseFieldDescriptor (T k).2.2.1 = some (am_fty (z / 64) k)) (hnm : ∀ a, a < N → ∀ b, b < N → a ≠ b → (T a).2.1 ≠ (T b).2.1) (hcn : cn = z / 64 → meth.name = "<init>" ∧ (T (z % 64)).1 = own) (hlocs : ∀ q ∈ locs, sz0 ≤ q.base) (hd : decode cc pc = .ok (.putfield index, 3)) (hp : am_putf cn z st h = some (st', h'))
    (kk : ∀ (H1 : Heap) (locs1 : List Loc), am_RH D kA ad sz0 H00 h' H1 → (∀ q ∈ locs1, sz0 ≤ q.base) → W p l e R s m args below meth c H1 locs1 cells slots Q (F0 m (pc + 3) ls (st'.map (am_v ad)))) : W p l e R s m args below meth c H locs cells slots Q (F0 m pc ls (st.map (am_v ad))) := by
  unfold am_putf at hp
  split at hp
  · next v a r =>
    split at hp
    · next ci fs hh =>
      split at hp
      · next hci =>
        obtain ⟨hci, -, hfl, hft, hfi⟩ := hci
        cases hp
        subst hci
        have hap := va_apart (own := own) hts hin _ hty hnm hK hc
        obtain ⟨r0, h1, h2, cell, q1, q2, q3, q4⟩ := hR.2.2 a _ hh
        have hr : r0 = (C, T, N) := Option.some.inj (h1.symm.trans hc)
        subst hr
        obtain ⟨hS, hfc, kC, hkC, hkind⟩ := hK.1 _ _ hc
        obtain ⟨cf, kf, fi, f, hi, hsl⟩ := hS _ hk
        have ha : ad a = sz0 + a := had a (by have := am_hlt hh; omega)
        have hlay := hts _ (hin _ (u_in_lay hk))
        have hst := (u_facts hfc hkC (u_lays hts hin hk) hi).1
        obtain ⟨hn, hfit⟩ := am_ft_ok (ad := ad) hft
        have hfin : am_fin (z / 64) (z % 64) = (T (z % 64)).2.2.2 := by unfold am_fin; rw [hc]
        have fin : ∀ H' : Heap, H'[ad a]? = some (cell.setSlot f.slot (am_v ad v)) → H'.size = H.size → (∀ q, q ≠ ad a → H'[q]? = H[q]?) → am_RH D kA ad sz0 H00 (h.set a (.inr (.inr (z / 64, fs.set (z % 64) v)))) H' := fun H' e1 e2 e3 => by
          rw [ha] at e1 e3
          refine hR.set e2 e3 ⟨_, hc, by rw [List.length_set]; exact h2, ?_⟩
          rw [List.map_set]
          rw [hsl] at e1
          exact t_OB.to (V := updV (vp_V (fs.map (am_v ad))) (z % 64) (am_v ad v)) ⟨_, e1, q2, q3, t_set q4 hap hk (am_v ad v)⟩ (fun j _ => vp_updV_set (by rw [List.length_map]; exact hfl) (am_v ad v) j)
        have hl2 : ∀ q ∈ locs ++ [(⟨ad a, f.slot⟩ : Loc)], sz0 ≤ q.base := fun q hq => by
          rcases List.mem_append.mp hq with hq | hq
          · exact hlocs q hq
          · rw [List.mem_singleton.mp hq]; show sz0 ≤ ad a; omega
        by_cases hF : (T (z % 64)).2.2.2 = true
        · obtain ⟨hin2, hdecl⟩ := hcn (hfi (hfin.trans hF))
          unfold u_lay at hlay
          rw [if_pos hF] at hlay
          have hcf : m.cls = cf := by
            obtain ⟨_, _, c', _, _, _, -, -, hf', -, -, -, hown2, -⟩ := Cond.laysFinal_spec hlay
            have e1 : c' = cf := by have := hi.symm.trans hf'; simp at this; exact this.1.symm
            rw [hdecl] at hown2
            rw [← e1]; exact Option.some.inj (hown.symm.trans hown2)
          have h6 := u_fits hfc hkC hkind (Or.inr hlay) hi (hty _ hk) hn hfit
          exact W.putFinK hx hb hown (hts _ hlink) hi hst hcf hin2 (by rw [q2]; exact h6) (a := ad a) (by rw [ha]; exact q1) q3 (by rw [hsl]; exact k2_hasslot (q4 _ hk)) rfl rfl hd fun H' e1 e2 e3 => kk H' _ (fin H' e1 e2 e3) hl2
        · unfold u_lay at hlay
          rw [if_neg hF] at hlay
          have h6 := u_store hfc hkC hkind hlay hi (hty _ hk) hn hfit
          exact W.putK hx hb (f := f) ⟨hown, hts _ hlink, ⟨_, _, _, hi⟩, hst⟩ (by rw [q2]; exact h6) (a := ad a) (by rw [ha]; exact q1) q3 (by rw [hsl]; exact k2_hasslot (q4 _ hk)) rfl rfl hd fun H' e1 e2 e3 => kk H' _ (fin H' e1 e2 e3) hl2
      · cases hp
    · cases hp
  · cases hp
end AmHeap
