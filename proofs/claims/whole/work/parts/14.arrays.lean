/-! ===== arrays: steps of the abstract machine are the machine's ===== -/
/-- what was there before: int arrays by their numbers; the script (number 15) with its length -/
def am_ROk (ro : Nat → Option (List Int32)) (ad : Nat → Nat) (sz0 : Nat) (H00 : Heap) (U : State) : Prop :=
  ∀ (a : Nat) (xs : List Int32), am_RO ≤ a → ro a = some xs → ad a < sz0 ∧ ∃ cell : Cell, H00[ad a]? = some cell ∧ U.isArrayOf cell .int ∧ cell.vm ≠ .unknown ∧ (∀ j : Nat, j < xs.length → cell.slots[j]? = some (.int (xs.getD j 0))) ∧ (a = am_RO + 15 → cell.slots.size = xs.length)
section AmArr
variable {p : Program} {l : Launch} {e : Env} {R : Room} {s : State} {m : MethodId} {args : Array Value} {below : List Frame} {meth : Method} {c : Code} {H : Heap} {locs : List Loc} {cells slots : Nat} {Q : State → Prop} {cc : ByteArray} {pc nL : Nat} {ls : Array Slot} {ad : Nat → Nat} {D : va_G} {kA : Nat → ClassId} {sz0 : Nat} {H00 : Heap} {h h' : am_H} {st st' : List Value} {ro : Nat → Option (List Int32)}
theorem am_s_ial (hx : p.tables.exec = Jvm.exec) (hb : c.code = cc) (had : ∀ k, k < am_RO → ad k = sz0 + k) (hK : va_K D vwCl (am_tys kA) s) (hro : am_ROk ro ad sz0 H00 s) (hR : am_RH D kA ad sz0 H00 h H) (hd : decode cc pc = .ok (.iaload, 1)) (hp : am_ial ro st h = some (st', h'))
    (kk : h' = h → W p l e R s m args below meth c H locs cells slots Q (F0 m (pc + 1) ls (st'.map (am_v ad)))) : W p l e R s m args below meth c H locs cells slots Q (F0 m pc ls (st.map (am_v ad))) := by
  unfold am_ial at hp
  split at hp
  · next i a r =>
    split at hp
    · next hlt =>
      split at hp
      · next xs hh =>
        split at hp
        · next v hv =>
          cases hp
          obtain ⟨hin, hg⟩ := am_at_some hv
          have hc : H[sz0 + a]? = some (arrV (kA 0) xs.length (fun j => .int (xs.getD j 0))) := hR.2.2 a _ hh
          rw [← had a hlt] at hc
          exact W.iald (v := .int v) hx hb hc ((hK.2 0 _ rfl).1 _ _) (fun q => by cases q) (by rw [arrV_size]; exact hin) (by rw [arrV_read _ _ (vp_in_lt hin), hg]) rfl rfl hd (kk rfl)
        · cases hp
      · cases hp
    · next hge =>
      split at hp
      · next xs hxs =>
        split at hp
        · next v hv =>
          cases hp
          obtain ⟨hin, hg⟩ := am_at_some hv
          obtain ⟨h1, cell, h2, h3, h4, h5, -⟩ := hro a xs (Nat.le_of_not_lt hge) hxs
          have h6 := h5 _ (vp_in_lt hin)
          rw [hg] at h6
          refine W.iald (v := .int v) (a := ad a) hx hb (by rw [hR.2.1 _ h1]; exact h2) h3 h4 (fun q => ?_) h6 rfl rfl hd (kk rfl)
          rcases q with q | q
          · exact hin (Or.inl q)
          · have := (Array.getElem?_eq_some_iff.mp h6).1
            omega
        · cases hp
      · cases hp
  · cases hp
theorem am_s_bal (hx : p.tables.exec = Jvm.exec) (hb : c.code = cc) (had : ∀ k, k < am_RO → ad k = sz0 + k) (hlen : h.length ≤ am_RO) (hK : va_K D vwCl (am_tys kA) s) (hR : am_RH D kA ad sz0 H00 h H) (hd : decode cc pc = .ok (.baload, 1)) (hp : am_bal st h = some (st', h'))
    (kk : h' = h → W p l e R s m args below meth c H locs cells slots Q (F0 m (pc + 1) ls (st'.map (am_v ad)))) : W p l e R s m args below meth c H locs cells slots Q (F0 m pc ls (st.map (am_v ad))) := by
  unfold am_bal at hp
  split at hp
  · next i a r =>
    split at hp
    · next t xs hh =>
      split at hp
      · next ht =>
        split at hp
        · next v hv =>
          cases hp
          obtain ⟨hin, hg⟩ := am_at_some hv
          have hc : H[sz0 + a]? = some (arrV (kA t) xs.length (fun j => .int (xs.getD j 0))) := hR.2.2 a _ hh
          rw [← had a (by have := am_hlt hh; omega)] at hc
          rcases ht with rfl | rfl
          · exact W.bald (v := .int v) hx hb hc ((hK.2 1 _ rfl).1 _ _) (fun q => by cases q) (by rw [arrV_size]; exact hin) (by rw [arrV_read _ _ (vp_in_lt hin), hg]) rfl rfl hd (kk rfl)
          · exact W.zald (v := .int v) hx hb hc ((hK.2 2 _ rfl).1 _ _) (fun q => by cases q) (by rw [arrV_size]; exact hin) (by rw [arrV_read _ _ (vp_in_lt hin), hg]) rfl rfl hd (kk rfl)
        · cases hp
      · cases hp
    · cases hp
  · cases hp
theorem am_rf_v (ad : Nat → Nat) (v : Option Nat) : va_rf (v.map ad) = am_v ad (va_rf v) := by cases v <;> rfl
/-- arrays of references are of one of three types -/
def am_hok (h : am_H) : Prop := ∀ (k t : Nat) (xs : List (Option Nat)), h[k]? = some (.inr (.inl (t, xs))) → t = 3 ∨ t = 4 ∨ t = 5
theorem am_s_aal (hx : p.tables.exec = Jvm.exec) (hb : c.code = cc) (had : ∀ k, k < am_RO → ad k = sz0 + k) (hlen : h.length ≤ am_RO) (hok : am_hok h) (hK : va_K D vwCl (am_tys kA) s) (hR : am_RH D kA ad sz0 H00 h H) (hd : decode cc pc = .ok (.aaload, 1)) (hp : am_aal st h = some (st', h'))
    (kk : h' = h → W p l e R s m args below meth c H locs cells slots Q (F0 m (pc + 1) ls (st'.map (am_v ad)))) : W p l e R s m args below meth c H locs cells slots Q (F0 m pc ls (st.map (am_v ad))) := by
  unfold am_aal at hp
  split at hp
  · next i a r =>
    split at hp
    · next t xs hh =>
      split at hp
      · next v hv =>
        cases hp
        obtain ⟨hin, hg⟩ := am_atr_some hv
        have hc : H[sz0 + a]? = some (arrV (kA t) xs.length (fun j => va_rf ((xs.getD j none).map ad))) := hR.2.2 a _ hh
        rw [← had a (by have := am_hlt hh; omega)] at hc
        have hv2 : (arrV (kA t) xs.length (fun j => va_rf ((xs.getD j none).map ad))).slots[i.toNatClampNeg]? = some (am_v ad (va_rf v)) := by rw [arrV_read _ _ (vp_in_lt hin), hg, am_rf_v]
        rcases hok _ _ _ hh with rfl | rfl | rfl
        · exact W.aald (ty := .array .int) hx hb hc ((hK.2 3 _ rfl).1 _ _) rfl (fun q => by cases q) (by rw [arrV_size]; exact hin) hv2 rfl rfl hd (kk rfl)
        · exact W.aald (ty := .object RX5) hx hb hc ((hK.2 4 _ rfl).1 _ _) rfl (fun q => by cases q) (by rw [arrV_size]; exact hin) hv2 rfl rfl hd (kk rfl)
        · exact W.aald (ty := .object RX10) hx hb hc ((hK.2 5 _ rfl).1 _ _) rfl (fun q => by cases q) (by rw [arrV_size]; exact hin) hv2 rfl rfl hd (kk rfl)
      · cases hp
    · cases hp
  · cases hp
theorem am_lb {q : Loc} {a j : Nat} (hl : ∀ q ∈ locs, sz0 ≤ q.base) (ha : sz0 ≤ a) (hq : q ∈ locs ++ [(⟨a, j⟩ : Loc)]) : sz0 ≤ q.base := by
  rcases List.mem_append.mp hq with hq | hq
  · exact hl q hq
  · rw [List.mem_singleton.mp hq]; exact ha
theorem am_s_ias (hx : p.tables.exec = Jvm.exec) (hb : c.code = cc) (had : ∀ k, k < am_RO → ad k = sz0 + k) (hlen : h.length ≤ am_RO) (hK : va_K D vwCl (am_tys kA) s) (hR : am_RH D kA ad sz0 H00 h H) (hl : ∀ q ∈ locs, sz0 ≤ q.base) (hd : decode cc pc = .ok (.iastore, 1)) (hp : am_ias st h = some (st', h'))
    (kk : ∀ (H1 : Heap) (locs1 : List Loc), am_RH D kA ad sz0 H00 h' H1 → (∀ q ∈ locs1, sz0 ≤ q.base) → W p l e R s m args below meth c H1 locs1 cells slots Q (F0 m (pc + 1) ls (st'.map (am_v ad)))) : W p l e R s m args below meth c H locs cells slots Q (F0 m pc ls (st.map (am_v ad))) := by
  unfold am_ias at hp
  split at hp
  · next x i a r =>
    split at hp
    · next xs hh =>
      split at hp
      · next ys hy =>
        cases hp
        obtain ⟨hin, rfl⟩ := am_up_some hy
        have hc : H[sz0 + a]? = some (arrV (kA 0) xs.length (fun j => .int (xs.getD j 0))) := hR.2.2 a _ hh
        have ha := had a (by have := am_hlt hh; omega)
        refine W.iast (a := ad a) hx hb (by rw [ha]; exact hc) ((hK.2 0 _ rfl).1 _ _) (fun q => by cases q) (by rw [arrV_size]; exact hin) rfl rfl hd fun H1 e1 z1 o1 => ?_
        rw [ha] at e1 o1
        refine kk H1 _ (hR.set z1 o1 ?_) (fun q hq => am_lb hl (by rw [ha]; omega) hq)
        show H1[sz0 + a]? = some _
        rw [e1, am_arr_set (vp_in_lt hin)]
      · cases hp
    · cases hp
  · cases hp
theorem am_s_bas (hx : p.tables.exec = Jvm.exec) (hb : c.code = cc) (had : ∀ k, k < am_RO → ad k = sz0 + k) (hlen : h.length ≤ am_RO) (hK : va_K D vwCl (am_tys kA) s) (hR : am_RH D kA ad sz0 H00 h H) (hl : ∀ q ∈ locs, sz0 ≤ q.base) (hd : decode cc pc = .ok (.bastore, 1)) (hp : am_bas st h = some (st', h'))
    (kk : ∀ (H1 : Heap) (locs1 : List Loc), am_RH D kA ad sz0 H00 h' H1 → (∀ q ∈ locs1, sz0 ≤ q.base) → W p l e R s m args below meth c H1 locs1 cells slots Q (F0 m (pc + 1) ls (st'.map (am_v ad)))) : W p l e R s m args below meth c H locs cells slots Q (F0 m pc ls (st.map (am_v ad))) := by
  unfold am_bas at hp
  split at hp
  · next x i a r =>
    split at hp
    · next t xs hh =>
      split at hp
      · next ht =>
        split at hp
        · next ys hy =>
          cases hp
          obtain ⟨hin, rfl⟩ := am_up_some hy
          have hc : H[sz0 + a]? = some (arrV (kA t) xs.length (fun j => .int (xs.getD j 0))) := hR.2.2 a _ hh
          have ha := had a (by have := am_hlt hh; omega)
          rcases ht with rfl | rfl
          · refine W.bast (a := ad a) hx hb (by rw [ha]; exact hc) ((hK.2 1 _ rfl).1 _ _) (fun q => by cases q) (by rw [arrV_size]; exact hin) rfl rfl hd fun H1 e1 z1 o1 => ?_
            rw [ha] at e1 o1
            refine kk H1 _ (hR.set z1 o1 ?_) (fun q hq => am_lb hl (by rw [ha]; omega) hq)
            show H1[sz0 + a]? = some _
            rw [e1, narrow_byte, am_arr_set (vp_in_lt hin)]
            rfl
          · refine W.zast (a := ad a) hx hb (by rw [ha]; exact hc) ((hK.2 2 _ rfl).1 _ _) (fun q => by cases q) (by rw [arrV_size]; exact hin) rfl rfl hd fun H1 e1 z1 o1 => ?_
            rw [ha] at e1 o1
            refine kk H1 _ (hR.set z1 o1 ?_) (fun q hq => am_lb hl (by rw [ha]; omega) hq)
            show H1[sz0 + a]? = some _
            rw [e1, show narrow .boolean (.int x) = .int (x &&& 1) from rfl, am_arr_set (vp_in_lt hin)]
            rfl
        · cases hp
      · cases hp
    · cases hp
  · cases hp
theorem am_s_len (hx : p.tables.exec = Jvm.exec) (hb : c.code = cc) (had : ∀ k, k < am_RO → ad k = sz0 + k) (hok : am_hok h) (hty : ∀ (k t : Nat) (xs : List Int32), h[k]? = some (.inl (t, xs)) → t = 0 ∨ t = 1 ∨ t = 2) (hK : va_K D vwCl (am_tys kA) s) (hro : am_ROk ro ad sz0 H00 s) (hR : am_RH D kA ad sz0 H00 h H) (hd : decode cc pc = .ok (.arraylength, 1)) (hp : am_len ro st h = some (st', h'))
    (kk : h' = h → W p l e R s m args below meth c H locs cells slots Q (F0 m (pc + 1) ls (st'.map (am_v ad)))) : W p l e R s m args below meth c H locs cells slots Q (F0 m pc ls (st.map (am_v ad))) := by
  unfold am_len at hp
  split at hp
  · next a r =>
    split at hp
    · next hlt =>
      split at hp
      · next t xs hh =>
        cases hp
        have hc : H[sz0 + a]? = some (arrV (kA t) xs.length (fun j => .int (xs.getD j 0))) := hR.2.2 a _ hh
        rw [← had a hlt] at hc
        rcases hty _ _ _ hh with rfl | rfl | rfl
        · exact W.alen hx hb hc ((hK.2 0 _ rfl).1 _ _) (by rw [arrV_size]) rfl rfl hd (kk rfl)
        · exact W.alen hx hb hc ((hK.2 1 _ rfl).1 _ _) (by rw [arrV_size]) rfl rfl hd (kk rfl)
        · exact W.alen hx hb hc ((hK.2 2 _ rfl).1 _ _) (by rw [arrV_size]) rfl rfl hd (kk rfl)
      · next t xs hh =>
        cases hp
        have hc : H[sz0 + a]? = some (arrV (kA t) xs.length (fun j => va_rf ((xs.getD j none).map ad))) := hR.2.2 a _ hh
        rw [← had a hlt] at hc
        rcases hok _ _ _ hh with rfl | rfl | rfl
        · exact W.alen hx hb hc ((hK.2 3 _ rfl).1 _ _) (by rw [arrV_size]) rfl rfl hd (kk rfl)
        · exact W.alen hx hb hc ((hK.2 4 _ rfl).1 _ _) (by rw [arrV_size]) rfl rfl hd (kk rfl)
        · exact W.alen hx hb hc ((hK.2 5 _ rfl).1 _ _) (by rw [arrV_size]) rfl rfl hd (kk rfl)
      · cases hp
    · next hge =>
      split at hp
      · next he =>
        split at hp
        · next xs hxs =>
          cases hp
          obtain ⟨h1, cell, h2, h3, h4, h5, h6⟩ := hro a xs (Nat.le_of_not_lt hge) hxs
          exact W.alen (a := ad a) hx hb (by rw [hR.2.1 _ h1]; exact h2) h3 (by rw [h6 he]) rfl rfl hd (kk rfl)
        · cases hp
      · cases hp
  · cases hp
end AmArr
