/-! ===== what a state is beside the cells: classes, arrays, statics, Strings, the words that are not good at every call ===== -/
def am_nest : List Cond := [.methodLinkNest "TwoHeads" 41 ⟨"TwoHeads$Rents", "<init>", "()V"⟩ "TwoHeads",
  .methodLinkNest "TwoHeads" 48 ⟨"TwoHeads$Reader", "<init>", "()V"⟩ "TwoHeads",
  .methodLinkNest "TwoHeads" 55 ⟨"TwoHeads$Electors", "<init>", "()V"⟩ "TwoHeads",
  .methodLinkNest "TwoHeads" 62 ⟨"TwoHeads$Clauses", "<init>", "()V"⟩ "TwoHeads",
  .methodLinkNest "TwoHeads" 82 ⟨"TwoHeads$Sheet", "<init>", "()V"⟩ "TwoHeads",
  .fieldLinkNest "TwoHeads$Deeds" 43 "TwoHeads" "RANK_OF_KIND" "[I" "TwoHeads",
  .fieldLinkNest "TwoHeads$Deeds" 46 "TwoHeads" "KIND_LASTS" "[I" "TwoHeads",
  .castable "[I" "java/lang/Cloneable",
  .methodLinkNest "TwoHeads$Court" 117 ⟨"TwoHeads", "has", "(II)Z"⟩ "TwoHeads",
  .methodLinkNest "TwoHeads$Electors" 31 ⟨"TwoHeads", "sumOver", "([II)I"⟩ "TwoHeads",
  .methodLinkNest "TwoHeads$Electors" 35 ⟨"TwoHeads", "goTogether", "([II)Z"⟩ "TwoHeads",
  .methodLinkNest "TwoHeads$Lands" 72 ⟨"TwoHeads", "sumOver", "([II)I"⟩ "TwoHeads",
  .methodLinkNest "TwoHeads$Clauses" 41 ⟨"TwoHeads", "goTogether", "([II)Z"⟩ "TwoHeads",
  .methodLinkNest "TwoHeads$Clauses" 37 ⟨"TwoHeads", "sumOver", "([II)I"⟩ "TwoHeads",
  .methodLinkNest "TwoHeads$Clauses" 27 ⟨"TwoHeads", "has", "(II)Z"⟩ "TwoHeads",
  .methodLinkNest "TwoHeads$Envoys" 47 ⟨"TwoHeads", "has", "(II)Z"⟩ "TwoHeads"]
theorem am_nest_in : ∀ w ∈ am_nest, w ∈ lw_tbl := by
  intro w hw
  simp only [am_nest, List.mem_cons, List.not_mem_nil, or_false] at hw
  rcases hw with rfl | rfl | rfl | rfl | rfl | rfl | rfl | rfl | rfl | rfl | rfl | rfl | rfl | rfl | rfl | rfl
  · exact List.mem_of_getElem? (i := 296) (by decide +kernel)
  · exact List.mem_of_getElem? (i := 319) (by decide +kernel)
  · exact List.mem_of_getElem? (i := 369) (by decide +kernel)
  · exact List.mem_of_getElem? (i := 391) (by decide +kernel)
  · exact List.mem_of_getElem? (i := 440) (by decide +kernel)
  · exact List.mem_of_getElem? (i := 581) (by decide +kernel)
  · exact List.mem_of_getElem? (i := 624) (by decide +kernel)
  · exact List.mem_of_getElem? (i := 809) (by decide +kernel)
  · exact List.mem_of_getElem? (i := 870) (by decide +kernel)
  · exact List.mem_of_getElem? (i := 949) (by decide +kernel)
  · exact List.mem_of_getElem? (i := 952) (by decide +kernel)
  · exact List.mem_of_getElem? (i := 978) (by decide +kernel)
  · exact List.mem_of_getElem? (i := 1009) (by decide +kernel)
  · exact List.mem_of_getElem? (i := 1014) (by decide +kernel)
  · exact List.mem_of_getElem? (i := 1023) (by decide +kernel)
  · exact List.mem_of_getElem? (i := 1047) (by decide +kernel)
theorem am_nest_on : ∀ w ∈ am_nest, w.onTables = true := by
  intro w hw
  simp only [am_nest, List.mem_cons, List.not_mem_nil, or_false] at hw
  rcases hw with rfl | rfl | rfl | rfl | rfl | rfl | rfl | rfl | rfl | rfl | rfl | rfl | rfl | rfl | rfl | rfl <;> rfl
theorem am_nest_warm {s U : State} (hW : s.WarmedH U.vm) (h : ∀ w ∈ am_nest, va_Nw w s) : ∀ w ∈ am_nest, va_Nw w U := by
  intro w hw
  have h1 := h w hw
  simp only [am_nest, List.mem_cons, List.not_mem_nil, or_false] at hw
  rcases hw with rfl | rfl | rfl | rfl | rfl | rfl | rfl | rfl | rfl | rfl | rfl | rfl | rfl | rfl | rfl | rfl
  · exact va_Nw.warmM hW h1
  · exact va_Nw.warmM hW h1
  · exact va_Nw.warmM hW h1
  · exact va_Nw.warmM hW h1
  · exact va_Nw.warmM hW h1
  · exact va_Nw.warmF hW h1
  · exact va_Nw.warmF hW h1
  · exact va_Nw.warmC hW h1
  · exact va_Nw.warmM hW h1
  · exact va_Nw.warmM hW h1
  · exact va_Nw.warmM hW h1
  · exact va_Nw.warmM hW h1
  · exact va_Nw.warmM hW h1
  · exact va_Nw.warmM hW h1
  · exact va_Nw.warmM hW h1
  · exact va_Nw.warmM hW h1
def am_sti (j : Nat) : Nat := [90, 96, 98, 100, 102, 104, 106, 107, 108, 110, 112].getD j 0
def am_stx (j : Nat) : String := ["kind", "day", "rank", "same", "hangs", "faith", "binds", "saved", "or", "and", "not"].getD j ""
def am_stn (z : Nat) : String := ["KIND_ABOVE", "RANK_OF_KIND", "KIND_LASTS"].getD z ""
def am_A (sz0 : Nat) : Nat → Prop := fun q => sz0 ≤ q
def am_Wd (D : va_G) (kA : Nat → ClassId) (ad adV : Nat → Nat) (sz0 : Nat) (H00 : Heap) (ro : Nat → Option (List Int32)) (U : State) : Prop :=
  (va_K D vwCl (am_tys kA) U ∧ am_MA kA U ∧ va_AO RX5 U ∧ va_AO RX10 U) ∧ am_ROk ro ad sz0 H00 U ∧ (∀ w ∈ am_nest, va_Nw w U) ∧ (∀ z, z < 3 → va_Z "TwoHeads" (am_stn z) "[I" (.ref (ad (am_RO + z))) (am_A sz0) U H00) ∧ (∀ j, j < 11 → vk_R RX8 (am_sti j) (am_stx j) (ad (am_RO + 16 + j)) U) ∧
  vk_S 11 kw_len kw_byt (fun j => ad (am_RO + 16 + j)) adV (am_A sz0) U H00 ∧ va_Z "java/lang/String" "COMPACT_STRINGS" "Z" (.int 1) (am_A sz0) U H00 ∧ va_Zq "jdk/internal/util/Preconditions" "SIOOBE_FORMATTER" "Ljava/util/function/BiFunction;" (am_A sz0) U H00
/-- the frame of addresses -/
def am_Fx (ad : Nat → Nat) (sz0 : Nat) (H00 : Heap) : Prop := H00.size = sz0 ∧ ∀ k, k < am_RO → ad k = sz0 + k
theorem am_ROk.moved {ro : Nat → Option (List Int32)} {ad : Nat → Nat} {sz0 : Nat} {H00 : Heap} {u U : State} (hvm : u.vm.Alike U.vm) (h : am_ROk ro ad sz0 H00 u) : am_ROk ro ad sz0 H00 U := fun a xs h1 h2 => by
  obtain ⟨h3, cell, h4, h5, h6⟩ := h a xs h1 h2
  exact ⟨h3, cell, h4, State.isArrayOf_alike hvm h5, h6⟩
theorem am_Wd.warm {D : va_G} {kA : Nat → ClassId} {ad adV : Nat → Nat} {sz0 : Nat} {H00 : Heap} {ro : Nat → Option (List Int32)} {s U : State} (hW : s.WarmedH U.vm) (h : am_Wd D kA ad adV sz0 H00 ro s) : am_Wd D kA ad adV sz0 H00 ro U := by
  obtain ⟨⟨a1, a2, a3, a4⟩, b, c, d, e, f, g, i⟩ := h
  have hv := hW.alike
  refine ⟨⟨va_K.moved hv a1, a2.moved hv, a3.moved hv, a4.moved hv⟩, b.moved hv, am_nest_warm hW c, fun z hz => (d z hz).moved hv, fun j hj => (e j hj).warm hW, f.moved hv, g.moved hv, ?_⟩
  rcases i with i | ⟨t, i⟩
  · exact Or.inl (i.moved hv)
  · exact Or.inr ⟨t, i.moved hv⟩
theorem am_Wd.kw {D : va_G} {kA : Nat → ClassId} {ad adV : Nat → Nat} {sz0 : Nat} {H00 : Heap} {ro : Nat → Option (List Int32)} {U : State} (hF : am_Fx ad sz0 H00) (h : am_Wd D kA ad adV sz0 H00 ro U) (hq : ∀ q : Nat, q < sz0 → U.heap[q]? = H00[q]?) : kw_W (fun j => ad (am_RO + 16 + j)) adV (am_A sz0) U := by
  obtain ⟨-, -, -, -, -, f, g, i⟩ := h
  have hk : ∀ a : Nat, a < H00.size → ¬ am_A sz0 a → U.heap[a]? = H00[a]? := fun a ha _ => hq a (by rw [← hF.1]; exact ha)
  refine ⟨f.kept hk, g.kept hk, ?_⟩
  rcases i with i | ⟨t, i⟩
  · exact Or.inl (i.kept hk)
  · exact Or.inr ⟨t, i.kept hk⟩
section AmConst
variable {p : Program} {l : Launch} {e : Env} {R : Room} {s : State} {m : MethodId} {args : Array Value} {below : List Frame} {meth : Method} {c : Code} {H : Heap} {locs : List Loc} {cells slots : Nat} {Q : State → Prop} {cc : ByteArray} {pc nL : Nat} {ls : Array Slot} {ad adV : Nat → Nat} {D : va_G} {kA : Nat → ClassId} {sz0 : Nat} {H00 : Heap} {h h' : am_H} {st st' : List Value} {ro : Nat → Option (List Int32)}
theorem am_s_gst (hx : p.tables.exec = Jvm.exec) (hb : c.code = cc) {own host : String} {index z : Nat} (hown : s.vm.findClass own = some m.cls) (hwd : am_Wd D kA ad adV sz0 H00 ro s) (hF : am_Fx ad sz0 H00) (hR : am_RH D kA ad sz0 H00 h H) (hz : z < 3) (hlink : (Cond.fieldLink own index "TwoHeads" (am_stn z) "[I").before args s = true ∨ (Cond.fieldLinkNest own index "TwoHeads" (am_stn z) "[I" host).before args s = true) (hd : decode cc pc = .ok (.getstatic index, 3))
    (kk : W p l e R s m args below meth c H locs cells slots Q (F0 m (pc + 3) ls ((.ref (am_RO + z) :: st).map (am_v ad)))) : W p l e R s m args below meth c H locs cells slots Q (F0 m pc ls (st.map (am_v ad))) := by
  obtain ⟨cf, kf, fi, f, a, cell, h1, h2, h3, h4, h5, h6, h7, h8⟩ := hwd.2.2.2.1 z hz
  have ha : H[a]? = some cell := by rw [hR.2.1 a (by rw [← hF.1]; exact (Array.getElem?_eq_some_iff.mp h5).1)]; exact h5
  rcases hlink with hlink | hlink
  · exact W.gets hx hb hown hlink h1 h2 h3 h4 ha (fun e => by rw [e] at h6; cases h6) h7 rfl hd kk
  · exact va_WgetsN hx hb hown hlink h1 h2 h3 h4 ha (fun e => by rw [e] at h6; cases h6) h7 rfl hd kk
theorem am_s_ldc (hx : p.tables.exec = Jvm.exec) (hb : c.code = cc) {z : Nat} (hown : s.vm.findClass RX8 = some m.cls) (hwd : am_Wd D kA ad adV sz0 H00 ro s) (hz : z < 11) (hd : decode cc pc = .ok (.ldc (am_sti z), 2))
    (kk : W p l e R s m args below meth c H locs cells slots Q (F0 m (pc + 2) ls ((.ref (am_RO + 16 + z) :: st).map (am_v ad)))) : W p l e R s m args below meth c H locs cells slots Q (F0 m pc ls (st.map (am_v ad))) :=
  va_ldcS hx hb hown (hwd.2.2.2.2.1 z hz) hd kk
theorem kw_len_eq : ∀ i, i < 11 → kw_len.getD i 0 = (am_str i).length := by decide +kernel
theorem am_w_map (ad : Nat → Nat) (r : List Value) : ((r.map (am_v ad)).map fun v => v.category).sum = am_w r := by
  unfold am_w
  rw [List.map_map]
  congr 1
  apply List.map_congr_left
  intro v _
  exact am_v_cat ad v
theorem am_str_ix {a : Nat} (h1 : am_RO + 16 ≤ a) (h2 : a < am_RO + 27) : ∃ i, i < 11 ∧ a = am_RO + 16 + i := ⟨a - (am_RO + 16), by omega, by omega⟩
theorem am_s_str (hx : p.tables.exec = Jvm.exec) (hb : c.code = cc) (hml : c.maxLocals = nL) (hls : ls.size = nL) {own : String} {index : Nat} (hG : ∀ w ∈ am_G, w.before args s = true) (hown : s.vm.findClass own = some m.cls) (hwd : am_Wd D kA ad adV sz0 H00 ro s) (hF : am_Fx ad sz0 H00) (hR : am_RH D kA ad sz0 H00 h H)
    (hfr : 4 ≤ R.frames) (hlo : 141 ≤ R.locals) (hcs : cells ≤ R.cells ∧ slots ≤ R.slots) (hp : (decode cc pc = .ok (.invokevirtual index, 3) ∧ Cond.methodLink own index yJ0_length_8abf5 ∈ am_G ∧ am_slen st h = some (st', h')) ∨ (decode cc pc = .ok (.invokevirtual index, 3) ∧ Cond.methodLink own index yJ0_charAt_5068e ∈ am_G ∧ am_sat st h = some (st', h')))
    (kk : h' = h → W p l e R s m args below meth c H locs cells slots Q (F0 m (pc + 3) ls (st'.map (am_v ad)))) : W p l e R s m args below meth c H locs cells slots Q (F0 m pc ls (st.map (am_v ad))) := by
  have hkw : ∀ U : State, U.heap = H → s.WarmedH U.vm → kw_W (fun j => ad (am_RO + 16 + j)) adV (am_A sz0) U := fun U hu hW => (hwd.warm hW).kw hF (fun q hq => by rw [hu]; exact hR.2.1 q hq)
  have hrecv : ∀ i, i < 11 → ∃ cell : Cell, H[ad (am_RO + 16 + i)]? = some cell ∧ cell.vm.isStatics = false ∧ s.vm.findClass RJ0 = some cell.cls := fun i hi => by
    obtain ⟨cell, h1, h2, h3, -⟩ := (hwd.2.2.2.2.2.1.1 i hi).1
    exact ⟨cell, by rw [hR.2.1 _ (by rw [← hF.1]; exact (Array.getElem?_eq_some_iff.mp h1).1)]; exact h1, h2, h3⟩
  rcases hp with ⟨hd, hlink, hp⟩ | ⟨hd, hlink, hp⟩
  · unfold am_slen at hp
    split at hp
    · next a r =>
      split at hp
      · next ha =>
        cases hp
        obtain ⟨i, hi, rfl⟩ := am_str_ix ha.1 ha.2.1
        have hr8 : am_w r ≤ 8 := ha.2.2
        have hc := kw_length l (fun j => ad (am_RO + 16 + j)) adV (am_A sz0) hi
        have hp : PreV s H RJ0 (ad (am_RO + 16 + i)) (va_Pc [.ref (ad (am_RO + 16 + i))] (kw_W (fun j => ad (am_RO + 16 + j)) adV (am_A sz0))) [] := ⟨kw_blind, hrecv i hi, fun U hu hW => ⟨rfl, hkw U hu hW⟩⟩
        refine W.callR (W.runV (nL := nL) (Ts := am_G) ⟨hx, hb, hml, hown, hG⟩ hc ⟨callB_of (Ts := am_G) 0 hG (am_goodG kw_in_length) rfl rfl rfl (hG (.initialized RJ0) (am_inG (i := 108) (by decide +kernel) rfl)) (hG _ hlink) ⟨by decide, by decide, by decide +kernel⟩ ⟨by show 1 + 1 ≤ _; omega, by show 8 + (1 + 11) + 40 ≤ _; omega⟩, hG (.instanceMethod yJ0_length_8abf5) (am_inG (i := 681) (by decide +kernel) rfl), hG (.selects RJ0 yJ0_length_8abf5 yJ0_length_8abf5) (am_inG (i := 682) (by decide +kernel) rfl)⟩ hp rfl rfl hls rfl (lv_room (by rw [am_w_map]; exact hr8)) hd ⟨by show cells + 0 ≤ _; omega, by show slots + 0 ≤ _; omega⟩) ?_
        have e1 : am_RO + 16 + i - (am_RO + 16) = i := by omega
        rw [e1] at kk
        rw [kw_len_eq i hi]
        exact kk rfl
      · cases hp
    · cases hp
  · unfold am_sat at hp
    split at hp
    · next ix a r =>
      split at hp
      · next ha =>
        split at hp
        · next v hv =>
          cases hp
          obtain ⟨i, hi, rfl⟩ := am_str_ix ha.1 ha.2.1
          have e1 : am_RO + 16 + i - (am_RO + 16) = i := by omega
          rw [e1] at hv
          obtain ⟨hin, hg⟩ := am_at_some hv
          have hsm : (am_str i).length < 2 ^ 31 := by rw [← kw_len_eq i hi]; exact kw_small i hi
          obtain ⟨k, hk, rfl⟩ := vp_in_of hin hsm
          rw [nI_clamp (by omega)] at hg
          have hr8 : am_w r ≤ 8 := ha.2.2
          have hk2 : k < kw_len.getD i 0 := by rw [kw_len_eq i hi]; exact hk
          have hc := kw_charAt l (fun j => ad (am_RO + 16 + j)) adV (am_A sz0) hi hk2
          have hp : PreV s H RJ0 (ad (am_RO + 16 + i)) (va_Pc [.ref (ad (am_RO + 16 + i)), .int (nI k)] (kw_W (fun j => ad (am_RO + 16 + j)) adV (am_A sz0))) [.int (nI k)] := ⟨kw_blind, hrecv i hi, fun U hu hW => ⟨rfl, hkw U hu hW⟩⟩
          refine W.callR (W.runV (nL := nL) (Ts := am_G) ⟨hx, hb, hml, hown, hG⟩ hc ⟨callB_of (Ts := am_G) 1 hG (am_goodG kw_in_charAt) rfl rfl rfl (hG (.initialized RJ0) (am_inG (i := 108) (by decide +kernel) rfl)) (hG _ hlink) ⟨by decide, by decide, by decide +kernel⟩ ⟨by show 3 + 1 ≤ _; omega, by show 8 + (2 + 11) + 120 ≤ _; omega⟩, hG (.instanceMethod yJ0_charAt_5068e) (am_inG (i := 691) (by decide +kernel) rfl), hG (.selects RJ0 yJ0_charAt_5068e yJ0_charAt_5068e) (am_inG (i := 692) (by decide +kernel) rfl)⟩ hp rfl rfl hls rfl (lv_room (by rw [am_w_map]; exact hr8)) hd ⟨by show cells + 0 ≤ _; omega, by show slots + 0 ≤ _; omega⟩) ?_
          rw [hg]
          exact kk rfl
        · cases hp
      · cases hp
    · cases hp
theorem am_s_min (hx : p.tables.exec = Jvm.exec) (hb : c.code = cc) (hml : c.maxLocals = nL) (hls : ls.size = nL) {own : String} {index : Nat} (hG : ∀ w ∈ am_G, w.before args s = true) (hown : s.vm.findClass own = some m.cls) (hlink : Cond.methodLink own index Lib.Math.min.name ∈ am_G)
    (hfr : 1 ≤ R.frames) (hlo : 21 ≤ R.locals) (hcs : cells ≤ R.cells ∧ slots ≤ R.slots) (hd : decode cc pc = .ok (.invokestatic index, 3)) (hp : am_mmin st h = some (st', h'))
    (kk : h' = h → W p l e R s m args below meth c H locs cells slots Q (F0 m (pc + 3) ls (st'.map (am_v ad)))) : W p l e R s m args below meth c H locs cells slots Q (F0 m pc ls (st.map (am_v ad))) := by
  unfold am_mmin at hp
  split at hp
  · next y x r =>
    split at hp
    · cases hp
    · next hw =>
      cases hp
      exact va_mmin hx hb (hml.trans hls.symm) hown (hG _ hlink) (hG (.static Lib.Math.min.name) (am_inG (i := 139) (by decide +kernel) rfl)) (hG (.initialized "java/lang/Math") (am_inG (i := 95) (by decide +kernel) rfl)) (hG (.code Lib.Math.min.name Lib.Math.min.code 2 (some .int)) (am_inG (i := 140) (by decide +kernel) rfl)) hfr (by rw [am_w_map]; omega) hcs.1 hcs.2 hd (kk rfl)
  · cases hp
end AmConst
