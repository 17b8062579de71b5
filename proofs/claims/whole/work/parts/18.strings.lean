/-! ===== the words that are good at every call; String's own length and charAt ===== -/
def am_G : List Cond := lw_tbl.filter goodWord
theorem am_inG {i : Nat} {w : Cond} (h : lw_tbl[i]? = some w) (hg : goodWord w = true) : w ∈ am_G := List.mem_filter.mpr ⟨List.mem_of_getElem? h, hg⟩
theorem am_goodG {w0 : Cond} (hc : w0 ∈ am_G) : GoodIn am_G (w0 :: am_G) := by
  intro w hw
  have h1 : w ∈ am_G := by
    rcases List.mem_cons.mp hw with rfl | h
    · exact hc
    · exact h
  exact ⟨h1, good_of_word (List.mem_filter.mp h1).2⟩
section AmCallP
variable {p : Program} {l : Launch} {e : Env} {R : Room} {s : State} {m : MethodId} {args : Array Value} {below : List Frame} {meth : Method} {c : Code} {H : Heap} {locs : List Loc} {cells slots : Nat} {Q : State → Prop} {g : JFrame} {rest : List Value}
theorem am_callP {Qa : State → Outcome → State → Prop} {v0 : Option Value} (hr : CallRun p l e R s m args below meth c H locs cells slots 0 0 g rest Qa (fun _ => False)) (hq : ∀ st v t, Qa st (.returned v) t → v = v0 ∧ t.heap = st.heap) (kk : W p l e R s m args below meth c H locs cells slots Q { g with pc := g.pc + 3, stack := v0.toList ++ rest }) : W p l e R s m args below meth c H locs cells slots Q g := by
  intro T hT X
  obtain ⟨v, st0, t, T', L, h0, X', hL, hh, hqa, hg⟩ := hr T hT X
  obtain ⟨rfl, ht⟩ := hq _ _ _ hqa
  have hL0 : L = [] := by
    cases L with
    | nil => rfl
    | cons q L => exact absurd (hL q List.mem_cons_self) (fun z => z)
  subst hL0
  rw [List.append_nil] at X'
  obtain ⟨t2, a1, b1⟩ := kk T' (by rw [hh, ht, h0]) X'
  exact ⟨t2, hg t2 a1, b1⟩
end AmCallP
def kw_byt : List (List Int32) := (List.range 11).map am_str
def kw_len : List Nat := kw_byt.map List.length
/-- the eleven String constants, and two statics of the JDK's -/
def kw_W (adK adV : Nat → Nat) (A : Nat → Prop) (U : State) : Prop := vk_S 11 kw_len kw_byt adK adV A U U.heap ∧ va_Z "java/lang/String" "COMPACT_STRINGS" "Z" (.int 1) A U U.heap ∧ va_Zq "jdk/internal/util/Preconditions" "SIOOBE_FORMATTER" "Ljava/util/function/BiFunction;" A U U.heap
theorem kw_W.moved {adK adV : Nat → Nat} {A : Nat → Prop} {u U : State} (hh : U.heap = u.heap) (hvm : u.vm.Alike U.vm) (h : kw_W adK adV A u) : kw_W adK adV A U := by
  obtain ⟨h1, h2, h3⟩ := h
  refine ⟨by rw [hh]; exact h1.moved hvm, by rw [hh]; exact h2.moved hvm, ?_⟩
  rw [hh]
  rcases h3 with h3 | ⟨t, h3⟩
  · exact Or.inl (h3.moved hvm)
  · exact Or.inr ⟨t, h3.moved hvm⟩
theorem kw_blind {adK adV : Nat → Nat} {A : Nat → Prop} {av : List Value} : FrameBlind (va_Pc av (kw_W adK adV A)) := fun a U g mk h => ⟨h.1, kw_W.moved rfl (State.WarmedH.refl U).alike h.2⟩
theorem kw_pre {adK adV : Nat → Nat} {A : Nat → Prop} {av : List Value} {s U : State} {H : Heap} (hH : H = s.heap) (h : kw_W adK adV A s) (hu : U.heap = H) (hW : s.WarmedH U.vm) : va_Pc av (kw_W adK adV A) av.toArray U := ⟨rfl, kw_W.moved (hu.trans hH) hW.alike h⟩
theorem eJ0_length_8abf5_0 : decode cJ0_length_8abf5 0 = .ok (.aload_n 0, 1) := by decide +kernel
theorem eJ0_length_8abf5_1 : decode cJ0_length_8abf5 1 = .ok (.getfield 9, 3) := by decide +kernel
theorem eJ0_length_8abf5_4 : decode cJ0_length_8abf5 4 = .ok (.arraylength, 1) := by decide +kernel
theorem eJ0_length_8abf5_5 : decode cJ0_length_8abf5 5 = .ok (.aload_n 0, 1) := by decide +kernel
theorem eJ0_length_8abf5_6 : decode cJ0_length_8abf5 6 = .ok (.invokevirtual 335, 3) := by decide +kernel
theorem eJ0_length_8abf5_9 : decode cJ0_length_8abf5 9 = .ok (.ishr, 1) := by decide +kernel
theorem eJ0_length_8abf5_10 : decode cJ0_length_8abf5 10 = .ok (.ireturn, 1) := by decide +kernel
theorem eJ0_charAt_5068e_0 : decode cJ0_charAt_5068e 0 = .ok (.aload_n 0, 1) := by decide +kernel
theorem eJ0_charAt_5068e_1 : decode cJ0_charAt_5068e 1 = .ok (.invokevirtual 492, 3) := by decide +kernel
theorem eJ0_charAt_5068e_4 : decode cJ0_charAt_5068e 4 = .ok (.ifCond .eq 12, 3) := by decide +kernel
theorem eJ0_charAt_5068e_7 : decode cJ0_charAt_5068e 7 = .ok (.aload_n 0, 1) := by decide +kernel
theorem eJ0_charAt_5068e_8 : decode cJ0_charAt_5068e 8 = .ok (.getfield 9, 3) := by decide +kernel
theorem eJ0_charAt_5068e_11 : decode cJ0_charAt_5068e 11 = .ok (.iload_n 1, 1) := by decide +kernel
theorem eJ0_charAt_5068e_12 : decode cJ0_charAt_5068e 12 = .ok (.invokestatic 495, 3) := by decide +kernel
theorem eJ0_charAt_5068e_15 : decode cJ0_charAt_5068e 15 = .ok (.ireturn, 1) := by decide +kernel
theorem eJ0_coder_7d493_0 : decode cJ0_coder_7d493 0 = .ok (.getstatic 38, 3) := by decide +kernel
theorem eJ0_coder_7d493_3 : decode cJ0_coder_7d493 3 = .ok (.ifCond .eq 10, 3) := by decide +kernel
theorem eJ0_coder_7d493_6 : decode cJ0_coder_7d493 6 = .ok (.aload_n 0, 1) := by decide +kernel
theorem eJ0_coder_7d493_7 : decode cJ0_coder_7d493 7 = .ok (.getfield 15, 3) := by decide +kernel
theorem eJ0_coder_7d493_10 : decode cJ0_coder_7d493 10 = .ok (.goto 4, 3) := by decide +kernel
theorem eJ0_coder_7d493_14 : decode cJ0_coder_7d493 14 = .ok (.ireturn, 1) := by decide +kernel
theorem eJ0_isLatin1_aae02_0 : decode cJ0_isLatin1_aae02 0 = .ok (.getstatic 38, 3) := by decide +kernel
theorem eJ0_isLatin1_aae02_3 : decode cJ0_isLatin1_aae02 3 = .ok (.ifCond .eq 14, 3) := by decide +kernel
theorem eJ0_isLatin1_aae02_6 : decode cJ0_isLatin1_aae02 6 = .ok (.aload_n 0, 1) := by decide +kernel
theorem eJ0_isLatin1_aae02_7 : decode cJ0_isLatin1_aae02 7 = .ok (.getfield 15, 3) := by decide +kernel
theorem eJ0_isLatin1_aae02_10 : decode cJ0_isLatin1_aae02 10 = .ok (.ifCond .ne 7, 3) := by decide +kernel
theorem eJ0_isLatin1_aae02_13 : decode cJ0_isLatin1_aae02 13 = .ok (.iconst 1, 1) := by decide +kernel
theorem eJ0_isLatin1_aae02_14 : decode cJ0_isLatin1_aae02 14 = .ok (.goto 4, 3) := by decide +kernel
theorem eJ0_isLatin1_aae02_18 : decode cJ0_isLatin1_aae02 18 = .ok (.ireturn, 1) := by decide +kernel
theorem eJ0_checkIndex_df160_0 : decode cJ0_checkIndex_df160 0 = .ok (.iload_n 0, 1) := by decide +kernel
theorem eJ0_checkIndex_df160_1 : decode cJ0_checkIndex_df160 1 = .ok (.iload_n 1, 1) := by decide +kernel
theorem eJ0_checkIndex_df160_2 : decode cJ0_checkIndex_df160 2 = .ok (.getstatic 1053, 3) := by decide +kernel
theorem eJ0_checkIndex_df160_5 : decode cJ0_checkIndex_df160 5 = .ok (.invokestatic 1059, 3) := by decide +kernel
theorem eJ0_checkIndex_df160_8 : decode cJ0_checkIndex_df160 8 = .ok (.pop, 1) := by decide +kernel
theorem eJ0_checkIndex_df160_9 : decode cJ0_checkIndex_df160 9 = .ok (.return_, 1) := by decide +kernel
theorem eJ1_charAt_3b067_0 : decode cJ1_charAt_3b067 0 = .ok (.iload_n 1, 1) := by decide +kernel
theorem eJ1_charAt_3b067_1 : decode cJ1_charAt_3b067 1 = .ok (.aload_n 0, 1) := by decide +kernel
theorem eJ1_charAt_3b067_2 : decode cJ1_charAt_3b067 2 = .ok (.arraylength, 1) := by decide +kernel
theorem eJ1_charAt_3b067_3 : decode cJ1_charAt_3b067 3 = .ok (.invokestatic 9, 3) := by decide +kernel
theorem eJ1_charAt_3b067_6 : decode cJ1_charAt_3b067 6 = .ok (.aload_n 0, 1) := by decide +kernel
theorem eJ1_charAt_3b067_7 : decode cJ1_charAt_3b067 7 = .ok (.iload_n 1, 1) := by decide +kernel
theorem eJ1_charAt_3b067_8 : decode cJ1_charAt_3b067 8 = .ok (.baload, 1) := by decide +kernel
theorem eJ1_charAt_3b067_9 : decode cJ1_charAt_3b067 9 = .ok (.sipush 255, 3) := by decide +kernel
theorem eJ1_charAt_3b067_12 : decode cJ1_charAt_3b067 12 = .ok (.iand, 1) := by decide +kernel
theorem eJ1_charAt_3b067_13 : decode cJ1_charAt_3b067 13 = .ok (.i2c, 1) := by decide +kernel
theorem eJ1_charAt_3b067_14 : decode cJ1_charAt_3b067 14 = .ok (.ireturn, 1) := by decide +kernel
theorem eJ3_checkIndex_8e157_0 : decode cJ3_checkIndex_8e157 0 = .ok (.iload_n 0, 1) := by decide +kernel
theorem eJ3_checkIndex_8e157_1 : decode cJ3_checkIndex_8e157 1 = .ok (.ifCond .lt 8, 3) := by decide +kernel
theorem eJ3_checkIndex_8e157_4 : decode cJ3_checkIndex_8e157 4 = .ok (.iload_n 0, 1) := by decide +kernel
theorem eJ3_checkIndex_8e157_5 : decode cJ3_checkIndex_8e157 5 = .ok (.iload_n 1, 1) := by decide +kernel
theorem eJ3_checkIndex_8e157_6 : decode cJ3_checkIndex_8e157 6 = .ok (.if_icmp .lt 10, 3) := by decide +kernel
theorem eJ3_checkIndex_8e157_16 : decode cJ3_checkIndex_8e157 16 = .ok (.iload_n 0, 1) := by decide +kernel
theorem eJ3_checkIndex_8e157_17 : decode cJ3_checkIndex_8e157 17 = .ok (.ireturn, 1) := by decide +kernel
theorem kw_in_length : (Cond.code yJ0_length_8abf5 cJ0_length_8abf5 1 (some .int)) ∈ am_G := am_inG (i := 683) (by decide +kernel) rfl
theorem kw_in_coder : (Cond.code yJ0_coder_7d493 cJ0_coder_7d493 1 (some .byte)) ∈ am_G := am_inG (i := 687) (by decide +kernel) rfl
theorem kw_in_charAt : (Cond.code yJ0_charAt_5068e cJ0_charAt_5068e 2 (some .char)) ∈ am_G := am_inG (i := 693) (by decide +kernel) rfl
theorem kw_in_isLatin1 : (Cond.code yJ0_isLatin1_aae02 cJ0_isLatin1_aae02 1 (some .boolean)) ∈ am_G := am_inG (i := 697) (by decide +kernel) rfl
theorem kw_in_check : (Cond.code yJ0_checkIndex_df160 cJ0_checkIndex_df160 2 (none)) ∈ am_G := am_inG (i := 703) (by decide +kernel) rfl
theorem kw_in_lcharAt : (Cond.code yJ1_charAt_3b067 cJ1_charAt_3b067 2 (some .char)) ∈ am_G := am_inG (i := 700) (by decide +kernel) rfl
theorem kw_in_pcheck : (Cond.code yJ3_checkIndex_8e157 cJ3_checkIndex_8e157 3 (some .int)) ∈ am_G := am_inG (i := 708) (by decide +kernel) rfl
set_option maxHeartbeats 4000000 in
set_option maxRecDepth 100000 in
theorem kw_coder (l : Launch) (adK adV : Nat → Nat) (A : Nat → Prop) {i : Nat} (hi : i < 11) : Met l yJ0_coder_7d493 ((Cond.code yJ0_coder_7d493 cJ0_coder_7d493 1 (some .byte)) :: am_G) (k2_rm 0 0) (va_Pc [.ref (adK i)] (kw_W adK adV A)) (QcRead 0) 0 0 (fun _ => False) := by
  refine Met.ofW (cc := cJ0_coder_7d493) (maxL := 1) (ret := some .byte) (by decide) rfl ?_
  intro p e s m args below meth c s₁ B hml hv
  obtain ⟨rfl, hw⟩ := hv
  have hx := B.exec
  have hb := B.bytes
  have hr := B.returns
  have hts := atoms_spec (ws := (Cond.code yJ0_coder_7d493 cJ0_coder_7d493 1 (some .byte)) :: am_G) B.pre
  have hG : ∀ w ∈ am_G, w.before ([.ref (adK i)] : List Value).toArray s = true := fun w h => hts w (List.mem_cons_of_mem _ h)
  have hown : s.vm.findClass RJ0 = some m.cls := findClass_of_methodNamed B.named
  have hlocks := B.notSynchronized
  obtain ⟨hK, hZ, hZq⟩ := id hw
  have hS : va_S A s.heap s.heap [] := va_S.rf
  have hl := lv_entry ([.ref (adK i)]) (n := 1) (Nat.le_of_ble_eq_true rfl)
  rw [lg_entry_eq]
  generalize (lg_sl ([.ref (adK i)]) ++ List.replicate (1 - (lg_sl ([.ref (adK i)])).length) Slot.unset).toArray = ls at hl ⊢
  have hl : lv_has ls 1 [(0, .ref (adK i))] := hl
  refine va_gets hx hb hZ hS hown (hG (.fieldLink RJ0 38 "java/lang/String" "COMPACT_STRINGS" "Z") (am_inG (i := 688) (by decide +kernel) rfl)) (fun _ h9 => h9) eJ0_coder_7d493_0 ?_
  refine lv_if_eq hx hb eJ0_coder_7d493_3 (tgt := 13) rfl (fun q => absurd q (by decide)) (fun _ => ?_)
  refine lv_aload_n hx hb eJ0_coder_7d493_6 rfl (lv_at hl 0 rfl) ?_
  refine vk_getf hx hb (hK.1 i hi).2.1 hS hown (hG (.fieldLink RJ0 15 "java/lang/String" "coder" "B") (am_inG (i := 1702) (by decide +kernel) rfl)) (fun _ h9 => h9) eJ0_coder_7d493_7 ?_
  refine lv_goto hx hb eJ0_coder_7d493_10 (tgt := 14) rfl ?_
  exact W.zret hx hb hr rfl (fun t ht hW => ⟨rfl, ht⟩) (fun q hq => by cases hq) eJ0_coder_7d493_14
set_option maxHeartbeats 4000000 in
set_option maxRecDepth 100000 in
theorem kw_isLatin1 (l : Launch) (adK adV : Nat → Nat) (A : Nat → Prop) {i : Nat} (hi : i < 11) : Met l yJ0_isLatin1_aae02 ((Cond.code yJ0_isLatin1_aae02 cJ0_isLatin1_aae02 1 (some .boolean)) :: am_G) (k2_rm 0 0) (va_Pc [.ref (adK i)] (kw_W adK adV A)) (QcRead 1) 0 0 (fun _ => False) := by
  refine Met.ofW (cc := cJ0_isLatin1_aae02) (maxL := 1) (ret := some .boolean) (by decide) rfl ?_
  intro p e s m args below meth c s₁ B hml hv
  obtain ⟨rfl, hw⟩ := hv
  have hx := B.exec
  have hb := B.bytes
  have hr := B.returns
  have hts := atoms_spec (ws := (Cond.code yJ0_isLatin1_aae02 cJ0_isLatin1_aae02 1 (some .boolean)) :: am_G) B.pre
  have hG : ∀ w ∈ am_G, w.before ([.ref (adK i)] : List Value).toArray s = true := fun w h => hts w (List.mem_cons_of_mem _ h)
  have hown : s.vm.findClass RJ0 = some m.cls := findClass_of_methodNamed B.named
  have hlocks := B.notSynchronized
  obtain ⟨hK, hZ, hZq⟩ := id hw
  have hS : va_S A s.heap s.heap [] := va_S.rf
  have hl := lv_entry ([.ref (adK i)]) (n := 1) (Nat.le_of_ble_eq_true rfl)
  rw [lg_entry_eq]
  generalize (lg_sl ([.ref (adK i)]) ++ List.replicate (1 - (lg_sl ([.ref (adK i)])).length) Slot.unset).toArray = ls at hl ⊢
  have hl : lv_has ls 1 [(0, .ref (adK i))] := hl
  refine va_gets hx hb hZ hS hown (hG (.fieldLink RJ0 38 "java/lang/String" "COMPACT_STRINGS" "Z") (am_inG (i := 688) (by decide +kernel) rfl)) (fun _ h9 => h9) eJ0_isLatin1_aae02_0 ?_
  refine lv_if_eq hx hb eJ0_isLatin1_aae02_3 (tgt := 17) rfl (fun q => absurd q (by decide)) (fun _ => ?_)
  refine lv_aload_n hx hb eJ0_isLatin1_aae02_6 rfl (lv_at hl 0 rfl) ?_
  refine vk_getf hx hb (hK.1 i hi).2.1 hS hown (hG (.fieldLink RJ0 15 "java/lang/String" "coder" "B") (am_inG (i := 1702) (by decide +kernel) rfl)) (fun _ h9 => h9) eJ0_isLatin1_aae02_7 ?_
  refine lv_if_ne hx hb eJ0_isLatin1_aae02_10 (tgt := 17) rfl (fun q => absurd rfl q) (fun _ => ?_)
  refine lv_iconst hx hb eJ0_isLatin1_aae02_13 rfl ?_
  refine lv_goto hx hb eJ0_isLatin1_aae02_14 (tgt := 18) rfl ?_
  exact W.zret hx hb hr rfl (fun t ht hW => ⟨rfl, ht⟩) (fun q hq => by cases hq) eJ0_isLatin1_aae02_18
set_option maxHeartbeats 4000000 in
set_option maxRecDepth 100000 in
theorem kw_length (l : Launch) (adK adV : Nat → Nat) (A : Nat → Prop) {i : Nat} (hi : i < 11) : Met l yJ0_length_8abf5 ((Cond.code yJ0_length_8abf5 cJ0_length_8abf5 1 (some .int)) :: am_G) (k2_rm 1 40) (va_Pc [.ref (adK i)] (kw_W adK adV A)) (QcRead (Int32.ofNat (kw_len.getD i 0))) 0 0 (fun _ => False) := by
  refine Met.ofW (cc := cJ0_length_8abf5) (maxL := 1) (ret := some .int) (by decide) rfl ?_
  intro p e s m args below meth c s₁ B hml hv
  obtain ⟨rfl, hw⟩ := hv
  have hx := B.exec
  have hb := B.bytes
  have hr := B.returns
  have hts := atoms_spec (ws := (Cond.code yJ0_length_8abf5 cJ0_length_8abf5 1 (some .int)) :: am_G) B.pre
  have hG : ∀ w ∈ am_G, w.before ([.ref (adK i)] : List Value).toArray s = true := fun w h => hts w (List.mem_cons_of_mem _ h)
  have hown : s.vm.findClass RJ0 = some m.cls := findClass_of_methodNamed B.named
  have hlocks := B.notSynchronized
  obtain ⟨hK, hZ, hZq⟩ := id hw
  have hS : va_S A s.heap s.heap [] := va_S.rf
  have hl := lv_entry ([.ref (adK i)]) (n := 1) (Nat.le_of_ble_eq_true rfl)
  rw [lg_entry_eq]
  generalize (lg_sl ([.ref (adK i)]) ++ List.replicate (1 - (lg_sl ([.ref (adK i)])).length) Slot.unset).toArray = ls at hl ⊢
  have hl : lv_has ls 1 [(0, .ref (adK i))] := hl
  refine lv_aload_n hx hb eJ0_length_8abf5_0 rfl (lv_at hl 0 rfl) ?_
  refine vk_getf hx hb (hK.1 i hi).2.2.1 hS hown (hG (.fieldLink RJ0 9 "java/lang/String" "value" "[B") (am_inG (i := 1701) (by decide +kernel) rfl)) (fun _ h9 => h9) eJ0_length_8abf5_1 ?_
  refine va_tlen hx hb (hK.1 i hi).2.2.2 hS rfl eJ0_length_8abf5_4 ?_
  refine lv_aload_n hx hb eJ0_length_8abf5_5 rfl (lv_at hl 0 rfl) ?_
  have hc := kw_coder l adK adV A hi
  have hp : PreV s s.heap RJ0 (adK i) (va_Pc [.ref (adK i)] (kw_W adK adV A)) [] := ⟨kw_blind, vk_recv hK hi hS, fun U hu hW => kw_pre rfl hw hu hW⟩
  refine W.callR (W.runV (nL := 1) (Ts := am_G) ⟨hx, hb, hml, hown, hG⟩ hc ⟨callB_of (Ts := am_G) (ws := (Cond.code yJ0_coder_7d493 cJ0_coder_7d493 1 (some .byte)) :: am_G) 0 hG (am_goodG kw_in_coder) rfl rfl rfl (hG (.initialized yJ0_coder_7d493.cls) (am_inG (i := 108) (by decide +kernel) rfl)) (hG (.methodLink RJ0 335 yJ0_coder_7d493) (am_inG (i := 684) (by decide +kernel) rfl)) ⟨by decide, by decide, by decide +kernel⟩ ⟨Nat.le_of_ble_eq_true rfl, Nat.le_of_ble_eq_true rfl⟩, hG (.instanceMethod yJ0_coder_7d493) (am_inG (i := 685) (by decide +kernel) rfl), hG (.selects RJ0 yJ0_coder_7d493 yJ0_coder_7d493) (am_inG (i := 686) (by decide +kernel) rfl)⟩ hp rfl rfl hl.1 rfl (lv_room (Nat.le_of_ble_eq_true rfl)) eJ0_length_8abf5_6 ⟨Nat.le_of_ble_eq_true rfl, Nat.le_of_ble_eq_true rfl⟩) ?_
  refine lv_ishr hx hb eJ0_length_8abf5_9 ?_
  rw [sb_shr0]
  exact W.iret hx hb hr (fun t ht hW => ⟨rfl, ht⟩) (fun q hq => by cases hq) eJ0_length_8abf5_10
set_option maxHeartbeats 4000000 in
set_option maxRecDepth 100000 in
theorem kw_pcheck (l : Launch) (adK adV : Nat → Nat) (A : Nat → Prop) {n k : Nat} (hk : k < n) (hn : n < 2 ^ 31) {v : Value} (hv0 : v = .null ∨ ∃ t, v = .ref t) : Met l yJ3_checkIndex_8e157 ((Cond.code yJ3_checkIndex_8e157 cJ3_checkIndex_8e157 3 (some .int)) :: am_G) (k2_rm 0 0) (va_Pc [.int (nI k), .int (nI n), v] (kw_W adK adV A)) (QcRead (nI k)) 0 0 (fun _ => False) := by
  refine Met.ofW (cc := cJ3_checkIndex_8e157) (maxL := 3) (ret := some .int) (by decide) rfl ?_
  intro p e s m args below meth c s₁ B hml hv
  obtain ⟨rfl, hw⟩ := hv
  have hx := B.exec
  have hb := B.bytes
  have hr := B.returns
  have hts := atoms_spec (ws := (Cond.code yJ3_checkIndex_8e157 cJ3_checkIndex_8e157 3 (some .int)) :: am_G) B.pre
  have hG : ∀ w ∈ am_G, w.before ([.int (nI k), .int (nI n), v] : List Value).toArray s = true := fun w h => hts w (List.mem_cons_of_mem _ h)
  have hown : s.vm.findClass RJ3 = some m.cls := findClass_of_methodNamed B.named
  have hlocks := B.notSynchronized
  obtain ⟨hK, hZ, hZq⟩ := id hw
  have hS : va_S A s.heap s.heap [] := va_S.rf
  have hl := lv_entry ([.int (nI k), .int (nI n), v]) (n := 3) (by rcases hv0 with rfl | ⟨t, rfl⟩ <;> exact Nat.le_of_ble_eq_true rfl)
  rw [lg_entry_eq]
  generalize (lg_sl ([.int (nI k), .int (nI n), v]) ++ List.replicate (3 - (lg_sl ([.int (nI k), .int (nI n), v])).length) Slot.unset).toArray = ls at hl ⊢
  have hl : lv_has ls 3 [(0, .int (nI k)), (1, .int (nI n))] := by
    rcases hv0 with rfl | ⟨t, rfl⟩ <;> exact lv_sub hl [0, 1] rfl
  refine lv_iload_n hx hb eJ3_checkIndex_8e157_0 rfl (lv_at hl 0 rfl) ?_
  refine lv_if_lt hx hb eJ3_checkIndex_8e157_1 (tgt := 9) rfl (fun q => absurd q (nI_pos (by omega))) (fun _ => ?_)
  refine lv_iload_n hx hb eJ3_checkIndex_8e157_4 rfl (lv_at hl 0 rfl) ?_
  refine lv_iload_n hx hb eJ3_checkIndex_8e157_5 rfl (lv_at hl 1 rfl) ?_
  refine lv_icmp_lt hx hb eJ3_checkIndex_8e157_6 (tgt := 16) rfl (fun _ => ?_) (fun q => absurd (nI_lt hk hn) q)
  refine lv_iload_n hx hb eJ3_checkIndex_8e157_16 rfl (lv_at hl 0 rfl) ?_
  exact W.iret hx hb hr (fun t ht hW => ⟨rfl, ht⟩) (fun q hq => by cases hq) eJ3_checkIndex_8e157_17
set_option maxHeartbeats 4000000 in
set_option maxRecDepth 100000 in
theorem kw_check (l : Launch) (adK adV : Nat → Nat) (A : Nat → Prop) {n k : Nat} (hk : k < n) (hn : n < 2 ^ 31) : Met l yJ0_checkIndex_df160 ((Cond.code yJ0_checkIndex_df160 cJ0_checkIndex_df160 2 (none)) :: am_G) (k2_rm 1 40) (va_Pc [.int (nI k), .int (nI n)] (kw_W adK adV A)) (fun _ st o t => o = .returned none ∧ t.heap = st.heap) 0 0 (fun _ => False) := by
  refine Met.ofW (cc := cJ0_checkIndex_df160) (maxL := 2) (ret := none) (by decide) rfl ?_
  intro p e s m args below meth c s₁ B hml hv
  obtain ⟨rfl, hw⟩ := hv
  have hx := B.exec
  have hb := B.bytes
  have hr := B.returns
  have hts := atoms_spec (ws := (Cond.code yJ0_checkIndex_df160 cJ0_checkIndex_df160 2 (none)) :: am_G) B.pre
  have hG : ∀ w ∈ am_G, w.before ([.int (nI k), .int (nI n)] : List Value).toArray s = true := fun w h => hts w (List.mem_cons_of_mem _ h)
  have hown : s.vm.findClass RJ0 = some m.cls := findClass_of_methodNamed B.named
  have hlocks := B.notSynchronized
  obtain ⟨hK, hZ, hZq⟩ := id hw
  have hS : va_S A s.heap s.heap [] := va_S.rf
  have hl := lv_entry ([.int (nI k), .int (nI n)]) (n := 2) (Nat.le_of_ble_eq_true rfl)
  rw [lg_entry_eq]
  generalize (lg_sl ([.int (nI k), .int (nI n)]) ++ List.replicate (2 - (lg_sl ([.int (nI k), .int (nI n)])).length) Slot.unset).toArray = ls at hl ⊢
  have hl : lv_has ls 2 [(0, .int (nI k)), (1, .int (nI n))] := hl
  refine lv_iload_n hx hb eJ0_checkIndex_df160_0 rfl (lv_at hl 0 rfl) ?_
  refine lv_iload_n hx hb eJ0_checkIndex_df160_1 rfl (lv_at hl 1 rfl) ?_
  rcases hZq with hz | ⟨t, hz⟩
  · refine va_gets hx hb hz hS hown (hG (.fieldLink RJ0 1053 "jdk/internal/util/Preconditions" "SIOOBE_FORMATTER" "Ljava/util/function/BiFunction;") (am_inG (i := 704) (by decide +kernel) rfl)) (fun _ h9 => h9) eJ0_checkIndex_df160_2 ?_
    have hc := kw_pcheck l adK adV A hk hn (v := .null) (Or.inl rfl)
    have hp : PreS s s.heap (va_Pc [.int (nI k), .int (nI n), .null] (kw_W adK adV A)) [.int (nI k), .int (nI n), .null] := ⟨kw_blind, fun U hu hW => kw_pre rfl hw hu hW⟩
    refine W.callR (W.runS (nL := 2) (Ts := am_G) ⟨hx, hb, hml, hown, hG⟩ hc ⟨callB_of (Ts := am_G) (ws := (Cond.code yJ3_checkIndex_8e157 cJ3_checkIndex_8e157 3 (some .int)) :: am_G) 3 hG (am_goodG kw_in_pcheck) rfl rfl rfl (hG (.initialized yJ3_checkIndex_8e157.cls) (am_inG (i := 110) (by decide +kernel) rfl)) (hG (.methodLink RJ0 1059 yJ3_checkIndex_8e157) (am_inG (i := 706) (by decide +kernel) rfl)) ⟨by decide, by decide, by decide +kernel⟩ ⟨Nat.le_of_ble_eq_true rfl, Nat.le_of_ble_eq_true rfl⟩, hG (.static yJ3_checkIndex_8e157) (am_inG (i := 707) (by decide +kernel) rfl)⟩ hp rfl rfl hl.1 rfl (lv_room (Nat.le_of_ble_eq_true rfl)) eJ0_checkIndex_df160_5 ⟨Nat.le_of_ble_eq_true rfl, Nat.le_of_ble_eq_true rfl⟩) ?_
    refine lv_pop hx hb eJ0_checkIndex_df160_8 rfl ?_
    exact W.vret hx hb hr (fun t ht hW => ⟨rfl, ht⟩) (fun q hq => by cases hq) eJ0_checkIndex_df160_9
  · refine va_gets hx hb hz hS hown (hG (.fieldLink RJ0 1053 "jdk/internal/util/Preconditions" "SIOOBE_FORMATTER" "Ljava/util/function/BiFunction;") (am_inG (i := 704) (by decide +kernel) rfl)) (fun _ h9 => h9) eJ0_checkIndex_df160_2 ?_
    have hc := kw_pcheck l adK adV A hk hn (v := (.ref t)) (Or.inr ⟨_, rfl⟩)
    have hp : PreS s s.heap (va_Pc [.int (nI k), .int (nI n), (.ref t)] (kw_W adK adV A)) [.int (nI k), .int (nI n), (.ref t)] := ⟨kw_blind, fun U hu hW => kw_pre rfl hw hu hW⟩
    refine W.callR (W.runS (nL := 2) (Ts := am_G) ⟨hx, hb, hml, hown, hG⟩ hc ⟨callB_of (Ts := am_G) (ws := (Cond.code yJ3_checkIndex_8e157 cJ3_checkIndex_8e157 3 (some .int)) :: am_G) 3 hG (am_goodG kw_in_pcheck) rfl rfl rfl (hG (.initialized yJ3_checkIndex_8e157.cls) (am_inG (i := 110) (by decide +kernel) rfl)) (hG (.methodLink RJ0 1059 yJ3_checkIndex_8e157) (am_inG (i := 706) (by decide +kernel) rfl)) ⟨by decide, by decide, by decide +kernel⟩ ⟨Nat.le_of_ble_eq_true rfl, Nat.le_of_ble_eq_true rfl⟩, hG (.static yJ3_checkIndex_8e157) (am_inG (i := 707) (by decide +kernel) rfl)⟩ hp rfl rfl hl.1 rfl (lv_room (Nat.le_of_ble_eq_true rfl)) eJ0_checkIndex_df160_5 ⟨Nat.le_of_ble_eq_true rfl, Nat.le_of_ble_eq_true rfl⟩) ?_
    refine lv_pop hx hb eJ0_checkIndex_df160_8 rfl ?_
    exact W.vret hx hb hr (fun t ht hW => ⟨rfl, ht⟩) (fun q hq => by cases hq) eJ0_checkIndex_df160_9
theorem kw_small : ∀ i, i < 11 → kw_len.getD i 0 < 2 ^ 31 := by decide +kernel
theorem kw_char0 : ∀ i, i < 11 → ∀ k, k < kw_len.getD i 0 → (((((kw_byt.getD i []).getD k 0) &&& 255).toUInt32 % 65536).toInt32 = (am_str i).getD k 0) := by decide +kernel
theorem kw_char1 : ∀ i, i < 11 → ∀ k, k < kw_len.getD i 0 → (am_str i).getD k 0 &&& 255 = (am_str i).getD k 0 := by decide +kernel
theorem kw_char : ∀ i, i < 11 → ∀ k, k < kw_len.getD i 0 → (((((kw_byt.getD i []).getD k 0) &&& 255).toUInt32 % 65536).toInt32 = (am_str i).getD k 0) ∧ narrow .char (.int ((am_str i).getD k 0)) = .int ((am_str i).getD k 0) := fun i hi k hk => ⟨kw_char0 i hi k hk, by rw [← kw_char1 i hi k hk]; exact sc_nar _⟩
set_option maxHeartbeats 4000000 in
set_option maxRecDepth 100000 in
theorem kw_lcharAt (l : Launch) (adK adV : Nat → Nat) (A : Nat → Prop) {i k : Nat} (hi : i < 11) (hk : k < kw_len.getD i 0) : Met l yJ1_charAt_3b067 ((Cond.code yJ1_charAt_3b067 cJ1_charAt_3b067 2 (some .char)) :: am_G) (k2_rm 2 80) (va_Pc [.ref (adV i), .int (nI k)] (kw_W adK adV A)) (QcRead ((am_str i).getD k 0)) 0 0 (fun _ => False) := by
  refine Met.ofW (cc := cJ1_charAt_3b067) (maxL := 2) (ret := some .char) (by decide) rfl ?_
  intro p e s m args below meth c s₁ B hml hv
  obtain ⟨rfl, hw⟩ := hv
  have hx := B.exec
  have hb := B.bytes
  have hr := B.returns
  have hts := atoms_spec (ws := (Cond.code yJ1_charAt_3b067 cJ1_charAt_3b067 2 (some .char)) :: am_G) B.pre
  have hG : ∀ w ∈ am_G, w.before ([.ref (adV i), .int (nI k)] : List Value).toArray s = true := fun w h => hts w (List.mem_cons_of_mem _ h)
  have hown : s.vm.findClass RJ1 = some m.cls := findClass_of_methodNamed B.named
  have hlocks := B.notSynchronized
  obtain ⟨hK, hZ, hZq⟩ := id hw
  have hS : va_S A s.heap s.heap [] := va_S.rf
  have hl := lv_entry ([.ref (adV i), .int (nI k)]) (n := 2) (Nat.le_of_ble_eq_true rfl)
  rw [lg_entry_eq]
  generalize (lg_sl ([.ref (adV i), .int (nI k)]) ++ List.replicate (2 - (lg_sl ([.ref (adV i), .int (nI k)])).length) Slot.unset).toArray = ls at hl ⊢
  have hl : lv_has ls 2 [(0, .ref (adV i)), (1, .int (nI k))] := hl
  have hlen : kw_len.getD i 0 < 2 ^ 31 := kw_small i hi
  refine lv_iload_n hx hb eJ1_charAt_3b067_0 rfl (lv_at hl 1 rfl) ?_
  refine lv_aload_n hx hb eJ1_charAt_3b067_1 rfl (lv_at hl 0 rfl) ?_
  refine va_tlen hx hb (hK.1 i hi).2.2.2 hS rfl eJ1_charAt_3b067_2 ?_
  have hc := kw_check l adK adV A hk hlen
  have hp : PreS s s.heap (va_Pc [.int (nI k), .int (nI (kw_len.getD i 0))] (kw_W adK adV A)) [.int (nI k), .int (nI (kw_len.getD i 0))] := ⟨kw_blind, fun U hu hW => kw_pre rfl hw hu hW⟩
  refine am_callP (v0 := none) (W.runS (nL := 2) (Ts := am_G) ⟨hx, hb, hml, hown, hG⟩ hc ⟨callB_of (Ts := am_G) (ws := (Cond.code yJ0_checkIndex_df160 cJ0_checkIndex_df160 2 (none)) :: am_G) 2 hG (am_goodG kw_in_check) rfl rfl rfl (hG (.initialized yJ0_checkIndex_df160.cls) (am_inG (i := 108) (by decide +kernel) rfl)) (hG (.methodLink RJ1 9 yJ0_checkIndex_df160) (am_inG (i := 701) (by decide +kernel) rfl)) ⟨by decide, by decide, by decide +kernel⟩ ⟨Nat.le_of_ble_eq_true rfl, Nat.le_of_ble_eq_true rfl⟩, hG (.static yJ0_checkIndex_df160) (am_inG (i := 702) (by decide +kernel) rfl)⟩ hp rfl rfl hl.1 rfl (lv_room (Nat.le_of_ble_eq_true rfl)) eJ1_charAt_3b067_3 ⟨Nat.le_of_ble_eq_true rfl, Nat.le_of_ble_eq_true rfl⟩) (fun st v t h => ⟨by have := h.1; cases this; rfl, h.2⟩) ?_
  refine lv_aload_n hx hb eJ1_charAt_3b067_6 rfl (lv_at hl 0 rfl) ?_
  refine lv_iload_n hx hb eJ1_charAt_3b067_7 rfl (lv_at hl 1 rfl) ?_
  refine va_tb hx hb (hK.1 i hi).2.2.2 hS (vp_in_nI hk hlen) rfl eJ1_charAt_3b067_8 ?_
  refine lv_sipush hx hb eJ1_charAt_3b067_9 rfl ?_
  refine lv_iand hx hb eJ1_charAt_3b067_12 ?_
  rw [nI_clamp (by omega)]
  obtain ⟨c1, c2⟩ := kw_char i hi k hk
  refine lv_i2c (v := (am_str i).getD k 0) hx hb eJ1_charAt_3b067_13 c1 ?_
  exact W.zret hx hb hr c2 (fun t ht hW => ⟨rfl, ht⟩) (fun q hq => by cases hq) eJ1_charAt_3b067_14
set_option maxHeartbeats 4000000 in
set_option maxRecDepth 100000 in
theorem kw_charAt (l : Launch) (adK adV : Nat → Nat) (A : Nat → Prop) {i k : Nat} (hi : i < 11) (hk : k < kw_len.getD i 0) : Met l yJ0_charAt_5068e ((Cond.code yJ0_charAt_5068e cJ0_charAt_5068e 2 (some .char)) :: am_G) (k2_rm 3 120) (va_Pc [.ref (adK i), .int (nI k)] (kw_W adK adV A)) (QcRead ((am_str i).getD k 0)) 0 0 (fun _ => False) := by
  refine Met.ofW (cc := cJ0_charAt_5068e) (maxL := 2) (ret := some .char) (by decide) rfl ?_
  intro p e s m args below meth c s₁ B hml hv
  obtain ⟨rfl, hw⟩ := hv
  have hx := B.exec
  have hb := B.bytes
  have hr := B.returns
  have hts := atoms_spec (ws := (Cond.code yJ0_charAt_5068e cJ0_charAt_5068e 2 (some .char)) :: am_G) B.pre
  have hG : ∀ w ∈ am_G, w.before ([.ref (adK i), .int (nI k)] : List Value).toArray s = true := fun w h => hts w (List.mem_cons_of_mem _ h)
  have hown : s.vm.findClass RJ0 = some m.cls := findClass_of_methodNamed B.named
  have hlocks := B.notSynchronized
  obtain ⟨hK, hZ, hZq⟩ := id hw
  have hS : va_S A s.heap s.heap [] := va_S.rf
  have hl := lv_entry ([.ref (adK i), .int (nI k)]) (n := 2) (Nat.le_of_ble_eq_true rfl)
  rw [lg_entry_eq]
  generalize (lg_sl ([.ref (adK i), .int (nI k)]) ++ List.replicate (2 - (lg_sl ([.ref (adK i), .int (nI k)])).length) Slot.unset).toArray = ls at hl ⊢
  have hl : lv_has ls 2 [(0, .ref (adK i)), (1, .int (nI k))] := hl
  refine lv_aload_n hx hb eJ0_charAt_5068e_0 rfl (lv_at hl 0 rfl) ?_
  have hc := kw_isLatin1 l adK adV A hi
  have hp : PreV s s.heap RJ0 (adK i) (va_Pc [.ref (adK i)] (kw_W adK adV A)) [] := ⟨kw_blind, vk_recv hK hi hS, fun U hu hW => kw_pre rfl hw hu hW⟩
  refine W.callR (W.runV (nL := 2) (Ts := am_G) ⟨hx, hb, hml, hown, hG⟩ hc ⟨callB_of (Ts := am_G) (ws := (Cond.code yJ0_isLatin1_aae02 cJ0_isLatin1_aae02 1 (some .boolean)) :: am_G) 0 hG (am_goodG kw_in_isLatin1) rfl rfl rfl (hG (.initialized yJ0_isLatin1_aae02.cls) (am_inG (i := 108) (by decide +kernel) rfl)) (hG (.methodLink RJ0 492 yJ0_isLatin1_aae02) (am_inG (i := 694) (by decide +kernel) rfl)) ⟨by decide, by decide, by decide +kernel⟩ ⟨Nat.le_of_ble_eq_true rfl, Nat.le_of_ble_eq_true rfl⟩, hG (.instanceMethod yJ0_isLatin1_aae02) (am_inG (i := 695) (by decide +kernel) rfl), hG (.selects RJ0 yJ0_isLatin1_aae02 yJ0_isLatin1_aae02) (am_inG (i := 696) (by decide +kernel) rfl)⟩ hp rfl rfl hl.1 rfl (lv_room (Nat.le_of_ble_eq_true rfl)) eJ0_charAt_5068e_1 ⟨Nat.le_of_ble_eq_true rfl, Nat.le_of_ble_eq_true rfl⟩) ?_
  refine lv_if_eq hx hb eJ0_charAt_5068e_4 (tgt := 16) rfl (fun q => absurd q (by decide)) (fun _ => ?_)
  refine lv_aload_n hx hb eJ0_charAt_5068e_7 rfl (lv_at hl 0 rfl) ?_
  refine vk_getf hx hb (hK.1 i hi).2.2.1 hS hown (hG (.fieldLink RJ0 9 "java/lang/String" "value" "[B") (am_inG (i := 1701) (by decide +kernel) rfl)) (fun _ h9 => h9) eJ0_charAt_5068e_8 ?_
  refine lv_iload_n hx hb eJ0_charAt_5068e_11 rfl (lv_at hl 1 rfl) ?_
  have hc2 := kw_lcharAt l adK adV A hi hk
  have hp2 : PreS s s.heap (va_Pc [.ref (adV i), .int (nI k)] (kw_W adK adV A)) [.ref (adV i), .int (nI k)] := ⟨kw_blind, fun U hu hW => kw_pre rfl hw hu hW⟩
  refine W.callR (W.runS (nL := 2) (Ts := am_G) ⟨hx, hb, hml, hown, hG⟩ hc2 ⟨callB_of (Ts := am_G) (ws := (Cond.code yJ1_charAt_3b067 cJ1_charAt_3b067 2 (some .char)) :: am_G) 2 hG (am_goodG kw_in_lcharAt) rfl rfl rfl (hG (.initialized yJ1_charAt_3b067.cls) (am_inG (i := 109) (by decide +kernel) rfl)) (hG (.methodLink RJ0 495 yJ1_charAt_3b067) (am_inG (i := 698) (by decide +kernel) rfl)) ⟨by decide, by decide, by decide +kernel⟩ ⟨Nat.le_of_ble_eq_true rfl, Nat.le_of_ble_eq_true rfl⟩, hG (.static yJ1_charAt_3b067) (am_inG (i := 699) (by decide +kernel) rfl)⟩ hp2 rfl rfl hl.1 rfl (lv_room (Nat.le_of_ble_eq_true rfl)) eJ0_charAt_5068e_12 ⟨Nat.le_of_ble_eq_true rfl, Nat.le_of_ble_eq_true rfl⟩) ?_
  exact W.zret hx hb hr (kw_char i hi k hk).2 (fun t ht hW => ⟨rfl, ht⟩) (fun q hq => by cases hq) eJ0_charAt_5068e_15
