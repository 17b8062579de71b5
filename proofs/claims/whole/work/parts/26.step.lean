/-! ===== a step of the abstract machine is one of the machine ===== -/
section AmCk
variable {oc : Nat} {raw : Instr} {z : Nat}
theorem am_ck_getf (h : am_ck2 oc raw (.getfield z) = true) : ∃ idx q, raw = .getfield idx ∧ vwCl[z / 64]? = some q ∧ z % 64 < q.2.2 ∧ am_lk oc idx = some (.fieldLink (am_own oc) idx (q.2.1 (z % 64)).1 (q.2.1 (z % 64)).2.1 (q.2.1 (z % 64)).2.2.1) := by
  simp only [am_ck2] at h
  split at h
  · next idx =>
    split at h
    · next q hq =>
      simp only [Bool.and_eq_true, decide_eq_true_eq] at h
      exact ⟨idx, q, rfl, hq, h.1, h.2⟩
    · cases h
  · cases h
theorem am_ck_putf (h : am_ck2 oc raw (.putfield z) = true) : ∃ idx q, raw = .putfield idx ∧ vwCl[z / 64]? = some q ∧ z % 64 < q.2.2 ∧ am_lk oc idx = some (.fieldLink (am_own oc) idx (q.2.1 (z % 64)).1 (q.2.1 (z % 64)).2.1 (q.2.1 (z % 64)).2.2.1) := by
  simp only [am_ck2] at h
  split at h
  · next idx =>
    split at h
    · next q hq =>
      simp only [Bool.and_eq_true, decide_eq_true_eq] at h
      exact ⟨idx, q, rfl, hq, h.1, h.2⟩
    · cases h
  · cases h
theorem am_ck_new (h : am_ck2 oc raw (.new z) = true) : ∃ idx q, raw = .new idx ∧ vwCl[z]? = some q ∧ am_lk oc idx = some (.classLink (am_own oc) idx q.1) := by
  simp only [am_ck2] at h
  split at h
  · next idx =>
    split at h
    · next q hq => exact ⟨idx, q, rfl, hq, of_decide_eq_true h⟩
    · cases h
  · cases h
theorem am_ck_anew (h : am_ck2 oc raw (.anewarray z) = true) : ∃ idx, raw = .anewarray idx ∧ ((z = 4 ∧ am_lk oc idx = some (.classLink (am_own oc) idx RX5)) ∨ (z = 5 ∧ am_lk oc idx = some (.classLink (am_own oc) idx RX10))) := by
  simp only [am_ck2] at h
  split at h
  · next idx =>
    simp only [Bool.and_eq_true, Bool.or_eq_true, decide_eq_true_eq] at h
    exact ⟨idx, rfl, h⟩
  · cases h
theorem am_ck_mna {a b : Nat} (h : am_ck2 oc raw (.multianewarray a b) = true) : ∃ idx, raw = .multianewarray idx 2 ∧ am_lk oc idx = some (.classLink (am_own oc) idx "[[I") := by
  simp only [am_ck2] at h
  split at h
  · next idx n =>
    simp only [Bool.and_eq_true, decide_eq_true_eq] at h
    exact ⟨idx, by rw [h.1], h.2⟩
  · cases h
theorem am_ck_gst (h : am_ck2 oc raw (.getstatic z) = true) : ∃ idx, raw = .getstatic idx ∧ z < 3 ∧ (am_lk oc idx = some (.fieldLink (am_own oc) idx "TwoHeads" (am_stn z) "[I") ∨ am_lk oc idx = some (.fieldLinkNest (am_own oc) idx "TwoHeads" (am_stn z) "[I" "TwoHeads")) := by
  simp only [am_ck2] at h
  split at h
  · next idx =>
    simp only [Bool.and_eq_true, Bool.or_eq_true, decide_eq_true_eq] at h
    exact ⟨idx, rfl, h⟩
  · cases h
theorem am_ck_ldc (h : am_ck2 oc raw (.ldc z) = true) : raw = .ldc (am_sti z) ∧ z < 11 ∧ oc = 8 := by
  simp only [am_ck2] at h
  split at h
  · next idx =>
    simp only [Bool.and_eq_true, decide_eq_true_eq] at h
    exact ⟨by rw [h.1.2], h.1.1, h.2⟩
  · cases h
theorem am_ck_ldcw (h : am_ck2 oc raw (.ldc_w z) = true) : ∃ idx, raw = .ldc_w idx ∧ am_lk oc idx = some (.constant (am_own oc) idx (Int32.ofNat z)) := by
  simp only [am_ck2] at h
  split at h
  · next idx => exact ⟨idx, rfl, of_decide_eq_true h⟩
  · cases h
theorem am_ck_ldc2 (h : am_ck2 oc raw (.ldc2_w z) = true) : ∃ idx, raw = .ldc2_w idx ∧ am_lk oc idx = some (.constantLong (am_own oc) idx (Int64.ofNat z)) := by
  simp only [am_ck2] at h
  split at h
  · next idx => exact ⟨idx, rfl, of_decide_eq_true h⟩
  · cases h
theorem am_ck_cst (h : am_ck2 oc raw (.checkcast z) = true) : ∃ idx, raw = .checkcast idx ∧ am_lk oc idx = some (.classLink (am_own oc) idx "[I") := by
  simp only [am_ck2] at h
  split at h
  · next idx => exact ⟨idx, rfl, of_decide_eq_true h⟩
  · cases h
theorem am_ck_dyn (h : am_ck2 oc raw (.invokedynamic z) = true) : ∃ idx, (raw = .invokestatic idx ∧ ((z = 0 ∧ am_lk oc idx = some (.methodLink (am_own oc) idx arraycopyName)) ∨ (z = 4 ∧ am_lk oc idx = some (.methodLink (am_own oc) idx Lib.Math.min.name)))) ∨ (raw = .invokevirtual idx ∧ ((z = 1 ∧ am_lk oc idx = some (.methodLink (am_own oc) idx ⟨"[I", "clone", "()Ljava/lang/Object;"⟩)) ∨ (z = 2 ∧ am_lk oc idx = some (.methodLink (am_own oc) idx yJ0_length_8abf5)) ∨ (z = 3 ∧ am_lk oc idx = some (.methodLink (am_own oc) idx yJ0_charAt_5068e)))) := by
  simp only [am_ck2] at h
  split at h
  · next idx =>
    simp only [Bool.and_eq_true, Bool.or_eq_true, decide_eq_true_eq] at h
    exact ⟨idx, Or.inl ⟨rfl, h⟩⟩
  · next idx =>
    simp only [Bool.and_eq_true, Bool.or_eq_true, decide_eq_true_eq] at h
    refine ⟨idx, Or.inr ⟨rfl, ?_⟩⟩
    rcases h with (h | h) | h
    · exact Or.inl h
    · exact Or.inr (Or.inl h)
    · exact Or.inr (Or.inr h)
  · cases h
end AmCk
theorem am_isw_kind {i : Instr} (h : am_isw i = true) : am_kind i = 1 := by
  cases i <;> first | rfl | cases h
theorem am_T_G {w : Cond} (h : w ∈ am_T) (hg : goodWord w = true) (hn : ∀ v ∈ am_nest, goodWord v = false) : w ∈ am_G := by
  rcases List.mem_append.mp h with h | h
  · exact h
  · rw [hn w h] at hg; cases hg
theorem am_nest_bad : ∀ v ∈ am_nest, goodWord v = false := by decide +kernel
theorem am_w_sys : (Cond.native arraycopyName ∈ am_T ∧ Cond.static arraycopyName ∈ am_T ∧ Cond.initialized "java/lang/System" ∈ am_T) := ⟨am_inT (am_inG (i := 137) (by decide +kernel) rfl), am_inT (am_inG (i := 136) (by decide +kernel) rfl), am_inT (am_inG (i := 94) (by decide +kernel) rfl)⟩
theorem am_w_cln : (Cond.sameMethod "[I" "java/lang/Object" "clone" "()Ljava/lang/Object;" ∈ am_T ∧ Cond.native ⟨"java/lang/Object", "clone", "()Ljava/lang/Object;"⟩ ∈ am_T ∧ Cond.instanceMethod ⟨"java/lang/Object", "clone", "()Ljava/lang/Object;"⟩ ∈ am_T ∧ Cond.selects "[I" ⟨"[I", "clone", "()Ljava/lang/Object;"⟩ ⟨"java/lang/Object", "clone", "()Ljava/lang/Object;"⟩ ∈ am_T ∧ Cond.castable "[I" "java/lang/Cloneable" ∈ am_T) := ⟨am_inT (am_inG (i := 805) (by decide +kernel) rfl), am_inT (am_inG (i := 806) (by decide +kernel) rfl), am_inT (am_inG (i := 807) (by decide +kernel) rfl), am_inT (am_inG (i := 808) (by decide +kernel) rfl), am_inN 7 rfl⟩
theorem am_w_arr {t : ArrayType} {k : Nat} (h : am_nt t = some k) : Cond.arrayClass (newarray.typeOf t) ∈ am_T := by
  cases t <;> cases h
  · exact am_inT (am_inG (i := 1296) (by decide +kernel) rfl)
  · exact am_inT (am_inG (i := 366) (by decide +kernel) rfl)
  · exact am_inT (am_inG (i := 174) (by decide +kernel) rfl)
theorem am_gr_set {h : am_H} {k : Nat} {c c' : am_C} (e : h[k]? = some c) (z : am_csz c' = am_csz c) : (h.set k c').length = h.length ∧ am_sl0 (h.set k c') = am_sl0 h := by
  refine ⟨List.length_set, ?_⟩
  unfold am_sl0
  rw [List.map_set, am_set_self (by rw [List.getElem?_map, e, z]; rfl)]
theorem am_putf_len {cn z : Nat} {st st' : List Value} {h h' : am_H} (e : am_putf cn z st h = some (st', h')) : h'.length = h.length ∧ am_sl0 h' = am_sl0 h := by
  unfold am_putf at e
  split at e
  · split at e
    · next hh =>
      split at e
      · cases e; exact am_gr_set hh (by simp [am_csz])
      · cases e
    · cases e
  · cases e
theorem am_ias_len {st st' : List Value} {h h' : am_H} (e : am_ias st h = some (st', h')) : h'.length = h.length ∧ am_sl0 h' = am_sl0 h := by
  unfold am_ias at e
  split at e
  · split at e
    · next hh =>
      split at e
      · next hy => cases e; obtain ⟨-, rfl⟩ := am_up_some hy; exact am_gr_set hh (by simp [am_csz])
      · cases e
    · cases e
  · cases e
theorem am_bas_len {st st' : List Value} {h h' : am_H} (e : am_bas st h = some (st', h')) : h'.length = h.length ∧ am_sl0 h' = am_sl0 h := by
  unfold am_bas at e
  split at e
  · split at e
    · next hh =>
      split at e
      · split at e
        · next hy => cases e; obtain ⟨-, rfl⟩ := am_up_some hy; exact am_gr_set hh (by simp [am_csz])
        · cases e
      · cases e
    · cases e
  · cases e
theorem am_aas_len {st st' : List Value} {h h' : am_H} (e : am_aas st h = some (st', h')) : h'.length = h.length ∧ am_sl0 h' = am_sl0 h := by
  unfold am_aas at e
  split at e
  · split at e
    · next hh =>
      split at e
      · split at e
        · split at e
          · next hy => cases e; obtain ⟨-, rfl⟩ := am_upr_some hy; exact am_gr_set hh (by simp [am_csz])
          · cases e
        · cases e
      · cases e
    · cases e
  · cases e
theorem am_acp_len {st st' : List Value} {h h' : am_H} (e : am_acp st h = some (st', h')) : h'.length = h.length ∧ am_sl0 h' = am_sl0 h := by
  unfold am_acp at e
  split at e
  · split at e
    · split at e
      · next hy =>
        split at e
        · cases e
        · next hn => cases e; exact am_gr_set hy (am_cpy_len (Nat.le_of_not_lt fun q => hn (Or.inr (Or.inr (Or.inr (Or.inl q))))) (Nat.le_of_not_lt fun q => hn (Or.inr (Or.inr (Or.inr (Or.inr (Or.inl q)))))))
      · cases e
    · cases e
  · cases e
theorem am_new_len {z : Nat} {q : vw_C} {st st' : List Value} {h h' : am_H} (e : am_new z st h = some (st', h')) (hq : vwCl[z]? = some q) : h'.length - h.length = 1 ∧ am_sl0 h' - am_sl0 h = q.2.2 := by
  unfold am_new at e
  cases e
  have hN : am_nf z = q.2.2 := by unfold am_nf; rw [hq]
  refine ⟨by rw [List.length_append]; simp, ?_⟩
  rw [am_sl0_app]
  simp [am_sl0, am_csz, hN]
theorem am_newa_len {t : ArrayType} {st st' : List Value} {h h' : am_H} (e : am_newa t st h = some (st', h')) : h'.length - h.length = 1 ∧ ∃ k, am_nt t = some k := by
  unfold am_newa at e
  split at e
  · split at e
    · next k hk =>
      split at e
      · cases e
      · cases e; exact ⟨by rw [List.length_append]; simp, k, hk⟩
    · cases e
  · cases e
theorem am_anew_len {z : Nat} {st st' : List Value} {h h' : am_H} (e : am_anew z st h = some (st', h')) : h'.length - h.length = 1 := by
  unfold am_anew at e
  split at e
  · split at e
    · cases e
    · cases e; rw [List.length_append]; simp
  · cases e
theorem am_cln_len {st st' : List Value} {h h' : am_H} (e : am_cln st h = some (st', h')) : h'.length - h.length = 1 := by
  unfold am_cln at e
  split at e
  · split at e
    · split at e
      · cases e
      · cases e; rw [List.length_append]; simp
    · cases e
  · cases e
section AmStep
variable {p : Program} {l : Launch} {e : Env} {R : Room} {s : State} {m : MethodId} {args : Array Value} {below : List Frame} {meth : Method} {c : Code} {H : Heap} {locs : List Loc} {Q : State → Prop} {cc : ByteArray} {pc pc' nL oc : Nat} {ret : Option FieldType} {M : am_M} {ls : Array Slot} {ad adV : Nat → Nat} {D : va_G} {kA : Nat → ClassId} {sz0 : Nat} {H00 : Heap} {h h' : am_H} {st st' : List Value} {ro : Nat → Option (List Int32)} {L L' : am_L} {n0 s0 : Nat}
set_option maxHeartbeats 4000000 in
theorem am_stepW (hx : p.tables.exec = Jvm.exec) (hb : c.code = cc) (hml : c.maxLocals = nL) (hown : s.vm.findClass (am_own oc) = some m.cls) (hT : ∀ w ∈ am_T, w.before args s = true) (hwd : am_Wd D kA ad adV sz0 H00 ro s) (hF : am_Fx ad sz0 H00) (hck : am_ckM oc ret M cc 0 (16 * M.2.2.length) = true) (hin : M.1 < 13 → meth.name = "<init>" ∧ am_own oc = am_own M.1) (hfr : 4 ≤ R.frames) (hlo : 141 ≤ R.locals)
    (hn0 : n0 ≤ h.length) (hs0 : s0 ≤ am_sl0 h) (hR : am_RH D kA ad sz0 H00 h H) (hl : ∀ q ∈ locs, sz0 ≤ q.base) (hlh : am_lh ls nL ad L) (hwf : am_wf h)
    (hone : am_one ro M (pc, L, st, h) = some (.inl (pc', L', st', h'))) (hrm : h'.length - n0 ≤ R.cells ∧ am_sl0 h' - s0 ≤ R.slots) (hlt : h'.length < am_RO)
    (kk : ∀ (H1 : Heap) (locs1 : List Loc) (ls1 : Array Slot), am_RH D kA ad sz0 H00 h' H1 → (∀ q ∈ locs1, sz0 ≤ q.base) → am_lh ls1 nL ad L' → W p l e R s m args below meth c H1 locs1 (h'.length - n0) (am_sl0 h' - s0) Q (F0 m pc' ls1 (st'.map (am_v ad)))) : W p l e R s m args below meth c H locs (h.length - n0) (am_sl0 h - s0) Q (F0 m pc ls (st.map (am_v ad))) := by
  obtain ⟨i, n, hf, hcs⟩ := am_one_cases hone
  obtain ⟨raw, hd, hln, hk⟩ := am_ckM_at hck hf
  have had := hF.2
  have hK := hwd.1.1
  have hG : ∀ w ∈ am_G, w.before args s = true := fun w hw => hT w (am_inT hw)
  rcases hcs with ⟨hk0, L1, st1, hp, ho⟩ | ⟨hk0, pc1, st1, hp, ho⟩ | ⟨hk0, st1, h1, hp, ho⟩ | ⟨hk0, hp⟩ | ⟨hk0, hp⟩ | ⟨hk0, hp⟩ | ⟨hk0, v, hp, ho⟩
  · cases ho
    simp only [am_ck, hk0] at hk
    have hraw := of_decide_eq_true hk
    subst hraw
    refine am_s_pure hx hb hd ?_ hp hlh (fun ls1 hl1 => kk H locs ls1 hR hl hl1)
    rcases hln with hln | hln
    · rw [am_isw_kind hln] at hk0; cases hk0
    · exact hln
  · cases ho
    simp only [am_ck, hk0] at hk
    have hraw := of_decide_eq_true hk
    subst hraw
    exact am_s_br hx hb hd hln hp (kk H locs ls hR hl hlh)
  · cases ho
    simp only [am_ck, hk0] at hk
    have hgr := am_heap_gr hp
    have hle : h.length < am_RO := Nat.lt_of_le_of_lt hgr.1 hlt
    have e1 : h'.length - n0 = (h.length - n0) + (h'.length - h.length) := by have := hgr.1; omega
    have e2 : am_sl0 h' - s0 = (am_sl0 h - s0) + (am_sl0 h' - am_sl0 h) := by have := hgr.2.1; omega
    have hsame : h' = h → (am_isw raw = true ∨ n = am_ln raw) → True := fun _ _ => trivial
    unfold am_heap at hp
    split at hp
    · -- getfield
      obtain ⟨idx, ⟨C, T, N⟩, rfl, hq, hz, hlk⟩ := am_ck_getf hk
      obtain ⟨f1, f2, f3, f4, f5, f6, f7, f8, f9⟩ := am_cls _ _ hq
      have hn : n = 3 := hln.resolve_left (by intro q; cases q)
      subst hn
      exact am_s_getf hx hb hT had (Nat.le_of_lt hle) hown hK hR hq f1 hz (am_lk_in hlk) hd hp (fun eq => by rw [eq] at kk; exact kk H locs ls hR hl hlh)
    · -- putfield
      obtain ⟨idx, ⟨C, T, N⟩, rfl, hq, hz, hlk⟩ := am_ck_putf hk
      obtain ⟨f1, f2, f3, f4, f5, f6, f7, f8, f9⟩ := am_cls _ _ hq
      have hn : n = 3 := hln.resolve_left (by intro q; cases q)
      subst hn
      have hlen : h'.length = h.length ∧ am_sl0 h' = am_sl0 h := am_putf_len hp
      rw [hlen.1, hlen.2] at kk
      refine am_s_putf hx hb hT had (Nat.le_of_lt hle) hown hK hR hq f1 hz (am_lk_in hlk) f2 f3 (fun ec => ?_) hl hd hp (fun H1 locs1 hR1 hl1 => kk H1 locs1 ls hR1 hl1 hlh)
      obtain ⟨g1, g2⟩ := hin (by rw [ec]; exact f9)
      exact ⟨g1, by rw [g2, ec, f7]; exact f8 _ hz⟩
    · -- iaload
      have hraw := of_decide_eq_true hk
      subst hraw
      have hn : n = 1 := hln.resolve_left (by intro q; cases q)
      subst hn
      exact am_s_ial hx hb had hK hwd.2.1 hR hd hp (fun eq => by rw [eq] at kk; exact kk H locs ls hR hl hlh)
    · -- baload
      have hraw := of_decide_eq_true hk
      subst hraw
      have hn : n = 1 := hln.resolve_left (by intro q; cases q)
      subst hn
      exact am_s_bal hx hb had (Nat.le_of_lt hle) hK hR hd hp (fun eq => by rw [eq] at kk; exact kk H locs ls hR hl hlh)
    · -- aaload
      have hraw := of_decide_eq_true hk
      subst hraw
      have hn : n = 1 := hln.resolve_left (by intro q; cases q)
      subst hn
      exact am_s_aal hx hb had (Nat.le_of_lt hle) hwf.hok hK hR hd hp (fun eq => by rw [eq] at kk; exact kk H locs ls hR hl hlh)
    · -- iastore
      have hraw := of_decide_eq_true hk
      subst hraw
      have hn : n = 1 := hln.resolve_left (by intro q; cases q)
      subst hn
      have hlen : h'.length = h.length ∧ am_sl0 h' = am_sl0 h := am_ias_len hp
      rw [hlen.1, hlen.2] at kk
      exact am_s_ias hx hb had (Nat.le_of_lt hle) hK hR hl hd hp (fun H1 locs1 hR1 hl1 => kk H1 locs1 ls hR1 hl1 hlh)
    · -- bastore
      have hraw := of_decide_eq_true hk
      subst hraw
      have hn : n = 1 := hln.resolve_left (by intro q; cases q)
      subst hn
      have hlen : h'.length = h.length ∧ am_sl0 h' = am_sl0 h := am_bas_len hp
      rw [hlen.1, hlen.2] at kk
      exact am_s_bas hx hb had (Nat.le_of_lt hle) hK hR hl hd hp (fun H1 locs1 hR1 hl1 => kk H1 locs1 ls hR1 hl1 hlh)
    · -- aastore
      have hraw := of_decide_eq_true hk
      subst hraw
      have hn : n = 1 := hln.resolve_left (by intro q; cases q)
      subst hn
      have hlen : h'.length = h.length ∧ am_sl0 h' = am_sl0 h := am_aas_len hp
      rw [hlen.1, hlen.2] at kk
      exact am_s_aas hx hb had (Nat.le_of_lt hle) hK hR hl hd hp (fun H1 locs1 hR1 hl1 => kk H1 locs1 ls hR1 hl1 hlh)
    · -- arraylength
      have hraw := of_decide_eq_true hk
      subst hraw
      have hn : n = 1 := hln.resolve_left (by intro q; cases q)
      subst hn
      exact am_s_len hx hb had hwf.hok hwf.hty hK hwd.2.1 hR hd hp (fun eq => by rw [eq] at kk; exact kk H locs ls hR hl hlh)
    · -- new
      obtain ⟨idx, ⟨C, T, N⟩, rfl, hq, hlk⟩ := am_ck_new hk
      obtain ⟨f1, f2, f3, f4, f5, f6, f7, f8, f9⟩ := am_cls _ _ hq
      have hn : n = 3 := hln.resolve_left (by intro q; cases q)
      subst hn
      have hlen := am_new_len hp hq
      rw [e1, e2, hlen.1, hlen.2] at kk
      rw [e1, e2, hlen.1, hlen.2] at hrm
      exact am_s_new hx hb hT had hle hown hK hR hq f1 (am_lk_in hlk) f4 f5 f2 f6 hrm.1 hrm.2 hd hp (fun H1 hR1 => kk H1 locs ls hR1 hl hlh)
    · -- newarray
      have hraw := of_decide_eq_true hk
      subst hraw
      have hn : n = 2 := hln.resolve_left (by intro q; cases q)
      subst hn
      obtain ⟨hlen, k, hkt⟩ := am_newa_len hp
      rw [e1, e2, hlen] at kk
      rw [e1, e2, hlen] at hrm
      exact am_s_newa hx hb hT had hle hK hR (am_w_arr hkt) hrm.1 hrm.2 hd hp (fun H1 hR1 => kk H1 locs ls hR1 hl hlh)
    · -- anewarray
      obtain ⟨idx, rfl, hlk⟩ := am_ck_anew hk
      have hn : n = 3 := hln.resolve_left (by intro q; cases q)
      subst hn
      have hlen := am_anew_len hp
      rw [e1, e2, hlen] at kk
      rw [e1, e2, hlen] at hrm
      rcases hlk with ⟨rfl, hlk⟩ | ⟨rfl, hlk⟩
      · exact am_s_anew hx hb hT had hle hown hK hR rfl (am_lk_in hlk) hwd.1.2.2.1 hrm.1 hrm.2 hd hp (fun H1 hR1 => kk H1 locs ls hR1 hl hlh)
      · exact am_s_anew hx hb hT had hle hown hK hR rfl (am_lk_in hlk) hwd.1.2.2.2 hrm.1 hrm.2 hd hp (fun H1 hR1 => kk H1 locs ls hR1 hl hlh)
    · -- multianewarray
      obtain ⟨idx, rfl, hlk⟩ := am_ck_mna hk
      have hn : n = 4 := hln.resolve_left (by intro q; cases q)
      subst hn
      rw [e1, e2] at kk
      rw [e1, e2] at hrm
      exact am_s_mna hx hb hT hown (am_lk_in hlk) had hlt hK hwd.1.2.1 hR hl hrm.1 hrm.2 hd hp (fun H1 locs1 hR1 hl1 => kk H1 locs1 ls hR1 hl1 hlh)
    · -- getstatic
      obtain ⟨idx, rfl, hz, hlk⟩ := am_ck_gst hk
      have hn : n = 3 := hln.resolve_left (by intro q; cases q)
      subst hn
      cases hp
      refine am_s_gst (host := "TwoHeads") hx hb hown hwd hF hR hz ?_ hd (kk H locs ls hR hl hlh)
      rcases hlk with hlk | hlk
      · exact Or.inl (hT _ (am_lk_in hlk))
      · exact Or.inr (hT _ (am_lk_in hlk))
    · -- ldc
      obtain ⟨rfl, hz, rfl⟩ := am_ck_ldc hk
      have hn : n = 2 := hln.resolve_left (by intro q; cases q)
      subst hn
      cases hp
      exact am_s_ldc hx hb hown hwd hz hd (kk H locs ls hR hl hlh)
    · -- ldc_w
      obtain ⟨idx, rfl, hlk⟩ := am_ck_ldcw hk
      have hn : n = 3 := hln.resolve_left (by intro q; cases q)
      subst hn
      cases hp
      exact lv_ldcw hx hb hown (hT _ (am_lk_in hlk)) hd (kk H locs ls hR hl hlh)
    · -- ldc2_w
      obtain ⟨idx, rfl, hlk⟩ := am_ck_ldc2 hk
      have hn : n = 3 := hln.resolve_left (by intro q; cases q)
      subst hn
      cases hp
      exact lv_ldc2 hx hb hown (hT _ (am_lk_in hlk)) hd (kk H locs ls hR hl hlh)
    · -- checkcast
      obtain ⟨idx, rfl, hlk⟩ := am_ck_cst hk
      have hn : n = 3 := hln.resolve_left (by intro q; cases q)
      subst hn
      exact am_s_cst (ro := ro) (nL := 0) (z := 0) hx hb hT hown (am_lk_in hlk) had (Nat.le_of_lt hle) hK hR hd hp (fun eq => by rw [eq] at kk; exact kk H locs ls hR hl hlh)
    · -- arraycopy
      obtain ⟨idx, ⟨rfl, hlk⟩ | ⟨rfl, hlk⟩⟩ := am_ck_dyn hk
      · have hn : n = 3 := hln.resolve_left (by intro q; cases q)
        subst hn
        rcases hlk with ⟨-, hlk⟩ | ⟨hz, -⟩
        · have hlen : h'.length = h.length ∧ am_sl0 h' = am_sl0 h := am_acp_len hp
          rw [hlen.1, hlen.2] at kk
          exact am_s_acp hx hb (hml.trans hlh.1.symm) hT hown (am_lk_in hlk) am_w_sys.1 am_w_sys.2.1 am_w_sys.2.2 had (Nat.le_of_lt hle) hK hR hl (by omega) (by omega) hd hp (fun H1 locs1 hR1 hl1 => kk H1 locs1 ls hR1 hl1 hlh)
        · cases hz
      · rcases hlk with ⟨hz, -⟩ | ⟨hz, -⟩ | ⟨hz, -⟩ <;> cases hz
    · -- clone
      obtain ⟨idx, ⟨rfl, hlk⟩ | ⟨rfl, hlk⟩⟩ := am_ck_dyn hk
      · rcases hlk with ⟨hz, -⟩ | ⟨hz, -⟩ <;> cases hz
      · have hn : n = 3 := hln.resolve_left (by intro q; cases q)
        subst hn
        rcases hlk with ⟨-, hlk⟩ | ⟨hz, -⟩ | ⟨hz, -⟩
        · have hlen := am_cln_len hp
          rw [e1, e2, hlen] at kk
          rw [e1, e2, hlen] at hrm
          exact am_s_cln hx hb (hml.trans hlh.1.symm) hT hown (am_lk_in hlk) am_w_cln.1 am_w_cln.2.1 am_w_cln.2.2.1 am_w_cln.2.2.2.1 am_w_cln.2.2.2.2 had hle hK hR (by omega) (by omega) hrm.1 hrm.2 hd hp (fun H1 hR1 => kk H1 locs ls hR1 hl hlh)
        · cases hz
        · cases hz
    · -- length
      obtain ⟨idx, ⟨rfl, hlk⟩ | ⟨rfl, hlk⟩⟩ := am_ck_dyn hk
      · rcases hlk with ⟨hz, -⟩ | ⟨hz, -⟩ <;> cases hz
      · have hn : n = 3 := hln.resolve_left (by intro q; cases q)
        subst hn
        rcases hlk with ⟨hz, -⟩ | ⟨-, hlk⟩ | ⟨hz, -⟩
        · cases hz
        · have hle2 : h.length - n0 ≤ R.cells ∧ am_sl0 h - s0 ≤ R.slots := by omega
          exact am_s_str hx hb hml hlh.1 hG hown hwd hF hR hfr hlo hle2 (Or.inl ⟨hd, am_T_G (am_lk_in hlk) rfl am_nest_bad, hp⟩) (fun eq => by rw [eq] at kk; exact kk H locs ls hR hl hlh)
        · cases hz
    · -- charAt
      obtain ⟨idx, ⟨rfl, hlk⟩ | ⟨rfl, hlk⟩⟩ := am_ck_dyn hk
      · rcases hlk with ⟨hz, -⟩ | ⟨hz, -⟩ <;> cases hz
      · have hn : n = 3 := hln.resolve_left (by intro q; cases q)
        subst hn
        rcases hlk with ⟨hz, -⟩ | ⟨hz, -⟩ | ⟨-, hlk⟩
        · cases hz
        · cases hz
        · have hle2 : h.length - n0 ≤ R.cells ∧ am_sl0 h - s0 ≤ R.slots := by omega
          exact am_s_str hx hb hml hlh.1 hG hown hwd hF hR hfr hlo hle2 (Or.inr ⟨hd, am_T_G (am_lk_in hlk) rfl am_nest_bad, hp⟩) (fun eq => by rw [eq] at kk; exact kk H locs ls hR hl hlh)
    · -- min
      obtain ⟨idx, ⟨rfl, hlk⟩ | ⟨rfl, hlk⟩⟩ := am_ck_dyn hk
      · have hn : n = 3 := hln.resolve_left (by intro q; cases q)
        subst hn
        rcases hlk with ⟨hz, -⟩ | ⟨-, hlk⟩
        · cases hz
        · have hle2 : h.length - n0 ≤ R.cells ∧ am_sl0 h - s0 ≤ R.slots := by omega
          exact am_s_min hx hb hml hlh.1 hG hown (am_T_G (am_lk_in hlk) rfl am_nest_bad) (by omega) (by omega) hle2 hd hp (fun eq => by rw [eq] at kk; exact kk H locs ls hR hl hlh)
      · rcases hlk with ⟨hz, -⟩ | ⟨hz, -⟩ | ⟨hz, -⟩ <;> cases hz
    · cases hp
  · obtain ⟨as, rest, -, -, ho, -, -⟩ := am_cl_h hp
    cases ho
  · obtain ⟨as, rest, -, -, ho, -, -⟩ := am_cl_h hp
    cases ho
  · obtain ⟨as, rest, -, -, ho, -, -⟩ := am_cl_h hp
    cases ho
  · cases ho
end AmStep
