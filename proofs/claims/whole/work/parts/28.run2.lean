/-! ===== the run ===== -/
theorem am_kind3 {i : Instr} (h : am_kind i = 3) : ∃ z, i = .invokevirtual z := by
  cases i <;> first | exact ⟨_, rfl⟩ | cases h
theorem am_kind4 {i : Instr} (h : am_kind i = 4) : ∃ z, i = .invokestatic z := by
  cases i <;> first | exact ⟨_, rfl⟩ | cases h
theorem am_kind5 {i : Instr} (h : am_kind i = 5) : ∃ z, i = .invokespecial z := by
  cases i <;> first | exact ⟨_, rfl⟩ | cases h
theorem am_ck_v {oc z : Nat} {raw : Instr} (h : am_ck3 oc raw (.invokevirtual z) = true) : ∃ idx y b r o f, raw = .invokevirtual idx ∧ am_Y (z / 256) = some (y, b, r, o, f) ∧ am_cN oc y idx = true ∧ am_np y = some (z / 16 % 16 - 1) ∧ 0 < z / 16 % 16 ∧ f = 1 ∧ o = z % 16 ∧ z % 16 < 13 ∧ ¬ z / 256 = 5 ∧ ¬ z / 256 = 4 ∧ ¬ z / 256 = 0 := by
  simp only [am_ck3] at h
  split at h
  · next idx =>
    split at h
    · next q hq =>
      obtain ⟨y, b, r, o, f⟩ := q
      simp only [Bool.and_eq_true, decide_eq_true_eq] at h
      obtain ⟨⟨⟨⟨⟨⟨⟨⟨h1, h2⟩, h3⟩, h4⟩, h5⟩, h6⟩, h7⟩, h8⟩, h9⟩ := h
      exact ⟨idx, y, b, r, o, f, rfl, hq, h1, h2, h3, h4, h5, h6, h7, h8, h9⟩
    · cases h
  · cases h
theorem am_ck_s {oc z : Nat} {raw : Instr} (h : am_ck3 oc raw (.invokestatic z) = true) : ∃ idx y b r o f, raw = .invokestatic idx ∧ am_Y (z / 256) = some (y, b, r, o, f) ∧ am_cN oc y idx = true ∧ am_np y = some (z / 16 % 16) ∧ f = 0 ∧ ¬ z / 256 = 5 ∧ ¬ z / 256 = 4 ∧ ¬ z / 256 = 0 := by
  simp only [am_ck3] at h
  split at h
  · next idx =>
    split at h
    · next q hq =>
      obtain ⟨y, b, r, o, f⟩ := q
      simp only [Bool.and_eq_true, decide_eq_true_eq] at h
      obtain ⟨⟨⟨⟨⟨h1, h2⟩, h3⟩, h4⟩, h5⟩, h6⟩ := h
      exact ⟨idx, y, b, r, o, f, rfl, hq, h1, h2, h3, h4, h5, h6⟩
    · cases h
  · cases h
theorem am_ck_i {oc z : Nat} {raw : Instr} (h : am_ck3 oc raw (.invokespecial z) = true) : ∃ idx y b r o f, raw = .invokespecial idx ∧ am_Y (z / 256) = some (y, b, r, o, f) ∧ am_cN oc y idx = true ∧ am_np y = some (z / 16 % 16 - 1) ∧ 0 < z / 16 % 16 ∧ f = 2 ∧ ¬ z / 256 = 5 ∧ ¬ z / 256 = 4 ∧ (¬ z / 256 = 0 ∨ am_lk oc idx = some (.methodLink (am_own oc) idx Lib.objectInit)) := by
  simp only [am_ck3] at h
  split at h
  · next idx =>
    split at h
    · next q hq =>
      obtain ⟨y, b, r, o, f⟩ := q
      simp only [Bool.and_eq_true, Bool.or_eq_true, decide_eq_true_eq] at h
      obtain ⟨⟨⟨⟨⟨⟨h1, h2⟩, h3⟩, h4⟩, h5⟩, h6⟩, h7⟩ := h
      exact ⟨idx, y, b, r, o, f, rfl, hq, h1, h2, h3, h4, h5, h6, h7⟩
    · cases h
  · cases h
theorem am_run_P {ro : Nat → Option (List Int32)} {d n k : Nat} {as : List Value} {h : am_H} {r : am_An} (e : am_run ro d n k as h = some r) : ∃ M nL, am_P k = some (M, nL) := by
  cases d with
  | zero => simp [am_run] at e
  | succ d =>
    unfold am_run at e
    split at e
    · next M nL hP => exact ⟨M, nL, hP⟩
    · cases e
theorem am_run_0 {ro : Nat → Option (List Int32)} {d n : Nat} {as : List Value} {h : am_H} {v : Option Value} {h1 : am_H} (e : am_run ro d n 0 as h = some (v, h1)) : v = none ∧ h1 = h := by
  cases d with
  | zero => simp [am_run] at e
  | succ d =>
    unfold am_run at e
    have hP : am_P 0 = some (mc_objinit, 1) := rfl
    rw [hP] at e
    dsimp only at e
    split at e
    · cases n with
      | zero => simp [am_ev] at e
      | succ n =>
        unfold am_ev at e
        have h1 : am_one ro mc_objinit (0, am_entry as 1, [], h) = some (.inr (.inr none)) := rfl
        rw [h1] at e
        cases e
        exact ⟨rfl, rfl⟩
    · cases e
theorem am_args_sl (ad : Nat → Nat) : ∀ (as : List Value), (am_args as).length = (lg_sl (as.map (am_v ad))).length ∧ ∀ (i : Nat) (v : Value), (am_args as)[i]? = some (some v) → (lg_sl (as.map (am_v ad)))[i]? = some (.val (am_v ad v)) := by
  intro as
  induction as with
  | nil => exact ⟨rfl, fun i v h => by simp [am_args] at h⟩
  | cons w as ih =>
    have two : ∀ w : Value, w.category = 2 → am_v ad w = w → am_args (w :: as) = some w :: none :: am_args as → (am_args (w :: as)).length = (lg_sl ((w :: as).map (am_v ad))).length ∧ ∀ (i : Nat) (v : Value), (am_args (w :: as))[i]? = some (some v) → (lg_sl ((w :: as).map (am_v ad)))[i]? = some (.val (am_v ad v)) := fun w hc hw ha => by
      have e2 : lg_sl ((w :: as).map (am_v ad)) = .val w :: .second :: lg_sl (as.map (am_v ad)) := by
        simp only [lg_sl, List.map_cons, List.flatMap_cons, hw, hc, if_pos]
        rfl
      rw [ha, e2]
      refine ⟨by simp only [List.length_cons, ih.1], fun i v h => ?_⟩
      match i, h with
      | 0, h => cases h; rw [hw]; rfl
      | 1, h => cases h
      | (i + 2), h => exact ih.2 i v h
    have one : ∀ w : Value, w.category = 1 → am_args (w :: as) = some w :: am_args as → (am_args (w :: as)).length = (lg_sl ((w :: as).map (am_v ad))).length ∧ ∀ (i : Nat) (v : Value), (am_args (w :: as))[i]? = some (some v) → (lg_sl ((w :: as).map (am_v ad)))[i]? = some (.val (am_v ad v)) := fun w hc ha => by
      have hc2 : ¬ (am_v ad w).category = 2 := by rw [am_v_cat, hc]; decide
      have e2 : lg_sl ((w :: as).map (am_v ad)) = .val (am_v ad w) :: lg_sl (as.map (am_v ad)) := by
        simp only [lg_sl, List.map_cons, List.flatMap_cons]
        rw [if_neg hc2]
        rfl
      rw [ha, e2]
      refine ⟨by simp only [List.length_cons, ih.1], fun i v h => ?_⟩
      match i, h with
      | 0, h => cases h; rfl
      | (i + 1), h => exact ih.2 i v h
    cases w <;> first | exact two _ rfl rfl rfl | exact one _ rfl rfl
theorem am_entry_lh {ad : Nat → Nat} {as : List Value} {nL : Nat} (hle : (am_args as).length ≤ nL) : am_lh ((lg_sl (as.map (am_v ad)) ++ List.replicate (nL - (lg_sl (as.map (am_v ad))).length) Slot.unset).toArray) nL ad (am_entry as nL) := by
  obtain ⟨h1, h2⟩ := am_args_sl ad as
  have h3 := lv_entry (as.map (am_v ad)) (n := nL) (by rw [← h1]; exact hle)
  refine ⟨h3.1, ?_, h3.2.1, fun i v hi => ?_⟩
  · unfold am_entry
    rw [List.length_append, List.length_replicate]
    omega
  · unfold am_entry at hi
    by_cases hl : i < (am_args as).length
    · rw [List.getElem?_append_left hl] at hi
      have := h2 i v hi
      rw [List.getElem?_toArray, List.getElem?_append_left (by omega)]
      exact this
    · rw [List.getElem?_append_right (by omega), List.getElem?_replicate] at hi
      split at hi <;> cases hi
section AmRun
variable {l : Launch} {ad adV : Nat → Nat} {D : va_G} {kA : Nat → ClassId} {sz0 : Nat} {H00 : Heap} {ro : Nat → Option (List Int32)}
/-- the contracts of all methods at a depth of d -/
def am_IH (l : Launch) (ad adV : Nat → Nat) (D : va_G) (kA : Nat → ClassId) (sz0 : Nat) (H00 : Heap) (ro : Nat → Option (List Int32)) (d n : Nat) : Prop :=
  ∀ (k : Nat) (as : List Value) (h : am_H) (v : Option Value) (h1 : am_H) (M : am_M) (mL : Nat) (y : MethodName) (bytes : ByteArray) (ret : Option FieldType) (ok fl : Nat), k ≠ 5 → k ≠ 0 → k ≠ 4 → am_P k = some (M, mL) → am_Y k = some (y, bytes, ret, ok, fl) → am_run ro d n k as h = some (v, h1) → am_wf h → h1.length < am_RO → am_Fx ad sz0 H00 →
    Met l y (Cond.code y bytes mL ret :: am_G) (am_rm d (h1.length - h.length) (am_sl0 h1 - am_sl0 h)) (am_Pc D kA ad adV sz0 H00 ro as h) (am_Qc D kA ad sz0 H00 v h1) (h1.length - h.length) (am_sl0 h1 - am_sl0 h) (fun q => sz0 ≤ q)
set_option maxHeartbeats 4000000 in
theorem am_evW (hall : ∀ (k : Nat) (M : am_M) (nL : Nat), am_P k = some (M, nL) → k ≠ 5 → k ≠ 0 → k ≠ 4 → am_F k M nL) {d nn : Nat} (IH : am_IH l ad adV D kA sz0 H00 ro d nn) {p : Program} {e : Env} {R : Room} {s : State} {m : MethodId} {args : Array Value} {below : List Frame} {meth : Method} {c : Code} {Q : State → Prop} {cc : ByteArray} {nL oc : Nat} {ret : Option FieldType} {M : am_M} {n0 s0 : Nat} {v : Option Value} {h1 : am_H}
    (hx : p.tables.exec = Jvm.exec) (hb : c.code = cc) (hml : c.maxLocals = nL) (hown : s.vm.findClass (am_own oc) = some m.cls) (hT : ∀ w ∈ am_T, w.before args s = true) (hwd : am_Wd D kA ad adV sz0 H00 ro s) (hF : am_Fx ad sz0 H00) (hck : am_ckM oc ret M cc 0 (16 * M.2.2.length) = true) (hin : M.1 < 13 → meth.name = "<init>" ∧ am_own oc = am_own M.1) (hfr : d + 5 ≤ R.frames) (hlo : 40 * (d + 1) + 200 ≤ R.locals) (hrm : h1.length - n0 ≤ R.cells ∧ am_sl0 h1 - s0 ≤ R.slots) (hlt : h1.length < am_RO)
    (hend : ∀ (H1 : Heap) (locs1 : List Loc) (pc1 : Nat) (ls1 : Array Slot) (st1 : List Value) (i : Instr) (n : Nat), am_fi M pc1 = some (i, n) → 6 ≤ am_kind i → am_rt M i st1 = some v → am_RH D kA ad sz0 H00 h1 H1 → (∀ q ∈ locs1, sz0 ≤ q.base) → W p l e R s m args below meth c H1 locs1 (h1.length - n0) (am_sl0 h1 - s0) Q (F0 m pc1 ls1 (st1.map (am_v ad)))) :
    ∀ (n pc : Nat) (L : am_L) (st : List Value) (h : am_H) (H : Heap) (locs : List Loc) (ls : Array Slot), am_ev ro (am_run ro d nn) M n (pc, L, st, h) = some (v, h1) → am_RH D kA ad sz0 H00 h H → (∀ q ∈ locs, sz0 ≤ q.base) → am_lh ls nL ad L → am_wf h → n0 ≤ h.length → s0 ≤ am_sl0 h → W p l e R s m args below meth c H locs (h.length - n0) (am_sl0 h - s0) Q (F0 m pc ls (st.map (am_v ad))) := by
  intro n
  induction n with
  | zero => intro pc L st h H locs ls ev; simp [am_ev] at ev
  | succ n ih =>
    intro pc L st h H locs ls ev hR hl hlh hwf hn0 hs0
    have hgr1 : am_gr h h1 := am_ev_gr (fun k as h v h1 hr => am_run_gr d nn k as h v h1 hr) _ _ _ _ _ _ _ ev
    unfold am_ev at ev
    cases ho : am_one ro M (pc, L, st, h) with
    | none => rw [ho] at ev; simp at ev
    | some o =>
      rw [ho] at ev
      rcases o with ⟨pc', L', st', h'⟩ | o
      · -- on in the frame
        have ev : am_ev ro (am_run ro d nn) M n (pc', L', st', h') = some (v, h1) := ev
        have hgr2 : am_gr h' h1 := am_ev_gr (fun k as h v h1 hr => am_run_gr d nn k as h v h1 hr) _ _ _ _ _ _ _ ev
        have hgr3 : am_gr h h' := by
          obtain ⟨i, n2, hf, hcs⟩ := am_one_cases ho
          rcases hcs with ⟨-, L1, st1, -, ho2⟩ | ⟨-, pc1, st1, -, ho2⟩ | ⟨-, st1, h2, hh, ho2⟩ | ⟨-, hh⟩ | ⟨-, hh⟩ | ⟨-, hh⟩ | ⟨-, v1, -, ho2⟩
          · cases ho2; exact am_gr.refl _
          · cases ho2; exact am_gr.refl _
          · cases ho2; exact am_heap_gr hh
          · obtain ⟨as, rest, -, -, ho2, -, -⟩ := am_cl_h hh; cases ho2
          · obtain ⟨as, rest, -, -, ho2, -, -⟩ := am_cl_h hh; cases ho2
          · obtain ⟨as, rest, -, -, ho2, -, -⟩ := am_cl_h hh; cases ho2
          · cases ho2
        have b1 := hgr2.1
        have b2 := hgr2.2.1
        have b3 := hgr3.1
        have b4 := hgr3.2.1
        exact am_stepW hx hb hml hown hT hwd hF hck hin (by omega) (by omega) hn0 hs0 hR hl hlh hwf ho ⟨by omega, by omega⟩ (by omega) (fun H1 locs1 ls1 hR1 hl1 hlh1 => ih pc' L' st' h' H1 locs1 ls1 ev hR1 hl1 hlh1 (hgr3.2.2 hwf) (by omega) (by omega))
      · obtain ⟨i, n2, hf, hcs⟩ := am_one_cases ho
        obtain ⟨raw, hd, hln, hk⟩ := am_ckM_at hck hf
        -- what a call needs, by its kind
        have call : ∀ (md z idx : Nat) (y : MethodName) (by1 : ByteArray) (r1 : Option FieldType) (o1 f1 : Nat) (as rest : List Value), o = .inl (z / 256, as, (pc + 3, L, rest, h)) → am_pop (z / 16 % 16) [] st = some (as, rest) → am_w rest ≤ 8 → am_Y (z / 256) = some (y, by1, r1, o1, f1) → am_cN oc y idx = true → ¬ z / 256 = 5 → ¬ z / 256 = 4 → ¬ z / 256 = 0 →
            ((f1 = 0 ∧ decode cc pc = .ok (.invokestatic idx, 3) ∧ am_np y = some as.length) ∨ (f1 = 1 ∧ decode cc pc = .ok (.invokevirtual idx, 3) ∧ ∃ b As ci fs, as = .ref b :: As ∧ am_np y = some As.length ∧ h[b]? = some (.inr (.inr (ci, fs))) ∧ ci = o1 ∧ o1 < 13) ∨ (f1 = 2 ∧ decode cc pc = .ok (.invokespecial idx, 3) ∧ ∃ b As, as = .ref b :: As ∧ am_np y = some As.length)) →
            W p l e R s m args below meth c H locs (h.length - n0) (am_sl0 h - s0) Q (F0 m pc ls (st.map (am_v ad))) := by
          intro md z idx y by1 r1 o1 f1 as rest hoc hpop hw hY hcN h5 h4 h0 hkind
          subst hoc
          dsimp only at ev
          split at ev
          · next v2 h2 hcl =>
            obtain ⟨M2, mL2, hP2⟩ := am_run_P hcl
            have g1 : am_gr h h2 := am_run_gr _ _ _ _ _ _ _ hcl
            have g2 : am_gr h2 h1 := am_ev_gr (fun k as h v h1 hr => am_run_gr d nn k as h v h1 hr) _ _ _ _ _ _ _ ev
            have b1 := g1.1
            have b2 := g1.2.1
            have b3 := g2.1
            have b4 := g2.2.1
            have q1 : h.length - n0 + (h2.length - h.length) ≤ R.cells := by clear hkind; omega
            have q2 : am_sl0 h - s0 + (am_sl0 h2 - am_sl0 h) ≤ R.slots := by clear hkind; omega
            have hMet := IH (z / 256) as h v2 h2 M2 mL2 y by1 r1 o1 f1 h5 h0 h4 hP2 hY hcl hwf (by omega) hF
            refine am_callW (n := 0) (z := 0) hx hb hml hown hT hwd hF hR hl hlh.1 (by omega) hfr hlo (hall _ _ _ hP2 h5 h0 h4) hY hMet (am_pop_st hpop).1 hw ⟨q1, q2⟩ hcN hkind (fun H1 locs1 hR1 hl1 => ?_)
            have e1 : h.length - n0 + (h2.length - h.length) = h2.length - n0 := by omega
            have e2 : am_sl0 h - s0 + (am_sl0 h2 - am_sl0 h) = am_sl0 h2 - s0 := by omega
            rw [e1, e2]
            have e3 : (v2.map (am_v ad)).toList ++ rest.map (am_v ad) = (v2.toList ++ rest).map (am_v ad) := by
              cases v2 <;> rfl
            rw [e3]
            exact ih (pc + 3) L _ h2 H1 locs1 ls ev hR1 hl1 hlh (g1.2.2 hwf) (by omega) (by omega)
          · cases ev
        rcases hcs with ⟨-, L1, st1, -, ho2⟩ | ⟨-, pc1, st1, -, ho2⟩ | ⟨-, st1, h2, hh, ho2⟩ | ⟨hk0, hh⟩ | ⟨hk0, hh⟩ | ⟨hk0, hh⟩ | ⟨hk0, v1, hrt, ho2⟩
        · cases ho2
        · cases ho2
        · cases ho2
        · -- virtual
          obtain ⟨z, rfl⟩ := am_kind3 hk0
          have hk : am_ck3 oc raw (.invokevirtual z) = true := hk
          obtain ⟨idx, y, by1, r1, o1, f1, rfl, hY, hcN, hnp, hpos, hf1, ho1, hz13, h5, h4, h0⟩ := am_ck_v hk
          obtain ⟨as, rest, hpop, hw, ho2, hvirt, -⟩ := am_cl_h hh
          cases ho2
          have hn : n2 = 3 := hln.resolve_left (by intro q; cases q)
          subst hn
          obtain ⟨b, As, ci, fs, rfl, hhb, hci⟩ := hvirt rfl
          have hlen := (am_pop_st hpop).2
          have hz : am_cz (.invokevirtual z) = z := rfl
          rw [hz] at hlen hci hpop
          refine call 1 z idx y by1 r1 o1 f1 _ rest rfl hpop hw hY hcN h5 h4 h0 (Or.inr (Or.inl ⟨hf1, hd, b, As, ci, fs, rfl, ?_, hhb, by omega, by omega⟩))
          rw [hnp]
          simp only [List.length_cons] at hlen
          congr 1
          omega
        · -- static
          obtain ⟨z, rfl⟩ := am_kind4 hk0
          have hk : am_ck3 oc raw (.invokestatic z) = true := hk
          obtain ⟨idx, y, by1, r1, o1, f1, rfl, hY, hcN, hnp, hf1, h5, h4, h0⟩ := am_ck_s hk
          obtain ⟨as, rest, hpop, hw, ho2, -, -⟩ := am_cl_h hh
          cases ho2
          have hn : n2 = 3 := hln.resolve_left (by intro q; cases q)
          subst hn
          have hlen := (am_pop_st hpop).2
          have hz : am_cz (.invokestatic z) = z := rfl
          rw [hz] at hlen hpop
          exact call 0 z idx y by1 r1 o1 f1 as rest rfl hpop hw hY hcN h5 h4 h0 (Or.inl ⟨hf1, hd, by rw [hnp, hlen]⟩)
        · -- a constructor
          obtain ⟨z, rfl⟩ := am_kind5 hk0
          have hk : am_ck3 oc raw (.invokespecial z) = true := hk
          obtain ⟨idx, y, by1, r1, o1, f1, rfl, hY, hcN, hnp, hpos, hf1, h5, h4, h0⟩ := am_ck_i hk
          obtain ⟨as, rest, hpop, hw, ho2, -, hcons⟩ := am_cl_h hh
          cases ho2
          have hn : n2 = 3 := hln.resolve_left (by intro q; cases q)
          subst hn
          obtain ⟨b, As, rfl⟩ := hcons (by decide)
          have hlen := (am_pop_st hpop).2
          have hz : am_cz (.invokespecial z) = z := rfl
          rw [hz] at hlen hpop
          by_cases hz0 : z / 256 = 0
          · -- Object's own
            have hlk := h0.resolve_left (fun q => q hz0)
            have hz1 : am_cz (.invokespecial z) / 256 = 0 := hz0
            dsimp only at ev
            rw [hz1] at ev
            rw [hz0] at hY
            cases hY
            have hAs : As = [] := by
              have e9 : am_np ⟨"java/lang/Object", "<init>", "()V"⟩ = some 0 := by decide +kernel
              rw [e9] at hnp
              simp only [List.length_cons] at hlen
              have : z / 16 % 16 - 1 = 0 := (Option.some.inj hnp).symm
              exact List.length_eq_zero_iff.mp (by omega)
            subst hAs
            split at ev
            · next v2 h2 hcl =>
              obtain ⟨rfl, rfl⟩ := am_run_0 hcl
              have hstk : st.map (am_v ad) = .ref (ad b) :: rest.map (am_v ad) := by
                rw [(am_pop_st hpop).1]; rfl
              rw [hstk]
              refine W.objInit hx hb hown (hT _ (am_lk_in hlk)) (hT _ (am_inT (am_inG (i := 118) (by decide +kernel) rfl))) (hT (.code Lib.objectInit ⟨#[0xb1]⟩ 1 none) (am_inT (am_inG (i := 119) (by decide +kernel) rfl))) rfl (hlh.1.trans hml.symm) rfl hd (by omega) ?_ ?_
              · show 2 * 0 + _ + 12 ≤ _
                rw [am_w_map]
                omega
              · exact ih (pc + 3) L _ h2 H locs ls ev hR hl hlh hwf hn0 hs0
            · cases ev
          · refine call 2 z idx y by1 r1 o1 f1 _ rest rfl hpop hw hY hcN h5 h4 hz0 (Or.inr (Or.inr ⟨hf1, hd, b, As, rfl, ?_⟩))
            rw [hnp]
            simp only [List.length_cons] at hlen
            congr 1
            omega
        · -- the end
          cases ho2
          cases ev
          exact hend H locs pc ls st i n2 hf hk0 hrt hR hl
end AmRun
