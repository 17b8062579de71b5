/-! ===== every method's contract, at every depth ===== -/
theorem am_rt_cases {M : am_M} {i : Instr} {st : List Value} {v : Option Value} (h : am_rt M i st = some v) : (i = .ireturn ∧ ∃ x, st = [.int x] ∧ v = some (.int x) ∧ (M.2.1 = true → x = 0 ∨ x = 1)) ∨ (i = .lreturn ∧ ∃ x, st = [.long x] ∧ v = some (.long x)) ∨ (i = .areturn ∧ ((∃ x, st = [.ref x] ∧ v = some (.ref x)) ∨ (st = [.null] ∧ v = some .null))) ∨ (i = .return_ ∧ st = [] ∧ v = none) := by
  unfold am_rt at h
  split at h
  · split at h
    · next x =>
      split at h
      · next hb =>
        split at h
        · next hx => cases h; exact Or.inl ⟨rfl, x, rfl, rfl, fun _ => hx⟩
        · cases h
      · next hb => cases h; exact Or.inl ⟨rfl, x, rfl, rfl, fun q => absurd q hb⟩
    · cases h
  · split at h
    · next x => cases h; exact Or.inr (Or.inl ⟨rfl, x, rfl, rfl⟩)
    · cases h
  · split at h
    · next x => cases h; exact Or.inr (Or.inr (Or.inl ⟨rfl, Or.inl ⟨x, rfl, rfl⟩⟩))
    · cases h; exact Or.inr (Or.inr (Or.inl ⟨rfl, Or.inr ⟨rfl, rfl⟩⟩))
    · cases h
  · split at h
    · cases h; exact Or.inr (Or.inr (Or.inr ⟨rfl, rfl, rfl⟩))
    · cases h
  · cases h
section AmMet
variable {ad adV : Nat → Nat} {D : va_G} {kA : Nat → ClassId} {sz0 : Nat} {H00 : Heap} {ro : Nat → Option (List Int32)}
set_option maxHeartbeats 4000000 in
theorem am_runMet (l : Launch) (hall : ∀ (k : Nat) (M : am_M) (nL : Nat), am_P k = some (M, nL) → k ≠ 5 → k ≠ 0 → k ≠ 4 → am_F k M nL) (nn : Nat) : ∀ d, am_IH l ad adV D kA sz0 H00 ro d nn := by
  intro d
  induction d with
  | zero => intro k as h v h1 M mL y bytes ret ok fl h5 h0 h4 hP hY hr; simp [am_run] at hr
  | succ d IH =>
    intro k as h v h1 M mL y bytes ret ok fl h5 h0 h4 hP hY hr hwf hlt hF
    obtain ⟨y2, b2, r2, o2, fl2, hY2, hpn, hcode, hini, hhan, hnL, hcls, hck, hcn, hfl⟩ := hall k M mL hP h5 h0 h4
    rw [hY] at hY2
    cases hY2
    unfold am_run at hr
    rw [hP] at hr
    dsimp only at hr
    split at hr
    · next hle =>
      refine Met.ofW (cc := bytes) (maxL := mL) (ret := ret) hpn rfl ?_
      intro p e s m args below meth c s₁ B hml hv
      obtain ⟨rfl, hwd, hR⟩ := hv
      have hx := B.exec
      have hb := B.bytes
      have hrt := B.returns
      have hts := atoms_spec (ws := Cond.code y bytes mL ret :: am_G) B.pre
      have hT : ∀ w ∈ am_T, w.before (as.map (am_v ad)).toArray s = true := fun w hw => by
        rcases List.mem_append.mp hw with hw | hw
        · exact hts w (List.mem_cons_of_mem _ hw)
        · exact va_Nw.use (am_nest_on w hw) (hwd.2.2.1 w hw)
      have hown : s.vm.findClass (am_own ok) = some m.cls := by rw [← hcls]; exact findClass_of_methodNamed B.named
      have hlocks := B.notSynchronized
      have hin : M.1 < 13 → meth.name = "<init>" ∧ am_own ok = am_own M.1 := fun q => by
        obtain ⟨g1, g2⟩ := hcn q
        exact ⟨by rw [(name_of_methodNamed B.named B.method).1]; exact g1, by rw [← hcls]; exact g2⟩
      rw [lg_entry_eq]
      have key := am_evW hall IH (e := e) (R := (headSpec (Cond.code y bytes mL ret :: am_G) (am_rm (d + 1) (h1.length - h.length) (am_sl0 h1 - am_sl0 h))).room) (Q := MQ below (am_Qc D kA ad sz0 H00 v h1) (as.map (am_v ad)).toArray s (h1.length - h.length) (am_sl0 h1 - am_sl0 h) (fun q => sz0 ≤ q)) (below := below) (n0 := h.length) (s0 := am_sl0 h) (v := v) (h1 := h1) hx hb hml hown hT hwd hF hck hin (Nat.le_refl (d + 5)) (Nat.le_refl (40 * (d + 1) + 200)) ⟨Nat.le_refl _, Nat.le_refl _⟩ hlt ?_ nn 0 (am_entry as mL) [] h s.heap [] _ hr hR (fun q hq => by cases hq) (am_entry_lh hle) hwf (Nat.le_refl _) (Nat.le_refl _)
      · rw [Nat.sub_self, Nat.sub_self] at key
        exact key
      · intro H1 locs1 pc1 ls1 st1 i n hf hk6 hrt1 hR1 hl1
        obtain ⟨raw, hd, hln, hk⟩ := am_ckM_at hck hf
        have hQ : ∀ t : State, t.heap = H1 → s.WarmedH t.vm → am_Qc D kA ad sz0 H00 v h1 (as.map (am_v ad)).toArray s (.returned (v.map (am_v ad))) t := fun t ht _ => ⟨rfl, by rw [ht]; exact hR1⟩
        rcases am_rt_cases hrt1 with ⟨rfl, x, rfl, rfl, hbx⟩ | ⟨rfl, x, rfl, rfl⟩ | ⟨rfl, hst⟩ | ⟨rfl, rfl, rfl⟩
        · have hk2 : (decide (raw = .ireturn) && am_ck5 M.2.1 ret .ireturn) = true := hk
          simp only [Bool.and_eq_true, decide_eq_true_eq, am_ck5] at hk2
          obtain ⟨rfl, hk2⟩ := hk2
          have hn : n = 1 := hln.resolve_left (by intro q; cases q)
          subst hn
          by_cases hB : M.2.1 = true
          · rw [if_pos hB] at hk2
            have hret := of_decide_eq_true hk2
            subst hret
            have hnar : narrow .boolean (.int x) = .int x := by rcases hbx hB with rfl | rfl <;> rfl
            exact W.zret hx hb hrt hnar hQ hl1 hd
          · rw [if_neg hB] at hk2
            have hret := of_decide_eq_true hk2
            subst hret
            exact W.iret hx hb hrt hQ hl1 hd
        · have hk2 : (decide (raw = .lreturn) && am_ck5 M.2.1 ret .lreturn) = true := hk
          simp only [Bool.and_eq_true, decide_eq_true_eq, am_ck5] at hk2
          obtain ⟨rfl, rfl⟩ := hk2
          have hn : n = 1 := hln.resolve_left (by intro q; cases q)
          subst hn
          exact W.lret hx hb hrt hQ hl1 hd
        · have hk2 : (decide (raw = .areturn) && am_ck5 M.2.1 ret .areturn) = true := hk
          simp only [Bool.and_eq_true, decide_eq_true_eq, am_ck5] at hk2
          obtain ⟨rfl, hk2⟩ := hk2
          have hn : n = 1 := hln.resolve_left (by intro q; cases q)
          subst hn
          have hrr : ∃ rt, ret = some rt ∧ ((∃ n, rt = .object n) ∨ ∃ t, rt = .array t) := by
            unfold am_isR at hk2
            split at hk2
            · exact ⟨_, rfl, Or.inl ⟨_, rfl⟩⟩
            · exact ⟨_, rfl, Or.inr ⟨_, rfl⟩⟩
            · cases hk2
          obtain ⟨rt, rfl, hrr⟩ := hrr
          rcases hst with ⟨x, rfl, rfl⟩ | ⟨rfl, rfl⟩
          · exact W.aret hx hb hrt hrr (Or.inr ⟨_, rfl⟩) hQ hl1 hd
          · exact W.aret hx hb hrt hrr (Or.inl rfl) hQ hl1 hd
        · have hk2 : (decide (raw = .return_) && am_ck5 M.2.1 ret .return_) = true := hk
          simp only [Bool.and_eq_true, decide_eq_true_eq, am_ck5] at hk2
          obtain ⟨rfl, rfl⟩ := hk2
          have hn : n = 1 := hln.resolve_left (by intro q; cases q)
          subst hn
          exact W.vret hx hb hrt hQ hl1 hd
    · cases hr
end AmMet
