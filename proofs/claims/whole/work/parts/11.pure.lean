/-! ===== what is pure: a step of the abstract machine is one of the machine ===== -/
def am_ln (i : Instr) : Nat := match i with
  | .bipush _ | .iload _ | .lload _ | .aload _ | .istore _ | .lstore _ | .astore _ | .ldc _ | .newarray _ => 2
  | .sipush _ | .iinc _ _ | .goto _ | .ifCond _ _ | .if_icmp _ _ | .ifnonnull _ | .getfield _ | .putfield _ | .getstatic _ | .invokevirtual _ | .invokestatic _ | .invokespecial _ | .new _ | .anewarray _ | .checkcast _ | .ldc_w _ | .ldc2_w _ => 3
  | .multianewarray _ _ => 4
  | .invokedynamic _ => 3
  | _ => 1
def am_isw (i : Instr) : Bool := match i with
  | .tableswitch _ _ _ _ => true
  | _ => false
theorem am_b_inv {f : Int32 → Int32 → Int32} {L L' : am_L} {st st' : List Value} (h : am_b f L st = some (L', st')) : ∃ x y r, st = .int y :: .int x :: r ∧ L' = L ∧ st' = .int (f x y) :: r := by
  unfold am_b at h
  split at h
  · next y x r => cases h; exact ⟨x, y, r, rfl, rfl, rfl⟩
  · cases h
theorem am_u_inv {f : Int32 → Int32} {L L' : am_L} {st st' : List Value} (h : am_u f L st = some (L', st')) : ∃ x r, st = .int x :: r ∧ L' = L ∧ st' = .int (f x) :: r := by
  unfold am_u at h
  split at h
  · next x r => cases h; exact ⟨x, r, rfl, rfl, rfl⟩
  · cases h
theorem am_bl_inv {f : Int64 → Int64 → Int64} {L L' : am_L} {st st' : List Value} (h : am_bl f L st = some (L', st')) : ∃ x y r, st = .long y :: .long x :: r ∧ L' = L ∧ st' = .long (f x y) :: r := by
  unfold am_bl at h
  split at h
  · next y x r => cases h; exact ⟨x, y, r, rfl, rfl, rfl⟩
  · cases h
theorem am_sh_inv {f : Int64 → Int32 → Int64} {L L' : am_L} {st st' : List Value} (h : am_sh f L st = some (L', st')) : ∃ x y r, st = .int y :: .long x :: r ∧ L' = L ∧ st' = .long (f x y) :: r := by
  unfold am_sh at h
  split at h
  · next y x r => cases h; exact ⟨x, y, r, rfl, rfl, rfl⟩
  · cases h
theorem am_dv_inv {f : Int32 → Int32 → Int32} {L L' : am_L} {st st' : List Value} (h : am_dv f L st = some (L', st')) : ∃ x y r, ¬ y = 0 ∧ st = .int y :: .int x :: r ∧ L' = L ∧ st' = .int (f x y) :: r := by
  unfold am_dv at h
  split at h
  · next y x r =>
    split at h
    · cases h
    · next hy => cases h; exact ⟨x, y, r, hy, rfl, rfl, rfl⟩
  · cases h
theorem am_li_inv {L L' : am_L} {st st' : List Value} {i : Nat} (h : am_li L st i = some (L', st')) : ∃ x, am_ld L i = some (.int x) ∧ L' = L ∧ st' = .int x :: st := by
  unfold am_li at h
  split at h
  · next x hx => cases h; exact ⟨x, hx, rfl, rfl⟩
  · cases h
theorem am_ll_inv {L L' : am_L} {st st' : List Value} {i : Nat} (h : am_ll L st i = some (L', st')) : ∃ x, am_ld L i = some (.long x) ∧ L' = L ∧ st' = .long x :: st := by
  unfold am_ll at h
  split at h
  · next x hx => cases h; exact ⟨x, hx, rfl, rfl⟩
  · cases h
theorem am_la_inv {L L' : am_L} {st st' : List Value} {i : Nat} (h : am_la L st i = some (L', st')) : (∃ x, am_ld L i = some (.ref x) ∧ L' = L ∧ st' = .ref x :: st) ∨ (am_ld L i = some .null ∧ L' = L ∧ st' = .null :: st) := by
  unfold am_la at h
  split at h
  · next x hx => cases h; exact Or.inl ⟨x, hx, rfl, rfl⟩
  · next hx => cases h; exact Or.inr ⟨hx, rfl, rfl⟩
  · cases h
theorem am_si_inv {L L' : am_L} {st st' : List Value} {i : Nat} (h : am_si L st i = some (L', st')) : ∃ x, st = .int x :: st' ∧ am_st1 L i (.int x) = some L' := by
  unfold am_si at h
  split at h
  · next x r =>
    split at h
    · next L2 h2 => cases h; exact ⟨x, rfl, h2⟩
    · cases h
  · cases h
theorem am_sl_inv {L L' : am_L} {st st' : List Value} {i : Nat} (h : am_sl L st i = some (L', st')) : ∃ x, st = .long x :: st' ∧ am_st2 L i (.long x) = some L' := by
  unfold am_sl at h
  split at h
  · next x r =>
    split at h
    · next L2 h2 => cases h; exact ⟨x, rfl, h2⟩
    · cases h
  · cases h
theorem am_sa_inv {L L' : am_L} {st st' : List Value} {i : Nat} (h : am_sa L st i = some (L', st')) : ∃ x, st = .ref x :: st' ∧ am_st1 L i (.ref x) = some L' := by
  unfold am_sa at h
  split at h
  · next x r =>
    split at h
    · next L2 h2 => cases h; exact ⟨x, rfl, h2⟩
    · cases h
  · cases h
theorem am_st1_lt {L L' : am_L} {i : Nat} {v : Value} (h : am_st1 L i v = some L') : i < L.length := by
  unfold am_st1 at h
  split at h
  · assumption
  · cases h
theorem am_st2_lt {L L' : am_L} {i : Nat} {v : Value} (h : am_st2 L i v = some L') : i + 1 < L.length := by
  unfold am_st2 at h
  split at h
  · assumption
  · cases h
section AmPure
variable {p : Program} {l : Launch} {e : Env} {R : Room} {s : State} {m : MethodId} {args : Array Value} {below : List Frame} {meth : Method} {c : Code} {H : Heap} {locs : List Loc} {cells slots : Nat} {Q : State → Prop} {cc : ByteArray} {pc nL : Nat} {ls : Array Slot} {ad : Nat → Nat}
set_option maxHeartbeats 4000000 in
theorem am_s_pure (hx : p.tables.exec = Jvm.exec) (hb : c.code = cc) {i : Instr} {n : Nat} {L L' : am_L} {st st' : List Value} (hd : decode cc pc = .ok (i, n)) (hn : n = am_ln i) (hp : am_pure i L st = some (L', st')) (hl : am_lh ls nL ad L)
    (kk : ∀ ls' : Array Slot, am_lh ls' nL ad L' → W p l e R s m args below meth c H locs cells slots Q (F0 m (pc + n) ls' (st'.map (am_v ad)))) : W p l e R s m args below meth c H locs cells slots Q (F0 m pc ls (st.map (am_v ad))) := by
  subst hn
  unfold am_pure at hp
  split at hp
  · cases hp; exact lv_iconst hx hb hd rfl (kk ls hl)
  · cases hp; exact lv_bipush hx hb hd rfl (kk ls hl)
  · cases hp; exact lv_sipush hx hb hd rfl (kk ls hl)
  · cases hp; exact lv_lconst hx hb hd rfl (kk ls hl)
  · cases hp; exact lv_null hx hb hd (kk ls hl)
  · obtain ⟨x, h1, rfl, rfl⟩ := am_li_inv hp; exact lv_iload hx hb hd (hl.ld h1) (kk ls hl)
  · obtain ⟨x, h1, rfl, rfl⟩ := am_li_inv hp; exact lv_iload_n hx hb hd rfl (hl.ld h1) (kk ls hl)
  · obtain ⟨x, h1, rfl, rfl⟩ := am_ll_inv hp; exact lv_lload hx hb hd (hl.ld h1) (kk ls hl)
  · obtain ⟨x, h1, rfl, rfl⟩ := am_ll_inv hp; exact lv_lload_n hx hb hd rfl (hl.ld h1) (kk ls hl)
  · rcases am_la_inv hp with ⟨x, h1, rfl, rfl⟩ | ⟨h1, rfl, rfl⟩
    · exact lv_aload hx hb hd (hl.ld h1) (kk ls hl)
    · exact lv_aloadN hx hb hd (hl.ld h1) (kk ls hl)
  · rcases am_la_inv hp with ⟨x, h1, rfl, rfl⟩ | ⟨h1, rfl, rfl⟩
    · exact lv_aload_n hx hb hd rfl (hl.ld h1) (kk ls hl)
    · exact lv_aload_nN hx hb hd rfl (hl.ld h1) (kk ls hl)
  · obtain ⟨x, rfl, h1⟩ := am_si_inv hp; exact lv_istore hx hb hd hl.has (by have := am_st1_lt h1; have := hl.2.1; omega) rfl (fun ls' h => kk ls' (am_lh.st1 hl.2.1 h1 h))
  · obtain ⟨x, rfl, h1⟩ := am_si_inv hp; exact lv_istore_n hx hb hd rfl hl.has (by have := am_st1_lt h1; have := hl.2.1; omega) rfl (fun ls' h => kk ls' (am_lh.st1 hl.2.1 h1 h))
  · obtain ⟨x, rfl, h1⟩ := am_sl_inv hp; exact lv_lstore hx hb hd hl.has (by have := am_st2_lt h1; have := hl.2.1; omega) rfl (fun ls' h => kk ls' (am_lh.st2 hl.2.1 h1 h))
  · obtain ⟨x, rfl, h1⟩ := am_sl_inv hp; exact lv_lstore_n hx hb hd rfl hl.has (by have := am_st2_lt h1; have := hl.2.1; omega) rfl (fun ls' h => kk ls' (am_lh.st2 hl.2.1 h1 h))
  · obtain ⟨x, rfl, h1⟩ := am_sa_inv hp; exact lv_astore hx hb hd hl.has (by have := am_st1_lt h1; have := hl.2.1; omega) rfl (fun ls' h => kk ls' (am_lh.st1 hl.2.1 h1 h))
  · obtain ⟨x, rfl, h1⟩ := am_sa_inv hp; exact lv_astore_n hx hb hd rfl hl.has (by have := am_st1_lt h1; have := hl.2.1; omega) rfl (fun ls' h => kk ls' (am_lh.st1 hl.2.1 h1 h))
  · split at hp
    · next x hx1 =>
      split at hp
      · next L2 h1 =>
        cases hp
        obtain ⟨k, hk⟩ := List.getElem?_of_mem (am_as_mem.mpr ⟨_, am_ld_iff.mp hx1, rfl⟩ : (_, am_v ad (.int x)) ∈ am_as ad L)
        exact lv_iinc hx hb hd hl.has hk rfl (by have := am_st1_lt h1; have := hl.2.1; omega) rfl (fun ls' h => kk ls' (am_lh.st1 hl.2.1 h1 h))
      · cases hp
    · cases hp
  · obtain ⟨x, y, r, rfl, rfl, rfl⟩ := am_b_inv hp; exact lv_iadd hx hb hd (kk ls hl)
  · obtain ⟨x, y, r, rfl, rfl, rfl⟩ := am_b_inv hp; exact lv_isub hx hb hd (kk ls hl)
  · obtain ⟨x, y, r, rfl, rfl, rfl⟩ := am_b_inv hp; exact lv_imul hx hb hd (kk ls hl)
  · obtain ⟨x, y, r, rfl, rfl, rfl⟩ := am_b_inv hp; exact lv_iand hx hb hd (kk ls hl)
  · obtain ⟨x, y, r, rfl, rfl, rfl⟩ := am_b_inv hp; exact lv_ior hx hb hd (kk ls hl)
  · obtain ⟨x, y, r, rfl, rfl, rfl⟩ := am_b_inv hp; exact lv_ixor hx hb hd (kk ls hl)
  · obtain ⟨x, y, r, rfl, rfl, rfl⟩ := am_b_inv hp; exact lv_ishl hx hb hd (kk ls hl)
  · obtain ⟨x, y, r, rfl, rfl, rfl⟩ := am_b_inv hp; exact lv_ishr hx hb hd (kk ls hl)
  · obtain ⟨x, y, r, rfl, rfl, rfl⟩ := am_b_inv hp; exact lv_iushr hx hb hd rfl (kk ls hl)
  · obtain ⟨x, y, r, hy, rfl, rfl, rfl⟩ := am_dv_inv hp; exact lv_idiv hx hb hd hy (kk ls hl)
  · obtain ⟨x, y, r, hy, rfl, rfl, rfl⟩ := am_dv_inv hp; exact lv_irem hx hb hd hy (kk ls hl)
  · obtain ⟨x, r, rfl, rfl, rfl⟩ := am_u_inv hp; exact lv_ineg hx hb hd (kk ls hl)
  · obtain ⟨x, r, rfl, rfl, rfl⟩ := am_u_inv hp; exact lv_i2b hx hb hd rfl (kk ls hl)
  · obtain ⟨x, r, rfl, rfl, rfl⟩ := am_u_inv hp; exact lv_i2s hx hb hd rfl (kk ls hl)
  · obtain ⟨x, y, r, rfl, rfl, rfl⟩ := am_bl_inv hp; exact lv_ladd hx hb hd (kk ls hl)
  · obtain ⟨x, y, r, rfl, rfl, rfl⟩ := am_bl_inv hp; exact lv_land hx hb hd (kk ls hl)
  · obtain ⟨x, y, r, rfl, rfl, rfl⟩ := am_bl_inv hp; exact lv_lor hx hb hd (kk ls hl)
  · obtain ⟨x, y, r, rfl, rfl, rfl⟩ := am_sh_inv hp; exact lv_lshl hx hb hd rfl (kk ls hl)
  · obtain ⟨x, y, r, rfl, rfl, rfl⟩ := am_sh_inv hp; exact lv_lshr hx hb hd rfl (kk ls hl)
  · split at hp
    · cases hp; exact W.lcmp hx hb hd (kk ls hl)
    · cases hp
  · split at hp
    · cases hp; exact lv_i2l hx hb hd rfl (kk ls hl)
    · cases hp
  · split at hp
    · cases hp; exact lv_l2i hx hb hd rfl (kk ls hl)
    · cases hp
  · split at hp
    · split at hp
      · next h1 => cases hp; exact lv_dup hx hb hd (by rw [am_v_cat]; exact h1) (kk ls hl)
      · cases hp
    · cases hp
  · split at hp
    · split at hp
      · next h1 => cases hp; exact lv_pop hx hb hd (by rw [am_v_cat]; exact h1) (kk ls hl)
      · cases hp
    · cases hp
  · split at hp
    · split at hp
      · next h1 => cases hp; exact lv_dup_x1 hx hb hd (by rw [am_v_cat]; exact h1.1) (by rw [am_v_cat]; exact h1.2) (kk ls hl)
      · cases hp
    · cases hp
  · split at hp
    · split at hp
      · next h1 => cases hp; exact lv_dup2_11 hx hb hd (by rw [am_v_cat]; exact h1.1) (by rw [am_v_cat]; exact h1.2) (kk ls hl)
      · cases hp
    · cases hp
  · cases hp
theorem am_tg_ok {off : Int} (h : am_ok pc off = true) : (pc : Int) + off = ((am_tg pc off : Nat) : Int) := by
  unfold am_ok at h
  unfold am_tg
  have := of_decide_eq_true h
  omega
set_option maxHeartbeats 4000000 in
theorem am_s_br (hx : p.tables.exec = Jvm.exec) (hb : c.code = cc) {i : Instr} {n pc' : Nat} {st st' : List Value} (hd : decode cc pc = .ok (i, n)) (hn : am_isw i = true ∨ n = am_ln i) (hp : am_br i pc st = some (pc', st'))
    (kk : W p l e R s m args below meth c H locs cells slots Q (F0 m pc' ls (st'.map (am_v ad)))) : W p l e R s m args below meth c H locs cells slots Q (F0 m pc ls (st.map (am_v ad))) := by
  unfold am_br at hp
  split at hp
  · split at hp
    · next ho =>
      cases hp
      rcases hn with hn | rfl
      · cases hn
      · exact lv_goto hx hb hd (am_tg_ok ho) kk
    · cases hp
  · next cnd off =>
    rcases hn with hn | rfl
    · cases hn
    · split at hp
      · split at hp
        · next ho =>
          cases hp
          cases cnd
          · refine lv_if_eq hx hb hd (am_tg_ok ho) (fun q => ?_) (fun q => ?_)
            · simp only [am_cc, if_pos q] at kk; exact kk
            · simp only [am_cc, if_neg q] at kk; exact kk
          · refine lv_if_ne hx hb hd (am_tg_ok ho) (fun q => ?_) (fun q => ?_)
            · simp only [am_cc, if_pos q] at kk; exact kk
            · simp only [am_cc, if_neg (fun z : ¬ _ => z q)] at kk; exact kk
          · refine lv_if_lt hx hb hd (am_tg_ok ho) (fun q => ?_) (fun q => ?_)
            · simp only [am_cc, if_pos q] at kk; exact kk
            · simp only [am_cc, if_neg q] at kk; exact kk
          · refine lv_if_ge hx hb hd (am_tg_ok ho) (fun q => ?_) (fun q => ?_)
            · simp only [am_cc, if_pos q] at kk; exact kk
            · simp only [am_cc, if_neg q] at kk; exact kk
          · refine lv_if_gt hx hb hd (am_tg_ok ho) (fun q => ?_) (fun q => ?_)
            · simp only [am_cc, if_pos q] at kk; exact kk
            · simp only [am_cc, if_neg q] at kk; exact kk
          · refine lv_if_le hx hb hd (am_tg_ok ho) (fun q => ?_) (fun q => ?_)
            · simp only [am_cc, if_pos q] at kk; exact kk
            · simp only [am_cc, if_neg q] at kk; exact kk
        · cases hp
      · cases hp
  · next cnd off =>
    rcases hn with hn | rfl
    · cases hn
    · split at hp
      · split at hp
        · next ho =>
          cases hp
          cases cnd
          · refine lv_icmp_eq hx hb hd (am_tg_ok ho) (fun q => ?_) (fun q => ?_)
            · simp only [am_cc, if_pos q] at kk; exact kk
            · simp only [am_cc, if_neg q] at kk; exact kk
          · refine lv_icmp_ne hx hb hd (am_tg_ok ho) (fun q => ?_) (fun q => ?_)
            · simp only [am_cc, if_pos q] at kk; exact kk
            · simp only [am_cc, if_neg (fun z : ¬ _ => z q)] at kk; exact kk
          · refine lv_icmp_lt hx hb hd (am_tg_ok ho) (fun q => ?_) (fun q => ?_)
            · simp only [am_cc, if_pos q] at kk; exact kk
            · simp only [am_cc, if_neg q] at kk; exact kk
          · refine lv_icmp_ge hx hb hd (am_tg_ok ho) (fun q => ?_) (fun q => ?_)
            · simp only [am_cc, if_pos q] at kk; exact kk
            · simp only [am_cc, if_neg q] at kk; exact kk
          · refine lv_icmp_gt hx hb hd (am_tg_ok ho) (fun q => ?_) (fun q => ?_)
            · simp only [am_cc, if_pos q] at kk; exact kk
            · simp only [am_cc, if_neg q] at kk; exact kk
          · refine lv_icmp_le hx hb hd (am_tg_ok ho) (fun q => ?_) (fun q => ?_)
            · simp only [am_cc, if_pos q] at kk; exact kk
            · simp only [am_cc, if_neg q] at kk; exact kk
        · cases hp
      · cases hp
  · rcases hn with hn | rfl
    · cases hn
    · split at hp
      · split at hp
        · next ho => cases hp; exact lv_ifnonnull hx hb hd (am_tg_ok ho) kk
        · cases hp
      · cases hp; exact lv_ifnonnullN hx hb hd kk
      · cases hp
  · split at hp
    · split at hp
      · next t ht =>
        cases hp
        unfold am_sw at ht
        split at ht
        · next hr =>
          split at ht
          · next ho => cases ht; exact lv_tableOut hx hb hd hr (am_tg_ok ho) kk
          · cases ht
        · next hr =>
          split at ht
          · next off hof =>
            split at ht
            · next ho => cases ht; exact lv_tableIn hx hb hd (fun q => hr (Or.inl q)) (fun q => hr (Or.inr q)) hof (am_tg_ok ho) kk
            · cases ht
          · cases ht
      · cases hp
    · cases hp
  · cases hp
end AmPure
