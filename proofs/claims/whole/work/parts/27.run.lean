/-! ===== calls; a run of the abstract machine is one of the machine ===== -/
def am_rm (d mc ms : Nat) : Room := { frames := d + 4, cells := mc, slots := ms, locals := 40 * d + 200 }
def am_Pc (D : va_G) (kA : Nat → ClassId) (ad adV : Nat → Nat) (sz0 : Nat) (H00 : Heap) (ro : Nat → Option (List Int32)) (as : List Value) (h : am_H) : Array Value → State → Prop := fun v U => v = (as.map (am_v ad)).toArray ∧ am_Wd D kA ad adV sz0 H00 ro U ∧ am_RH D kA ad sz0 H00 h U.heap
def am_Qc (D : va_G) (kA : Nat → ClassId) (ad : Nat → Nat) (sz0 : Nat) (H00 : Heap) (v : Option Value) (h1 : am_H) : Array Value → State → Outcome → State → Prop := fun _ _ o t => o = .returned (v.map (am_v ad)) ∧ am_RH D kA ad sz0 H00 h1 t.heap
theorem am_blind {D : va_G} {kA : Nat → ClassId} {ad adV : Nat → Nat} {sz0 : Nat} {H00 : Heap} {ro : Nat → Option (List Int32)} {as : List Value} {h : am_H} : FrameBlind (am_Pc D kA ad adV sz0 H00 ro as h) := fun a U g mk q => ⟨q.1, am_Wd.warm (s := U) (State.WarmedH.refl U) q.2.1, q.2.2⟩
theorem am_pop_spec : ∀ (n : Nat) (acc st as rest : List Value), am_pop n acc st = some (as, rest) → ∃ xs, st = xs ++ rest ∧ as = xs.reverse ++ acc ∧ xs.length = n := by
  intro n
  induction n with
  | zero =>
    intro acc st as rest e
    simp only [am_pop, Option.some.injEq, Prod.mk.injEq] at e
    exact ⟨[], by rw [e.2]; rfl, by rw [e.1]; rfl, rfl⟩
  | succ n ih =>
    intro acc st as rest e
    cases st with
    | nil => simp [am_pop] at e
    | cons v st =>
      simp only [am_pop] at e
      obtain ⟨xs, h1, h2, h3⟩ := ih _ _ _ _ e
      exact ⟨v :: xs, by rw [h1]; rfl, by rw [h2]; simp, by simp [h3]⟩
theorem am_pop_st {n : Nat} {st as rest : List Value} (e : am_pop n [] st = some (as, rest)) : st = as.reverse ++ rest ∧ as.length = n := by
  obtain ⟨xs, h1, h2, h3⟩ := am_pop_spec _ _ _ _ _ e
  rw [List.append_nil] at h2
  subst h2
  exact ⟨by rw [List.reverse_reverse]; exact h1, by simp [h3]⟩
section AmCont
variable {p : Program} {l : Launch} {e : Env} {R : Room} {s : State} {m : MethodId} {args : Array Value} {below : List Frame} {meth : Method} {c : Code} {H : Heap} {locs : List Loc} {Q : State → Prop} {cc : ByteArray} {pc nL oc : Nat} {ls : Array Slot} {ad adV : Nat → Nat} {D : va_G} {kA : Nat → ClassId} {sz0 : Nat} {H00 : Heap} {h h1 : am_H} {st : List Value} {ro : Nat → Option (List Int32)} {cells slots mc ms : Nat} {v : Option Value} {st0 rest : List Value} {a : Array Value}
theorem am_contW (hr : va_Run p l e R s m args below meth c H locs cells slots mc ms (F0 m pc ls st0) rest (am_Qc D kA ad sz0 H00 v h1 a) (fun q => sz0 ≤ q)) (hl : ∀ q ∈ locs, sz0 ≤ q.base)
    (kk : ∀ (H1 : Heap) (locs1 : List Loc), am_RH D kA ad sz0 H00 h1 H1 → (∀ q ∈ locs1, sz0 ≤ q.base) → W p l e R s m args below meth c H1 locs1 (cells + mc) (slots + ms) Q (F0 m (pc + 3) ls ((v.map (am_v ad)).toList ++ rest))) : W p l e R s m args below meth c H locs cells slots Q (F0 m pc ls st0) := by
  intro T hT X
  obtain ⟨w, st₀, t, T', L, h0, X', hL, e1, e2, ⟨hq1, hq2⟩, stp⟩ := hr T hT X
  cases hq1
  obtain ⟨t2, a1, b1⟩ := kk t.heap (locs ++ L) hq2 (fun q hq => by
    rcases List.mem_append.mp hq with hq | hq
    · exact hl q hq
    · exact hL q hq) T' e1 X'
  exact ⟨t2, stp t2 a1, b1⟩
/-- a call of a method of which the contract stands -/
theorem am_callW (hx : p.tables.exec = Jvm.exec) (hb : c.code = cc) (hml : c.maxLocals = nL) (hown : s.vm.findClass (am_own oc) = some m.cls) (hT : ∀ w ∈ am_T, w.before args s = true) (hwd : am_Wd D kA ad adV sz0 H00 ro s) (hF : am_Fx ad sz0 H00) (hR : am_RH D kA ad sz0 H00 h H) (hl : ∀ q ∈ locs, sz0 ≤ q.base) (hls : ls.size = nL) (hlen : h.length ≤ am_RO)
    {d n k z idx mL : Nat} {M : am_M} {y : MethodName} {bytes : ByteArray} {ret : Option FieldType} {ok fl : Nat} {as rst : List Value} (hfr : d + 5 ≤ R.frames) (hlo : 40 * (d + 1) + 200 ≤ R.locals)
    (hfact : am_F k M mL) (hY : am_Y k = some (y, bytes, ret, ok, fl)) (hM : Met l y (Cond.code y bytes mL ret :: am_G) (am_rm d mc ms) (am_Pc D kA ad adV sz0 H00 ro as h) (am_Qc D kA ad sz0 H00 v h1) mc ms (fun q => sz0 ≤ q))
    (hpop : st = as.reverse ++ rst) (hw : am_w rst ≤ 8) (hrm : cells + mc ≤ R.cells ∧ slots + ms ≤ R.slots) (hcN : am_cN oc y idx = true)
    (hkind : (fl = 0 ∧ decode cc pc = .ok (.invokestatic idx, 3) ∧ am_np y = some as.length) ∨ (fl = 1 ∧ decode cc pc = .ok (.invokevirtual idx, 3) ∧ ∃ b As ci fs, as = .ref b :: As ∧ am_np y = some As.length ∧ h[b]? = some (.inr (.inr (ci, fs))) ∧ ci = ok ∧ ok < 13) ∨ (fl = 2 ∧ decode cc pc = .ok (.invokespecial idx, 3) ∧ ∃ b As, as = .ref b :: As ∧ am_np y = some As.length))
    (kk : ∀ (H1 : Heap) (locs1 : List Loc), am_RH D kA ad sz0 H00 h1 H1 → (∀ q ∈ locs1, sz0 ≤ q.base) → W p l e R s m args below meth c H1 locs1 (cells + mc) (slots + ms) Q (F0 m (pc + 3) ls ((v.map (am_v ad)).toList ++ rst.map (am_v ad)))) : W p l e R s m args below meth c H locs cells slots Q (F0 m pc ls (st.map (am_v ad))) := by
  obtain ⟨y2, b2, r2, o2, fl2, hY2, hpn, hcode, hini, hhan, hnL, hcls, -, -, hfl⟩ := hfact
  rw [hY] at hY2
  cases hY2
  have hG : ∀ w ∈ am_G, w.before args s = true := fun w hw => hT w (am_inT hw)
  have S : CallFix p m c cc nL s args am_G (am_own oc) := ⟨hx, hb, hml, hown, hG⟩
  have hRR : (am_rm d mc ms).frames + 1 ≤ R.frames ∧ 8 + (mL + 11) + (am_rm d mc ms).locals ≤ R.locals := ⟨by show d + 4 + 1 ≤ _; omega, by show 8 + (mL + 11) + (40 * d + 200) ≤ _; omega⟩
  have hPc : ∀ U : State, U.heap = H → s.WarmedH U.vm → am_Pc D kA ad adV sz0 H00 ro as h (as.map (am_v ad)).toArray U := fun U hu hW => ⟨rfl, hwd.warm hW, by rw [hu]; exact hR⟩
  have hroom : 2 * (F0 m pc ls (st.map (am_v ad))).monitorRoom + ((rst.map (am_v ad)).map fun v => v.category).sum ≤ 8 := lv_room (by rw [am_w_map]; exact hw)
  have hlinks : ((Cond.methodLink (am_own oc) idx y).before args s = true) ∨ va_Nw (.methodLinkNest (am_own oc) idx y "TwoHeads") s := by
    unfold am_cN at hcN
    simp only [Bool.or_eq_true, decide_eq_true_eq] at hcN
    rcases hcN with hcN | hcN
    · exact Or.inl (hT _ (am_lk_in hcN))
    · exact Or.inr (va_Nw.of rfl (hT _ (am_lk_in hcN)))
  rcases hkind with ⟨hf0, hd, hnp⟩ | ⟨hf0, hd, b, As, ci, fs, rfl, hnp, hh, rfl, hci⟩ | ⟨hf0, hd, b, As, rfl, hnp⟩
  · -- static
    rcases hfl with ⟨-, hst⟩ | ⟨q, -⟩ | ⟨q, -⟩
    · have hp : PreS s H (am_Pc D kA ad adV sz0 H00 ro as h) (as.map (am_v ad)) := ⟨am_blind, hPc⟩
      have hstk : (F0 m pc ls (st.map (am_v ad))).stack = (as.map (am_v ad)).reverse ++ rst.map (am_v ad) := by
        show st.map (am_v ad) = _
        rw [hpop, List.map_append, List.map_reverse]
      rcases hlinks with hlk | hlk
      · exact am_contW (va_runS S hM ⟨callB_of as.length hG (am_goodG hcode) rfl rfl rfl (hG _ hini) hlk ⟨hhan.1, hhan.2, hnp⟩ hRR, hG _ hst⟩ hp rfl (by rw [List.length_map]) hls hstk hroom hd hrm) hl kk
      · exact am_contW (va_runSN S hM ⟨va_cnB as.length hG (am_goodG hcode) rfl rfl rfl hlk (hG _ hini) ⟨hhan.1, hhan.2, hnp⟩ hRR, hG _ hst, trivial⟩ hp rfl (by rw [List.length_map]) hls hstk hroom hd hrm) hl kk
    · omega
    · omega
  · -- virtual
    rcases hfl with ⟨q, -⟩ | ⟨-, hin, hse⟩ | ⟨q, -⟩
    · omega
    · have hrecv : ∃ cellB : Cell, H[ad b]? = some cellB ∧ cellB.vm.isStatics = false ∧ s.vm.findClass y.cls = some cellB.cls := by
        obtain ⟨r0, g1, g2, cell, g3, g4, g5, -⟩ := hR.2.2 b _ hh
        refine ⟨cell, by rw [hF.2 b (by have := am_hlt hh; omega)]; exact g3, by rw [g5]; rfl, ?_⟩
        obtain ⟨f1, f2, f3, f4, f5, f6, f7, f8, f9⟩ := am_cls _ _ g1
        have := (hwd.1.1.1 _ _ g1).2.1
        rw [hcls, f7, g4]
        exact this
      have hp : PreV s H y.cls (ad b) (am_Pc D kA ad adV sz0 H00 ro (.ref b :: As) h) (As.map (am_v ad)) := ⟨am_blind, hrecv, hPc⟩
      have hstk : (F0 m pc ls (st.map (am_v ad))).stack = (As.map (am_v ad)).reverse ++ .ref (ad b) :: rst.map (am_v ad) := by
        show st.map (am_v ad) = _
        rw [hpop, List.map_append, List.reverse_cons, List.map_append, List.map_reverse, List.append_assoc]
        rfl
      rcases hlinks with hlk | hlk
      · exact am_contW (va_runV S hM ⟨callB_of As.length hG (am_goodG hcode) rfl rfl rfl (hG _ hini) hlk ⟨hhan.1, hhan.2, hnp⟩ hRR, hG _ hin, hG _ hse⟩ hp rfl (by rw [List.length_map]) hls hstk hroom hd hrm) hl kk
      · exact am_contW (va_runVN S hM ⟨va_cnB As.length hG (am_goodG hcode) rfl rfl rfl hlk (hG _ hini) ⟨hhan.1, hhan.2, hnp⟩ hRR, hG _ hin, hG _ hse⟩ hp rfl (by rw [List.length_map]) hls hstk hroom hd hrm) hl kk
    · omega
  · -- a constructor
    rcases hfl with ⟨q, -⟩ | ⟨q, -⟩ | ⟨-, hin, hy1, hret⟩
    · omega
    · omega
    · subst hret
      have hp : PreS s H (am_Pc D kA ad adV sz0 H00 ro (.ref b :: As) h) (.ref (ad b) :: As.map (am_v ad)) := ⟨am_blind, hPc⟩
      have hstk : (F0 m pc ls (st.map (am_v ad))).stack = (As.map (am_v ad)).reverse ++ .ref (ad b) :: rst.map (am_v ad) := by
        show st.map (am_v ad) = _
        rw [hpop, List.map_append, List.reverse_cons, List.map_append, List.map_reverse, List.append_assoc]
        rfl
      rcases hlinks with hlk | hlk
      · exact am_contW (va_runI S hM ⟨callB_of As.length hG (am_goodG hcode) rfl rfl rfl (hG _ hini) hlk ⟨hhan.1, hhan.2, hnp⟩ hRR, hy1, hG _ hin⟩ hp rfl (by rw [List.length_map]) hls hstk hroom hd hrm) hl kk
      · exact am_contW (va_runIN S hM ⟨va_cnB As.length hG (am_goodG hcode) rfl rfl rfl hlk (hG _ hini) ⟨hhan.1, hhan.2, hnp⟩ hRR, hy1, hG _ hin⟩ hp rfl (by rw [List.length_map]) hls hstk hroom hd hrm) hl kk
end AmCont
