/-! ===== the walk of the law's body ===== -/
theorem whole_start {p : Program} {e : Env} {s : State} {m : MethodId} {below : List Frame} {meth : Method} {c : Code} (l : Launch) (hflags : l.flags = flags0) {b L : Nat} {xs : Nat → Int32} (hL : L ≤ 3072) (C0 : lw_At p s m meth c b L xs) : W p l e room_1 s m #[Value.ref b] below meth c s.heap [] 0 0 (lw_Z below #[Value.ref b] s) (entryFrame m ([Value.ref b] : List Value).toArray 4) := by
  obtain ⟨nn, h1, e1, e2, e3⟩ := law_start ((List.range L).map xs) (by rw [List.length_map, List.length_range]; exact hL)
  exact am_lawW am_all am_c_law l C0 (d := 100) (by decide) e1 e2 e3
