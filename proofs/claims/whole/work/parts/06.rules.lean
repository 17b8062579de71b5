/-! ===== rules for walking the abstract machine ===== -/
section AmRules
variable {ro : Nat → Option (List Int32)} {d : Nat} {M : am_M} {cf : am_Cf} {L : am_L} {st : List Value} {h : am_H} {r : am_An} {x y : Int32} {a b : Nat}
theorem am_Ev.eq (h1 : am_one ro M cf = some (.inl (am_cc .eq x y a b, L, st, h))) (kt : x = y → am_Ev ro d M (a, L, st, h) r) (kf : ¬ x = y → am_Ev ro d M (b, L, st, h) r) : am_Ev ro d M cf r := by
  by_cases c : x = y
  · exact am_Ev.step (by rw [h1]; simp only [am_cc]; rw [if_pos c]) (kt c)
  · exact am_Ev.step (by rw [h1]; simp only [am_cc]; rw [if_neg c]) (kf c)
theorem am_Ev.ne (h1 : am_one ro M cf = some (.inl (am_cc .ne x y a b, L, st, h))) (kt : ¬ x = y → am_Ev ro d M (a, L, st, h) r) (kf : x = y → am_Ev ro d M (b, L, st, h) r) : am_Ev ro d M cf r := by
  by_cases c : x = y
  · exact am_Ev.step (by rw [h1]; simp only [am_cc]; rw [if_neg (fun q => q c)]) (kf c)
  · exact am_Ev.step (by rw [h1]; simp only [am_cc]; rw [if_pos c]) (kt c)
theorem am_Ev.lt (h1 : am_one ro M cf = some (.inl (am_cc .lt x y a b, L, st, h))) (kt : x < y → am_Ev ro d M (a, L, st, h) r) (kf : ¬ x < y → am_Ev ro d M (b, L, st, h) r) : am_Ev ro d M cf r := by
  by_cases c : x < y
  · exact am_Ev.step (by rw [h1]; simp only [am_cc]; rw [if_pos c]) (kt c)
  · exact am_Ev.step (by rw [h1]; simp only [am_cc]; rw [if_neg c]) (kf c)
theorem am_Ev.ge (h1 : am_one ro M cf = some (.inl (am_cc .ge x y a b, L, st, h))) (kt : y ≤ x → am_Ev ro d M (a, L, st, h) r) (kf : ¬ y ≤ x → am_Ev ro d M (b, L, st, h) r) : am_Ev ro d M cf r := by
  by_cases c : y ≤ x
  · exact am_Ev.step (by rw [h1]; simp only [am_cc]; rw [if_pos c]) (kt c)
  · exact am_Ev.step (by rw [h1]; simp only [am_cc]; rw [if_neg c]) (kf c)
theorem am_Ev.gt (h1 : am_one ro M cf = some (.inl (am_cc .gt x y a b, L, st, h))) (kt : y < x → am_Ev ro d M (a, L, st, h) r) (kf : ¬ y < x → am_Ev ro d M (b, L, st, h) r) : am_Ev ro d M cf r := by
  by_cases c : y < x
  · exact am_Ev.step (by rw [h1]; simp only [am_cc]; rw [if_pos c]) (kt c)
  · exact am_Ev.step (by rw [h1]; simp only [am_cc]; rw [if_neg c]) (kf c)
theorem am_Ev.le (h1 : am_one ro M cf = some (.inl (am_cc .le x y a b, L, st, h))) (kt : x ≤ y → am_Ev ro d M (a, L, st, h) r) (kf : ¬ x ≤ y → am_Ev ro d M (b, L, st, h) r) : am_Ev ro d M cf r := by
  by_cases c : x ≤ y
  · exact am_Ev.step (by rw [h1]; simp only [am_cc]; rw [if_pos c]) (kt c)
  · exact am_Ev.step (by rw [h1]; simp only [am_cc]; rw [if_neg c]) (kf c)
end AmRules
