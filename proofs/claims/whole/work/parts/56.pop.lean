/-! ===== how many bits ===== -/
def pcf : Nat → Nat → Nat
  | 0, _ => 0
  | f + 1, n => n % 2 + pcf f (n / 2)
def pc (n : Nat) : Nat := pcf 24 n
theorem pcf_add : ∀ (k f b m : Nat), b < 2 ^ k → pcf (k + f) (b + 2 ^ k * m) = pcf k b + pcf f m
  | 0, f, b, m, h => by
    have : b = 0 := by simpa using h
    subst this
    simp [pcf]
  | k + 1, f, b, m, h => by
    have e1 : (b + 2 ^ (k + 1) * m) % 2 = b % 2 := by
      rw [Nat.pow_succ, Nat.mul_comm (2 ^ k) 2, Nat.mul_assoc]; omega
    have e2 : (b + 2 ^ (k + 1) * m) / 2 = b / 2 + 2 ^ k * m := by
      rw [Nat.pow_succ, Nat.mul_comm (2 ^ k) 2, Nat.mul_assoc]; omega
    rw [show k + 1 + f = (k + f) + 1 by omega]
    show (b + 2 ^ (k + 1) * m) % 2 + pcf (k + f) ((b + 2 ^ (k + 1) * m) / 2) = b % 2 + pcf k (b / 2) + pcf f m
    rw [e1, e2, pcf_add k f (b / 2) m (by rw [Nat.pow_succ] at h; omega)]
    omega
theorem and8 (p c d : Nat) (hc : c < 256) : p &&& (c + 256 * d) = (p % 256 &&& c) + 256 * (p / 256 &&& d) := by
  apply Nat.eq_of_testBit_eq
  intro i
  have h1 : c + 256 * d = 2 ^ 8 * d + c := by omega
  have hlt : (p % 256 &&& c) < 2 ^ 8 := Nat.lt_of_le_of_lt Nat.and_le_right hc
  have h2 : (p % 256 &&& c) + 256 * (p / 256 &&& d) = 2 ^ 8 * (p / 256 &&& d) + (p % 256 &&& c) := by omega
  rw [h1, h2, Nat.testBit_and, Nat.testBit_two_pow_mul_add _ (show c < 2 ^ 8 from hc), Nat.testBit_two_pow_mul_add _ hlt]
  split
  · next h => rw [Nat.testBit_and, show p % 256 = p % 2 ^ 8 from rfl, Nat.testBit_mod_two_pow, decide_eq_true h, Bool.true_and]
  · next h =>
    rw [Nat.testBit_and, show p / 256 = p / 2 ^ 8 from rfl, Nat.testBit_div_two_pow]
    rw [show i - 8 + 8 = i by omega]
theorem t1_a : ∀ b, b < 256 → ∀ e, e < 2 → (b / 2 + 128 * e) &&& 0x55 = b / 2 &&& 0x55 ∧ (b / 2 &&& 0x55) ≤ b := by decide +kernel
theorem t2_a : ∀ b, b < 256 → ∀ e, e < 4 → (b / 4 + 64 * e) &&& 0x33 = b / 4 &&& 0x33 := by decide +kernel
theorem t3_a : ∀ b, b < 256 → ∀ e, e < 5 → b ≤ 68 → (b + b / 16 + 16 * e) &&& 0x0f = (b + b / 16) &&& 0x0f := by decide +kernel
theorem t_all : ∀ b, b < 256 → (((b - (b / 2 &&& 0x55)) &&& 0x33) + ((b - (b / 2 &&& 0x55)) / 4 &&& 0x33) ≤ 68 ∧ (((b - (b / 2 &&& 0x55)) &&& 0x33) + ((b - (b / 2 &&& 0x55)) / 4 &&& 0x33)) % 16 ≤ 4) ∧ ((((b - (b / 2 &&& 0x55)) &&& 0x33) + ((b - (b / 2 &&& 0x55)) / 4 &&& 0x33)) + (((b - (b / 2 &&& 0x55)) &&& 0x33) + ((b - (b / 2 &&& 0x55)) / 4 &&& 0x33)) / 16) &&& 0x0f = pcf 8 b ∧ pcf 8 b ≤ 8 := by decide +kernel
def s1 (n M : Nat) : Nat := n - (n / 2 &&& M)
def s2 (n M : Nat) : Nat := (n &&& M) + (n / 4 &&& M)
def s3 (n M : Nat) : Nat := (n + n / 16) &&& M
theorem s1_8 (b m M : Nat) (hb : b < 256) : s1 (b + 256 * m) (0x55 + 256 * M) = s1 b 0x55 + 256 * s1 m M ∧ s1 b 0x55 < 256 := by
  unfold s1
  rw [and8 _ _ _ (by decide), show (b + 256 * m) / 2 % 256 = b / 2 + 128 * (m % 2) by omega, show (b + 256 * m) / 2 / 256 = m / 2 by omega]
  obtain ⟨e1, e2⟩ := t1_a b hb (m % 2) (by omega)
  rw [e1]
  have e3 : m / 2 &&& M ≤ m := Nat.le_trans Nat.and_le_left (by omega)
  constructor
  · omega
  · omega
theorem s2_8 (b m M : Nat) (hb : b < 256) : s2 (b + 256 * m) (0x33 + 256 * M) = s2 b 0x33 + 256 * s2 m M := by
  unfold s2
  rw [and8 _ _ _ (by decide), and8 _ _ _ (by decide), show (b + 256 * m) / 4 % 256 = b / 4 + 64 * (m % 4) by omega, show (b + 256 * m) / 4 / 256 = m / 4 by omega, show (b + 256 * m) % 256 = b by omega, show (b + 256 * m) / 256 = m by omega, t2_a b hb (m % 4) (by omega)]
  omega
theorem s3_8 (b m M : Nat) (hb : b ≤ 68) (hm : m % 16 ≤ 4) : s3 (b + 256 * m) (0x0f + 256 * M) = s3 b 0x0f + 256 * s3 m M := by
  unfold s3
  rw [and8 _ _ _ (by decide), show (b + 256 * m + (b + 256 * m) / 16) % 256 = b + b / 16 + 16 * (m % 16) by omega, show (b + 256 * m + (b + 256 * m) / 16) / 256 = m + m / 16 by omega, t3_a b (by omega) (m % 16) (by omega) hb]
theorem bc_sum (a b c : Nat) (ha : a ≤ 8) (hb : b ≤ 8) (hc : c ≤ 8) : (a + 256 * (b + 256 * c) + (a + 256 * (b + 256 * c)) / 256 + (a + 256 * (b + 256 * c) + (a + 256 * (b + 256 * c)) / 256) / 65536) % 2 ^ 6 = a + (b + c) := by
  have e1 : (a + 256 * (b + 256 * c)) / 256 = b + 256 * c := by omega
  rw [e1]
  have e2 : (a + 256 * (b + 256 * c) + (b + 256 * c)) / 65536 = c := by omega
  rw [e2]
  omega
theorem bc_nat (n : Nat) (hn : n < 16777216) : (((s3 (s2 (s1 n 0x55555555) 0x33333333) 0x0f0f0f0f) + (s3 (s2 (s1 n 0x55555555) 0x33333333) 0x0f0f0f0f) / 256) + ((s3 (s2 (s1 n 0x55555555) 0x33333333) 0x0f0f0f0f) + (s3 (s2 (s1 n 0x55555555) 0x33333333) 0x0f0f0f0f) / 256) / 65536) &&& 63 = pc n := by
  obtain ⟨b0, b1, b2, h0, h1, h2, rfl⟩ : ∃ b0 b1 b2, b0 < 256 ∧ b1 < 256 ∧ b2 < 256 ∧ n = b0 + 256 * (b1 + 256 * b2) := ⟨n % 256, n / 256 % 256, n / 65536, by omega, by omega, by omega, by omega⟩
  have z1 : s1 0 0x55 = 0 := by decide
  have z2 : s2 0 0x33 = 0 := by decide
  have z3 : s3 0 0x0f = 0 := by decide
  obtain ⟨p0, q0⟩ := s1_8 b0 (b1 + 256 * b2) 0x555555 h0
  obtain ⟨p1, q1⟩ := s1_8 b1 b2 0x5555 h1
  obtain ⟨p2, q2⟩ := s1_8 b2 0 0x55 h2
  rw [Nat.mul_zero, Nat.add_zero, z1, Nat.mul_zero, Nat.add_zero] at p2
  have e1 : s1 (b0 + 256 * (b1 + 256 * b2)) 0x55555555 = s1 b0 0x55 + 256 * (s1 b1 0x55 + 256 * s1 b2 0x55) := by
    rw [show 0x55555555 = 0x55 + 256 * 0x555555 from rfl, p0, show 0x555555 = 0x55 + 256 * 0x5555 from rfl, p1, show 0x5555 = 0x55 + 256 * 0x55 from rfl, p2, Nat.add_zero]
  have r0 := s2_8 (s1 b0 0x55) (s1 b1 0x55 + 256 * s1 b2 0x55) 0x333333 q0
  have r1 := s2_8 (s1 b1 0x55) (s1 b2 0x55) 0x3333 q1
  have r2 := s2_8 (s1 b2 0x55) 0 0x33 q2
  rw [Nat.mul_zero, Nat.add_zero, z2, Nat.mul_zero, Nat.add_zero] at r2
  have e2 : s2 (s1 (b0 + 256 * (b1 + 256 * b2)) 0x55555555) 0x33333333 = s2 (s1 b0 0x55) 0x33 + 256 * (s2 (s1 b1 0x55) 0x33 + 256 * s2 (s1 b2 0x55) 0x33) := by
    rw [e1, show 0x33333333 = 0x33 + 256 * 0x333333 from rfl, r0, show 0x333333 = 0x33 + 256 * 0x3333 from rfl, r1, show 0x3333 = 0x33 + 256 * 0x33 from rfl, r2, Nat.add_zero]
  obtain ⟨⟨f0, g0⟩, t0, u0⟩ := t_all b0 h0
  obtain ⟨⟨f1, g1⟩, t1, u1⟩ := t_all b1 h1
  obtain ⟨⟨f2, g2⟩, t2, u2⟩ := t_all b2 h2
  have f0 : s2 (s1 b0 0x55) 0x33 ≤ 68 := f0
  have f1 : s2 (s1 b1 0x55) 0x33 ≤ 68 := f1
  have f2 : s2 (s1 b2 0x55) 0x33 ≤ 68 := f2
  have g1 : s2 (s1 b1 0x55) 0x33 % 16 ≤ 4 := g1
  have g2 : s2 (s1 b2 0x55) 0x33 % 16 ≤ 4 := g2
  have t0 : s3 (s2 (s1 b0 0x55) 0x33) 0x0f = pcf 8 b0 := t0
  have t1 : s3 (s2 (s1 b1 0x55) 0x33) 0x0f = pcf 8 b1 := t1
  have t2 : s3 (s2 (s1 b2 0x55) 0x33) 0x0f = pcf 8 b2 := t2
  have w0 := s3_8 (s2 (s1 b0 0x55) 0x33) (s2 (s1 b1 0x55) 0x33 + 256 * s2 (s1 b2 0x55) 0x33) 0x0f0f0f f0 (by omega)
  have w1 := s3_8 (s2 (s1 b1 0x55) 0x33) (s2 (s1 b2 0x55) 0x33) 0x0f0f f1 g2
  have w2 := s3_8 (s2 (s1 b2 0x55) 0x33) 0 0x0f f2 (by decide)
  rw [Nat.mul_zero, Nat.add_zero, z3, Nat.mul_zero, Nat.add_zero] at w2
  have e3 : s3 (s2 (s1 (b0 + 256 * (b1 + 256 * b2)) 0x55555555) 0x33333333) 0x0f0f0f0f = pcf 8 b0 + 256 * (pcf 8 b1 + 256 * pcf 8 b2) := by
    rw [e2, show 0x0f0f0f0f = 0x0f + 256 * 0x0f0f0f from rfl, w0, show 0x0f0f0f = 0x0f + 256 * 0x0f0f from rfl, w1, show 0x0f0f = 0x0f + 256 * 0x0f from rfl, w2, t0, t1, t2, Nat.add_zero]
  have e4 : pc (b0 + 256 * (b1 + 256 * b2)) = pcf 8 b0 + (pcf 8 b1 + pcf 8 b2) := by
    unfold pc
    rw [show 24 = 8 + 16 from rfl, show 256 = 2 ^ 8 from rfl, pcf_add 8 16 b0 _ h0, show 16 = 8 + 8 from rfl, pcf_add 8 8 b1 _ h1]
  rw [e3, e4, show (63 : Nat) = 2 ^ 6 - 1 from rfl, Nat.and_two_pow_sub_one_eq_mod]
  exact bc_sum _ _ _ u0 u1 u2
theorem ush {n k : Nat} {c : Int32} (hn : n < 4294967296) (hk : k < 32) (hc : c = Int32.ofNat k) : (Int32.toUInt32 (Int32.ofNat n) >>> (Int32.toUInt32 c &&& Int32.toUInt32 31)).toInt32 = Int32.ofNat (n / 2 ^ k) := by
  subst hc
  have e : Int32.toUInt32 (Int32.ofNat k) &&& Int32.toUInt32 31 = UInt32.ofNat k := by
    have : ∀ k, k < 32 → Int32.toUInt32 (Int32.ofNat k) &&& Int32.toUInt32 31 = UInt32.ofNat k := by decide
    exact this k hk
  rw [e, Int32.toUInt32_ofNat']
  have : UInt32.ofNat n >>> UInt32.ofNat k = UInt32.ofNat (n / 2 ^ k) := by
    apply UInt32.toNat_inj.mp
    rw [UInt32.toNat_shiftRight, UInt32.toNat_ofNat', UInt32.toNat_ofNat', UInt32.toNat_ofNat', Nat.mod_eq_of_lt hn, Nat.mod_eq_of_lt (show k < 2 ^ 32 by omega), Nat.mod_eq_of_lt (show k < 32 from hk), Nat.shiftRight_eq_div_pow, Nat.mod_eq_of_lt]
    exact Nat.lt_of_le_of_lt (Nat.div_le_self _ _) hn
  rw [this]
  rfl
theorem bc_1 {n : Nat} (hn : n < 16777216) : f_J6_bitCount_0f7a4 (Int32.ofNat n) = some (Int32.ofNat (pc n)) := by
  have k1 : (1431655765 : Int32) = Int32.ofNat 0x55555555 := rfl
  have k2 : (858993459 : Int32) = Int32.ofNat 0x33333333 := rfl
  have k3 : (252645135 : Int32) = Int32.ofNat 0x0f0f0f0f := rfl
  have k4 : (63 : Int32) = Int32.ofNat 63 := rfl
  have h1 : s1 n 0x55555555 ≤ n := Nat.sub_le _ _
  have h2 : s2 (s1 n 0x55555555) 0x33333333 ≤ s1 n 0x55555555 + s1 n 0x55555555 / 4 := Nat.add_le_add Nat.and_le_left Nat.and_le_left
  have h3 : s3 (s2 (s1 n 0x55555555) 0x33333333) 0x0f0f0f0f ≤ s2 (s1 n 0x55555555) 0x33333333 + s2 (s1 n 0x55555555) 0x33333333 / 16 := Nat.and_le_left
  have a1 : Int32.ofNat n - ((Int32.toUInt32 (Int32.ofNat n) >>> (Int32.toUInt32 1 &&& Int32.toUInt32 31)).toInt32 &&& 1431655765) = Int32.ofNat (s1 n 0x55555555) := by
    rw [ush (n := n) (k := 1) (c := 1) (by omega) (by decide) rfl, k1, i_and, i_sub (Nat.le_trans Nat.and_le_left (Nat.div_le_self _ _))]
    rfl
  unfold f_J6_bitCount_0f7a4
  rw [a1]
  have a2 : (Int32.ofNat (s1 n 0x55555555) &&& 858993459) + ((Int32.toUInt32 (Int32.ofNat (s1 n 0x55555555)) >>> (Int32.toUInt32 2 &&& Int32.toUInt32 31)).toInt32 &&& 858993459) = Int32.ofNat (s2 (s1 n 0x55555555) 0x33333333) := by
    rw [ush (n := s1 n 0x55555555) (k := 2) (c := 2) (by omega) (by decide) rfl, k2, i_and, i_and, i_add]
    rfl
  rw [a2]
  have a3 : (Int32.ofNat (s2 (s1 n 0x55555555) 0x33333333) + (Int32.toUInt32 (Int32.ofNat (s2 (s1 n 0x55555555) 0x33333333)) >>> (Int32.toUInt32 4 &&& Int32.toUInt32 31)).toInt32) &&& 252645135 = Int32.ofNat (s3 (s2 (s1 n 0x55555555) 0x33333333) 0x0f0f0f0f) := by
    rw [ush (n := s2 (s1 n 0x55555555) 0x33333333) (k := 4) (c := 4) (by omega) (by decide) rfl, k3, i_add, i_and]
    rfl
  rw [a3]
  rw [ush (n := s3 (s2 (s1 n 0x55555555) 0x33333333) 0x0f0f0f0f) (k := 8) (c := 8) (by omega) (by decide) rfl, i_add, ush (n := s3 (s2 (s1 n 0x55555555) 0x33333333) 0x0f0f0f0f + s3 (s2 (s1 n 0x55555555) 0x33333333) 0x0f0f0f0f / 2 ^ 8) (k := 16) (c := 16) (by omega) (by decide) rfl, i_add, k4, i_and]
  have := bc_nat n hn
  rw [show (256 : Nat) = 2 ^ 8 from rfl, show (65536 : Nat) = 2 ^ 16 from rfl] at this
  rw [this]
theorem pcf_and : ∀ (f n : Nat), 0 < n → n < 2 ^ f → pcf f (n &&& (n - 1)) + 1 = pcf f n
  | 0, n, h, h2 => by
    have : n < 1 := h2
    omega
  | f + 1, n, h, h2 => by
    show (n &&& (n - 1)) % 2 + pcf f ((n &&& (n - 1)) / 2) + 1 = n % 2 + pcf f (n / 2)
    rw [Nat.and_div_two]
    have e0 : (n &&& (n - 1)) % 2 = 0 := by
      rcases Nat.mod_two_eq_zero_or_one (n &&& (n - 1)) with q | q
      · exact q
      · have := Nat.and_mod_two_eq_one.mp q
        omega
    rw [e0]
    rcases Nat.mod_two_eq_zero_or_one n with q | q
    · rw [show (n - 1) / 2 = n / 2 - 1 by omega, q]
      have := pcf_and f (n / 2) (by omega) (by rw [Nat.pow_succ] at h2; omega)
      omega
    · rw [show (n - 1) / 2 = n / 2 by omega, Nat.and_self, q]
      omega
theorem pcf_le : ∀ (f n : Nat), pcf f n ≤ f
  | 0, n => Nat.le_refl _
  | f + 1, n => by
    have := pcf_le f (n / 2)
    show n % 2 + pcf f (n / 2) ≤ f + 1
    omega
theorem pcf_0 : ∀ f : Nat, pcf f 0 = 0
  | 0 => rfl
  | f + 1 => by
    show 0 % 2 + pcf f (0 / 2) = 0
    rw [show 0 / 2 = 0 from rfl, pcf_0 f]
theorem ones_1 {n : Nat} (hn : n < 16777216) (A : Nat → List Int32) (I : Nat → Int32) : f_X12_ones A I (Int32.ofNat n) = some (Int32.ofNat (pc n)) := by
  have key : ∀ (f m c : Nat), m < 16777216 → pc m < f → wl (f_X12_ones_l1 A I) f (Int32.ofNat c, Int32.ofNat m) = some (Int32.ofNat (c + pc m)) := by
    intro f
    induction f with
    | zero => intro m c _ h; omega
    | succ f ih =>
      intro m c hm h
      by_cases h0 : m = 0
      · subst h0
        rw [wl_inr (z := Int32.ofNat c) rfl]
        rw [show pc 0 = 0 from pcf_0 24, Nat.add_zero]
      · have hst : f_X12_ones_l1 A I (Int32.ofNat c, Int32.ofNat m) = some (.inl (Int32.ofNat (c + 1), Int32.ofNat (m &&& (m - 1)))) := by
          unfold f_X12_ones_l1
          dsimp only
          rw [if_neg (fun q => h0 ((i_eqr (by omega) (by decide)).mp q)), i_addr, show Int32.ofNat m - 1 = Int32.ofNat (m - 1) from i_subr (m := m) (n := 1) (by omega), i_and]
        have hp : pc (m &&& (m - 1)) + 1 = pc m := pcf_and 24 m (by omega) (by omega)
        rw [wl_inl hst, ih _ _ (Nat.lt_of_le_of_lt Nat.and_le_left hm) (by omega), show c + 1 + pc (m &&& (m - 1)) = c + pc m by omega]
  unfold f_X12_ones
  have := pcf_le 24 n
  have k2 := key 100000 n 0 hn (by unfold pc; omega)
  rw [Nat.zero_add] at k2
  rw [show ((0 : Int32), Int32.ofNat n) = (Int32.ofNat 0, Int32.ofNat n) from rfl, k2, Option.bind_some]
