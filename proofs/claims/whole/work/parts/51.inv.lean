/-! ===== what holds between the class's cells and the model's ===== -/
def v_ppl (P : Nat) (a26 a88 : List Int32) (i1 i2 : Int32) : Prop := a26 = a88 ∧ a88.length = 12 ∧ P ≤ 12 ∧ i1 = Int32.ofNat P ∧ i2 = Int32.ofNat P ∧ ∀ k, k < 12 → ∃ l, l < 8 ∧ g a88 k = Int32.ofNat l
def v_off (a27 a89 a28 a90 : List Int32) : Prop := a27 = a89 ∧ a89.length = 6 ∧ a28 = a90 ∧ a90.length = 6
def v_trn (T : Nat) (a20 a21 a22 : List Int32) (i69 : Int32) (a91 a92 a93 : List Int32) (i5443 : Int32) : Prop := (a20.length = 30 ∧ a21.length = 30 ∧ a22.length = 30 ∧ a91.length = 31 ∧ a92.length = 31 ∧ a93.length = 31) ∧ T ≤ 30 ∧ i69 = Int32.ofNat T ∧ i5443 = Int32.ofNat T ∧ ∀ k, k < T → g a20 k = g a91 k ∧ g a21 k = g a92 k ∧ g a22 k = g a93 k ∧ ∃ s, s < 2 ∧ g a93 k = Int32.ofNat s
/-- one ACT -/
def v_one (N k : Nat) (a36 a94 a95 a96 a97 a99 a100 : List Int32) : Prop := (∃ q, q < 6 ∧ g a94 k = Int32.ofNat q) ∧ (∃ p, p < 12 ∧ g a95 k = Int32.ofNat p) ∧ (∃ o, o < 100 ∧ g a96 k = Int32.ofNat o ∧ (g a94 k = 1 → o < 72)) ∧ (∃ b, b < 16777216 ∧ g a99 k = Int32.ofNat b) ∧ (N ≤ k → g a99 k = 0) ∧ (k < N → g a36 k = g a100 k) ∧ (N ≤ k → g a36 k = -1) ∧ ∃ d, d < 10000 ∧ g a97 k = Int32.ofNat d ∧ (g a36 k = -1 ∨ (g a94 k = 4 ∧ ∃ e, d ≤ e ∧ e < 10000 ∧ g a36 k = Int32.ofNat e))
def v_act (N : Nat) (a30 a31 a32 a33 a34 a35 a36 : List Int32) (i1 : Int32) (a94 a95 a96 a97 a98 a99 a100 : List Int32) (i2 : Int32) : Prop := (a30 = a94 ∧ a31 = a95 ∧ a32 = a96 ∧ a33 = a97 ∧ a34 = a98 ∧ a35 = a99) ∧ (a36.length = 24 ∧ a94.length = 24 ∧ a95.length = 24 ∧ a96.length = 24 ∧ a97.length = 24 ∧ a98.length = 24 ∧ a99.length = 24 ∧ a100.length = 24) ∧ N ≤ 24 ∧ i1 = Int32.ofNat N ∧ i2 = Int32.ofNat N ∧ ∀ k, k < 24 → v_one N k a36 a94 a95 a96 a97 a99 a100
def v_tap (Z : Nat) (a53 : List Int32) (i1 : Int32) (a101 : List Int32) (i2 : Int32) : Prop := a53 = a101 ∧ a101.length = 160 ∧ Z ≤ 160 ∧ i1 = Int32.ofNat Z ∧ i2 = Int32.ofNat Z
def v_rnt (R : Nat) (a48 a49 a50 a51 : List Int32) (i1 : Int32) (a109 a110 a111 a112 : List Int32) (i2 : Int32) : Prop := (a48 = a109 ∧ a49 = a110 ∧ a50 = a111 ∧ a51 = a112) ∧ (a109.length = 30 ∧ a110.length = 30 ∧ a111.length = 30 ∧ a112.length = 30) ∧ R ≤ 30 ∧ i1 = Int32.ofNat R ∧ i2 = Int32.ofNat R ∧ ∀ k, k < 30 → (∃ p, p < 12 ∧ g a110 k = Int32.ofNat p) ∧ ∃ d, d < 10000 ∧ g a112 k = Int32.ofNat d
/-- the bits of an entry -/
def cb (a : List Int32) (i : Nat) : Nat := (g a i).toNatClampNeg
def v_ele (E : Nat) (a59 a60 : List Int32) (i3714 i1 : Int32) (a113 a114 a115 : List Int32) (i2 : Int32) : Prop := (a59 = a113 ∧ a60 = a115) ∧ (a113.length = 10 ∧ a114.length = 10 ∧ a115.length = 10) ∧ E ≤ 10 ∧ i1 = Int32.ofNat E ∧ i2 = Int32.ofNat E ∧ (∀ k, k < 10 → (∃ p, p < 1000 ∧ g a113 k = Int32.ofNat p) ∧ (∃ b, b < 1024 ∧ g a115 k = Int32.ofNat b) ∧ (E ≤ k → g a115 k = 0)) ∧ (∃ o, o < 2 ^ E ∧ i3714 = Int32.ofNat o ∧ ∀ k, k < E → g a114 k = if o.testBit k then 1 else 0) ∧ ∀ i j, i < 10 → j < 10 → (cb a115 i).testBit j = (cb a115 j).testBit i
def v_sea (a23 a116 a24 a120 : List Int32) : Prop := a23 = a116 ∧ a24 = a120 ∧ a116.length = 8 ∧ a120.length = 8 ∧ ∀ k, k < 8 → (∃ s, s < 100 ∧ g a116 k = Int32.ofNat s) ∧ ∃ b, b < 1000 ∧ g a120 k = Int32.ofNat b
def v_cls (C : Nat) (a62 a63 : List Int32) (ws : List (List Int32)) (i1 : Int32) (a117 a118 a119 : List Int32) (i2 : Int32) : Prop := (a62 = a117 ∧ a63 = a119) ∧ (a117.length = 8 ∧ a118.length = 64 ∧ a119.length = 8) ∧ C ≤ 8 ∧ i1 = Int32.ofNat C ∧ i2 = Int32.ofNat C ∧ (∀ l, l < 8 → (ws.getD l []).length = 8 ∧ ∀ c, c < 8 → g (ws.getD l []) c = g a118 (8 * c + l)) ∧ (∀ k, k < 8 → (∃ u, u < 16777216 ∧ g a117 k = Int32.ofNat u) ∧ (∃ b, b < 256 ∧ g a119 k = Int32.ofNat b) ∧ (C ≤ k → g a119 k = 0)) ∧ ∀ i j, i < 8 → j < 8 → (cb a119 i).testBit j = (cb a119 j).testBit i
/-- one step of the shortest ways: over m, from a to b -/
def fw_1 (q : List Int32) (m a b : Nat) : List Int32 := if g q (8 * a + b) ≤ g q (8 * a + m) + g q (8 * m + b) then q else q.set (8 * a + b) (g q (8 * a + m) + g q (8 * m + b))
def fw_b (q : List Int32) (m a : Nat) : Nat → List Int32
  | 0 => q
  | b + 1 => fw_1 (fw_b q m a b) m a b
def fw_a (q : List Int32) (m : Nat) : Nat → List Int32
  | 0 => q
  | a + 1 => fw_b (fw_a q m a) m a 8
def fw_m (q : List Int32) : Nat → List Int32
  | 0 => q
  | m + 1 => fw_a (fw_m q m) m 8
def fw (q : List Int32) : List Int32 := fw_m q 8
def v_rod (rs ws : List (List Int32)) (a86 : List Int32) : Prop := a86.length = 64 ∧ (∀ k, k < 64 → ∃ d, d < 1000 ∧ g a86 k = Int32.ofNat d) ∧ (∀ a, a < 8 → g a86 (8 * a + a) = 0) ∧ ∀ a, a < 8 → (rs.getD a []).length = 8 ∧ (ws.getD a []).length = 8 ∧ ∀ b, b < 8 → g (rs.getD a []) b = (if a = b then 999 else g a86 (8 * a + b)) ∧ g (ws.getD a []) b = g (fw a86) (8 * a + b)
def v_sh1 (s : Nat) (so sz : Int32) (it a124 a125 a126 : List Int32) : Prop := it.length = 40 ∧ so = g a124 s ∧ sz = g a125 s ∧ (∀ k, k < 40 → g it k = g a126 (40 * s + k)) ∧ (so = -1 ∨ ∃ q, q < 3 ∧ so = Int32.ofNat q) ∧ ∃ n, n ≤ 40 ∧ sz = Int32.ofNat n
def v_sht (s0 z0 s1 z1 s2 z2 s3 z3 : Int32) (t0 t1 t2 t3 a124 a125 a126 : List Int32) : Prop := (a124.length = 4 ∧ a125.length = 4 ∧ a126.length = 160) ∧ v_sh1 0 s0 z0 t0 a124 a125 a126 ∧ v_sh1 1 s1 z1 t1 a124 a125 a126 ∧ v_sh1 2 s2 z2 t2 a124 a125 a126 ∧ v_sh1 3 s3 z3 t3 a124 a125 a126
/-- the class's sign for one of the model's -/
def cm (v : Int32) : Int32 := if 10000 ≤ v then 9999 - v else if 0 ≤ v then v else if v = -1 then -9 else if v = -2 then -10 else if v = -3 then -7 else if v = -4 then -11 else if v = -5 then -12 else if v = -6 then -13 else if v = -7 then -14 else if v = -8 then -15 else -8
/-- how many stand on the stack behind a row of signs -/
def rp : List Int32 → Nat → Option Nat
  | [], n => some n
  | v :: r, n => if 0 ≤ v then (if v ≤ 10005 ∧ n < 40 then rp r (n + 1) else none) else if v = -3 ∨ v = -9 then (if 1 ≤ n then rp r n else none) else if -8 ≤ v then (if 2 ≤ n then rp r (n - 1) else none) else none
def fcd (a44 a46 : List Int32) (x : am_X) (w : Nat) : Option (List Int32) := am_fcode (fun c => if c = 44 then a44 else a46) x w
theorem fcd_eq (A : Nat → List Int32) (x : am_X) (w : Nat) : am_fcode A x w = fcd (A 44) (A 46) x w := rfl
/-- one formula: the class's code (by its array of Formulas) and the model's row p -/
def v_fm (a44 a46 : List Int32) (x : am_X) (l : List (Option Nat)) (t p : Nat) (a103 a104 : List Int32) : Prop := ∃ (w : Nat) (ms : List Int32), l[t]? = some (some w) ∧ fcd a44 a46 x w = some (ms.map cm) ∧ ms.length ≤ 160 ∧ g a103 p = Int32.ofNat ms.length ∧ (∀ k, k < ms.length → g a104 (160 * p + k) = g ms k) ∧ rp ms 0 = some 1
def v_txt (X : Nat) (a40 a44 a46 a102 : List Int32) (i1 i2 : Int32) (a103 a104 : List Int32) (x : am_X) : Prop := (a40 = a102 ∧ a44.length = 1 ∧ a46.length = 1 ∧ a102.length = 3 ∧ a103.length = 12 ∧ a104.length = 1920 ∧ x.1.length = 6 ∧ x.2.1.length = 6) ∧ 1 ≤ X ∧ X ≤ 6 ∧ i1 = Int32.ofNat X ∧ i2 = Int32.ofNat X ∧ (∀ k, k < 3 → ∃ t, t < X ∧ g a102 k = Int32.ofNat t) ∧ ∀ t, t < X → v_fm a44 a46 x x.1 t (2 * t) a103 a104 ∧ v_fm a44 a46 x x.2.1 t (2 * t + 1) a103 a104
def v_scr (l : List (List Int32)) : Prop := l.map List.length = [6, 40, 161, 161, 161, 160, 7, 7, 64, 161, 7, 6, 161, 7, 7, 7, 40]
abbrev v_scs (A : Nat → List Int32) : List (List Int32) := [A 41, A 42, A 54, A 55, A 56, A 57, A 74, A 75, A 87, A 105, A 106, A 107, A 108, A 121, A 122, A 123, A 127]
/-- all of it; the numbers: PERSONS, ACTS, TURNS, PAYMENTS, ELECTORS, CLAUSES, TEXTS, bytes of THE TAPE -/
def Iv (P N T R E C X Z : Nat) (A : Nat → List Int32) (I : Nat → Int32) (x : am_X) : Prop :=
  v_ppl P (A 26) (A 88) (I 1601) (I 5442) ∧
  v_off (A 27) (A 89) (A 28) (A 90) ∧
  v_trn T (A 20) (A 21) (A 22) (I 69) (A 91) (A 92) (A 93) (I 5443) ∧
  v_act N (A 30) (A 31) (A 32) (A 33) (A 34) (A 35) (A 36) (I 1863) (A 94) (A 95) (A 96) (A 97) (A 98) (A 99) (A 100) (I 5450) ∧
  v_tap Z (A 53) (I 3329) (A 101) (I 5459) ∧
  v_rnt R (A 48) (A 49) (A 50) (A 51) (I 3012) (A 109) (A 110) (A 111) (A 112) (I 5476) ∧
  v_ele E (A 59) (A 60) (I 3714) (I 3715) (A 113) (A 114) (A 115) (I 5481) ∧
  v_sea (A 23) (A 116) (A 24) (A 120) ∧
  v_cls C (A 62) (A 63) [A 65, A 66, A 67, A 68, A 69, A 70, A 71, A 72] (I 3907) (A 117) (A 118) (A 119) (I 5486) ∧
  v_rod [A 3, A 4, A 5, A 6, A 7, A 8, A 9, A 10] [A 12, A 13, A 14, A 15, A 16, A 17, A 18, A 19] (A 86) ∧
  v_sht (I 4928) (I 4929) (I 5056) (I 5057) (I 5184) (I 5185) (I 5312) (I 5313) (A 78) (A 80) (A 82) (A 84) (A 124) (A 125) (A 126) ∧
  v_txt X (A 40) (A 44) (A 46) (A 102) (I 2373) (I 5460) (A 103) (A 104) x ∧
  v_scr (v_scs A)
def Iv0 (n : Nat) (A : Nat → List Int32) (I : Nat → Int32) (x : am_X) : Prop := (∃ P N T R E C X Z, Iv P N T R E C X Z A I x) ∧ x.2.2.2.2.length ≤ 4 * n ∧ am_sl0 x.2.2.2.2 ≤ 400 * n
/-- one call of both: like answers, and all holds again -/
def am_op (xs : List Int32) (n k1 k2 : Nat) (as : List Value) (A : Nat → List Int32) (I : Nat → Int32) (x : am_X) : Prop := ∃ (v : Int32) (A1 : Nat → List Int32) (I1 : Nat → Int32) (x1 : am_X) (A2 : Nat → List Int32) (I2 : Nat → Int32) (x2 : am_X), am_Rt (am_ro xs) 100 k1 (.ref 0 :: as) (hp A I x) (some (.int v), hp A1 I1 x1) ∧ am_Rt (am_ro xs) 100 k2 (.ref 85 :: as) (hp A1 I1 x1) (some (.int v), hp A2 I2 x2) ∧ Iv0 (n + 1) A2 I2 x2
def am_opl (xs : List Int32) (n k1 k2 : Nat) (as : List Value) (A : Nat → List Int32) (I : Nat → Int32) (x : am_X) : Prop := ∃ (v : Int64) (A1 : Nat → List Int32) (I1 : Nat → Int32) (x1 : am_X) (A2 : Nat → List Int32) (I2 : Nat → Int32) (x2 : am_X), am_Rt (am_ro xs) 100 k1 (.ref 0 :: as) (hp A I x) (some (.long v), hp A1 I1 x1) ∧ am_Rt (am_ro xs) 100 k2 (.ref 85 :: as) (hp A1 I1 x1) (some (.long v), hp A2 I2 x2) ∧ Iv0 (n + 1) A2 I2 x2
