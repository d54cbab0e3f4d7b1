/-! the set bits: the halving count against the sum over 64 places -/
theorem and_split {a d A m : Nat} (hd : d < 256) (hm : m < 256) : (256 * a + d) &&& (256 * A + m) = 256 * (a &&& A) + (d &&& m) := by
  have hdm : d &&& m < 2 ^ 8 := Nat.and_lt_two_pow d (show m < 2 ^ 8 by omega)
  apply Nat.eq_of_testBit_eq
  intro i
  have e1 : (256 * a + d).testBit i = if i < 8 then d.testBit i else a.testBit (i - 8) := Nat.testBit_two_pow_mul_add a (i := 8) (by omega) i
  have e2 : (256 * A + m).testBit i = if i < 8 then m.testBit i else A.testBit (i - 8) := Nat.testBit_two_pow_mul_add A (i := 8) (by omega) i
  have e3 : (256 * (a &&& A) + (d &&& m)).testBit i = if i < 8 then (d &&& m).testBit i else (a &&& A).testBit (i - 8) := Nat.testBit_two_pow_mul_add (a &&& A) (i := 8) hdm i
  rw [Nat.testBit_and, e1, e2, e3]
  by_cases c : i < 8
  · rw [if_pos c, if_pos c, if_pos c, Nat.testBit_and]
  · rw [if_neg c, if_neg c, if_neg c, Nat.testBit_and]
def mk8 (c : Nat) : Nat → Nat
  | 0 => 0
  | n + 1 => 256 * mk8 c n + c
def w0 (M x : Nat) : Nat := x - ((x / 2) &&& M)
def w1 (M y : Nat) : Nat := (y &&& M) + ((y / 4) &&& M)
def w2 (M y : Nat) : Nat := (y + y / 16) &&& M
def sb (x : Nat) : Nat → Nat
  | 0 => 0
  | t + 1 => sb x t + x / 2 ^ t % 2
theorem sb_le (x : Nat) : ∀ t, sb x t ≤ t
  | 0 => Nat.le_refl _
  | t + 1 => by
    have := sb_le x t
    rw [sb]
    omega
theorem by0 : ∀ e, e < 2 → ∀ d, d < 256 → (128 * e + d / 2) &&& 85 = (d / 2) &&& 85 := by decide +kernel
theorem by1 : ∀ e, e < 4 → ∀ d, d < 256 → (64 * e + d / 4) &&& 51 = (d / 4) &&& 51 := by decide +kernel
theorem by2 : ∀ d, d < 256 → w1 51 (w0 85 d) ≤ 68 ∧ w1 51 (w0 85 d) % 16 ≤ 4 ∧ (w1 51 (w0 85 d) + w1 51 (w0 85 d) / 16) % 16 = sb d 8 := by decide +kernel
theorem w0_split {M a d : Nat} (hd : d < 256) : w0 (256 * M + 85) (256 * a + d) = 256 * w0 M a + w0 85 d ∧ w0 85 d < 256 := by
  unfold w0
  have e : (256 * a + d) / 2 = 256 * (a / 2) + (128 * (a % 2) + d / 2) := by omega
  have h1 : a / 2 &&& M ≤ a / 2 := Nat.and_le_left
  have h2 : d / 2 &&& 85 ≤ d / 2 := Nat.and_le_left
  rw [e, and_split (by omega) (by omega), by0 _ (by omega) d hd]
  omega
theorem w1_split {M A D : Nat} (hD : D < 256) : w1 (256 * M + 51) (256 * A + D) = 256 * w1 M A + w1 51 D := by
  unfold w1
  have e : (256 * A + D) / 4 = 256 * (A / 4) + (64 * (A % 4) + D / 4) := by omega
  rw [e, and_split hD (by omega), and_split (by omega) (by omega), by1 _ (by omega) D hD]
  omega
def w01 (n x : Nat) : Nat := w1 (mk8 51 n) (w0 (mk8 85 n) x)
theorem w01_split {n a d : Nat} (hd : d < 256) : w01 (n + 1) (256 * a + d) = 256 * w01 n a + w1 51 (w0 85 d) := by
  unfold w01
  obtain ⟨e, hl⟩ := w0_split (M := mk8 85 n) (a := a) hd
  rw [mk8, mk8, e, w1_split hl]
theorem w01_low : ∀ n a, w01 n a % 16 ≤ 4
  | 0, a => by
    unfold w01 w1 mk8
    rw [Nat.and_zero, Nat.and_zero]
    omega
  | n + 1, a => by
    have e : a = 256 * (a / 256) + a % 256 := by omega
    have hd : a % 256 < 256 := by omega
    rw [e, w01_split hd]
    have := (by2 (a % 256) hd).2.1
    omega
def wF (n x : Nat) : Nat := w2 (mk8 15 n) (w01 n x)
def wS : Nat → Nat → Nat
  | 0, _ => 0
  | n + 1, x => 256 * wS n (x / 256) + sb (x % 256) 8
theorem wF_S : ∀ n x, wF n x = wS n x
  | 0, x => by
    unfold wF w2 mk8 wS
    exact Nat.and_zero _
  | n + 1, x => by
    have e : x = 256 * (x / 256) + x % 256 := by omega
    have hd : x % 256 < 256 := by omega
    rw [wS, ← wF_S n (x / 256)]
    obtain ⟨b1, b2, b3⟩ := by2 (x % 256) hd
    have hl := w01_low n (x / 256)
    have hs := sb_le (x % 256) 8
    have A : w01 (n + 1) x = 256 * w01 n (x / 256) + w1 51 (w0 85 (x % 256)) := by
      have := w01_split (n := n) (a := x / 256) hd
      rw [← e] at this
      exact this
    unfold wF w2
    rw [A, mk8]
    generalize w01 n (x / 256) = U at hl
    generalize w1 51 (w0 85 (x % 256)) = V at b1 b2 b3
    have e2 : 256 * U + V + (256 * U + V) / 16 = 256 * (U + U / 16) + (V + V / 16 + 16 * (U % 16)) := by omega
    rw [e2, and_split (by omega) (by omega)]
    have e3 : V + V / 16 + 16 * (U % 16) &&& 15 = sb (x % 256) 8 := by
      have := Nat.and_two_pow_sub_one_eq_mod (V + V / 16 + 16 * (U % 16)) 4
      rw [show (15 : Nat) = 2 ^ 4 - 1 from rfl, this]
      show (V + V / 16 + 16 * (U % 16)) % 16 = _
      omega
    rw [e3]
theorem sb8 (x : Nat) : sb x 8 = sb (x % 256) 8 := by
  simp only [sb]
  omega
def wT : Nat → Nat → Nat
  | 0, _ => 0
  | n + 1, x => sb (x % 256) 8 + wT n (x / 256)
theorem sb_add (x : Nat) : ∀ n, sb x (8 + n) = sb x 8 + sb (x / 256) n
  | 0 => rfl
  | n + 1 => by
    rw [show 8 + (n + 1) = (8 + n) + 1 from rfl, sb, sb_add x n, sb.eq_2 (x / 256) n, Nat.pow_add, ← Nat.div_div_eq_div_mul]
    show _ + x / 256 / 2 ^ n % 2 = _
    omega
theorem sb_T : ∀ n x, sb x (8 * n) = wT n x
  | 0, _ => rfl
  | n + 1, x => by rw [show 8 * (n + 1) = 8 + 8 * n by omega, sb_add, sb8, wT, sb_T n]
theorem dv {X Y c : Nat} (h : Y = 256 * X + c) (hc : c < 256) : Y / 256 = X := by omega
theorem st {X Y X' Y' c c' : Nat} (h : Y = 256 * X + c) (h' : Y' = 256 * X' + c') : Y + Y' = 256 * (X + X') + (c + c') := by omega
theorem bd {X Y c B : Nat} (h : Y = 256 * X + c) (hX : X ≤ B) (hc : c ≤ 8) : Y ≤ 256 * B + 8 := by omega
theorem fin128 {R Z s : Nat} (h : R = 256 * Z + s) (hs : s < 128) : R % 18446744073709551616 % 4294967296 % 128 = s := by omega
theorem fold_lem {c0 c1 c2 c3 c4 c5 c6 c7 X1 X2 X3 X4 X5 X6 X7 W : Nat} (b0 : c0 ≤ 8) (b1 : c1 ≤ 8) (b2 : c2 ≤ 8) (b3 : c3 ≤ 8) (b4 : c4 ≤ 8) (b5 : c5 ≤ 8) (b6 : c6 ≤ 8) (b7 : c7 ≤ 8)
    (h0 : W = 256 * X1 + c0) (h1 : X1 = 256 * X2 + c1) (h2 : X2 = 256 * X3 + c2) (h3 : X3 = 256 * X4 + c3) (h4 : X4 = 256 * X5 + c4) (h5 : X5 = 256 * X6 + c5) (h6 : X6 = 256 * X7 + c6) (h7 : X7 = 256 * 0 + c7) :
    (let a := (W + W / 256) % 18446744073709551616; let b := (a + a / 65536) % 18446744073709551616; ((b + b / 4294967296) % 18446744073709551616) % 4294967296 % 128) = c0 + c1 + (c2 + c3) + (c4 + c5 + (c6 + c7)) := by
  have s1 : W / 256 = X1 := dv h0 (Nat.lt_of_le_of_lt b0 (by decide))
  have q1 := st h0 h1
  have q2 := st h1 h2
  have q3 := st h2 h3
  have q4 := st h3 h4
  have q5 := st h4 h5
  have q6 := st h5 h6
  have q7 := st h6 h7
  have g7 := bd h7 (Nat.le_refl 0) b7
  have g6 := bd h6 g7 b6
  have g5 := bd h5 g6 b5
  have g4 := bd h4 g5 b4
  have g3 := bd h3 g4 b3
  have g2 := bd h2 g3 b2
  have g1 := bd h1 g2 b1
  have g0 := bd h0 g1 b0
  have sm : ∀ {u v : Nat}, u ≤ 8 → v ≤ 8 → u + v < 256 := fun h h' => by omega
  have sm4 : ∀ {u v w z : Nat}, u ≤ 8 → v ≤ 8 → w ≤ 8 → z ≤ 8 → u + v + (w + z) < 256 := fun h h' h2 h3 => by omega
  have d1 : (W + X1) / 65536 = X2 + X3 := by
    rw [show (65536 : Nat) = 256 * 256 from rfl, ← Nat.div_div_eq_div_mul, dv q1 (sm b0 b1), dv q2 (sm b1 b2)]
  have r1 := st q1 q3
  have r2 := st q2 q4
  have r3 := st q3 q5
  have r4 := st q4 q6
  have d2 : (W + X1 + (X2 + X3)) / 4294967296 = X4 + X5 + (X6 + X7) := by
    rw [show (4294967296 : Nat) = 256 * 256 * 256 * 256 from rfl, ← Nat.div_div_eq_div_mul, ← Nat.div_div_eq_div_mul, ← Nat.div_div_eq_div_mul, dv r1 (sm4 b0 b1 b2 b3), dv r2 (sm4 b1 b2 b3 b4), dv r3 (sm4 b2 b3 b4 b5), dv r4 (sm4 b3 b4 b5 b6)]
  have r5 := st q5 q7
  have m1 : (W + X1) % 18446744073709551616 = W + X1 := Nat.mod_eq_of_lt (Nat.lt_of_le_of_lt (Nat.add_le_add g0 g1) (by decide))
  have m2 : (W + X1 + (X2 + X3)) % 18446744073709551616 = W + X1 + (X2 + X3) := Nat.mod_eq_of_lt (Nat.lt_of_le_of_lt (Nat.add_le_add (Nat.add_le_add g0 g1) (Nat.add_le_add g2 g3)) (by decide))
  dsimp only
  rw [s1, m1, d1, m2, d2]
  have fz := st r1 r5
  have hs : c0 + c1 + (c2 + c3) + (c4 + c5 + (c6 + c7)) < 128 := by clear h0 h1 h2 h3 h4 h5 h6 h7 q1 q2 q3 q4 q5 q6 q7 r1 r2 r3 r4 r5 fz m1 m2 d1 d2 s1 g0 g1 g2 g3 g4 g5 g6 g7; omega
  exact fin128 fz hs
theorem fold8 (x : Nat) : (let a := (wS 8 x + wS 8 x / 256) % 18446744073709551616; let b := (a + a / 65536) % 18446744073709551616; ((b + b / 4294967296) % 18446744073709551616) % 4294967296 % 128) = sb x 64 := by
  have eT : sb x 64 = wT 8 x := sb_T 8 x
  have h0 := sb_le (x % 256) 8
  have h1 := sb_le (x / 256 % 256) 8
  have h2 := sb_le (x / 256 / 256 % 256) 8
  have h3 := sb_le (x / 256 / 256 / 256 % 256) 8
  have h4 := sb_le (x / 256 / 256 / 256 / 256 % 256) 8
  have h5 := sb_le (x / 256 / 256 / 256 / 256 / 256 % 256) 8
  have h6 := sb_le (x / 256 / 256 / 256 / 256 / 256 / 256 % 256) 8
  have h7 := sb_le (x / 256 / 256 / 256 / 256 / 256 / 256 / 256 % 256) 8
  have k0 : wS 8 (x) = 256 * wS 7 (x / 256) + sb (x % 256) 8 := rfl
  have k1 : wS 7 (x / 256) = 256 * wS 6 (x / 256 / 256) + sb (x / 256 % 256) 8 := rfl
  have k2 : wS 6 (x / 256 / 256) = 256 * wS 5 (x / 256 / 256 / 256) + sb (x / 256 / 256 % 256) 8 := rfl
  have k3 : wS 5 (x / 256 / 256 / 256) = 256 * wS 4 (x / 256 / 256 / 256 / 256) + sb (x / 256 / 256 / 256 % 256) 8 := rfl
  have k4 : wS 4 (x / 256 / 256 / 256 / 256) = 256 * wS 3 (x / 256 / 256 / 256 / 256 / 256) + sb (x / 256 / 256 / 256 / 256 % 256) 8 := rfl
  have k5 : wS 3 (x / 256 / 256 / 256 / 256 / 256) = 256 * wS 2 (x / 256 / 256 / 256 / 256 / 256 / 256) + sb (x / 256 / 256 / 256 / 256 / 256 % 256) 8 := rfl
  have k6 : wS 2 (x / 256 / 256 / 256 / 256 / 256 / 256) = 256 * wS 1 (x / 256 / 256 / 256 / 256 / 256 / 256 / 256) + sb (x / 256 / 256 / 256 / 256 / 256 / 256 % 256) 8 := rfl
  have k7 : wS 1 (x / 256 / 256 / 256 / 256 / 256 / 256 / 256) = 256 * 0 + sb (x / 256 / 256 / 256 / 256 / 256 / 256 / 256 % 256) 8 := rfl
  have key := fold_lem h0 h1 h2 h3 h4 h5 h6 h7 k0 k1 k2 k3 k4 k5 k6 k7
  rw [key, eT]
  simp only [wT, Nat.add_assoc, Nat.add_zero]
def bN64 (y : Int64) : Nat := y.toBitVec.toNat
theorem n_add (a b : Int64) : bN64 (a + b) = (bN64 a + bN64 b) % 18446744073709551616 := by
  unfold bN64
  rw [Int64.toBitVec_add, BitVec.toNat_add]
theorem n_sub (a b : Int64) : bN64 (a - b) = (18446744073709551616 - bN64 b + bN64 a) % 18446744073709551616 := by
  unfold bN64
  rw [Int64.toBitVec_sub, BitVec.toNat_sub]
theorem n_and (a b : Int64) : bN64 (a &&& b) = bN64 a &&& bN64 b := by
  unfold bN64
  rw [Int64.toBitVec_and, BitVec.toNat_and]
theorem n_lt (a : Int64) : bN64 a < 18446744073709551616 := a.toBitVec.isLt
theorem n_sh1 (a : Int64) : bN64 ((a.toUInt64 >>> ((1 : Int32).toInt64.toUInt64 &&& Int64.toUInt64 63)).toInt64) = bN64 a / 2 := by
  show bN64 a >>> 1 = _
  rw [Nat.shiftRight_eq_div_pow]
theorem n_sh2 (a : Int64) : bN64 ((a.toUInt64 >>> ((2 : Int32).toInt64.toUInt64 &&& Int64.toUInt64 63)).toInt64) = bN64 a / 4 := by
  show bN64 a >>> 2 = _
  rw [Nat.shiftRight_eq_div_pow]
theorem n_sh4 (a : Int64) : bN64 ((a.toUInt64 >>> ((4 : Int32).toInt64.toUInt64 &&& Int64.toUInt64 63)).toInt64) = bN64 a / 16 := by
  show bN64 a >>> 4 = _
  rw [Nat.shiftRight_eq_div_pow]
theorem n_sh8 (a : Int64) : bN64 ((a.toUInt64 >>> ((8 : Int32).toInt64.toUInt64 &&& Int64.toUInt64 63)).toInt64) = bN64 a / 256 := by
  show bN64 a >>> 8 = _
  rw [Nat.shiftRight_eq_div_pow]
theorem n_sh16 (a : Int64) : bN64 ((a.toUInt64 >>> ((16 : Int32).toInt64.toUInt64 &&& Int64.toUInt64 63)).toInt64) = bN64 a / 65536 := by
  show bN64 a >>> 16 = _
  rw [Nat.shiftRight_eq_div_pow]
theorem n_sh32 (a : Int64) : bN64 ((a.toUInt64 >>> ((32 : Int32).toInt64.toUInt64 &&& Int64.toUInt64 63)).toInt64) = bN64 a / 4294967296 := by
  show bN64 a >>> 32 = _
  rw [Nat.shiftRight_eq_div_pow]
theorem n_i32 (y : Int64) : y.toInt32 = nI (bN64 y % 4294967296) := by
  apply Int32.toBitVec_inj.mp
  apply BitVec.eq_of_toNat_eq
  rw [Int64.toBitVec_toInt32, BitVec.signExtend_eq_setWidth_of_le _ (by decide), BitVec.toNat_setWidth]
  show bN64 y % 4294967296 = (BitVec.ofNat 32 (bN64 y % 4294967296)).toNat
  rw [BitVec.toNat_ofNat]
  omega
