/-! the set bits: class and reference -/
theorem bits_c (x : Int64) : fJ13_bitCount_95d88 x = some (nI (sb (bN64 x) 64)) := by
  unfold fJ13_bitCount_95d88
  have hx := n_lt x
  have k5 : bN64 (6148914691236517205 : Int64) = mk8 85 8 := rfl
  have k3 : bN64 (3689348814741910323 : Int64) = mk8 51 8 := rfl
  have kf : bN64 (1085102592571150095 : Int64) = mk8 15 8 := rfl
  obtain ⟨A, hA⟩ : ∃ A : Int64, A = x - (((x.toUInt64 >>> ((1 : Int32).toInt64.toUInt64 &&& Int64.toUInt64 63)).toInt64) &&& (6148914691236517205 : Int64)) := ⟨_, rfl⟩
  have e0 : bN64 A = w0 (mk8 85 8) (bN64 x) := by
    rw [hA, n_sub, n_and, n_sh1, k5]
    unfold w0
    have : bN64 x / 2 &&& mk8 85 8 ≤ bN64 x / 2 := Nat.and_le_left
    generalize bN64 x / 2 &&& mk8 85 8 = g at this
    omega
  rw [← hA]
  obtain ⟨Y, hY⟩ : ∃ Y : Int64, Y = (A &&& (3689348814741910323 : Int64)) + (((A.toUInt64 >>> ((2 : Int32).toInt64.toUInt64 &&& Int64.toUInt64 63)).toInt64) &&& (3689348814741910323 : Int64)) := ⟨_, rfl⟩
  have l1 : bN64 A &&& mk8 51 8 ≤ 3689348814741910323 := Nat.and_le_right
  have l2 : bN64 A / 4 &&& mk8 51 8 ≤ 3689348814741910323 := Nat.and_le_right
  have e1 : bN64 Y = w1 (mk8 51 8) (bN64 A) := by
    rw [hY, n_add, n_and, n_and, n_sh2, k3]
    unfold w1
    exact Nat.mod_eq_of_lt (Nat.lt_of_le_of_lt (Nat.add_le_add l1 l2) (by decide))
  have l3 : bN64 Y ≤ 7378697629483820646 := by
    rw [e1]
    unfold w1
    exact Nat.add_le_add l1 l2
  rw [← hY, olet_s]
  obtain ⟨W, hW⟩ : ∃ W : Int64, W = (Y + ((Y.toUInt64 >>> ((4 : Int32).toInt64.toUInt64 &&& Int64.toUInt64 63)).toInt64)) &&& (1085102592571150095 : Int64) := ⟨_, rfl⟩
  have e2 : bN64 W = wS 8 (bN64 x) := by
    rw [hW, n_and, n_add, n_sh4, kf, Nat.mod_eq_of_lt (by omega), ← wF_S]
    unfold wF w2 w01
    rw [e1, e0]
  rw [← hW, olet_s]
  obtain ⟨a, ha⟩ : ∃ a : Int64, a = W + ((W.toUInt64 >>> ((8 : Int32).toInt64.toUInt64 &&& Int64.toUInt64 63)).toInt64) := ⟨_, rfl⟩
  rw [← ha, olet_s]
  obtain ⟨b, hb⟩ : ∃ b : Int64, b = a + ((a.toUInt64 >>> ((16 : Int32).toInt64.toUInt64 &&& Int64.toUInt64 63)).toInt64) := ⟨_, rfl⟩
  rw [← hb, n_i32]
  have e3 : bN64 a = (wS 8 (bN64 x) + wS 8 (bN64 x) / 256) % 18446744073709551616 := by rw [ha, n_add, n_sh8, e2]
  have e4 : bN64 b = (bN64 a + bN64 a / 65536) % 18446744073709551616 := by rw [hb, n_add, n_sh16]
  have key := fold8 (bN64 x)
  dsimp only at key
  rw [← e3, ← e4] at key
  rw [n_add, n_sh32, pk_andN (by omega) 7 (by decide)]
  show some (nI ((bN64 b + bN64 b / 4294967296) % 18446744073709551616 % 4294967296 % 128)) = _
  rw [key]
theorem sh64 : ∀ t, t < 64 → (((nI t).toInt64 &&& 63).toBitVec.smod 64).toNat = t := by decide +kernel
theorem bit_e (v : Int64) {t : Nat} (ht : t < 64) : (v >>> ((nI t).toInt64 &&& 63)) &&& 1 = Int64.ofNat (bN64 v / 2 ^ t % 2) := by
  apply Int64.toBitVec_inj.mp
  rw [Int64.toBitVec_and, Int64.toBitVec_shiftRight]
  show (v.toBitVec.sshiftRight (((nI t).toInt64 &&& 63).toBitVec.smod 64).toNat) &&& 1#64 = BitVec.ofNat 64 (bN64 v / 2 ^ t % 2)
  rw [sh64 t ht]
  apply BitVec.eq_of_getLsbD_eq
  intro i hi
  rw [BitVec.getLsbD_and, BitVec.getLsbD_sshiftRight, BitVec.getLsbD_ofNat, BitVec.getLsbD_ofNat]
  by_cases c : i = 0
  · subst c
    have e1 : (bN64 v / 2 ^ t % 2).testBit 0 = decide (bN64 v / 2 ^ t % 2 = 1) := by
      rw [Nat.testBit_zero]
      congr 1
      rw [Nat.mod_mod]
    have e2 : v.toBitVec.getLsbD t = decide (bN64 v / 2 ^ t % 2 = 1) := by
      show (bN64 v).testBit t = _
      rw [Nat.testBit_eq_decide_div_mod_eq]
    have e3 : Nat.testBit 1 0 = true := rfl
    rw [e1, e3, show t + 0 = t from rfl, if_pos ht, e2]
    simp
  · have e1 : (bN64 v / 2 ^ t % 2).testBit i = false := by
      apply Nat.testBit_lt_two_pow
      have : 2 ^ 1 ≤ 2 ^ i := Nat.pow_le_pow_right (by omega) (by omega)
      omega
    have e3 : Nat.testBit 1 i = false := by
      apply Nat.testBit_lt_two_pow
      have : 2 ^ 1 ≤ 2 ^ i := Nat.pow_le_pow_right (by omega) (by omega)
      omega
    rw [e1, e3, Bool.and_false, Bool.and_false]
theorem ofNat_add64 (a b : Nat) : Int64.ofNat a + Int64.ofNat b = Int64.ofNat (a + b) := (Int64.ofNat_add a b).symm
theorem bits_loop {va : Nat → Int64} {k i : Nat} (hk : k < 3) (hi : i < 12) :
    ∀ (n f t : Nat), t + n = 64 → n < f → ∃ w, lpX7_bits_21 (nI k) (nI i) va f (nI t) (Int64.ofNat (sb (bN64 (va (12 * k + i))) t)) = some (w, Int64.ofNat (sb (bN64 (va (12 * k + i))) 64)) := by
  intro n
  induction n with
  | zero =>
    intro f t h1 hf
    obtain ⟨f, rfl⟩ : ∃ g, f = g + 1 := ⟨f - 1, by omega⟩
    obtain rfl : t = 64 := by omega
    exact ⟨nI 64, by rw [lpX7_bits_21, if_pos (show (64 : Int32) ≤ nI 64 by decide)]⟩
  | succ n ih =>
    intro f t h1 hf
    obtain ⟨f, rfl⟩ : ∃ g, f = g + 1 := ⟨f - 1, by omega⟩
    rw [lpX7_bits_21, if_neg (show ¬ (64 : Int32) ≤ nI t from nI_ge (b := 64) (by omega) (by omega)), mslot, oin_in (by omega) (by omega), nI_clamp (by omega), bit_e _ (by omega), ofNat_add64, nI_1]
    exact ih f (t + 1) (by omega) (by omega)
theorem wide_nat {c : Nat} (h : c < 2147483648) : (nI c).toInt64 = Int64.ofNat c := by
  apply Int64.toInt_inj.mp
  rw [Int32.toInt_toInt64, nI_toInt (by omega), lg_ofNat_toInt (by omega)]
theorem eq_bits {pl va : Nat → Int64} {le si : Nat → Int32} (hR : RowsI pl le va si) (t : Int64) (x y : Int32) : ∃ r t', fX6_bits t pl le x y = some (r, t') ∧ fX7_bits t si va x y = some (r, t') := by
  unfold fX6_bits fX7_bits
  rcases place_cases hR x y with ⟨c, c0, h1, h2⟩ | ⟨k, z, i, hk, hz, hi, rfl, rfl, a1, a2, a3, h1, h2⟩
  · rw [h1, h2, obd_s, obd_s, if_neg c0, if_neg c0]
    exact ⟨_, _, rfl, rfl⟩
  · obtain ⟨w, p⟩ := bits_loop (va := va) hk (show i < 12 by omega) 64 100000 0 (by omega) (by omega)
    have p' : lpX7_bits_21 (nI k) (nI i) va 100000 0 0 = some (w, Int64.ofNat (sb (bN64 (va (12 * k + i))) 64)) := p
    have hs := sb_le (bN64 (va (12 * k + i))) 64
    rw [h1, h2, obd_s, obd_s, if_pos z00, if_pos z00, get_in hk hz hi a1, obd_s, bits_c, obd_s, p', obd_s, a3 i hi, wide_nat (by omega)]
    exact ⟨_, _, rfl, rfl⟩
