/-! count, load, work, sum -/
theorem eq_count {bits size kc mc sp jo : Int32} {keys marks row : Nat → Int32} {b s n m p j : Nat} {K M : Nat → Nat} {pl va : Nat → Int64} {le si : Nat → Int32} (h : Both bits size kc mc sp jo keys marks row b s n m p j K M) (hR : RowsI pl le va si) (u l x : Int32) : ∃ r, fX6_count bits size kc mc sp jo marks u l le x = some r ∧ fX7_count u l row si x = some r := by
  unfold fX6_count fX7_count
  have r0 : row 0 = bits := h.r0.trans h.2.1.symm
  have r1 : row 1 = size := by have := h.2.2.2.2.2.2.2.2.2.2.1; simpa using this.trans h.2.2.1.symm
  have r2 : row 2 = kc := h.r2.trans h.2.2.2.1.symm
  have r3 : row 3 = mc := h.r3.trans h.2.2.2.2.1.symm
  have r4 : row 4 = sp := by have := h.2.2.2.2.2.2.2.2.2.2.2.2.2.1; simpa using this.trans h.2.2.2.2.2.1.symm
  have r5 : row 5 = jo := by have := h.2.2.2.2.2.2.2.2.2.2.2.2.2.2.1; simpa using this.trans h.2.2.2.2.2.2.1.symm
  have rd : ∀ (k : Nat), k < 10 → ∀ y, row k = y → oin (nI k) 1824 (some (row (nI k).toNatClampNeg)) = some y := fun k hk y hy => by
    rw [oin_in (by omega) (by omega), nI_clamp (by omega), hy]
  by_cases c0 : x = (0 : Int32)
  · rw [if_pos c0, if_pos c0, c0]; exact ⟨_, rfl, rd 0 (by omega) _ r0⟩
  by_cases c1 : x = (1 : Int32)
  · rw [if_neg c0, if_neg c0, if_pos c1, if_pos c1, c1]; exact ⟨_, rfl, rd 1 (by omega) _ r1⟩
  by_cases c2 : x = (2 : Int32)
  · rw [if_neg c0, if_neg c0, if_neg c1, if_neg c1, if_pos c2, if_pos c2, c2]; exact ⟨_, rfl, rd 2 (by omega) _ r2⟩
  by_cases c3 : x = (3 : Int32)
  · rw [if_neg c0, if_neg c0, if_neg c1, if_neg c1, if_neg c2, if_neg c2, if_pos c3, if_pos c3, c3]; exact ⟨_, rfl, rd 3 (by omega) _ r3⟩
  rw [if_neg c0, if_neg c0, if_neg c1, if_neg c1, if_neg c2, if_neg c2, if_neg c3, if_neg c3]
  by_cases c4 : x = (4 : Int32)
  · rw [if_pos c4, if_pos c4, h.2.1, h.2.2.2.2.1, allB_c h.lx, allB_m h.lx, obd_s]
    exact ⟨_, rfl, rfl⟩
  rw [if_neg c4, if_neg c4]
  by_cases c5 : x = (5 : Int32)
  · rw [if_pos c5, if_pos c5]; exact ⟨_, rfl, rd 4 (by omega) _ r4⟩
  rw [if_neg c5, if_neg c5]
  by_cases c6 : x = (6 : Int32)
  · rw [if_pos c6, if_pos c6]; exact ⟨_, rfl, rd 5 (by omega) _ r5⟩
  rw [if_neg c6, if_neg c6]
  by_cases c7 : x = (7 : Int32)
  · obtain ⟨r, q1, q2⟩ := eq_all hR
    rw [if_pos c7, if_pos c7, q1, q2, obd_s]
    exact ⟨_, rfl, rfl⟩
  rw [if_neg c7, if_neg c7]
  by_cases c8 : x = (8 : Int32)
  · rw [if_pos c8]; exact ⟨_, rfl, rfl⟩
  rw [if_neg c8]
  by_cases c9 : x = (9 : Int32)
  · rw [if_pos c9]; exact ⟨_, rfl, rfl⟩
  rw [if_neg c9]
  exact ⟨_, rfl, rfl⟩
section
variable {bits size kc mc sp jo : Int32} {keys marks row : Nat → Int32} {b s n m p j : Nat} {K M : Nat → Nat} {le si : Nat → Int32}
theorem load_c (h : Both bits size kc mc sp jo keys marks row b s n m p j K M) {k z q c : Nat} {pl0 : Nat → Int64} (hk : k < 3) (hz : z ≤ 12) (hl : le k = nI z) (hcz : c ≤ z) (hcn : 0 < c → q + c ≤ n) (hq : q < 2147483648) :
    ∀ (t f i : Nat) (pl : Nat → Int64), i + t = c → t < f → (∀ u, pl u = if 12 * k ≤ u ∧ u < 12 * k + i then (nI (K (q + (u - 12 * k)))).toInt64 else pl0 u) →
      ∃ w, lpX6_load_65 (nI k) (nI q) (nI c) kc keys le f (nI i) pl = some w ∧ ∀ u, w.2 u = if 12 * k ≤ u ∧ u < 12 * k + c then (nI (K (q + (u - 12 * k)))).toInt64 else pl0 u := by
  intro t
  induction t with
  | zero =>
    intro f i pl h1 hf hp
    obtain ⟨f, rfl⟩ : ∃ g, f = g + 1 := ⟨f - 1, by omega⟩
    obtain rfl : i = c := by omega
    exact ⟨(nI i, pl), by rw [lpX6_load_65, if_pos (nI_le (by omega) (by omega))], hp⟩
  | succ t ih =>
    intro f i pl h1 hf hp
    obtain ⟨f, rfl⟩ : ∃ g, f = g + 1 := ⟨f - 1, by omega⟩
    have hn := h.cx.1
    have hqc := hcn (by omega)
    rw [lpX6_load_65, if_neg (nI_ge (by omega) (by omega)), nI_add, h.keyAtI (by omega), obd_s, put_in hk hz (by omega) hl, obd_s, nI_1]
    refine ih f (i + 1) _ (by omega) (by omega) (fun u => ?_)
    unfold vp_updL
    by_cases d : u = 12 * k + i
    · rw [if_pos d, if_pos (by omega), d, show 12 * k + i - 12 * k = i by omega]
    · rw [if_neg d, hp]
      by_cases e : 12 * k ≤ u ∧ u < 12 * k + i
      · rw [if_pos e, if_pos (by omega)]
      · rw [if_neg e, if_neg (by omega)]
theorem load_m (h : Both bits size kc mc sp jo keys marks row b s n m p j K M) {k z q c : Nat} {va0 : Nat → Int64} (hk : k < 3) (hz : z ≤ 12) (hl : si k = nI z) (hcz : c ≤ z) (hcn : 0 < c → q + c ≤ n) (hce : c = z ∨ n ≤ q + c) (hq : q < 2147483648) :
    ∀ (t f i : Nat) (va : Nat → Int64), i + t = c → t < f → (∀ u, va u = if 12 * k ≤ u ∧ u < 12 * k + i then (nI (K (q + (u - 12 * k)))).toInt64 else va0 u) →
      ∃ w, lpX7_load_31 (nI k) (nI q) row si f (nI i) va = some (nI c, w) ∧ ∀ u, w u = if 12 * k ≤ u ∧ u < 12 * k + c then (nI (K (q + (u - 12 * k)))).toInt64 else va0 u := by
  have hn := h.cx.1
  have o2 : ∀ {α : Type} (X : Option α), oin (2 : Int32) 1824 X = X := fun X => oin_in (a := 2) (by omega) (by omega)
  have e2 : row (2 : Int32).toNatClampNeg = nI n := h.r2
  have hcmp : ∀ i, i ≤ 12 → ((0 ≤ lg_cmp ((nI q).toInt64 + (nI i).toInt64) (nI n).toInt64) ↔ n ≤ q + i) := fun i hi => by
    rw [lg_cmp_ge, Int64.le_iff_toInt_le, lg_i2l_add, Int32.toInt_toInt64, nI_toInt (by omega), nI_toInt (by omega), nI_toInt (by omega)]
    omega
  intro t
  induction t with
  | zero =>
    intro f i va h1 hf hp
    obtain ⟨f, rfl⟩ : ∃ g, f = g + 1 := ⟨f - 1, by omega⟩
    obtain rfl : i = c := by omega
    refine ⟨va, ?_, hp⟩
    rw [lpX7_load_31, oin_in hk (by omega), nI_clamp (by omega), hl]
    by_cases cz : z ≤ i
    · rw [if_pos (nI_le cz (by omega))]
    · rw [if_neg (nI_ge (by omega) (by omega)), o2, e2, if_pos ((hcmp i (by omega)).mpr (by omega))]
  | succ t ih =>
    intro f i va h1 hf hp
    obtain ⟨f, rfl⟩ : ∃ g, f = g + 1 := ⟨f - 1, by omega⟩
    have hqc := hcn (by omega)
    have e6 : (6 : Int32) + nI q + nI i = nI (6 + (q + i)) := by
      have a1 : (6 : Int32) + nI q = nI (6 + q) := nI_add 6 q
      rw [a1, nI_add, Nat.add_assoc]
    rw [lpX7_load_31, oin_in hk (by omega), nI_clamp (by omega), hl, if_neg (nI_ge (by omega) (by omega)), o2, e2, if_neg (fun g => by have := (hcmp i (by omega)).mp g; omega), e6, oin_in (by omega) (by omega), mslot, oin_in (by omega) (by omega), nI_clamp (by omega), nI_clamp (by omega), h.r6 (by omega), nI_1]
    refine ih f (i + 1) _ (by omega) (by omega) (fun u => ?_)
    unfold vp_updL
    by_cases d : u = 12 * k + i
    · rw [if_pos d, if_pos (by omega), d, show 12 * k + i - 12 * k = i by omega]
    · rw [if_neg d, hp]
      by_cases e : 12 * k ≤ u ∧ u < 12 * k + i
      · rw [if_pos e, if_pos (by omega)]
      · rw [if_neg e, if_neg (by omega)]
theorem sub_neg {a c : Nat} (h : a < c) (hc : c < 2147483648) : nI a - nI c < 0 := by
  rw [Int32.lt_iff_toInt_lt, Int32.toInt_sub, nI_toInt (by omega), nI_toInt (by omega)]
  have : ((a : Int) - (c : Int)).bmod (2 ^ 32) = (a : Int) - c := by
    apply Int.bmod_eq_of_le <;> omega
  rw [this]
  show (a : Int) - c < 0
  omega
theorem eq_load {pl va : Nat → Int64} (h : Both bits size kc mc sp jo keys marks row b s n m p j K M) (hR : RowsI pl le va si) (x y : Int32) : ∃ r pl' va', fX6_load kc keys pl le x y = some (r, pl') ∧ fX7_load row si va x y = some (r, va') ∧ RowsI pl' le va' si := by
  have hn := h.cx.1
  unfold fX6_load fX7_load
  rcases row_cases x with ⟨h1, h2⟩ | ⟨k, hk, rfl, h1, h2⟩
  · rw [h1, h2, obd_s, obd_s, if_pos z00, if_pos z00]
    exact ⟨_, _, _, rfl, rfl, hR⟩
  rw [h1, h2, obd_s, obd_s, if_neg z10, if_neg z10]
  rcases i32_cases y with c | ⟨q, hq, rfl⟩
  · rw [if_neg (Int32.not_le.mpr c), if_neg (Int32.not_le.mpr c)]
    exact ⟨_, _, _, rfl, rfl, hR⟩
  rw [if_pos (nI_pos' (by omega)), if_pos (nI_pos' (by omega)), oin_in hk (by omega), nI_clamp (by omega)]
  rcases hR k hk with ⟨a1, a2⟩ | ⟨z, hz, a1, a2, a3⟩
  · rw [ref_no hk a1, obd_s, if_neg (by decide), a2, if_neg (by decide)]
    exact ⟨_, _, _, rfl, rfl, hR⟩
  · obtain ⟨c, hc1, hc2, hc3, hc4⟩ : ∃ c : Nat, c ≤ z ∧ (0 < c → q + c ≤ n) ∧ (c = z ∨ n ≤ q + c) ∧ (if (0 : Int32) < (if nI n - nI q < nI z then nI n - nI q else nI z) then (if nI n - nI q < nI z then nI n - nI q else nI z) else (0 : Int32)) = nI c := by
      by_cases c1 : n < q
      · refine ⟨0, by omega, by omega, by omega, ?_⟩
        have g1 := sub_neg c1 hq
        rw [if_pos (Int32.lt_of_lt_of_le g1 (nI_pos' (by omega))), if_neg (Int32.not_lt.mpr (Int32.le_of_lt g1))]
        rfl
      · rw [pk_sub (show q ≤ n by omega)]
        by_cases c2 : n - q < z
        · refine ⟨n - q, by omega, by omega, by omega, ?_⟩
          rw [if_pos (nI_lt c2 (by omega))]
          by_cases c3 : n - q = 0
          · rw [c3]; rfl
          · rw [if_pos (show (0 : Int32) < nI (n - q) from nI_lt (a := 0) (by omega) (by omega))]
        · refine ⟨z, by omega, by omega, by omega, ?_⟩
          rw [if_neg (nI_nlt (by omega) (by omega))]
          by_cases c3 : z = 0
          · subst c3; rfl
          · rw [if_pos (show (0 : Int32) < nI z from nI_lt (a := 0) (by omega) (by omega))]
    have hkc : kc = nI n := h.2.2.2.1
    obtain ⟨w1, p1, p2⟩ := load_c h (pl0 := pl) hk hz a1 hc1 hc2 hq c 100000 0 pl (by omega) (by omega) (fun t => by rw [if_neg (by omega)])
    obtain ⟨w2, q1, q2⟩ := load_m h (va0 := va) hk hz a2 hc1 hc2 hc3 hq c 100000 0 va (by omega) (by omega) (fun t => by rw [if_neg (by omega)])
    have p1' : lpX6_load_65 (nI k) (nI q) (nI c) (nI n) keys le 100000 0 pl = some w1 := hkc ▸ p1
    have q1' : lpX7_load_31 (nI k) (nI q) row si 100000 0 va = some (nI c, w2) := q1
    rw [ref_in hk hz a1, obd_s, if_pos z00, len_k hk, obd_s, a1, hkc, hc4, p1', obd_s, a2, if_pos (nI_pos' (by omega)), q1', obd_s]
    refine ⟨_, _, _, rfl, rfl, fun k' hk' => ?_⟩
    dsimp only
    rcases hR k' hk' with d | ⟨z', hz', b1, b2, b3⟩
    · exact Or.inl d
    · refine Or.inr ⟨z', hz', b1, b2, fun i hi => ?_⟩
      rw [p2, q2]
      by_cases e : 12 * k ≤ 12 * k' + i ∧ 12 * k' + i < 12 * k + c
      · rw [if_pos e, if_pos e]
      · rw [if_neg e, if_neg e]; exact b3 i hi
end
theorem neg_msb (x : Int64) : (x < 0) ↔ x.toBitVec.msb = true := by
  rw [Int64.lt_iff_toBitVec_slt]
  show x.toBitVec.slt 0#64 = true ↔ _
  rw [BitVec.slt_zero_eq_msb]
theorem ge0 (x : Int64) : (0 ≤ lg_cmp x 0) ↔ ¬ x.toBitVec.msb = true := by
  rw [lg_cmp_ge, ← Int64.not_lt, neg_msb]
/-- the sum is over: alike in class and reference -/
theorem plus_both (o : Int32) (x y : Int64) : ∃ u : Int32, (u = 0 ∨ u = 1) ∧ fX6_isOver x 0 y = some u ∧ fX7_plus o x y = some (x + y, u) := by
  unfold fX6_isOver fX6_worked fX7_plus
  rw [if_pos z00, obd_s, if_pos z00, olet_s, olet_s, olet_s]
  simp only [ge0, Int64.toBitVec_and, Int64.toBitVec_xor, BitVec.msb_and, BitVec.msb_xor]
  generalize (x + y).toBitVec.msb = c
  cases x.toBitVec.msb <;> cases y.toBitVec.msb <;> cases c <;> first | exact ⟨0, Or.inl rfl, rfl, rfl⟩ | exact ⟨1, Or.inr rfl, rfl, rfl⟩
theorem i32_wide_bd (w : Int32) : -2147483648 ≤ w.toInt64.toInt ∧ w.toInt64.toInt ≤ 2147483647 := by
  rw [Int32.toInt_toInt64]
  have a := w.le_toInt
  have b := w.toInt_lt
  omega
theorem neg_sign {y : Int64} (h1 : -2147483648 ≤ y.toInt) (h2 : y.toInt ≤ 2147483647) (h0 : ¬ y = 0) : (-y).toBitVec.msb = !y.toBitVec.msb := by
  have e : (-y).toInt = -y.toInt := by
    rw [Int64.toInt_neg]
    apply Int.bmod_eq_of_le <;> omega
  have n0 : y.toInt ≠ 0 := fun q => h0 (Int64.toInt_inj.mp (q.trans Int64.toInt_zero.symm))
  have k1 := neg_msb y
  have k2 := neg_msb (-y)
  rw [Int64.lt_iff_toInt_lt, Int64.toInt_zero] at k1 k2
  rw [e] at k2
  cases c1 : y.toBitVec.msb <;> cases c2 : (-y).toBitVec.msb
  · rw [c1] at k1; rw [c2] at k2; simp at k1 k2; omega
  · rfl
  · rfl
  · rw [c1] at k1; rw [c2] at k2; simp at k1 k2; omega
theorem minus_both (o : Int32) (x : Int64) (w : Int32) : ∃ u : Int32, (u = 0 ∨ u = 1) ∧ fX6_isOver x 1 w.toInt64 = some u ∧ fX7_plus o x (-w.toInt64) = some (x - w.toInt64, u) := by
  obtain ⟨h1, h2⟩ := i32_wide_bd w
  generalize w.toInt64 = y at h1 h2
  unfold fX6_isOver fX6_worked fX7_plus
  rw [if_neg z10, if_pos (show (1 : Int32) = 1 from rfl), olet_s, obd_s, if_neg z10, if_pos (show (1 : Int32) = 1 from rfl), olet_s, olet_s, olet_s, ← Int64.sub_eq_add_neg]
  by_cases c : y = 0
  · subst c
    simp only [ge0, Int64.toBitVec_and, Int64.toBitVec_xor, BitVec.msb_and, BitVec.msb_xor, Int64.sub_zero]
    have e0 : (0 : Int64).toBitVec.msb = false := rfl
    have e1 : (-0 : Int64).toBitVec.msb = false := rfl
    rw [e0, e1]
    cases x.toBitVec.msb <;> exact ⟨0, Or.inl rfl, rfl, rfl⟩
  · simp only [ge0, Int64.toBitVec_and, Int64.toBitVec_xor, BitVec.msb_and, BitVec.msb_xor, neg_sign h1 h2 c]
    generalize (x - y).toBitVec.msb = c
    cases x.toBitVec.msb <;> cases y.toBitVec.msb <;> cases c <;> first | exact ⟨0, Or.inl rfl, rfl, rfl⟩ | exact ⟨1, Or.inr rfl, rfl, rfl⟩
theorem onzl_n {α : Type} {y : Int64} {X : Option α} (h : ¬ y = 0) : onzl y X = X := by unfold onzl; rw [if_neg h]
theorem lt0 (x : Int64) : (0 ≤ lg_cmp x 0) ↔ ¬ x.toInt < 0 := by
  rw [lg_cmp_ge, Int64.le_iff_toInt_le, Int64.toInt_zero]
  omega
theorem times_both (o : Int32) (x y : Int64) : ∃ u : Int32, (u = 0 ∨ u = 1) ∧ fX6_isOver x 2 y = some u ∧ fX7_times o x y = some (x * y, u) := by
  have hx1 := x.le_toInt
  have hx2 := x.toInt_lt
  unfold fX6_isOver fX6_worked fX7_times
  rw [if_neg (show ¬ (2 : Int32) = 0 by decide), if_neg (show ¬ (2 : Int32) = 1 by decide), olet_s, obd_s, if_neg (show ¬ (2 : Int32) = 0 by decide), if_neg (show ¬ (2 : Int32) = 1 by decide)]
  simp only [lg_cmp_eq, lt0]
  by_cases cm : y = -1
  · subst cm
    rw [if_pos rfl, if_neg (show ¬ (-1 : Int64) = 0 by decide), onzl_n (by decide)]
    by_cases cx : x = -9223372036854775808
    · subst cx
      exact ⟨1, Or.inr rfl, rfl, by decide⟩
    · have hx3 : x.toInt ≠ -9223372036854775808 := fun q => cx (Int64.toInt_inj.mp (q.trans (by decide)))
      have m1 : (x * -1).toInt = -x.toInt := by
        rw [Int64.toInt_mul, show (-1 : Int64).toInt = -1 from rfl, Int.mul_neg_one]
        apply Int.bmod_eq_of_le <;> omega
      have d1 : x * -1 / -1 = x := by
        apply Int64.toInt_inj.mp
        rw [Int64.toInt_div, m1, show (-1 : Int64).toInt = -1 from rfl, Int.tdiv_neg, Int.tdiv_one, Int.neg_neg]
        apply Int.bmod_eq_of_le <;> omega
      rw [if_neg cx, if_pos d1, m1]
      by_cases c0 : x.toInt < 0
      · rw [if_neg (fun q => q c0), if_neg (show ¬ ¬ (-1 : Int64).toInt < 0 by decide), if_pos (by omega)]
        exact ⟨0, Or.inl rfl, rfl, rfl⟩
      · rw [if_pos c0]
        exact ⟨0, Or.inl rfl, rfl, rfl⟩
  · rw [if_neg cm]
    by_cases c0 : y = 0
    · subst c0
      rw [if_pos rfl, if_pos rfl, if_pos (show ¬ (0 : Int64).toInt < 0 by decide)]
      by_cases c1 : x.toInt < 0
      · rw [if_neg (fun q => q c1)]
        exact ⟨0, Or.inl rfl, rfl, rfl⟩
      · rw [if_pos c1]
        exact ⟨0, Or.inl rfl, rfl, rfl⟩
    · rw [if_neg c0, if_neg c0, onzl_n c0, onzl_n c0]
      by_cases c1 : x * y / y = x
      · rw [if_pos c1, if_pos c1]
        by_cases c2 : x.toInt < 0
        · by_cases c3 : y.toInt < 0
          · by_cases c4 : (x * y).toInt < 0
            · exfalso
              have e := Int64.toInt_div_of_ne_right (x * y) y cm
              rw [c1, ← Int.neg_tdiv_neg] at e
              have := Int.tdiv_nonneg (show 0 ≤ -(x * y).toInt by omega) (show 0 ≤ -y.toInt by omega)
              omega
            · rw [if_neg (fun q => q c2), if_neg (fun q => q c3), if_pos c4]
              exact ⟨0, Or.inl rfl, rfl, rfl⟩
          · rw [if_neg (fun q => q c2), if_pos c3]
            exact ⟨0, Or.inl rfl, rfl, rfl⟩
        · rw [if_pos c2]
          exact ⟨0, Or.inl rfl, rfl, rfl⟩
      · rw [if_neg c1, if_neg c1]
        exact ⟨1, Or.inr rfl, rfl, rfl⟩
theorem eq_work {pl va : Nat → Int64} {le si : Nat → Int32} (hR : RowsI pl le va si) (t : Int64) (o x y w v : Int32) : ∃ r t' o' pl' va', fX6_work t pl le x y w v = some (r, t', pl') ∧ fX7_work t o si va x y w v = some (r, t', o', va') ∧ RowsI pl' le va' si ∧ (o' = o ∨ o' = 0 ∨ o' = 1) := by
  have eL : ∀ z : Int32, fX7_in z.toInt64 (0 : Int64) (2 : Int64) = fX7_in z.toInt64 (0 : Int32).toInt64 (2 : Int32).toInt64 := fun _ => rfl
  unfold fX6_work fX7_work
  rw [eL]
  rcases row_cases x with ⟨h1, h2⟩ | ⟨k0, hk0, hx, h1, h2⟩
  · rw [h1, h2, obd_s, obd_s, if_pos z00, if_pos z00]
    exact ⟨_, _, _, _, _, rfl, rfl, hR, Or.inl rfl⟩
  rw [h1, h2, obd_s, obd_s, if_neg z10, if_neg z10]
  rcases way_cases w (N := 2) (by omega) with c | ⟨d, hd, rfl⟩ | c
  · rw [if_pos c, inI_lt c, obd_s, if_pos z00]
    exact ⟨_, _, _, _, _, rfl, rfl, hR, Or.inl rfl⟩
  · rw [if_neg (nI_pos (by omega)), if_pos (show nI d ≤ (2 : Int32) from nI_le (b := 2) hd (by omega)), inI_in (nI_pos (by omega)) (show ¬ (2 : Int32) < nI d from nI_nlt (a := 2) hd (by omega)), obd_s, if_neg z10]
    rcases place_cases hR x y with ⟨c, c0, g1, g2⟩ | ⟨k, z, i, hk, hz, hi, rfl, rfl, a1, a2, a3, g1, g2⟩
    · rw [g1, g2, obd_s, obd_s, if_neg c0, if_neg c0]
      exact ⟨_, _, _, _, _, rfl, rfl, hR, Or.inl rfl⟩
    · have e3 := a3 i hi
      rw [g1, g2, obd_s, obd_s, if_pos z00, if_pos z00, get_in hk hz hi a1, obd_s, mslot, oin_in (by omega) (by omega), nI_clamp (by omega), ← e3]
      generalize pl (12 * k + i) = q
      obtain ⟨r, u, hu, p1, p2, p3⟩ : ∃ (r : Int64) (u : Int32), (u = 0 ∨ u = 1) ∧ fX6_isOver q (nI d) v.toInt64 = some u ∧ fX6_worked q (nI d) v.toInt64 = some r ∧ (if nI d = (2 : Int32) then (obd (fX7_times o q v.toInt64) fun u_19 => some (u_19.1, u_19.2)) else (olet (if nI d = 0 then (v.toInt64) else ((-v.toInt64))) fun y_16 => obd (fX7_plus o q y_16) fun u_17 => some (u_17.1, u_17.2))) = some (r, u) := by
        have : d = 0 ∨ d = 1 ∨ d = 2 := by omega
        rcases this with rfl | rfl | rfl
        · obtain ⟨u, h1, h2, h3⟩ := plus_both o q v.toInt64
          refine ⟨q + v.toInt64, u, h1, h2, rfl, ?_⟩
          rw [if_neg (show ¬ nI 0 = (2 : Int32) by decide), if_pos (show nI 0 = (0 : Int32) from rfl), olet_s, h3, obd_s]
        · obtain ⟨u, h1, h2, h3⟩ := minus_both o q v
          refine ⟨q - v.toInt64, u, h1, h2, rfl, ?_⟩
          rw [if_neg (show ¬ nI 1 = (2 : Int32) by decide), if_neg (show ¬ nI 1 = (0 : Int32) by decide), olet_s, h3, obd_s]
        · obtain ⟨u, h1, h2, h3⟩ := times_both o q v.toInt64
          refine ⟨q * v.toInt64, u, h1, h2, rfl, ?_⟩
          rw [if_pos (show nI 2 = (2 : Int32) from rfl), h3, obd_s]
      rw [p1, obd_s, p2, obd_s, p3, obd_s]
      dsimp only
      rcases hu with rfl | rfl
      · rw [if_pos z00, if_pos z00, put_in hk hz hi a1, obd_s, oin_in (by omega) (by omega)]
        exact ⟨_, _, _, _, _, rfl, rfl, RowsI_upd hR _, Or.inr (Or.inl rfl)⟩
      · rw [if_neg z10, if_neg z10]
        exact ⟨_, _, _, _, _, rfl, rfl, hR, Or.inr (Or.inr rfl)⟩
  · rw [if_neg (big_nn (N := 2) (by omega) c), if_neg (show ¬ w ≤ 2 from big_nle c), inI_gt (show (2 : Int32) < w from c), obd_s, if_pos z00]
    exact ⟨_, _, _, _, _, rfl, rfl, hR, Or.inl rfl⟩
theorem sum_both {pl va : Nat → Int64} {le si : Nat → Int32} {k z : Nat} {t : Int64} (hk : k < 3) (hz : z ≤ 12) (h1 : le k = nI z) (h2 : si k = nI z) (h3 : ∀ i, i < z → pl (12 * k + i) = va (12 * k + i)) :
    ∀ (n f i : Nat) (s : Int64) (o : Int32), i + n = z → n < f → (o = 0 ∨ o = 1) →
      (∃ r w1 w2 o', (o' = 0 ∨ o' = 1) ∧ lpX6_sum_20 (nI k) t pl le f s (nI i) = some (.inl (r, w1)) ∧ lpX7_sum_27 (nI k) t si va f s (nI i) o = some (.inl (r, w2, o'))) ∨ (∃ o', (o' = 0 ∨ o' = 1) ∧ lpX6_sum_20 (nI k) t pl le f s (nI i) = some (.inr (-14, t)) ∧ lpX7_sum_27 (nI k) t si va f s (nI i) o = some (.inr (-14, t, o'))) := by
  intro n
  induction n with
  | zero =>
    intro f i s o e hf ho
    obtain ⟨f, rfl⟩ : ∃ g, f = g + 1 := ⟨f - 1, by omega⟩
    obtain rfl : i = z := by omega
    refine Or.inl ⟨s, nI i, nI i, o, ho, ?_, ?_⟩
    · rw [lpX6_sum_20, len_k hk, obd_s, h1, if_pos (nI_le (by omega) (by omega))]
    · rw [lpX7_sum_27, oin_in hk (by omega), nI_clamp (by omega), h2, if_pos (nI_le (by omega) (by omega))]
  | succ n ih =>
    intro f i s o e hf ho
    obtain ⟨f, rfl⟩ : ∃ g, f = g + 1 := ⟨f - 1, by omega⟩
    obtain ⟨u, hu, p1, p2⟩ := plus_both o s (pl (12 * k + i))
    have A : lpX6_sum_20 (nI k) t pl le (f + 1) s (nI i) = if u = 0 then lpX6_sum_20 (nI k) t pl le f (s + pl (12 * k + i)) (nI (i + 1)) else some (.inr (-14, t)) := by
      rw [lpX6_sum_20, len_k hk, obd_s, h1, if_neg (nI_ge (by omega) (by omega)), get_in hk hz (by omega) h1, obd_s, p1, obd_s, nI_1]
    have B : lpX7_sum_27 (nI k) t si va (f + 1) s (nI i) o = if u = 0 then lpX7_sum_27 (nI k) t si va f (s + pl (12 * k + i)) (nI (i + 1)) u else some (.inr (-14, t, u)) := by
      rw [lpX7_sum_27, oin_in hk (by omega), nI_clamp (by omega), h2, if_neg (nI_ge (by omega) (by omega)), mslot, oin_in (by omega) (by omega), nI_clamp (by omega), ← h3 i (by omega), p2, obd_s, nI_1]
    rw [A, B]
    by_cases c : u = 0
    · rw [if_pos c, if_pos c]
      exact ih f (i + 1) _ u (by omega) (by omega) hu
    · rw [if_neg c, if_neg c]
      exact Or.inr ⟨u, hu, rfl, rfl⟩
theorem eq_sum {pl va : Nat → Int64} {le si : Nat → Int32} (hR : RowsI pl le va si) (t : Int64) (o x : Int32) (ho : o = 0 ∨ o = 1) : ∃ r t' o', fX6_sum t pl le x = some (r, t') ∧ fX7_sum t o si va x = some (r, t', o') ∧ (o' = 0 ∨ o' = 1) := by
  unfold fX6_sum fX7_sum
  rcases row_cases x with ⟨h1, h2⟩ | ⟨k, hk, rfl, h1, h2⟩
  · unfold fX4_refusalOf
    rw [h1, h2, obd_s, obd_s, if_pos z00, if_pos z00, obd_s, if_neg (show ¬ (-2 : Int32) = 0 by decide)]
    exact ⟨_, _, _, rfl, rfl, ho⟩
  rw [h2, obd_s, if_neg z10, oin_in hk (by omega), nI_clamp (by omega)]
  rcases hR k hk with ⟨a1, a2⟩ | ⟨z, hz, a1, a2, a3⟩
  · rw [ref_no hk a1, obd_s, if_neg (by decide), a2, if_neg (by decide)]
    exact ⟨_, _, _, rfl, rfl, ho⟩
  · rw [ref_in hk hz a1, obd_s, if_pos z00, a2, if_pos (nI_pos' (by omega))]
    rcases sum_both (t := t) hk hz a1 a2 a3 z 100000 0 0 o (by omega) (by omega) ho with ⟨r, w1, w2, o', ho', p1, p2⟩ | ⟨o', ho', p1, p2⟩
    · have p1' : lpX6_sum_20 (nI k) t pl le 100000 0 0 = some (.inl (r, w1)) := p1
      have p2' : lpX7_sum_27 (nI k) t si va 100000 0 0 o = some (.inl (r, w2, o')) := p2
      rw [p1', p2']
      refine ⟨nI z, r, o', ?_, ?_, ho'⟩
      · show obd (fX4_lengthOf le (nI k)) _ = _
        rw [len_k hk, obd_s, a1]
      · show oin (nI k) 3 _ = _
        rw [oin_in hk (by omega)]
    · have p1' : lpX6_sum_20 (nI k) t pl le 100000 0 0 = some (.inr (-14, t)) := p1
      have p2' : lpX7_sum_27 (nI k) t si va 100000 0 0 o = some (.inr (-14, t, o')) := p2
      rw [p1', p2']
      exact ⟨_, _, _, rfl, rfl, ho'⟩
