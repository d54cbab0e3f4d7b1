/-! ===== bounds, has, near, rank, ranked, bucket: class and reference answer alike ===== -/
theorem in_lt {x y z : Int64} (h : x < y) : fX7_in x y z = some 0 := by
  unfold fX7_in
  rw [if_pos ((lg_cmp_lt x y).mpr h), olet_s]
  exact obl_0 _
theorem in_gt {x y z : Int64} (h : z < x) : fX7_in x y z = some 0 := by
  unfold fX7_in
  by_cases c : lg_cmp x y < 0
  · rw [if_pos c, olet_s]
    exact obl_0 _
  · rw [if_neg c, if_pos ((lg_cmp_gt x z).mpr h), olet_s]
    exact obl_0 _
theorem in_in {x y z : Int64} (h1 : ¬ x < y) (h2 : ¬ z < x) : fX7_in x y z = some 1 := by
  unfold fX7_in
  rw [if_neg (fun q => h1 ((lg_cmp_lt x y).mp q)), if_neg (fun q => h2 ((lg_cmp_gt x z).mp q)), olet_s]
  exact obl_1 _
theorem wide_lt (a b : Int32) : a.toInt64 < b.toInt64 ↔ a < b := by
  rw [Int64.lt_iff_toInt_lt, Int32.lt_iff_toInt_lt, Int32.toInt_toInt64, Int32.toInt_toInt64]
theorem inI_lt {x c d : Int32} (h : x < c) : fX7_in x.toInt64 c.toInt64 d.toInt64 = some 0 := in_lt ((wide_lt x c).mpr h)
theorem inI_gt {x c d : Int32} (h : d < x) : fX7_in x.toInt64 c.toInt64 d.toInt64 = some 0 := in_gt ((wide_lt d x).mpr h)
theorem inI_in {x c d : Int32} (h1 : ¬ x < c) (h2 : ¬ d < x) : fX7_in x.toInt64 c.toInt64 d.toInt64 = some 1 := in_in (fun q => h1 ((wide_lt x c).mp q)) (fun q => h2 ((wide_lt d x).mp q))
theorem inB_neg {b : Int32} {x : Int32} (h : x < 0) : fX0_inBounds b x = some 0 := by
  unfold fX0_inBounds
  rw [if_pos h, obd_s]
  exact obl_0 _
theorem inB_t {b k : Nat} (hb : b ≤ 16) (hk : k < 2 ^ b) : fX0_inBounds (nI b) (nI k) = some 1 := by
  have := pow_le16 hb
  unfold fX0_inBounds
  rw [if_neg (nI_pos (by omega)), fX0_top_e hb, obd_s, if_neg (nI_nlt (by omega) (by omega)), obd_s]
  exact obl_1 _
theorem inB_f {b k : Nat} (hb : b ≤ 16) (hk : 2 ^ b ≤ k) (h : k < 2147483648) : fX0_inBounds (nI b) (nI k) = some 0 := by
  have := pow_le16 hb
  have hp : 0 < 2 ^ b := Nat.pow_pos (by omega)
  unfold fX0_inBounds
  rw [if_neg (nI_pos (by omega)), fX0_top_e hb, obd_s, if_pos (nI_lt (by omega) (by omega)), obd_s]
  exact obl_0 _
theorem mtop_e {row : Nat → Int32} {b : Nat} (hb : b ≤ 16) (h : row 0 = nI b) : fX7_top row = some (nI (2 ^ b - 1)) := by
  unfold fX7_top
  have e : row (0 : Int32).toNatClampNeg = nI b := h
  rw [show oin (0 : Int32) 1824 (some ((1 : Int32) <<< (row (0 : Int32).toNatClampNeg &&& 31) - 1)) = some ((1 : Int32) <<< (row (0 : Int32).toNatClampNeg &&& 31) - 1) from oin_in (a := 0) (by omega) (by omega), e, top_e hb]
theorem isN_neg {row : Nat → Int32} {b : Nat} {x : Int32} (hb : b ≤ 16) (h : row 0 = nI b) (hx : x < 0) : fX7_isNumber row x = some 0 := by
  unfold fX7_isNumber
  rw [mtop_e hb h, obd_s, show (0 : Int64) = (0 : Int32).toInt64 from rfl, inI_lt hx, obd_s]
  exact obl_0 _
theorem isN_t {row : Nat → Int32} {b k : Nat} (hb : b ≤ 16) (h : row 0 = nI b) (hk : k < 2 ^ b) : fX7_isNumber row (nI k) = some 1 := by
  have := pow_le16 hb
  unfold fX7_isNumber
  rw [mtop_e hb h, obd_s, show (0 : Int64) = (0 : Int32).toInt64 from rfl, inI_in (nI_pos (by omega)) (nI_nlt (by omega) (by omega)), obd_s]
  exact obl_1 _
theorem isN_f {row : Nat → Int32} {b k : Nat} (hb : b ≤ 16) (h : row 0 = nI b) (hk : 2 ^ b ≤ k) (h2 : k < 2147483648) : fX7_isNumber row (nI k) = some 0 := by
  have := pow_le16 hb
  have hp : 0 < 2 ^ b := Nat.pow_pos (by omega)
  unfold fX7_isNumber
  rw [mtop_e hb h, obd_s, show (0 : Int64) = (0 : Int32).toInt64 from rfl, inI_gt (nI_lt (by omega) h2), obd_s]
  exact obl_0 _
theorem i32_cases (x : Int32) : x < 0 ∨ ∃ k : Nat, k < 2147483648 ∧ x = nI k := by
  by_cases c : x < 0
  · exact Or.inl c
  · exact Or.inr (nI_of c)
/-- the index now, held by the class (comps of a Buckets object) and by the reference (base 0) -/
def Both (bits size kc mc sp jo : Int32) (keys marks row : Nat → Int32) (b s n m p j : Nat) (K M : Nat → Nat) : Prop := Ok (b, s, n, m, p, j, K, M) ∧ bits = nI b ∧ size = nI s ∧ kc = nI n ∧ mc = nI m ∧ sp = nI p ∧ jo = nI j ∧ holdsA keys n K ∧ holdsA marks m M ∧ MRow row 0 (b, s, n, m, p, j, K, M)
section ASK
variable {bits size kc mc sp jo : Int32} {keys marks row : Nat → Int32} {b s n m p j : Nat} {K M : Nat → Nat}
theorem Both.cx (h : Both bits size kc mc sp jo keys marks row b s n m p j K M) : Cx n m K M keys marks := Ok_Cx h.1 h.2.2.2.2.2.2.2.1 h.2.2.2.2.2.2.2.2.1
theorem Both.mx (h : Both bits size kc mc sp jo keys marks row b s n m p j K M) : Mx row 0 n m K M := Ok_Mx (by omega) h.1 h.2.2.2.2.2.2.2.2.2
theorem Both.b16 (h : Both bits size kc mc sp jo keys marks row b s n m p j K M) : b ≤ 16 := h.1.2.1
theorem Both.r0 (h : Both bits size kc mc sp jo keys marks row b s n m p j K M) : row 0 = nI b := h.2.2.2.2.2.2.2.2.2.1
theorem Both.r2 (h : Both bits size kc mc sp jo keys marks row b s n m p j K M) : row 2 = nI n := by
  have := h.mx.2.2.2.2.2.2.2.2.1
  rwa [Nat.zero_add] at this
theorem Both.r3 (h : Both bits size kc mc sp jo keys marks row b s n m p j K M) : row 3 = nI m := by
  have := h.mx.2.2.2.2.2.2.2.2.2.1
  rwa [Nat.zero_add] at this
theorem Both.r6 (h : Both bits size kc mc sp jo keys marks row b s n m p j K M) {i : Nat} (hi : i < n) : row (6 + i) = nI (K i) := by
  have := h.mx.2.2.2.2.2.2.2.2.2.2.1 i hi
  rwa [Nat.zero_add] at this
theorem Both.r102 (h : Both bits size kc mc sp jo keys marks row b s n m p j K M) {i : Nat} (hi : i < m) : row (102 + i) = nI (M i) := by
  have := h.mx.2.2.2.2.2.2.2.2.2.2.2 i hi
  rwa [Nat.zero_add] at this
theorem Both.below (h : Both bits size kc mc sp jo keys marks row b s n m p j K M) {x : Nat} (hx : x < 2147483648) : fX7_below row 0 (nI x) = some (nI (lb K x n)) := by
  have X := h.mx
  exact below_e (B := 0) (by omega) X.2.1 hx X.2.2.2.2.2.2.2.2.1 X.2.2.2.2.2.2.2.2.2.2.1 X.2.2.2.2.1.rises X.2.2.2.2.2.1
theorem Both.rank (h : Both bits size kc mc sp jo keys marks row b s n m p j K M) {x : Nat} (hx : x < 2147483648) : fX0_rankOf kc keys (nI x) = some (nI (lb K x n)) := by
  have X := h.cx
  rw [h.2.2.2.1]
  exact rank_e X.1 X.2.2.2.1 X.2.2.2.2.1 X.2.2.2.2.2.2.2.1 hx
end ASK
theorem z10 : ¬ (1 : Int32) = 0 := by decide
theorem z00 : (0 : Int32) = 0 := rfl
theorem big_nn {w : Int32} {N : Nat} (hN : N < 2147483648) (h : nI N < w) : ¬ w < 0 := fun q => by
  rw [Int32.lt_iff_toInt_lt] at h q
  rw [nI_toInt hN] at h
  have : (0 : Int32).toInt = 0 := by decide
  omega
theorem big_nle {w : Int32} {N : Nat} (h : nI N < w) : ¬ w ≤ nI N := Int32.not_le.mpr h
theorem big_ne {w : Int32} {N k : Nat} (hN : N < 2147483648) (h : nI N < w) (hk : k ≤ N) : ¬ w = nI k := fun q => by
  rw [q, Int32.lt_iff_toInt_lt, nI_toInt hN, nI_toInt (by omega)] at h
  omega
theorem neg_ne {w : Int32} {k : Nat} (h : w < 0) (hk : k < 2147483648) : ¬ w = nI k := fun q => by
  rw [q] at h
  exact nI_pos hk h
section ASK2
variable {bits size kc mc sp jo : Int32} {keys marks row : Nat → Int32} {b s n m p j : Nat} {K M : Nat → Nat}
theorem Both.keyT (h : Both bits size kc mc sp jo keys marks row b s n m p j K M) {x : Nat} (hx : x < 2147483648) (hh : ixHas K n x) : fX7_isKey row 0 (nI x) = some 1 ∧ fX0_holds kc keys (nI x) = some 1 := by
  have X := h.mx
  have C := h.cx
  refine ⟨isKey_t (B := 0) (by omega) X.2.1 hx X.2.2.2.2.2.2.2.2.1 X.2.2.2.2.2.2.2.2.2.2.1 X.2.2.2.2.1 X.2.2.2.2.2.1 hh, ?_⟩
  rw [h.2.2.2.1]
  exact holds_t C.1 C.2.2.2.1 C.2.2.2.2.1 C.2.2.2.2.2.2.2.1 hx hh
theorem Both.keyF (h : Both bits size kc mc sp jo keys marks row b s n m p j K M) {x : Nat} (hx : x < 2147483648) (hh : ¬ ixHas K n x) : fX7_isKey row 0 (nI x) = some 0 ∧ fX0_holds kc keys (nI x) = some 0 := by
  have X := h.mx
  have C := h.cx
  refine ⟨isKey_f (B := 0) (by omega) X.2.1 hx X.2.2.2.2.2.2.2.2.1 X.2.2.2.2.2.2.2.2.2.2.1 X.2.2.2.2.1 X.2.2.2.2.2.1 hh, ?_⟩
  rw [h.2.2.2.1]
  exact holds_f C.1 C.2.2.2.1 C.2.2.2.2.1 C.2.2.2.2.2.2.2.1 hx hh
theorem Both.bnd (h : Both bits size kc mc sp jo keys marks row b s n m p j K M) (x : Int32) : (fX0_inBounds bits x = some 0 ∧ fX7_isNumber row x = some 0) ∨ ∃ k, k < 2 ^ b ∧ k < 65536 ∧ x = nI k ∧ fX0_inBounds bits x = some 1 ∧ fX7_isNumber row x = some 1 := by
  have h16 := h.b16
  have hp := pow_le16 h16
  rw [h.2.1]
  rcases i32_cases x with c | ⟨k, hk, rfl⟩
  · exact Or.inl ⟨inB_neg c, isN_neg h16 h.r0 c⟩
  · by_cases c : k < 2 ^ b
    · exact Or.inr ⟨k, c, by omega, rfl, inB_t h16 c, isN_t h16 h.r0 c⟩
    · exact Or.inl ⟨inB_f h16 (by omega) hk, isN_f h16 h.r0 (by omega) hk⟩
theorem eq_has (h : Both bits size kc mc sp jo keys marks row b s n m p j K M) (x : Int32) : ∃ r, fX6_has bits kc keys x = some r ∧ fX7_has row x = some r := by
  unfold fX6_has fX7_has
  rcases h.bnd x with ⟨h1, h2⟩ | ⟨k, hk, hk2, rfl, h1, h2⟩
  · rw [h1, h2, obd_s, obd_s, if_pos rfl, if_pos rfl, obd_s]
    exact ⟨_, rfl, rfl⟩
  · rw [h1, h2, obd_s, obd_s, if_neg z10, if_neg z10]
    by_cases c : ixHas K n k
    · obtain ⟨g1, g2⟩ := h.keyT (by omega) c
      rw [g1, g2, obd_s, obd_s, if_neg z10, if_neg z10]
      exact ⟨_, rfl, rfl⟩
    · obtain ⟨g1, g2⟩ := h.keyF (by omega) c
      rw [g1, g2, obd_s, obd_s, if_pos rfl, if_pos rfl]
      exact ⟨_, rfl, rfl⟩
theorem eq_rank (h : Both bits size kc mc sp jo keys marks row b s n m p j K M) (x : Int32) : ∃ r, fX6_rank bits kc keys x = some r ∧ fX7_rank row x = some r := by
  unfold fX6_rank fX7_rank
  rcases h.bnd x with ⟨h1, h2⟩ | ⟨k, hk, hk2, rfl, h1, h2⟩
  · rw [h1, h2, obd_s, obd_s, if_pos rfl, if_pos rfl, obd_s]
    exact ⟨_, rfl, rfl⟩
  · rw [h1, h2, obd_s, obd_s, if_neg z10, if_neg z10, h.rank (by omega), h.below (by omega)]
    exact ⟨_, rfl, rfl⟩
theorem Both.keyAtI (h : Both bits size kc mc sp jo keys marks row b s n m p j K M) {i : Nat} (hi : i < n) : fX0_keyAt kc keys (nI i) = some (nI (K i)) := by
  rw [h.2.2.2.1]
  exact keyAt_in h.cx.1 h.2.2.2.2.2.2.2.1 hi
theorem Both.keyAtO (h : Both bits size kc mc sp jo keys marks row b s n m p j K M) {i : Nat} (hi : n ≤ i) (h2 : i < 2147483648) : fX0_keyAt kc keys (nI i) = some (-1) := by
  rw [h.2.2.2.1]
  exact keyAt_out h.cx.1 hi h2
/-- a key's place in the reference: in range, or not -/
theorem Both.pick (h : Both bits size kc mc sp jo keys marks row b s n m p j K M) {i : Nat} (h2 : i < 2147483648) (z : Int32) : (i < n ∧ oin (2 : Int32) 1824 (obd (fX7_in (nI i).toInt64 (0 : Int64) (((row (2 : Int32).toNatClampNeg) - 1).toInt64)) fun u => obd (if u = 0 then some z else oin (6 + nI i) 1824 (some (row (6 + nI i).toNatClampNeg))) fun w => some w) = some (nI (K i))) ∨ (n ≤ i ∧ oin (2 : Int32) 1824 (obd (fX7_in (nI i).toInt64 (0 : Int64) (((row (2 : Int32).toNatClampNeg) - 1).toInt64)) fun u => obd (if u = 0 then some z else oin (6 + nI i) 1824 (some (row (6 + nI i).toNatClampNeg))) fun w => some w) = some z) := by
  have hn := h.cx.1
  have e2 : row (2 : Int32).toNatClampNeg = nI n := h.r2
  have o2 : ∀ X : Option Int32, oin (2 : Int32) 1824 X = X := fun X => oin_in (a := 2) (by omega) (by omega)
  rw [o2, e2, show (0 : Int64) = (0 : Int32).toInt64 from rfl]
  by_cases c : i < n
  · refine Or.inl ⟨c, ?_⟩
    have en : nI n - 1 = nI (n - 1) := pk_sub (b := 1) (by omega)
    have e6 : (6 : Int32) + nI i = nI (6 + i) := nI_add 6 i
    rw [en, inI_in (nI_pos (by omega)) (nI_nlt (by omega) (by omega)), obd_s, if_neg (by decide), e6, oin_in (by omega) (by omega), nI_clamp (by omega), h.r6 c]
    rfl
  · refine Or.inr ⟨by omega, ?_⟩
    have hlt : nI n - 1 < nI i := by
      by_cases c0 : n = 0
      · rw [c0]
        have e : nI 0 - 1 = -1 := by decide
        rw [e, Int32.lt_iff_toInt_lt, nI_toInt h2]
        have : (-1 : Int32).toInt = -1 := by decide
        omega
      · have en : nI n - 1 = nI (n - 1) := pk_sub (b := 1) (by omega)
        rw [en]
        exact nI_lt (by omega) h2
    rw [inI_gt hlt, obd_s, if_pos rfl]
    rfl
theorem eq_ranked (h : Both bits size kc mc sp jo keys marks row b s n m p j K M) (x : Int32) : ∃ r, fX6_ranked kc keys x = some r ∧ fX7_ranked row x = some r := by
  unfold fX6_ranked fX7_ranked
  have hn := h.cx.1
  rcases i32_cases x with c | ⟨k, hk, rfl⟩
  · have o2 : ∀ X : Option Int32, oin (2 : Int32) 1824 X = X := fun X => oin_in (a := 2) (by omega) (by omega)
    rw [if_pos c, o2, show (0 : Int64) = (0 : Int32).toInt64 from rfl, inI_lt c, obd_s, if_pos rfl]
    exact ⟨_, rfl, rfl⟩
  · rw [if_neg (nI_pos hk), h.2.2.2.1]
    rcases h.pick hk (-2) with ⟨c, e⟩ | ⟨c, e⟩
    · rw [e, if_pos (nI_lt c (by omega)), ← h.2.2.2.1, h.keyAtI c]
      exact ⟨_, rfl, rfl⟩
    · rw [e, if_neg (nI_nlt c hk)]
      exact ⟨_, rfl, rfl⟩
theorem way_cases (w : Int32) {N : Nat} (hN : N < 2147483648) : w < 0 ∨ (∃ k, k ≤ N ∧ w = nI k) ∨ (nI N < w) := by
  rcases i32_cases w with c | ⟨k, hk, rfl⟩
  · exact Or.inl c
  · by_cases c : k ≤ N
    · exact Or.inr (Or.inl ⟨k, c, rfl⟩)
    · exact Or.inr (Or.inr (nI_lt (by omega) hk))
theorem eq_near (h : Both bits size kc mc sp jo keys marks row b s n m p j K M) (x w : Int32) : ∃ r, fX6_near bits kc keys x w = some r ∧ fX7_near row x w = some r := by
  unfold fX6_near fX7_near
  have hn := h.cx.1
  rcases h.bnd x with ⟨h1, h2⟩ | ⟨k, hk, hk2, rfl, h1, h2⟩
  · rw [h1, h2, obd_s, obd_s, if_pos rfl, if_pos rfl]
    exact ⟨_, rfl, rfl⟩
  · rw [h1, h2, obd_s, obd_s, if_neg z10, if_neg z10, show (0 : Int64) = (0 : Int32).toInt64 from rfl, show (1 : Int64) = (1 : Int32).toInt64 from rfl]
    have hl1 := lb_le K (k + 1) n
    have hl0 := lb_le K k n
    rcases way_cases w (N := 1) (by omega) with c | ⟨v, hv, rfl⟩ | c
    · rw [if_pos c, inI_lt c, obd_s, if_pos rfl]
      exact ⟨_, rfl, rfl⟩
    · rw [if_neg (nI_pos (by omega)), if_pos (show nI v ≤ (1 : Int32) from nI_le (b := 1) hv (by omega)), inI_in (nI_pos (by omega)) (show ¬ (1 : Int32) < nI v from nI_nlt (a := 1) hv (by omega)), obd_s, if_neg z10]
      by_cases c0 : v = 0
      · subst c0
        rw [if_pos (show nI 0 = (0 : Int32) from rfl), if_pos (show nI 0 = (0 : Int32) from rfl), nI_1, h.rank (by omega), h.below (by omega), obd_s, obd_s, obd_s]
        by_cases c1 : lb K (k + 1) n = 0
        · rw [c1]
          have e : nI 0 - 1 = -1 := by decide
          have o2 : ∀ X : Option Int32, oin (2 : Int32) 1824 X = X := fun X => oin_in (a := 2) (by omega) (by omega)
          rw [e, keyAt_neg, obd_s, o2, show (0 : Int32).toInt64 = (0 : Int32).toInt64 from rfl, inI_lt (show (-1 : Int32) < 0 by decide), obd_s, obd_s, if_pos z00]
          exact ⟨_, rfl, rfl⟩
        · have e : nI (lb K (k + 1) n) - 1 = nI (lb K (k + 1) n - 1) := pk_sub (b := 1) (by omega)
          rw [e]
          rcases h.pick (i := lb K (k + 1) n - 1) (by omega) (-1) with ⟨c, e⟩ | ⟨c, e⟩
          · rw [show (0 : Int32).toInt64 = (0 : Int64) from rfl, e, h.keyAtI c]
            exact ⟨_, rfl, rfl⟩
          · omega
      · have ev : v = 1 := by omega
        subst ev
        rw [if_neg (show ¬ nI 1 = (0 : Int32) by decide), if_neg (show ¬ nI 1 = (0 : Int32) by decide), h.rank (by omega), h.below (by omega), obd_s, obd_s, obd_s]
        rcases h.pick (i := lb K k n) (by omega) (-1) with ⟨c, e⟩ | ⟨c, e⟩
        · rw [show (0 : Int32).toInt64 = (0 : Int64) from rfl, e, h.keyAtI c]
          exact ⟨_, rfl, rfl⟩
        · rw [show (0 : Int32).toInt64 = (0 : Int64) from rfl, e, h.keyAtO c (by omega)]
          exact ⟨_, rfl, rfl⟩
    · have c' : (1 : Int32) < w := c
      rw [if_neg (big_nn (N := 1) (by omega) c), if_neg (show ¬ w ≤ 1 from big_nle c), inI_gt c', obd_s, if_pos z00]
      exact ⟨_, rfl, rfl⟩
theorem eq_bucket (h : Both bits size kc mc sp jo keys marks row b s n m p j K M) (x w : Int32) : ∃ r, fX6_bucket kc mc keys marks x w = some r ∧ fX7_bucket row x w = some r := by
  unfold fX6_bucket fX7_bucket
  have C := h.cx
  have X := h.mx
  have hn := C.1
  have hm := C.2.1
  have h1m := C.2.2.1
  have o3 : ∀ X : Option Int32, oin (3 : Int32) 1824 X = X := fun X => oin_in (a := 3) (by omega) (by omega)
  have e3 : row (3 : Int32).toNatClampNeg = nI m := h.r3
  have em : nI m - 1 = nI (m - 1) := pk_sub (b := 1) (by omega)
  rw [o3, e3, em, show (0 : Int64) = (0 : Int32).toInt64 from rfl]
  rcases i32_cases x with c | ⟨i, hi2, rfl⟩
  · rw [if_pos c, inI_lt c, obd_s, if_pos rfl]
    exact ⟨_, rfl, rfl⟩
  · rw [if_neg (nI_pos hi2), h.2.2.2.2.1]
    by_cases ci : i < m
    · rw [if_pos (nI_lt ci (by omega)), inI_in (nI_pos hi2) (nI_nlt (by omega) (by omega)), obd_s, if_neg z10]
      have ha : fX7_aheadOf row 0 (nI i) = some (nI (so K n M i)) := ahead_e (B := 0) X ci
      have hk : fX7_keysIn row 0 (nI i) = some (nI (kin K n M i)) := mkeysIn_e (B := 0) X ci
      have hck : fX0_keysIn kc (nI m) keys marks (nI i) = some (nI (kin K n M i)) := by rw [h.2.2.2.1]; exact keysIn_e C ci
      have hcs : fX0_startOf kc (nI m) keys marks (nI i) = some (nI (so K n M i)) := by rw [h.2.2.2.1]; exact start_e C ci
      have hce : fX0_endOf kc (nI m) keys marks (nI i) = some (nI (eo K n M i)) := by rw [h.2.2.2.1]; exact end_in C ci
      have hse := so_le_eo C.2.2.2.1.rises C.2.2.2.2.2.1 ci
      have hel := eo_le K n M i
      have hkn : kin K n M i = eo K n M i - so K n M i := rfl
      rw [ha, hk, obd_s, obd_s]
      rcases way_cases w (N := 3) (by omega) with c | ⟨v, hv, rfl⟩ | c
      · rw [if_pos c, if_neg (show ¬ w = 0 from neg_ne (k := 0) c (by omega)), if_neg (show ¬ w = 1 from neg_ne (k := 1) c (by omega)), if_neg (show ¬ w = 2 from neg_ne (k := 2) c (by omega)), if_neg (show ¬ w = 3 from neg_ne (k := 3) c (by omega))]
        exact ⟨_, rfl, rfl⟩
      · rw [if_neg (nI_pos (by omega)), if_pos (show nI v ≤ (3 : Int32) from nI_le (b := 3) hv (by omega)), hck, obd_s]
        rcases (show v = 0 ∨ v = 1 ∨ v = 2 ∨ v = 3 by omega) with rfl | rfl | rfl | rfl
        · rw [if_pos (show nI 0 = (0 : Int32) from rfl), if_pos (show nI 0 = (0 : Int32) from rfl)]
          exact ⟨_, rfl, rfl⟩
        · have e102 : (102 : Int32) + nI i = nI (102 + i) := nI_add 102 i
          rw [if_neg (show ¬ nI 1 = (0 : Int32) by decide), if_neg (show ¬ nI 1 = (0 : Int32) by decide), if_pos (show nI 1 = (1 : Int32) from rfl), if_pos (show nI 1 = (1 : Int32) from rfl), e102, oin_in (by omega) (by omega), nI_clamp (by omega), h.r102 ci, markAt_in hm C.2.2.2.2.2.2.2.2 ci]
          exact ⟨_, rfl, rfl⟩
        · rw [if_neg (show ¬ nI 2 = (0 : Int32) by decide), if_neg (show ¬ nI 2 = (1 : Int32) by decide), if_neg (show ¬ nI 2 = (0 : Int32) by decide), if_neg (show ¬ nI 2 = (1 : Int32) by decide)]
          by_cases ck : kin K n M i = 0
          · rw [ck, if_pos (show nI 0 = (0 : Int32) from rfl), if_pos (show nI 2 = (2 : Int32) from rfl), if_pos (show nI 0 = (0 : Int32) from rfl)]
            exact ⟨_, rfl, rfl⟩
          · have e6 : (6 : Int32) + nI (so K n M i) = nI (6 + so K n M i) := nI_add 6 _
            rw [if_neg (show ¬ nI (kin K n M i) = 0 from nI_ne0 (by omega) (by omega)), if_pos (show nI 2 = (2 : Int32) from rfl), if_pos (show nI 2 = (2 : Int32) from rfl), if_neg (show ¬ nI (kin K n M i) = 0 from nI_ne0 (by omega) (by omega)), hcs, obd_s, h.keyAtI (by omega), e6, oin_in (by omega) (by omega), nI_clamp (by omega), h.r6 (by omega)]
            exact ⟨_, rfl, rfl⟩
        · rw [if_neg (show ¬ nI 3 = (0 : Int32) by decide), if_neg (show ¬ nI 3 = (1 : Int32) by decide), if_neg (show ¬ nI 3 = (0 : Int32) by decide), if_neg (show ¬ nI 3 = (1 : Int32) by decide)]
          by_cases ck : kin K n M i = 0
          · rw [ck, if_pos (show nI 0 = (0 : Int32) from rfl), if_neg (show ¬ nI 3 = (2 : Int32) by decide), if_pos (show nI 3 = (3 : Int32) from rfl), if_pos (show nI 0 = (0 : Int32) from rfl)]
            exact ⟨_, rfl, rfl⟩
          · have e6 : (6 : Int32) + nI (so K n M i) + nI (kin K n M i) - 1 = nI (6 + (eo K n M i - 1)) := by
              have a1 : (6 : Int32) + nI (so K n M i) = nI (6 + so K n M i) := nI_add 6 _
              rw [a1, nI_add]
              have := pk_sub (a := 6 + so K n M i + kin K n M i) (b := 1) (by omega)
              rw [show 6 + so K n M i + kin K n M i - 1 = 6 + (eo K n M i - 1) by omega] at this
              exact this
            have e7 : nI (eo K n M i) - 1 = nI (eo K n M i - 1) := pk_sub (b := 1) (by omega)
            rw [if_neg (show ¬ nI (kin K n M i) = 0 from nI_ne0 (by omega) (by omega)), if_neg (show ¬ nI 3 = (2 : Int32) by decide), if_neg (show ¬ nI 3 = (2 : Int32) by decide), if_pos (show nI 3 = (3 : Int32) from rfl), if_neg (show ¬ nI (kin K n M i) = 0 from nI_ne0 (by omega) (by omega)), hce, obd_s, e7, h.keyAtI (by omega), e6, oin_in (by omega) (by omega), nI_clamp (by omega), h.r6 (by omega)]
            exact ⟨_, rfl, rfl⟩
      · have c' : (3 : Int32) < w := c
        rw [if_neg (big_nn (N := 3) (by omega) c), if_neg (show ¬ w ≤ 3 from big_nle c), if_neg (show ¬ w = 0 from big_ne (N := 3) (k := 0) (by omega) c (by omega)), if_neg (show ¬ w = 1 from big_ne (N := 3) (k := 1) (by omega) c (by omega)), if_neg (show ¬ w = 2 from big_ne (N := 3) (k := 2) (by omega) c (by omega)), if_neg (show ¬ w = 3 from big_ne (N := 3) (k := 3) (by omega) c (by omega))]
        exact ⟨_, rfl, rfl⟩
    · rw [if_neg (nI_nlt (by omega) hi2), inI_gt (nI_lt (by omega) hi2), obd_s, if_pos rfl]
      exact ⟨_, rfl, rfl⟩
end ASK2
