/-! ===== spread, search, dearest, mean ===== -/
theorem great_in {row marks : Nat → Int32} {b m l q : Nat} {M : Nat → Nat} (h : Lx row marks b m M) (hl : l < b) (hq : q < 2 ^ l) (q3 : Int32) (f : Nat) :
    lpX7_greatestOf_50 (nI l) (nI (b - l)) q3 (nI q) row (f + 3) 1 = (if isB M m (b - (l + 1)) (2 * q + 1) then (if isB M m (b - (l + 1)) (2 * q) then some (.inl (-1)) else some (.inr ((nI (2 * q + 1) <<< (nI (b - l - 1) &&& 31)) - 1))) else some (.inr ((nI (2 * q + 2) <<< (nI (b - l - 1) &&& 31)) - 1))) := by
  have hp2 : 2 ^ (l + 1) = 2 * 2 ^ l := by rw [Nat.pow_succ]; omega
  have e1 : (2 : Int32) * nI q = nI (2 * q) := pk_mul 2 q
  have e2 : nI (2 * q) + 1 = nI (2 * q + 1) := nI_1 _
  have e3 : nI (2 * q + 1) + 1 = nI (2 * q + 2) := nI_1 _
  have e4 : nI l + 1 = nI (l + 1) := nI_1 _
  have e5 : nI (b - l) - 1 = nI (b - l - 1) := pk_sub (b := 1) (by omega)
  have e6 : (1 : Int32) + -1 = 0 := by decide
  have e7 : (0 : Int32) + -1 = -1 := by decide
  have e8 : nI (2 * q) + 0 = nI (2 * q) := nI_add (2 * q) 0
  rw [lpX7_greatestOf_50, if_neg (by decide), e1, e2, e3, e4, e5, e6, isB_m h (l := l + 1) (p := 2 * q + 1) (by omega) (by omega), obd_s]
  by_cases c : isB M m (b - (l + 1)) (2 * q + 1)
  · rw [bN_t c, if_neg z10, if_pos c, lpX7_greatestOf_50, if_neg (by decide), e1, e4, e5, e7, e8, e2, isB_m h (l := l + 1) (p := 2 * q) (by omega) (by omega), obd_s]
    by_cases c2 : isB M m (b - (l + 1)) (2 * q)
    · rw [bN_t c2, if_neg z10, if_pos c2, lpX7_greatestOf_50, if_pos (by decide)]
    · rw [bN_f c2, if_pos z00, if_neg c2]
  · rw [bN_f c, if_pos z00, if_neg c]
theorem great_loop {row marks : Nat → Int32} {b m l : Nat} {M : Nat → Nat} (h : Lx row marks b m M) (hl : l < b) :
    ∀ (k f : Nat), k ≤ m → k < f → (∃ r, lpX0_greatestOfLength_26 (nI l) (nI b) (nI m) marks f (nI k - 1) = some (.inr r) ∧ lpX7_greatestOf_27 (nI l) (nI (b - l)) row f (nI k - 1) = some (.inr r)) ∨ (∃ u v, lpX0_greatestOfLength_26 (nI l) (nI b) (nI m) marks f (nI k - 1) = some (.inl u) ∧ lpX7_greatestOf_27 (nI l) (nI (b - l)) row f (nI k - 1) = some (.inl v)) := by
  have hh := h
  obtain ⟨h1, h2, h3, h4, h5, h6, h7, h8, h9, h10⟩ := h
  have hb := pow_le16 h1
  intro k
  induction k with
  | zero =>
    intro f hk hf
    obtain ⟨f, rfl⟩ : ∃ g, f = g + 1 := ⟨f - 1, by omega⟩
    have e : nI 0 - 1 = -1 := by decide
    refine Or.inr ⟨-1, -1, ?_, ?_⟩
    · rw [e, lpX0_greatestOfLength_26, if_pos (by decide)]
    · rw [e, lpX7_greatestOf_27, if_pos (by decide)]
  | succ k ih =>
    intro f hk hf
    obtain ⟨f, rfl⟩ : ∃ g, f = g + 1 := ⟨f - 1, by omega⟩
    have e : nI (k + 1) - 1 = nI k := nI_pred k
    have ed : nI k + -1 = nI k - 1 := by
      rw [Int32.sub_eq_add_neg]
    have hMk := h5 k (by omega)
    have hd := beg_lt (l := l) (by omega) hMk
    have hlp := pow_le16 (show l ≤ 16 by omega)
    have hp2 : 2 ^ (l + 1) = 2 * 2 ^ l := by rw [Nat.pow_succ]; omega
    generalize hq : M k / 2 ^ (b - l) = q at hd
    have e1 : (2 : Int32) * nI q = nI (2 * q) := pk_mul 2 q
    have e2 : nI (2 * q) + 1 = nI (2 * q + 1) := nI_1 _
    have e22 : nI (2 * q) + 2 = nI (2 * q + 2) := nI_add _ 2
    have e4 : nI l + 1 = nI (l + 1) := nI_1 _
    have e5 : nI b - nI l = nI (b - l) := pk_sub (by omega)
    have e6 : nI (b - l) - 1 = nI (b - l - 1) := pk_sub (b := 1) (by omega)
    have e102 : (102 : Int32) + nI k = nI (102 + k) := nI_add 102 k
    have G := great_in hh hl hd (nI k) 99997
    have G2 : lpX7_greatestOf_50 (nI l) (nI (b - l)) (nI k) (nI q) row 100000 1 = _ := G
    have A : lpX0_greatestOfLength_26 (nI l) (nI b) (nI m) marks (f + 1) (nI (k + 1) - 1) = (if isB M m (b - (l + 1)) (2 * q + 1) then (if isB M m (b - (l + 1)) (2 * q) then lpX0_greatestOfLength_26 (nI l) (nI b) (nI m) marks f (nI k - 1) else some (.inr ((nI (2 * q + 1) <<< (nI (b - l - 1) &&& 31)) - 1))) else some (.inr ((nI (2 * q + 2) <<< (nI (b - l - 1) &&& 31)) - 1))) := by
      rw [e, lpX0_greatestOfLength_26, if_neg (nI_pos (by omega)), markAt_in h2 h7 (by omega), obd_s, begin_e h1 (by omega) (by omega), obd_s, hq, e1, e2, e22, e4, e5, e6, ed, isB_c hh (l := l + 1) (p := 2 * q + 1) (by omega) (by omega), obd_s]
      by_cases c : isB M m (b - (l + 1)) (2 * q + 1)
      · rw [bN_t c, if_neg z10, if_pos c, isB_c hh (l := l + 1) (p := 2 * q) (by omega) (by omega), obd_s]
        by_cases c2 : isB M m (b - (l + 1)) (2 * q)
        · rw [bN_t c2, if_neg z10, if_pos c2]
        · rw [bN_f c2, if_pos z00, if_neg c2]
      · rw [bN_f c, if_pos z00, if_neg c]
    have B : lpX7_greatestOf_27 (nI l) (nI (b - l)) row (f + 1) (nI (k + 1) - 1) = (if isB M m (b - (l + 1)) (2 * q + 1) then (if isB M m (b - (l + 1)) (2 * q) then lpX7_greatestOf_27 (nI l) (nI (b - l)) row f (nI k - 1) else some (.inr ((nI (2 * q + 1) <<< (nI (b - l - 1) &&& 31)) - 1))) else some (.inr ((nI (2 * q + 2) <<< (nI (b - l - 1) &&& 31)) - 1))) := by
      rw [e, lpX7_greatestOf_27, if_neg (nI_pos (by omega)), e102, oin_in (by omega) (by omega), nI_clamp (by omega), h10 k (by omega), mbegin_e h1 h8 (by omega) (by omega), obd_s, hq, G2, ed]
      by_cases c : isB M m (b - (l + 1)) (2 * q + 1)
      · rw [if_pos c, if_pos c]
        by_cases c2 : isB M m (b - (l + 1)) (2 * q)
        · rw [if_pos c2, if_pos c2]; rfl
        · rw [if_neg c2, if_neg c2]; rfl
      · rw [if_neg c, if_neg c]; rfl
    rw [A, B]
    by_cases c : isB M m (b - (l + 1)) (2 * q + 1)
    · rw [if_pos c, if_pos c]
      by_cases c2 : isB M m (b - (l + 1)) (2 * q)
      · rw [if_pos c2, if_pos c2]
        exact ih f (by omega) (by omega)
      · rw [if_neg c2, if_neg c2]
        exact Or.inl ⟨_, rfl, rfl⟩
    · rw [if_neg c, if_neg c]
      exact Or.inl ⟨_, rfl, rfl⟩
theorem eq_great {row marks : Nat → Int32} {b m l : Nat} {M : Nat → Nat} (h : Lx row marks b m M) (hl : l ≤ b) : ∃ r, fX0_greatestOfLength (nI b) (nI m) marks (nI l) = some r ∧ fX7_greatestOf row (nI l) = some r := by
  have hh := h
  obtain ⟨h1, h2, h3, h4, h5, h6, h7, h8, h9, h10⟩ := h
  have o0 : ∀ X : Option Int32, oin (0 : Int32) 1824 X = X := fun X => oin_in (a := 0) (by omega) (by omega)
  have o3 : ∀ X : Option Int32, oin (3 : Int32) 1824 X = X := fun X => oin_in (a := 3) (by omega) (by omega)
  have e0 : row (0 : Int32).toNatClampNeg = nI b := h8
  have e3 : row (3 : Int32).toNatClampNeg = nI m := h9
  have em : nI m - 1 = nI (m - 1) := pk_sub (b := 1) (by omega)
  unfold fX0_greatestOfLength fX7_greatestOf
  rw [o0, e0, sub_bl hl, o3, e3]
  by_cases c : l = b
  · subst c
    rw [if_neg (Int32.lt_irrefl), em, markAt_in h2 h7 (by omega), h6, show l - l = 0 by omega, if_pos (show nI 0 = (0 : Int32) from rfl), mtop_e h1 h8]
    exact ⟨_, rfl, rfl⟩
  · rw [if_pos (nI_lt (by omega) (by omega)), if_neg (nI_ne0 (by omega) (by omega))]
    rcases great_loop hh (show l < b by omega) m 100000 (Nat.le_refl m) (by omega) with ⟨r, g1, g2⟩ | ⟨u, v, g1, g2⟩
    · rw [g1, g2]
      exact ⟨r, rfl, rfl⟩
    · rw [g1, g2]
      exact ⟨-1, rfl, rfl⟩
theorem eq_spread {row marks : Nat → Int32} {b m : Nat} {M : Nat → Nat} (h : Lx row marks b m M) (x y : Int32) : ∃ r, fX6_spread (nI b) (nI m) marks x y = some r ∧ fX7_spread row x y = some r := by
  rcases lev_cases h x with ⟨h1, h2⟩ | ⟨l, hl, rfl, h1, h2⟩
  · refine ⟨-2, ?_, ?_⟩
    · unfold fX6_spread; rw [h1, obd_s, if_pos z00]
    · unfold fX7_spread; rw [h2, obd_s, if_pos z00]
  · have h16 := h.1
    have o0 : ∀ X : Option Int32, oin (0 : Int32) 1824 X = X := fun X => oin_in (a := 0) (by omega) (by omega)
    have e0 : row (0 : Int32).toNatClampNeg = nI b := h.2.2.2.2.2.2.2.1
    obtain ⟨N, hN, hN2⟩ : ∃ N : Int32, fX0_numbersOfLength (nI b) (nI m) marks (nI l) = some N ∧ (obd (if nI (b - l) = 0 then some (0 : Int32) else obd (fX7_levelOf row (nI l + 1)) fun u_18 => some (u_18 <<< ((nI (b - l) - 1) &&& 31))) fun w => some ((nI (levF M (b - l) m) <<< (nI (b - l) &&& 31)) - w)) = some N := by
      unfold fX0_numbersOfLength
      rw [lev_c h hl, obd_s, sub_bl hl]
      by_cases c : l = b
      · subst c
        rw [if_neg Int32.lt_irrefl, show l - l = 0 by omega, if_pos (show nI 0 = (0 : Int32) from rfl), obd_s]
        refine ⟨_, rfl, ?_⟩
        rw [Int32.sub_zero]
      · rw [if_pos (nI_lt (by omega) (by omega)), if_neg (nI_ne0 (by omega) (by omega)), nI_1, lev_c h (by omega), lev_m h (by omega), obd_s, obd_s, obd_s]
        exact ⟨_, rfl, rfl⟩
    have A : fX6_spread (nI b) (nI m) marks (nI l) y = (if y < 0 then (some (-3)) else (if y ≤ 1 then (if N = 0 then (some (-1)) else (obd (if y = 0 then (obd (fX0_greatestOfLength (nI b) (nI m) marks (nI l)) fun u_11 => some u_11) else (some N)) fun w_10 => some w_10)) else (some (-3)))) := by
      unfold fX6_spread
      rw [h1, obd_s, if_neg z10, hN]
      rfl
    have B : fX7_spread row (nI l) y = (obd (fX7_in y.toInt64 (0 : Int32).toInt64 (1 : Int32).toInt64) fun u_4 => if u_4 = 0 then (some (-3)) else (if N = 0 then (some (-1)) else (if y = 0 then (obd (fX7_greatestOf row (nI l)) fun u_15 => some u_15) else (some N)))) := by
      unfold fX7_spread
      rw [h2, obd_s, if_neg z10, o0, e0, lev_m h hl, sub_bl hl]
      have : ∀ u_4 : Int32, (if u_4 = 0 then some (-3 : Int32) else obd (some (nI (levF M (b - l) m))) fun u_8 => obd (if nI (b - l) = 0 then some (0 : Int32) else obd (fX7_levelOf row (nI l + 1)) fun u_18 => some (u_18 <<< ((nI (b - l) - 1) &&& 31))) fun w_11 => obd (if (u_8 <<< (nI (b - l) &&& 31)) - w_11 = 0 then some (-1) else if y = 0 then obd (fX7_greatestOf row (nI l)) fun u_15 => some u_15 else some ((u_8 <<< (nI (b - l) &&& 31)) - w_11)) fun w_13 => some w_13) = (if u_4 = 0 then (some (-3)) else (if N = 0 then (some (-1)) else (if y = 0 then (obd (fX7_greatestOf row (nI l)) fun u_15 => some u_15) else (some N)))) := by
        intro u
        obtain ⟨w, hw1, hw2⟩ := obd_e hN2
        rw [obd_s, hw1, obd_s, Option.some.inj hw2]
        by_cases c : u = 0
        · rw [if_pos c, if_pos c]
        · rw [if_neg c, if_neg c]
          by_cases c2 : N = 0
          · rw [if_pos c2]; rfl
          · rw [if_neg c2]
            by_cases c3 : y = 0
            · rw [if_pos c3]
              cases fX7_greatestOf row (nI l) <;> rfl
            · rw [if_neg c3]; rfl
      show (obd (fX7_in y.toInt64 (0 : Int32).toInt64 (1 : Int32).toInt64) fun u_4 => _) = _
      exact congrArg _ (funext this)
    rw [A, B]
    obtain ⟨g, hg1, hg2⟩ := eq_great h hl
    rcases way_cases y (N := 1) (by omega) with c | ⟨v, hv, rfl⟩ | c
    · refine ⟨-3, ?_, ?_⟩
      · rw [if_pos c]
      · rw [inI_lt c, obd_s, if_pos z00]
    · rw [if_neg (nI_pos (by omega)), if_pos (show nI v ≤ (1 : Int32) from nI_le (b := 1) hv (by omega)), inI_in (nI_pos (by omega)) (show ¬ (1 : Int32) < nI v from nI_nlt (a := 1) hv (by omega)), obd_s, if_neg z10, hg1, hg2]
      by_cases cN : N = 0
      · rw [if_pos cN, if_pos cN]
        exact ⟨_, rfl, rfl⟩
      · rw [if_neg cN, if_neg cN]
        by_cases c0 : nI v = 0
        · rw [if_pos c0]
          exact ⟨_, rfl, rfl⟩
        · rw [if_neg c0]
          exact ⟨_, rfl, rfl⟩
    · refine ⟨-3, ?_, ?_⟩
      · rw [if_neg (big_nn (N := 1) (by omega) c), if_neg (show ¬ y ≤ 1 from big_nle c)]
      · rw [inI_gt (show (1 : Int32) < y from c), obd_s, if_pos z00]
theorem probe_both {row marks : Nat → Int32} {b m x : Nat} {M : Nat → Nat} (h : Lx row marks b m M) (hx : x < 2 ^ b) :
    ∀ (k f lo hi st : Nat), hi - lo ≤ k → k < f → st + k ≤ 31 → lo ≤ hi → hi ≤ b →
      ∃ l' s' w1 w2, l' ≤ b ∧ s' ≤ 31 ∧ lpX1_probe_11 (nI x) (nI b) (nI m) marks f (nI lo) (nI hi) (nI st) = some (nI l', w1, nI s') ∧ lpX7_seek_19 (nI x) row f (nI lo) (nI hi) (nI st) = some (nI l', w2, nI s') := by
  have hb16 := h.1
  have hb := pow_le16 hb16
  intro k
  induction k with
  | zero =>
    intro f lo hi st h1 h2 h3 h4 h5
    obtain ⟨f, rfl⟩ : ∃ g, f = g + 1 := ⟨f - 1, by omega⟩
    refine ⟨lo, st, nI hi, nI hi, by omega, by omega, ?_, ?_⟩
    · rw [lpX1_probe_11, if_pos (nI_le (by omega) (by omega))]
    · rw [lpX7_seek_19, if_pos (nI_le (by omega) (by omega))]
  | succ k ih =>
    intro f lo hi st h1 h2 h3 h4 h5
    obtain ⟨f, rfl⟩ : ∃ g, f = g + 1 := ⟨f - 1, by omega⟩
    by_cases c : hi ≤ lo
    · refine ⟨lo, st, nI hi, nI hi, by omega, by omega, ?_, ?_⟩
      · rw [lpX1_probe_11, if_pos (nI_le (by omega) (by omega))]
      · rw [lpX7_seek_19, if_pos (nI_le (by omega) (by omega))]
    · have hm1 : lo < (lo + hi + 1) / 2 := by omega
      have hm2 : (lo + hi + 1) / 2 ≤ hi := by omega
      have em : (nI lo + nI hi + 1) / 2 = nI ((lo + hi + 1) / 2) := by
        rw [nI_add, nI_1]
        exact pk_div (d := 2) (by omega) (by omega) (by omega)
      generalize (lo + hi + 1) / 2 = mid at hm1 hm2 em
      have hmb : mid ≤ b := by omega
      have hbeg := beg_lt hmb hx
      have em1 : nI mid - 1 = nI (mid - 1) := pk_sub (b := 1) (by omega)
      have A : lpX1_probe_11 (nI x) (nI b) (nI m) marks (f + 1) (nI lo) (nI hi) (nI st) = if isB M m (b - mid) (x / 2 ^ (b - mid)) then lpX1_probe_11 (nI x) (nI b) (nI m) marks f (nI mid) (nI hi) (nI (st + 1)) else lpX1_probe_11 (nI x) (nI b) (nI m) marks f (nI lo) (nI (mid - 1)) (nI (st + 1)) := by
        rw [lpX1_probe_11, if_neg (nI_ge (by omega) (by omega)), if_neg (show ¬ (32 : Int32) ≤ nI st from nI_ge (b := 32) (by omega) (by omega)), em, em1, begin_e hb16 hmb (by omega), obd_s, isB_c h hmb hbeg, obd_s, nI_1]
        by_cases c2 : isB M m (b - mid) (x / 2 ^ (b - mid))
        · rw [bN_t c2, if_pos c2, if_neg z10, if_neg z10]; rfl
        · rw [bN_f c2, if_neg c2, if_pos z00, if_pos z00]; rfl
      have B : lpX7_seek_19 (nI x) row (f + 1) (nI lo) (nI hi) (nI st) = if isB M m (b - mid) (x / 2 ^ (b - mid)) then lpX7_seek_19 (nI x) row f (nI mid) (nI hi) (nI (st + 1)) else lpX7_seek_19 (nI x) row f (nI lo) (nI (mid - 1)) (nI (st + 1)) := by
        rw [lpX7_seek_19, if_neg (nI_ge (by omega) (by omega)), em, em1, mbegin_e hb16 h.2.2.2.2.2.2.2.1 hmb (by omega), obd_s, isB_m h hmb hbeg, obd_s, nI_1]
        by_cases c2 : isB M m (b - mid) (x / 2 ^ (b - mid))
        · rw [bN_t c2, if_pos c2, if_neg z10, if_neg z10]; rfl
        · rw [bN_f c2, if_neg c2, if_pos z00, if_pos z00]; rfl
      rw [A, B]
      by_cases c2 : isB M m (b - mid) (x / 2 ^ (b - mid))
      · rw [if_pos c2, if_pos c2]
        exact ih f mid hi (st + 1) (by omega) (by omega) (by omega) (by omega) h5
      · rw [if_neg c2, if_neg c2]
        exact ih f lo (mid - 1) (st + 1) (by omega) (by omega) (by omega) (by omega) (by omega)
theorem look_both {keys row : Nat → Int32} {n x s0 : Nat} {K : Nat → Nat} (hn : n ≤ 96) (hx : x < 65536) (hK : ∀ i, i < n → K i < 65536) (ha : holdsA keys n K) (hr : ∀ i, i < n → row (6 + i) = nI (K i)) :
    ∀ (k f lo hi st : Nat), hi - lo < 2 ^ k → k < f → st + k ≤ 31 → lo ≤ hi → s0 + hi ≤ n →
      ∃ s' w1 w2 w3 w4, s' ≤ 31 ∧ lpX1_look_25 (nI x) (nI s0) (nI n) keys f (nI lo) (nI hi) (nI st) = some (w1, w2, nI s') ∧ lpX7_seek_147 (nI x) (nI s0) row f (nI lo) (nI hi) (nI st) = some (w3, w4, nI s') := by
  intro k
  induction k with
  | zero =>
    intro f lo hi st h1 h2 h3 h4 h5
    obtain ⟨f, rfl⟩ : ∃ g, f = g + 1 := ⟨f - 1, by omega⟩
    have e : hi ≤ lo := by simp at h1; omega
    refine ⟨st, nI lo, nI hi, nI lo, nI hi, by omega, ?_, ?_⟩
    · rw [lpX1_look_25, if_pos (nI_le e (by omega))]
    · rw [lpX7_seek_147, if_pos (nI_le e (by omega))]
  | succ k ih =>
    intro f lo hi st h1 h2 h3 h4 h5
    obtain ⟨f, rfl⟩ : ∃ g, f = g + 1 := ⟨f - 1, by omega⟩
    by_cases c : hi ≤ lo
    · refine ⟨st, nI lo, nI hi, nI lo, nI hi, by omega, ?_, ?_⟩
      · rw [lpX1_look_25, if_pos (nI_le c (by omega))]
      · rw [lpX7_seek_147, if_pos (nI_le c (by omega))]
    · have hp : 2 ^ (k + 1) = 2 * 2 ^ k := by rw [Nat.pow_succ]; omega
      have hm1 : lo ≤ (lo + hi) / 2 := by omega
      have hm2 : (lo + hi) / 2 < hi := by omega
      have em : (nI lo + nI hi) / 2 = nI ((lo + hi) / 2) := by rw [nI_add]; exact pk_div (d := 2) (by omega) (by omega) (by omega)
      generalize hmid : (lo + hi) / 2 = mid at *
      have es : nI s0 + nI mid = nI (s0 + mid) := nI_add _ _
      have es6 : (6 : Int32) + nI s0 + nI mid = nI (6 + (s0 + mid)) := by
        have a1 : (6 : Int32) + nI s0 = nI (6 + s0) := nI_add 6 s0
        rw [a1, nI_add, Nat.add_assoc]
      have hKm := hK (s0 + mid) (by omega)
      have A : lpX1_look_25 (nI x) (nI s0) (nI n) keys (f + 1) (nI lo) (nI hi) (nI st) = if x ≤ K (s0 + mid) then lpX1_look_25 (nI x) (nI s0) (nI n) keys f (nI lo) (nI mid) (nI (st + 1)) else lpX1_look_25 (nI x) (nI s0) (nI n) keys f (nI (mid + 1)) (nI hi) (nI (st + 1)) := by
        rw [lpX1_look_25, if_neg (nI_ge (by omega) (by omega)), if_neg (show ¬ (32 : Int32) ≤ nI st from nI_ge (b := 32) (by omega) (by omega)), em, es, keyAt_in hn ha (by omega), obd_s, nI_1 st, nI_1 mid]
        by_cases c2 : x ≤ K (s0 + mid)
        · rw [if_pos (nI_le c2 (by omega)), if_pos (nI_le c2 (by omega)), if_pos c2]; rfl
        · rw [if_neg (nI_ge (by omega) (by omega)), if_neg (nI_ge (by omega) (by omega)), if_neg c2]; rfl
      have B : lpX7_seek_147 (nI x) (nI s0) row (f + 1) (nI lo) (nI hi) (nI st) = if x ≤ K (s0 + mid) then lpX7_seek_147 (nI x) (nI s0) row f (nI lo) (nI mid) (nI (st + 1)) else lpX7_seek_147 (nI x) (nI s0) row f (nI (mid + 1)) (nI hi) (nI (st + 1)) := by
        rw [lpX7_seek_147, if_neg (nI_ge (by omega) (by omega)), em, es6, oin_in (by omega) (by omega), nI_clamp (by omega), hr _ (by omega), nI_1 st, nI_1 mid]
        by_cases c2 : x ≤ K (s0 + mid)
        · rw [if_pos (nI_le c2 (by omega)), if_pos c2]; rfl
        · rw [if_neg (nI_ge (by omega) (by omega)), if_neg c2]; rfl
      rw [A, B]
      by_cases c2 : x ≤ K (s0 + mid)
      · rw [if_pos c2, if_pos c2]
        exact ih f lo mid (st + 1) (by omega) (by omega) (by omega) hm1 (by omega)
      · rw [if_neg c2, if_neg c2]
        exact ih f (mid + 1) hi (st + 1) (by omega) (by omega) (by omega) (by omega) (by omega)
