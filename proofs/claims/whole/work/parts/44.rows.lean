/-! the rows: row, set, drop, load, all places, count -/
def RowsI (pl : Nat → Int64) (le : Nat → Int32) (va : Nat → Int64) (si : Nat → Int32) : Prop := ∀ k, k < 3 → (le k = -1 ∧ si k = -1) ∨ ∃ z, z ≤ 12 ∧ le k = nI z ∧ si k = nI z ∧ ∀ i, i < z → pl (12 * k + i) = va (12 * k + i)
theorem big_le {N : Nat} {w : Int32} (hN : N < 2147483647) (h : nI N < w) : nI (N + 1) ≤ w := by
  rcases i32_cases w with d | ⟨k, hk, rfl⟩
  · exact absurd d (big_nn (by omega) h)
  · have : N < k := by
      rcases Nat.lt_or_ge N k with q | q
      · exact q
      · exact absurd h (nI_nlt q (by omega))
    exact nI_le (by omega) hk
theorem row_cases (x : Int32) : (fX4_known x = some 0 ∧ fX7_isRow x = some 0) ∨ ∃ k, k < 3 ∧ x = nI k ∧ fX4_known x = some 1 ∧ fX7_isRow x = some 1 := by
  have eL : ∀ z : Int32, fX7_in z.toInt64 (0 : Int64) (2 : Int64) = fX7_in z.toInt64 (0 : Int32).toInt64 (2 : Int32).toInt64 := fun _ => rfl
  unfold fX4_known fX7_isRow
  rw [eL]
  rcases way_cases x (N := 2) (by omega) with c | ⟨v, hv, rfl⟩ | c
  · rw [if_pos c, inI_lt c]
    exact Or.inl ⟨rfl, rfl⟩
  · refine Or.inr ⟨v, by omega, rfl, ?_, ?_⟩
    · rw [if_neg (nI_pos (by omega)), if_neg (show ¬ (3 : Int32) ≤ nI v from nI_ge (b := 3) (by omega) (by omega))]
      rfl
    · rw [inI_in (nI_pos (by omega)) (show ¬ (2 : Int32) < nI v from nI_nlt (a := 2) hv (by omega))]
      rfl
  · rw [if_neg (big_nn (N := 2) (by omega) c), if_pos (show (3 : Int32) ≤ x from big_le (N := 2) (by omega) c), inI_gt (show (2 : Int32) < x from c)]
    exact Or.inl ⟨rfl, rfl⟩
theorem known_k {k : Nat} (h : k < 3) : fX4_known (nI k) = some 1 := by
  have : k = 0 ∨ k = 1 ∨ k = 2 := by omega
  rcases this with rfl | rfl | rfl <;> rfl
theorem len_k {le : Nat → Int32} {k : Nat} (h : k < 3) : fX4_lengthOf le (nI k) = some (le k) := by
  unfold fX4_lengthOf
  rw [known_k h, obd_s, if_neg z10, oin_in h (by omega), nI_clamp (by omega), obd_s]
theorem ref_no {le : Nat → Int32} {k : Nat} (h : k < 3) (h2 : le k = -1) : fX4_refusalOf le (nI k) = some (-11) := by
  unfold fX4_refusalOf
  rw [known_k h, obd_s, if_neg z10, len_k h, obd_s, h2, if_pos rfl, olet_s]
theorem ref_in {le : Nat → Int32} {k z : Nat} (h : k < 3) (hz : z ≤ 12) (h2 : le k = nI z) : fX4_refusalOf le (nI k) = some 0 := by
  unfold fX4_refusalOf
  rw [known_k h, obd_s, if_neg z10, len_k h, obd_s, h2, if_neg (nI_neg1 (by omega)), olet_s]
theorem at_in {le : Nat → Int32} {k z i : Nat} (h : k < 3) (hz : z ≤ 12) (hi : i < z) (h2 : le k = nI z) : fX4_refusalAt le (nI k) (nI i) = some 0 := by
  unfold fX4_refusalAt
  rw [ref_in h hz h2, obd_s, if_pos z00, if_neg (nI_pos (by omega)), len_k h, obd_s, h2, if_pos (nI_lt hi (by omega)), obd_s]
theorem slot_in {le : Nat → Int32} {k z i : Nat} (h : k < 3) (hz : z ≤ 12) (hi : i < z) (h2 : le k = nI z) : fX4_slotOf le (nI k) (nI i) = some (nI (12 * k + i)) := by
  unfold fX4_slotOf
  have e : nI k * (12 : Int32) = nI (k * 12) := pk_mul k 12
  rw [at_in h hz hi h2, obd_s, if_pos z00, olet_s, e, nI_add, Nat.mul_comm]
theorem put_in {pl : Nat → Int64} {le : Nat → Int32} {k z i : Nat} {v : Int64} (h : k < 3) (hz : z ≤ 12) (hi : i < z) (h2 : le k = nI z) : fX4_put pl le (nI k) (nI i) v = some (vp_updL pl (12 * k + i) v) := by
  unfold fX4_put
  rw [slot_in h hz hi h2, obd_s, if_neg (nI_pos (by omega)), if_neg (show ¬ (36 : Int32) ≤ nI (12 * k + i) from nI_ge (b := 36) (by omega) (by omega)), oin_in (by omega) (by omega), nI_clamp (by omega), obd_s]
theorem get_in {pl : Nat → Int64} {le : Nat → Int32} {k z i : Nat} (h : k < 3) (hz : z ≤ 12) (hi : i < z) (h2 : le k = nI z) : fX4_at pl le (nI k) (nI i) = some (pl (12 * k + i)) := by
  unfold fX4_at
  rw [slot_in h hz hi h2, obd_s, if_neg (nI_pos (by omega)), if_neg (show ¬ (36 : Int32) ≤ nI (12 * k + i) from nI_ge (b := 36) (by omega) (by omega)), oin_in (by omega) (by omega), nI_clamp (by omega), obd_s]
theorem mslot {k i : Nat} : ((12 : Int32) * nI k) + nI i = nI (12 * k + i) := by
  have e : (12 : Int32) * nI k = nI (12 * k) := pk_mul 12 k
  rw [e, nI_add]
theorem place_cases {pl va : Nat → Int64} {le si : Nat → Int32} (hR : RowsI pl le va si) (x y : Int32) :
    (∃ c, ¬ c = 0 ∧ fX4_refusalAt le x y = some c ∧ fX7_noPlace si x y = some c) ∨ ∃ k z i, k < 3 ∧ z ≤ 12 ∧ i < z ∧ x = nI k ∧ y = nI i ∧ le k = nI z ∧ si k = nI z ∧ (∀ t, t < z → pl (12 * k + t) = va (12 * k + t)) ∧ fX4_refusalAt le x y = some 0 ∧ fX7_noPlace si x y = some 0 := by
  rcases row_cases x with ⟨h1, h2⟩ | ⟨k, hk, rfl, h1, h2⟩
  · refine Or.inl ⟨-2, by decide, ?_, ?_⟩
    · unfold fX4_refusalAt fX4_refusalOf
      rw [h1, obd_s, if_pos z00, obd_s, if_neg (by decide)]
    · unfold fX7_noPlace
      rw [h2, obd_s, if_pos z00, obd_s]
  · have eN : ∀ w, si k = w → fX7_noPlace si (nI k) y = obd (if 0 ≤ w then (obd (fX7_in y.toInt64 (0 : Int32).toInt64 ((w - (1 : Int32)).toInt64)) fun u_8 => if u_8 = 0 then (some (-12 : Int32)) else (some (0 : Int32))) else (some (-11 : Int32))) fun w_4 => some w_4 := by
      intro w hw
      unfold fX7_noPlace
      rw [h2, obd_s, if_neg z10, oin_in hk (by omega), oin_in hk (by omega), nI_clamp (by omega), hw]
      rfl
    rcases hR k hk with ⟨a1, a2⟩ | ⟨z, hz, a1, a2, a3⟩
    · refine Or.inl ⟨-11, by decide, ?_, ?_⟩
      · unfold fX4_refusalAt
        rw [ref_no hk a1, obd_s, if_neg (by decide)]
      · rw [eN _ a2, if_neg (by decide), obd_s]
    · have hout : (y < 0 ∨ ∃ i, z ≤ i ∧ i < 2147483648 ∧ y = nI i) ∨ ∃ i, i < z ∧ y = nI i := by
        rcases i32_cases y with c | ⟨i, hi, rfl⟩
        · exact Or.inl (Or.inl c)
        · by_cases c : i < z
          · exact Or.inr ⟨i, c, rfl⟩
          · exact Or.inl (Or.inr ⟨i, by omega, hi, rfl⟩)
      rcases hout with (c | ⟨i, hi, hi2, rfl⟩) | ⟨i, hi, rfl⟩
      · refine Or.inl ⟨-12, by decide, ?_, ?_⟩
        · unfold fX4_refusalAt
          rw [ref_in hk hz a1, obd_s, if_pos z00, if_pos c, obd_s]
        · rw [eN _ a2, if_pos (nI_pos' (by omega)), inI_lt c, obd_s, if_pos z00, obd_s]
      · refine Or.inl ⟨-12, by decide, ?_, ?_⟩
        · unfold fX4_refusalAt
          rw [ref_in hk hz a1, obd_s, if_pos z00, if_neg (nI_pos (by omega)), len_k hk, obd_s, a1, if_neg (nI_nlt hi (by omega)), obd_s]
        · have : nI z - 1 < nI i := by
            by_cases c0 : z = 0
            · subst c0
              exact Int32.lt_of_lt_of_le (show nI 0 - 1 < 0 by decide) (nI_pos' (by omega))
            · have e1 : nI z - 1 = nI (z - 1) := pk_sub (b := 1) (by omega)
              rw [e1]
              exact nI_lt (by omega) (by omega)
          rw [eN _ a2, if_pos (nI_pos' (by omega)), inI_gt this, obd_s, if_pos z00, obd_s]
      · refine Or.inr ⟨k, z, i, hk, hz, hi, rfl, rfl, a1, a2, a3, at_in hk hz hi a1, ?_⟩
        have e1 : nI z - 1 = nI (z - 1) := pk_sub (b := 1) (by omega)
        rw [eN _ a2, if_pos (nI_pos' (by omega)), e1, inI_in (nI_pos (by omega)) (nI_nlt (by omega) (by omega)), obd_s, if_neg z10, obd_s]
theorem RowsI_upd {pl va : Nat → Int64} {le si : Nat → Int32} (hR : RowsI pl le va si) {q : Nat} (v : Int64) : RowsI (vp_updL pl q v) le (vp_updL va q v) si := by
  intro k hk
  rcases hR k hk with c | ⟨z, hz, a1, a2, a3⟩
  · exact Or.inl c
  · refine Or.inr ⟨z, hz, a1, a2, fun i hi => ?_⟩
    unfold vp_updL
    by_cases c : 12 * k + i = q
    · rw [if_pos c, if_pos c]
    · rw [if_neg c, if_neg c]; exact a3 i hi
theorem eq_set {pl va : Nat → Int64} {le si : Nat → Int32} (hR : RowsI pl le va si) (x y v : Int32) : ∃ r pl' va', fX6_set pl le x y v = some (r, pl') ∧ fX7_set si va x y v = some (r, va') ∧ RowsI pl' le va' si := by
  unfold fX6_set fX7_set
  rcases place_cases hR x y with ⟨c, c0, h1, h2⟩ | ⟨k, z, i, hk, hz, hi, rfl, rfl, a1, a2, a3, h1, h2⟩
  · rw [h1, h2, obd_s, obd_s, if_neg c0, if_neg c0, obd_s, olet_s, if_neg c0]
    exact ⟨_, _, _, rfl, rfl, hR⟩
  · rw [h1, h2, obd_s, obd_s, if_pos z00, if_pos z00, put_in hk hz hi a1, obd_s, mslot, oin_in (by omega) (by omega), nI_clamp (by omega), obd_s, olet_s, if_pos z00]
    exact ⟨_, _, _, rfl, rfl, RowsI_upd hR _⟩
theorem renew_loop {le : Nat → Int32} {pl0 : Nat → Int64} {k z : Nat} (hk : k < 3) (hz : z ≤ 12) (h2 : le k = nI z) :
    ∀ (n f i : Nat) (pl : Nat → Int64), i + n = z → n < f → (∀ t, pl t = if 12 * k ≤ t ∧ t < 12 * k + i then 0 else pl0 t) →
      ∃ w, lpX4_renew_18 (nI k) (nI z) le f (nI i) pl = some w ∧ ∀ t, w.2 t = if 12 * k ≤ t ∧ t < 12 * k + z then 0 else pl0 t := by
  intro n
  induction n with
  | zero =>
    intro f i pl h1 hf hp
    obtain ⟨f, rfl⟩ : ∃ g, f = g + 1 := ⟨f - 1, by omega⟩
    obtain rfl : i = z := by omega
    exact ⟨(nI i, pl), by rw [lpX4_renew_18, if_pos (nI_le (by omega) (by omega))], hp⟩
  | succ n ih =>
    intro f i pl h1 hf hp
    obtain ⟨f, rfl⟩ : ∃ g, f = g + 1 := ⟨f - 1, by omega⟩
    rw [lpX4_renew_18, if_neg (nI_ge (by omega) (by omega)), put_in hk hz (by omega) h2, obd_s, nI_1]
    refine ih f (i + 1) _ (by omega) (by omega) (fun t => ?_)
    unfold vp_updL
    by_cases c : t = 12 * k + i
    · rw [if_pos c, if_pos (by omega)]
    · rw [if_neg c, hp]
      by_cases d : 12 * k ≤ t ∧ t < 12 * k + i
      · rw [if_pos d, if_pos (by omega)]
      · rw [if_neg d, if_neg (by omega)]
theorem mrow_loop {va0 : Nat → Int64} {k : Nat} {q2 : Int32} (hk : k < 3) :
    ∀ (n f i : Nat) (va : Nat → Int64), i + n = 12 → n < f → (∀ t, va t = if 12 * k ≤ t ∧ t < 12 * k + i then 0 else va0 t) →
      ∃ w, lpX7_row_35 (nI k) q2 f (nI i) va = some w ∧ ∀ t, w.2 t = if 12 * k ≤ t ∧ t < 12 * k + 12 then 0 else va0 t := by
  intro n
  induction n with
  | zero =>
    intro f i va h1 hf hp
    obtain ⟨f, rfl⟩ : ∃ g, f = g + 1 := ⟨f - 1, by omega⟩
    obtain rfl : i = 12 := by omega
    exact ⟨(nI 12, va), by rw [lpX7_row_35, if_pos (show (12 : Int32) ≤ nI 12 by decide)], hp⟩
  | succ n ih =>
    intro f i va h1 hf hp
    obtain ⟨f, rfl⟩ : ∃ g, f = g + 1 := ⟨f - 1, by omega⟩
    rw [lpX7_row_35, if_neg (show ¬ (12 : Int32) ≤ nI i from nI_ge (b := 12) (by omega) (by omega)), mslot, oin_in (by omega) (by omega), nI_clamp (by omega), nI_1]
    refine ih f (i + 1) _ (by omega) (by omega) (fun t => ?_)
    unfold vp_updL
    by_cases c : t = 12 * k + i
    · rw [if_pos c, if_pos (by omega)]
    · rw [if_neg c, hp]
      by_cases d : 12 * k ≤ t ∧ t < 12 * k + i
      · rw [if_pos d, if_pos (by omega)]
      · rw [if_neg d, if_neg (by omega)]
theorem eq_row {pl va : Nat → Int64} {le si : Nat → Int32} (hR : RowsI pl le va si) (x y : Int32) : ∃ r pl' le' si' va', fX6_row pl le x y = some (r, pl', le') ∧ fX7_row si va x y = some (r, si', va') ∧ RowsI pl' le' va' si' := by
  unfold fX6_row fX7_row
  rcases row_cases x with ⟨h1, h2⟩ | ⟨k, hk, rfl, h1, h2⟩
  · rw [h1, h2, obd_s, obd_s, if_pos z00, if_pos z00]
    exact ⟨_, _, _, _, _, rfl, rfl, hR⟩
  rw [h1, h2, obd_s, obd_s, if_neg z10, if_neg z10]
  rcases way_cases y (N := 12) (by omega) with c | ⟨z, hz, rfl⟩ | c
  · have n1 : y ≤ 12 := Int32.le_of_lt (Int32.lt_trans c (by decide))
    rw [if_pos n1, if_pos n1, if_neg (Int32.not_le.mpr c), if_neg (Int32.not_le.mpr c)]
    exact ⟨_, _, _, _, _, rfl, rfl, hR⟩
  · rw [if_pos (show nI z ≤ (12 : Int32) from nI_le (b := 12) hz (by omega)), if_pos (show nI z ≤ (12 : Int32) from nI_le (b := 12) hz (by omega)), if_pos (nI_pos' (by omega)), if_pos (nI_pos' (by omega))]
    have hu : upd le k (nI z) k = nI z := upd_at _ _ _
    obtain ⟨w1, p1, p2⟩ := renew_loop (pl0 := pl) hk hz hu z 100000 0 pl (by omega) (by omega) (fun t => by rw [if_neg (by omega)])
    obtain ⟨w2, q1, q2⟩ := mrow_loop (va0 := va) (q2 := nI z) hk 12 100000 0 va (by omega) (by omega) (fun t => by rw [if_neg (by omega)])
    have p1' : lpX4_renew_18 (nI k) (nI z) (upd le k (nI z)) 100000 0 pl = some w1 := p1
    have q1' : lpX7_row_35 (nI k) (nI z) 100000 0 va = some w2 := q1
    unfold fX4_renew
    rw [known_k hk, obd_s, if_neg z10, oin_in hk (by omega), nI_clamp (by omega), p1', obd_s, obd_s, oin_in hk (by omega), q1', obd_s]
    refine ⟨_, _, _, _, _, rfl, rfl, fun k' hk' => ?_⟩
    dsimp only
    by_cases ck : k' = k
    · subst ck
      refine Or.inr ⟨z, hz, hu, upd_at _ _ _, fun i hi => ?_⟩
      rw [p2, q2, if_pos (by omega), if_pos (by omega)]
    · rw [upd_ne ck, upd_ne ck]
      rcases hR k' hk' with d | ⟨z', hz', a1, a2, a3⟩
      · exact Or.inl d
      · refine Or.inr ⟨z', hz', a1, a2, fun i hi => ?_⟩
        rw [p2, q2, if_neg (by omega), if_neg (by omega)]
        exact a3 i hi
  · rw [if_neg (show ¬ y ≤ 12 from big_nle c), if_neg (show ¬ y ≤ 12 from big_nle c)]
    exact ⟨_, _, _, _, _, rfl, rfl, hR⟩
theorem eq_drop {pl va : Nat → Int64} {le si : Nat → Int32} (hR : RowsI pl le va si) (x : Int32) : ∃ r le' si', fX6_drop le x = some (r, le') ∧ fX7_drop si x = some (r, si') ∧ RowsI pl le' va si' := by
  unfold fX6_drop fX7_drop
  rcases row_cases x with ⟨h1, h2⟩ | ⟨k, hk, rfl, h1, h2⟩
  · unfold fX4_refusalOf
    rw [h1, h2, obd_s, obd_s, if_pos z00, if_pos z00, obd_s, if_neg (show ¬ (-2 : Int32) = 0 by decide)]
    exact ⟨_, _, _, rfl, rfl, hR⟩
  rw [h2, obd_s, if_neg z10, oin_in hk (by omega), oin_in hk (by omega), nI_clamp (by omega), olet_s]
  rcases hR k hk with ⟨a1, a2⟩ | ⟨z, hz, a1, a2, a3⟩
  · rw [ref_no hk a1, obd_s, if_neg (by decide), a2, if_neg (by decide)]
    refine ⟨_, _, _, rfl, rfl, fun k' hk' => ?_⟩
    by_cases ck : k' = k
    · subst ck; exact Or.inl ⟨a1, upd_at _ _ _⟩
    · rw [upd_ne ck]; exact hR k' hk'
  · unfold fX4_lose
    rw [ref_in hk hz a1, obd_s, if_pos z00, len_k hk, obd_s, h1, obd_s, if_neg z10, oin_in hk (by omega), nI_clamp (by omega), obd_s, obd_s, a1, a2, if_pos (nI_pos' (by omega))]
    refine ⟨_, _, _, rfl, rfl, fun k' hk' => ?_⟩
    by_cases ck : k' = k
    · subst ck; exact Or.inl ⟨upd_at _ _ _, upd_at _ _ _⟩
    · rw [upd_ne ck, upd_ne ck]; exact hR k' hk'
theorem all_both {pl va : Nat → Int64} {le si : Nat → Int32} (hR : RowsI pl le va si) : ∀ (n f i : Nat) (s : Int32), i + n = 3 → n < f → ∃ r w1 w2, lpX4_allPlaces_4 le f s (nI i) = some (r, w1) ∧ lpX7_allPlaces_4 si f s (nI i) = some (r, w2) := by
  intro n
  induction n with
  | zero =>
    intro f i s h1 hf
    obtain ⟨f, rfl⟩ : ∃ g, f = g + 1 := ⟨f - 1, by omega⟩
    obtain rfl : i = 3 := by omega
    exact ⟨s, nI 3, nI 3, by rw [lpX4_allPlaces_4, if_pos (show (3 : Int32) ≤ nI 3 by decide)], by rw [lpX7_allPlaces_4, if_pos (show (3 : Int32) ≤ nI 3 by decide)]⟩
  | succ n ih =>
    intro f i s h1 hf
    obtain ⟨f, rfl⟩ : ∃ g, f = g + 1 := ⟨f - 1, by omega⟩
    have hn : ¬ (3 : Int32) ≤ nI i := nI_ge (b := 3) (by omega) (by omega)
    rw [lpX4_allPlaces_4, lpX7_allPlaces_4, if_neg hn, if_neg hn, oin_in (by omega) (by omega), oin_in (by omega) (by omega), oin_in (by omega) (by omega), nI_clamp (by omega), nI_1]
    rcases hR i (by omega) with ⟨a1, a2⟩ | ⟨z, hz, a1, a2, a3⟩
    · rw [a1, a2, if_neg (show ¬ (0 : Int32) < -1 by decide), if_neg (show ¬ (0 : Int32) ≤ -1 by decide), obd_s]
      exact ih f (i + 1) _ (by omega) (by omega)
    · have : (if (0 : Int32) < nI z then nI z else 0) = nI z := by
        by_cases c : z = 0
        · subst c; rfl
        · rw [if_pos (show (0 : Int32) < nI z from nI_lt (a := 0) (by omega) (by omega))]
      rw [a1, a2, this, if_pos (nI_pos' (by omega)), obd_s]
      exact ih f (i + 1) _ (by omega) (by omega)
theorem eq_all {pl va : Nat → Int64} {le si : Nat → Int32} (hR : RowsI pl le va si) : ∃ r, fX4_allPlaces le = some r ∧ fX7_allPlaces si = some r := by
  obtain ⟨r, w1, w2, p1, p2⟩ := all_both hR 3 100000 0 0 (by omega) (by omega)
  have p1' : lpX4_allPlaces_4 le 100000 0 0 = some (r, w1) := p1
  have p2' : lpX7_allPlaces_4 si 100000 0 0 = some (r, w2) := p2
  unfold fX4_allPlaces fX7_allPlaces
  rw [p1', p2', obd_s, obd_s]
  exact ⟨_, rfl, rfl⟩
