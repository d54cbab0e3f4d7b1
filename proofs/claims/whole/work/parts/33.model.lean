/-! ===== the reference's row: an index lies in it from base B on ===== -/
def MRow (row : Nat → Int32) (B : Nat) : Ix → Prop
  | (b, s, n, m, p, j, K, M) => row B = nI b ∧ row (B + 1) = nI s ∧ row (B + 2) = nI n ∧ row (B + 3) = nI m ∧ row (B + 4) = nI p ∧ row (B + 5) = nI j ∧ (∀ i, i < n → row (B + 6 + i) = nI (K i)) ∧ (∀ i, i < m → row (B + 102 + i) = nI (M i))
def sameOut (row row' : Nat → Int32) (B : Nat) : Prop := ∀ i, (i < B ∨ B + 152 ≤ i) → row' i = row i
theorem sameOut.rf (row : Nat → Int32) (B : Nat) : sameOut row row B := fun _ _ => rfl
theorem sameOut.tr {r1 r2 r3 : Nat → Int32} {B : Nat} (h : sameOut r1 r2 B) (h2 : sameOut r2 r3 B) : sameOut r1 r3 B := fun i hi => (h2 i hi).trans (h i hi)
theorem below_loop {row : Nat → Int32} {B n x : Nat} {K : Nat → Nat} (hB : B ≤ 1672) (hn : n ≤ 96) (hx : x < 2147483648) (h2 : row (B + 2) = nI n) (h6 : ∀ i, i < n → row (B + 6 + i) = nI (K i)) (hK : rises K n) (hb : ∀ i, i < n → K i < 65536) :
    ∀ (k f i : Nat), i + k = n → k < f → (∀ t, t < i → K t < x) → lpX7_below_2 (nI B) (nI x) row f (nI i) = some (nI (lb K x n)) := by
  have e2 : nI B + 2 = nI (B + 2) := nI_add B 2
  intro k
  induction k with
  | zero =>
    intro f i h1 hf h3
    obtain ⟨f, rfl⟩ : ∃ g, f = g + 1 := ⟨f - 1, by omega⟩
    rw [lpX7_below_2, e2, oin_in (by omega) (by omega), nI_clamp (by omega), h2, if_pos (nI_le (by omega) (by omega)), ← lb_uniq hK (by omega) h3 (fun q => by omega)]
  | succ k ih =>
    intro f i h1 hf h3
    obtain ⟨f, rfl⟩ : ∃ g, f = g + 1 := ⟨f - 1, by omega⟩
    have e6 : nI B + 6 + nI i = nI (B + 6 + i) := (congrArg (· + nI i) (nI_add B 6)).trans (nI_add (B + 6) i)
    have hbi := hb i (by omega)
    rw [lpX7_below_2, e2, oin_in (by omega) (by omega), nI_clamp (by omega), h2, if_neg (nI_ge (by omega) (by omega)), e6, oin_in (by omega) (by omega), nI_clamp (by omega), h6 i (by omega)]
    by_cases c : x ≤ K i
    · rw [if_pos (nI_le c (by omega)), ← lb_uniq hK (by omega) h3 (fun _ => c)]
    · rw [if_neg (nI_ge (by omega) hx), nI_1]
      exact ih f (i + 1) (by omega) (by omega) (fun t ht => by
        by_cases e : t = i
        · rw [e]; omega
        · exact h3 t (by omega))
theorem below_e {row : Nat → Int32} {B n x : Nat} {K : Nat → Nat} (hB : B ≤ 1672) (hn : n ≤ 96) (hx : x < 2147483648) (h2 : row (B + 2) = nI n) (h6 : ∀ i, i < n → row (B + 6 + i) = nI (K i)) (hK : rises K n) (hb : ∀ i, i < n → K i < 65536) : fX7_below row (nI B) (nI x) = some (nI (lb K x n)) := by
  unfold fX7_below
  have q : lpX7_below_2 (nI B) (nI x) row 100000 0 = some (nI (lb K x n)) := below_loop hB hn hx h2 h6 hK hb n 100000 0 (by omega) (by omega) (fun t ht => by omega)
  rw [q]
  rfl
theorem isKey_t {row : Nat → Int32} {B n x : Nat} {K : Nat → Nat} (hB : B ≤ 1672) (hn : n ≤ 96) (hx : x < 2147483648) (h2 : row (B + 2) = nI n) (h6 : ∀ i, i < n → row (B + 6 + i) = nI (K i)) (hK : strict K n) (hb : ∀ i, i < n → K i < 65536) (hh : ixHas K n x) : fX7_isKey row (nI B) (nI x) = some 1 := by
  unfold fX7_isKey
  have e2 : nI B + 2 = nI (B + 2) := nI_add B 2
  have e6 : nI B + 6 + nI (lb K x n) = nI (B + 6 + lb K x n) := (congrArg (· + nI (lb K x n)) (nI_add B 6)).trans (nI_add (B + 6) _)
  have hl := hh.1
  rw [below_e hB hn hx h2 h6 hK.rises hb, obd_s, e2, oin_in (by omega) (by omega), nI_clamp (by omega), h2, if_neg (nI_ge hl (by omega)), e6, oin_in (by omega) (by omega), nI_clamp (by omega), h6 _ hl, hh.2, if_pos rfl, obd_s]
  exact obl_1 _
theorem isKey_f {row : Nat → Int32} {B n x : Nat} {K : Nat → Nat} (hB : B ≤ 1672) (hn : n ≤ 96) (hx : x < 2147483648) (h2 : row (B + 2) = nI n) (h6 : ∀ i, i < n → row (B + 6 + i) = nI (K i)) (hK : strict K n) (hb : ∀ i, i < n → K i < 65536) (hh : ¬ ixHas K n x) : fX7_isKey row (nI B) (nI x) = some 0 := by
  unfold fX7_isKey
  have e2 : nI B + 2 = nI (B + 2) := nI_add B 2
  have e6 : nI B + 6 + nI (lb K x n) = nI (B + 6 + lb K x n) := (congrArg (· + nI (lb K x n)) (nI_add B 6)).trans (nI_add (B + 6) _)
  have hl := lb_le K x n
  rw [below_e hB hn hx h2 h6 hK.rises hb, obd_s, e2, oin_in (by omega) (by omega), nI_clamp (by omega), h2]
  by_cases c : lb K x n < n
  · have := hb _ c
    rw [if_neg (nI_ge c (by omega)), e6, oin_in (by omega) (by omega), nI_clamp (by omega), h6 _ c, if_neg (fun e => hh ⟨c, (nI_eq (by omega) hx).mp e⟩), obd_s]
    exact obl_0 _
  · rw [if_pos (nI_le (by omega) (by omega)), obd_s]
    exact obl_0 _
theorem mbucket_loop {row : Nat → Int32} {B m x : Nat} {M : Nat → Nat} (hB : B ≤ 1672) (hm : m ≤ 48) (hx : x < 2147483648) (h : ∀ i, i < m → row (B + 102 + i) = nI (M i)) (hM : rises M m) (hb : ∀ i, i < m → M i < 65536) (h1m : 1 ≤ m) (hl : x ≤ M (m - 1)) :
    ∀ (k f i : Nat), i + k + 1 = m → k < f → (∀ t, t < i → M t < x) → lpX7_bucketOf_2 (nI B) (nI x) row f (nI i) = some (nI (lb M x m)) := by
  intro k
  induction k with
  | zero =>
    intro f i h1 hf h3
    obtain ⟨f, rfl⟩ : ∃ g, f = g + 1 := ⟨f - 1, by omega⟩
    have e6 : nI B + 102 + nI i = nI (B + 102 + i) := (congrArg (· + nI i) (nI_add B 102)).trans (nI_add (B + 102) i)
    have hbi := hb i (by omega)
    have ei : i = m - 1 := by omega
    rw [lpX7_bucketOf_2, e6, oin_in (by omega) (by omega), nI_clamp (by omega), h i (by omega), if_pos (nI_le (by rw [ei]; exact hl) (by omega)), ← lb_uniq hM (by omega) h3 (fun q => by rw [ei]; exact hl)]
  | succ k ih =>
    intro f i h1 hf h3
    obtain ⟨f, rfl⟩ : ∃ g, f = g + 1 := ⟨f - 1, by omega⟩
    have e6 : nI B + 102 + nI i = nI (B + 102 + i) := (congrArg (· + nI i) (nI_add B 102)).trans (nI_add (B + 102) i)
    have hbi := hb i (by omega)
    rw [lpX7_bucketOf_2, e6, oin_in (by omega) (by omega), nI_clamp (by omega), h i (by omega)]
    by_cases c : x ≤ M i
    · rw [if_pos (nI_le c (by omega)), ← lb_uniq hM (by omega) h3 (fun _ => c)]
    · rw [if_neg (nI_ge (by omega) hx), nI_1]
      exact ih f (i + 1) (by omega) (by omega) (fun t ht => by
        by_cases e : t = i
        · rw [e]; omega
        · exact h3 t (by omega))
theorem mbucket_e {row : Nat → Int32} {B m x : Nat} {M : Nat → Nat} (hB : B ≤ 1672) (hm : m ≤ 48) (hx : x < 2147483648) (h : ∀ i, i < m → row (B + 102 + i) = nI (M i)) (hM : rises M m) (hb : ∀ i, i < m → M i < 65536) (h1m : 1 ≤ m) (hl : x ≤ M (m - 1)) : fX7_bucketOf row (nI B) (nI x) = some (nI (lb M x m)) := by
  unfold fX7_bucketOf
  have q : lpX7_bucketOf_2 (nI B) (nI x) row 100000 0 = some (nI (lb M x m)) := mbucket_loop hB hm hx h hM hb h1m hl (m - 1) 100000 0 (by omega) (by omega) (fun t ht => by omega)
  rw [q]
  rfl
/-- what is held of an index at base B, unfolded -/
def Mx (row : Nat → Int32) (B n m : Nat) (K M : Nat → Nat) : Prop := B ≤ 1672 ∧ n ≤ 96 ∧ m ≤ 48 ∧ 1 ≤ m ∧ strict K n ∧ (∀ i, i < n → K i < 65536) ∧ rises M m ∧ (∀ i, i < m → M i < 65536) ∧ row (B + 2) = nI n ∧ row (B + 3) = nI m ∧ (∀ i, i < n → row (B + 6 + i) = nI (K i)) ∧ (∀ i, i < m → row (B + 102 + i) = nI (M i))
theorem ahead_e {row : Nat → Int32} {B n m i : Nat} {K M : Nat → Nat} (h : Mx row B n m K M) (hi : i < m) : fX7_aheadOf row (nI B) (nI i) = some (nI (so K n M i)) := by
  obtain ⟨hB, hn, hm, h1, hK, hKb, hM, hMb, r2, r3, r6, r102⟩ := h
  unfold fX7_aheadOf so
  by_cases c : i = 0
  · rw [if_pos c, if_pos (by rw [c]; rfl)]
    rfl
  · rw [if_neg c, if_neg (nI_ne0 (by omega) (by omega))]
    have e : nI B + 102 + nI i - 1 = nI (B + 102 + (i - 1)) := by
      have e6 : nI B + 102 + nI i = nI (B + 102 + i) := (congrArg (· + nI i) (nI_add B 102)).trans (nI_add (B + 102) i)
      rw [e6]
      have := pk_sub (a := B + 102 + i) (b := 1) (by omega)
      rw [show B + 102 + i - 1 = B + 102 + (i - 1) by omega] at this
      exact this
    have := hMb (i - 1) (by omega)
    rw [e, oin_in (by omega) (by omega), nI_clamp (by omega), r102 (i - 1) (by omega), nI_1, below_e hB hn (by omega) r2 r6 hK.rises hKb]
    rfl
theorem mkeysIn_e {row : Nat → Int32} {B n m i : Nat} {K M : Nat → Nat} (h : Mx row B n m K M) (hi : i < m) : fX7_keysIn row (nI B) (nI i) = some (nI (kin K n M i)) := by
  have ha := ahead_e h hi
  have hse := so_le_eo h.2.2.2.2.1.rises h.2.2.2.2.2.2.1 hi
  obtain ⟨hB, hn, hm, h1, hK, hKb, hM, hMb, r2, r3, r6, r102⟩ := h
  unfold fX7_keysIn
  have e6 : nI B + 102 + nI i = nI (B + 102 + i) := (congrArg (· + nI i) (nI_add B 102)).trans (nI_add (B + 102) i)
  have := hMb i hi
  rw [e6, oin_in (by omega) (by omega), nI_clamp (by omega), r102 i hi, nI_1, below_e hB hn (by omega) r2 r6 hK.rises hKb, obd_s, ha, obd_s]
  show some (nI (eo K n M i) - nI (so K n M i)) = _
  rw [pk_sub hse]
  rfl
theorem split_loop {row : Nat → Int32} {B i m : Nat} {q3 : Int32} (hB : B ≤ 1672) (hi : i ≤ m) (hm : m < 50) :
    ∀ (k f : Nat) (z : Nat → Int32), i + k ≤ m → k < f → (∀ t, z t = if B + 102 + i + k < t ∧ t ≤ B + 102 + m then row (t - 1) else row t) →
      ∃ w, lpX7_split_38 (nI B) (nI i) q3 f (nI (i + k)) z = some w ∧ (∀ t, w.2 t = if B + 102 + i < t ∧ t ≤ B + 102 + m then row (t - 1) else row t) := by
  intro k
  induction k with
  | zero =>
    intro f z h1 h2 h3
    obtain ⟨f, rfl⟩ : ∃ g, f = g + 1 := ⟨f - 1, by omega⟩
    rw [lpX7_split_38, if_pos (nI_le (by omega) (by omega))]
    exact ⟨_, rfl, h3⟩
  | succ k ih =>
    intro f z h1 h2 h3
    obtain ⟨f, rfl⟩ : ∃ g, f = g + 1 := ⟨f - 1, by omega⟩
    have e6 : nI B + 102 + nI (i + (k + 1)) = nI (B + 102 + (i + (k + 1))) := (congrArg (· + nI (i + (k + 1))) (nI_add B 102)).trans (nI_add (B + 102) _)
    have e7 : nI (B + 102 + (i + (k + 1))) - 1 = nI (B + 102 + (i + k)) := nI_pred (B + 102 + (i + k))
    have e8 : nI (i + (k + 1)) + -1 = nI (i + k) := pk_m1 (i + k)
    rw [lpX7_split_38, if_neg (nI_ge (by omega) (by omega)), e6, e7, e8, oin_in (by omega) (by omega), oin_in (by omega) (by omega), nI_clamp (by omega), nI_clamp (by omega)]
    refine ih f _ (by omega) (by omega) (fun t => ?_)
    by_cases e : t = B + 102 + (i + (k + 1))
    · rw [e, upd_at, h3, if_neg (by omega), if_pos (by omega)]
      rfl
    · rw [upd_ne e, h3]
      by_cases c : B + 102 + i + (k + 1) < t ∧ t ≤ B + 102 + m
      · rw [if_pos c, if_pos (by omega)]
      · rw [if_neg c, if_neg (by omega)]
theorem msplit_e {row : Nat → Int32} {B b s n m p j i : Nat} {K M : Nat → Nat} (h : Mx row B n m K M) (hr : MRow row B (b, s, n, m, p, j, K, M)) (hi : i < m) (hm : m < 48) (h4 : 4 ≤ kin K n M i) : ∃ r, fX7_split row (nI B) (nI i) = some r ∧ MRow r B (ixHalve (b, s, n, m, p, j, K, M) i) ∧ sameOut row r B := by
  have hse := so_le_eo h.2.2.2.2.1.rises h.2.2.2.2.2.2.1 hi
  have hel := eo_le K n M i
  have b1 := (mk_bounds h.2.2.2.2.1 h.2.2.2.2.2.2.1 hi h4).1
  have ha := ahead_e h hi
  have hk := mkeysIn_e h hi
  have hkin : kin K n M i ≤ n := by unfold kin; omega
  obtain ⟨hB, hn, hm2, h1, hK, hKb, hM, hMb, r2, r3, r6, r102⟩ := h
  obtain ⟨q0, q1, q2, q3, q4, q5, q6, q7⟩ := hr
  unfold fX7_split
  have d : nI (kin K n M i) / 2 = nI (kin K n M i / 2) := pk_div (d := 2) (by omega) (by omega) (by omega)
  have e1 : nI B + 6 + nI (so K n M i) + nI (kin K n M i / 2) - 1 = nI (B + 6 + (so K n M i + kin K n M i / 2 - 1)) := by
    have x1 : nI B + 6 + nI (so K n M i) = nI (B + 6 + so K n M i) := (congrArg (· + nI (so K n M i)) (nI_add B 6)).trans (nI_add (B + 6) _)
    rw [x1, nI_add]
    have := pk_sub (a := B + 6 + so K n M i + kin K n M i / 2) (b := 1) (by omega)
    rw [show B + 6 + so K n M i + kin K n M i / 2 - 1 = B + 6 + (so K n M i + kin K n M i / 2 - 1) by omega] at this
    exact this
  have e3 : nI B + 3 = nI (B + 3) := nI_add B 3
  have e4 : nI B + 4 = nI (B + 4) := nI_add B 4
  have e6 : nI B + 102 + nI i = nI (B + 102 + i) := (congrArg (· + nI i) (nI_add B 102)).trans (nI_add (B + 102) i)
  rw [ha, obd_s, hk, obd_s, d, e1, oin_in (by omega) (by omega), nI_clamp (by omega), r6 _ b1, e3, oin_in (by omega) (by omega), nI_clamp (by omega), r3]
  obtain ⟨w, hw, hz⟩ := split_loop (q3 := nI (K (so K n M i + kin K n M i / 2 - 1))) hB (Nat.le_of_lt hi) (by omega) (m - i) 100000 row (by omega) (by omega) (fun t => by rw [if_neg (by omega)])
  rw [show i + (m - i) = m by omega] at hw
  rw [hw, obd_s, e6, e4, oin_in (by omega) (by omega), oin_in (by omega) (by omega), oin_in (by omega) (by omega), oin_in (by omega) (by omega), oin_in (by omega) (by omega), nI_clamp (by omega), nI_clamp (by omega)]
  refine ⟨_, rfl, ?_, fun t ht => ?_⟩
  · unfold ixHalve
    refine ⟨?_, ?_, ?_, ?_, ?_, ?_, fun t ht => ?_, fun t ht => ?_⟩
    · rw [upd_ne (by omega), upd_ne (by omega), upd_ne (by omega), hz, if_neg (by omega), q0]
    · rw [upd_ne (by omega), upd_ne (by omega), upd_ne (by omega), hz, if_neg (by omega), q1]
    · rw [upd_ne (by omega), upd_ne (by omega), upd_ne (by omega), hz, if_neg (by omega), q2]
    · rw [upd_ne (by omega), upd_at, upd_ne (by omega), hz, if_neg (by omega), q3, nI_1]
    · rw [upd_at, upd_ne (by omega), upd_ne (by omega), hz, if_neg (by omega), q4, nI_1]
    · rw [upd_ne (by omega), upd_ne (by omega), upd_ne (by omega), hz, if_neg (by omega), q5]
    · rw [upd_ne (by omega), upd_ne (by omega), upd_ne (by omega), hz, if_neg (by omega), q6 t ht]
    · rw [upd_ne (by omega), upd_ne (by omega)]
      unfold insF
      by_cases c1 : t < i
      · rw [if_pos c1, upd_ne (by omega), hz, if_neg (by omega), q7 t (by omega)]
      · rw [if_neg c1]
        by_cases c2 : t = i
        · rw [if_pos c2, c2, upd_at]; rfl
        · rw [if_neg c2, upd_ne (by omega), hz, if_pos (by omega)]
          have := q7 (t - 1) (by omega)
          rw [show B + 102 + (t - 1) = B + 102 + t - 1 by omega] at this
          exact this
  · rw [upd_ne (by omega), upd_ne (by omega), upd_ne (by omega), hz, if_neg (by omega)]
theorem Ok_Mx {row : Nat → Int32} {B b s n m p j : Nat} {K M : Nat → Nat} (hB : B ≤ 1672) (h : Ok (b, s, n, m, p, j, K, M)) (hr : MRow row B (b, s, n, m, p, j, K, M)) : Mx row B n m K M := by
  obtain ⟨h1, h2, h3, h4, h5, h6, hK, hKb, hM, hT, hk⟩ := h
  obtain ⟨q0, q1, q2, q3, q4, q5, q6, q7⟩ := hr
  have hp := pow_le16 h2
  have hp2 := pow_ge16 h1
  refine ⟨hB, h5, m_small h5 hK.rises hM hk, h6, hK, fun i hi => by have := hKb i hi; omega, hM, fun i hi => ?_, q2, q3, q6, q7⟩
  have := M_le hM hi
  omega
theorem mput_loop {row : Nat → Int32} {B i m : Nat} {q2 : Int32} (hB : B ≤ 1672) (hi : i ≤ m) (hm : m < 96) :
    ∀ (k f : Nat) (z : Nat → Int32), i + k ≤ m → k < f → (∀ t, z t = if B + 6 + i + k < t ∧ t ≤ B + 6 + m then row (t - 1) else row t) →
      ∃ w, lpX7_putIn_17 (nI B) q2 (nI i) f (nI (i + k)) z = some w ∧ (∀ t, w.2 t = if B + 6 + i < t ∧ t ≤ B + 6 + m then row (t - 1) else row t) := by
  intro k
  induction k with
  | zero =>
    intro f z h1 h2 h3
    obtain ⟨f, rfl⟩ : ∃ g, f = g + 1 := ⟨f - 1, by omega⟩
    rw [lpX7_putIn_17, if_pos (nI_le (by omega) (by omega))]
    exact ⟨_, rfl, h3⟩
  | succ k ih =>
    intro f z h1 h2 h3
    obtain ⟨f, rfl⟩ : ∃ g, f = g + 1 := ⟨f - 1, by omega⟩
    have e6 : nI B + 6 + nI (i + (k + 1)) = nI (B + 6 + (i + (k + 1))) := (congrArg (· + nI (i + (k + 1))) (nI_add B 6)).trans (nI_add (B + 6) _)
    have e7 : nI (B + 6 + (i + (k + 1))) - 1 = nI (B + 6 + (i + k)) := nI_pred (B + 6 + (i + k))
    have e8 : nI (i + (k + 1)) + -1 = nI (i + k) := pk_m1 (i + k)
    rw [lpX7_putIn_17, if_neg (nI_ge (by omega) (by omega)), e6, e7, e8, oin_in (by omega) (by omega), oin_in (by omega) (by omega), nI_clamp (by omega), nI_clamp (by omega)]
    refine ih f _ (by omega) (by omega) (fun t => ?_)
    by_cases e : t = B + 6 + (i + (k + 1))
    · rw [e, upd_at, h3, if_neg (by omega), if_pos (by omega)]
      rfl
    · rw [upd_ne e, h3]
      by_cases c : B + 6 + i + (k + 1) < t ∧ t ≤ B + 6 + m
      · rw [if_pos c, if_pos (by omega)]
      · rw [if_neg c, if_neg (by omega)]
theorem mput_e {row : Nat → Int32} {B b s n m p j x : Nat} {K M : Nat → Nat} (hB : B ≤ 1672) (h : Ok (b, s, n, m, p, j, K, M)) (hr : MRow row B (b, s, n, m, p, j, K, M)) (hx : x < 2 ^ b) (hh : ¬ ixHas K n x) (hn : n < 96) : ∃ r, fX7_putIn row (nI B) (nI x) = some r ∧ MRow r B (ixPut (b, s, n, m, p, j, K, M) x) ∧ sameOut row r B := by
  have X := Ok_Mx hB h hr
  have hO := h
  obtain ⟨h1, h2, h3, h4, h5, h6, hK, hKb, hM, hT, hk⟩ := h
  have hp := pow_le16 h2
  have hxx : x < 2147483648 := by omega
  have hl := lb_le K x n
  obtain ⟨q0, q1, q2, q3, q4, q5, q6, q7⟩ := id hr
  unfold fX7_putIn
  have e2 : nI B + 2 = nI (B + 2) := nI_add B 2
  have e1 : nI B + 1 = nI (B + 1) := nI_add B 1
  have e6 : nI B + 6 + nI (lb K x n) = nI (B + 6 + lb K x n) := (congrArg (· + nI (lb K x n)) (nI_add B 6)).trans (nI_add (B + 6) _)
  rw [below_e hB h5 hxx q2 q6 hK.rises X.2.2.2.2.2.1, obd_s, e2, oin_in (by omega) (by omega), nI_clamp (by omega), q2]
  obtain ⟨w, hw, hz⟩ := mput_loop (q2 := nI x) hB hl hn (n - lb K x n) 100000 row (by omega) (by omega) (fun t => by rw [if_neg (by omega)])
  rw [show lb K x n + (n - lb K x n) = n by omega] at hw
  rw [hw, obd_s, e6, oin_in (by omega) (by omega), oin_in (by omega) (by omega), oin_in (by omega) (by omega), nI_clamp (by omega), e1, nI_clamp (by omega)]
  generalize hR : upd (upd w.2 (B + 6 + lb K x n) (nI x)) (B + 2) (upd w.2 (B + 6 + lb K x n) (nI x) (B + 2) + 1) = R
  have base : Ok (b, s, n + 1, m, p, j, insF K (lb K x n) x, M) := by
    refine ⟨h1, h2, h3, h4, by omega, h6, ins_strict hK hh, ins_bound hKb hx _ (lb_le K x n), hM, hT, ?_⟩
    rcases hk with hk | hk
    · exact Or.inl hk
    · exact Or.inr (fun i hi => Nat.le_trans (hk i hi) (put_kin hK hh hM i hi))
  have hRr : MRow R B (b, s, n + 1, m, p, j, insF K (lb K x n) x, M) := by
    rw [← hR]
    refine ⟨?_, ?_, ?_, ?_, ?_, ?_, fun t ht => ?_, fun t ht => ?_⟩
    · rw [upd_ne (by omega), upd_ne (by omega), hz, if_neg (by omega), q0]
    · rw [upd_ne (by omega), upd_ne (by omega), hz, if_neg (by omega), q1]
    · rw [upd_at, upd_ne (by omega), hz, if_neg (by omega), q2, nI_1]
    · rw [upd_ne (by omega), upd_ne (by omega), hz, if_neg (by omega), q3]
    · rw [upd_ne (by omega), upd_ne (by omega), hz, if_neg (by omega), q4]
    · rw [upd_ne (by omega), upd_ne (by omega), hz, if_neg (by omega), q5]
    · rw [upd_ne (by omega)]
      unfold insF
      by_cases c1 : t < lb K x n
      · rw [if_pos c1, upd_ne (by omega), hz, if_neg (by omega), q6 t (by omega)]
      · rw [if_neg c1]
        by_cases c2 : t = lb K x n
        · rw [if_pos c2, c2, upd_at]
        · rw [if_neg c2, upd_ne (by omega), hz, if_pos (by omega)]
          have := q6 (t - 1) (by omega)
          rw [show B + 6 + (t - 1) = B + 6 + t - 1 by omega] at this
          exact this
    · have hm48 := X.2.2.1
      rw [upd_ne (by omega), upd_ne (by omega), hz, if_neg (by omega), q7 t ht]
  have hRo : sameOut row R B := by
    intro t ht
    rw [← hR, upd_ne (by omega), upd_ne (by omega), hz, if_neg (by omega)]
  have X1 := Ok_Mx hB base hRr
  have hi := lbM_lt h6 hM (x := x) (by rw [hT]; omega)
  have hkl : kin (insF K (lb K x n) x) (n + 1) M (lb M x m) ≤ 96 := by
    have := eo_le (insF K (lb K x n) x) (n + 1) M (lb M x m)
    unfold kin
    omega
  have e4 : (4 : Int32) * nI s = nI (4 * s) := pk_mul 4 s
  rw [mbucket_e hB X1.2.2.1 hxx X1.2.2.2.2.2.2.2.2.2.2.2 hM X1.2.2.2.2.2.2.2.1 h6 (by rw [hT]; omega), obd_s, mkeysIn_e X1 hi, obd_s, oin_in (by omega) (by omega), hRr.2.1, e4]
  unfold ixPut
  dsimp only
  by_cases c : 4 * s < kin (insF K (lb K x n) x) (n + 1) M (lb M x m)
  · rw [if_neg (nI_ge c (by omega)), if_pos c]
    have hm45 := m_room (by omega) (ins_strict hK hh).rises hM base.2.2.2.2.2.2.2.2.2.2 hi (by omega)
    obtain ⟨r, hr1, hr2, hr3⟩ := msplit_e X1 hRr hi (by omega) (by omega)
    rw [hr1, obd_s, obd_s]
    exact ⟨r, rfl, hr2, hRo.tr hr3⟩
  · rw [if_pos (nI_le (by omega) (by omega)), if_neg c, obd_s]
    exact ⟨R, rfl, hRr, hRo⟩
