/-! put if it can, fill, sweep, become; sweep and flood -/
def ixAdd : Ix → Nat → Ix
  | (b, s, n, m, p, j, K, M), x => if lb K x n < n ∧ K (lb K x n) = x then (b, s, n, m, p, j, K, M) else if n < 96 then ixPut (b, s, n, m, p, j, K, M) x else (b, s, n, m, p, j, K, M)
theorem ixPut_b (a : Ix) (x : Nat) : (ixPut a x).1 = a.1 := by
  obtain ⟨b, s, n, m, p, j, K, M⟩ := a
  unfold ixPut ixHalve
  dsimp only
  split <;> rfl
theorem ixAdd_b (a : Ix) (x : Nat) : (ixAdd a x).1 = a.1 := by
  obtain ⟨b, s, n, m, p, j, K, M⟩ := a
  unfold ixAdd
  dsimp only
  split
  · rfl
  · split
    · exact ixPut_b _ _
    · rfl
theorem Ok_add {a : Ix} {x : Nat} (h : Ok a) (hx : x < 2 ^ a.1) : Ok (ixAdd a x) := by
  obtain ⟨b, s, n, m, p, j, K, M⟩ := a
  unfold ixAdd
  dsimp only
  by_cases c : ixHas K n x
  · rw [if_pos (show lb K x n < n ∧ K (lb K x n) = x from c)]; exact h
  · rw [if_neg (show ¬ (lb K x n < n ∧ K (lb K x n) = x) from c)]
    by_cases c2 : n < 96
    · rw [if_pos c2]; exact Ok_put h hx c c2
    · rw [if_neg c2]; exact h
theorem add_c {a : Ix} {bits size kc mc sp jo : Int32} {keys marks : Nat → Int32} {x : Nat} (h : Ok a) (hC : CB bits size kc mc sp jo keys marks a) (hx : x < 2 ^ a.1) :
    ∃ kc' mc' sp' k' m', fX0_putIn size kc mc sp keys marks (nI x) = some (kc', mc', sp', k', m') ∧ CB bits size kc' mc' sp' jo k' m' (ixAdd a x) := by
  obtain ⟨b, s, n, m, p, j, K, M⟩ := a
  have hb := pow_le16 (show b ≤ 16 from h.2.1)
  have hx' : x < 2 ^ b := hx
  have hn96 : n ≤ 96 := h.2.2.2.2.1
  have hC' := hC
  obtain ⟨rfl, rfl, rfl, rfl, rfl, rfl, ha, hm⟩ := hC
  unfold ixAdd
  dsimp only
  by_cases c : ixHas K n x
  · rw [if_pos (show lb K x n < n ∧ K (lb K x n) = x from c)]
    exact ⟨_, _, _, _, _, putIn_has h ha hm (by omega) c, hC'⟩
  · rw [if_neg (show ¬ (lb K x n < n ∧ K (lb K x n) = x) from c)]
    by_cases c2 : n < 96
    · rw [if_pos c2]
      exact putIn_new h ha hm hx c c2
    · rw [if_neg c2]
      obtain rfl : n = 96 := by omega
      exact ⟨_, _, _, _, _, putIn_full h ha hm (by omega) c, hC'⟩
theorem MRow_n {row : Nat → Int32} {B : Nat} {a : Ix} (h : MRow row B a) : row (B + 2) = nI a.2.2.1 := h.2.2.1
theorem add_m {a : Ix} {row : Nat → Int32} {B x : Nat} (hB : B ≤ 1672) (h : Ok a) (hr : MRow row B a) (hx : x < 2 ^ a.1) : ∃ r, fX7_addAt row (nI B) (nI x) = some r ∧ MRow r B (ixAdd a x) ∧ sameOut row r B := by
  obtain ⟨b, s, n, m, p, j, K, M⟩ := a
  have hb := pow_le16 (show b ≤ 16 from h.2.1)
  have hx' : x < 2 ^ b := hx
  have hn96 : n ≤ 96 := h.2.2.2.2.1
  have hM := Ok_Mx hB h hr
  have e2 : nI B + 2 = nI (B + 2) := nI_add B 2
  have h2 : row (B + 2) = nI n := hr.2.2.1
  unfold ixAdd fX7_addAt
  dsimp only
  rw [e2, oin_in (by omega) (by omega), nI_clamp (by omega), h2]
  by_cases c2 : n < 96
  · rw [if_neg (show ¬ (96 : Int32) ≤ nI n from nI_ge (b := 96) c2 (by omega))]
    by_cases c : ixHas K n x
    · rw [if_pos (show lb K x n < n ∧ K (lb K x n) = x from c), isKey_t hB hn96 (by omega) h2 hM.2.2.2.2.2.2.2.2.2.2.1 hM.2.2.2.2.1 hM.2.2.2.2.2.1 c, obd_s, if_neg z10, obd_s]
      exact ⟨_, rfl, hr, sameOut.rf _ _⟩
    · rw [if_neg (show ¬ (lb K x n < n ∧ K (lb K x n) = x) from c), if_pos c2, isKey_f hB hn96 (by omega) h2 hM.2.2.2.2.2.2.2.2.2.2.1 hM.2.2.2.2.1 hM.2.2.2.2.2.1 c, obd_s, if_pos z00]
      obtain ⟨r, q, q2, q3⟩ := mput_e hB h hr hx c c2
      rw [q, obd_s, obd_s]
      exact ⟨_, rfl, q2, q3⟩
  · rw [if_pos (show (96 : Int32) ≤ nI n from nI_le (a := 96) (by omega) (by omega)), obd_s]
    have : (if lb K x n < n ∧ K (lb K x n) = x then (b, s, n, m, p, j, K, M) else if n < 96 then ixPut (b, s, n, m, p, j, K, M) x else (b, s, n, m, p, j, K, M)) = (b, s, n, m, p, j, K, M) := by
      rw [if_neg c2]
      split <;> rfl
    rw [this]
    exact ⟨_, rfl, hr, sameOut.rf _ _⟩
def ixFill (a : Ix) (x y : Nat) : Nat → Ix
  | 0 => a
  | i + 1 => if x + i * y < 2 ^ a.1 then ixAdd (ixFill a x y i) (x + i * y) else ixFill a x y i
theorem ixFill_b (a : Ix) (x y : Nat) : ∀ i, (ixFill a x y i).1 = a.1
  | 0 => rfl
  | i + 1 => by
    rw [ixFill]
    split
    · rw [ixAdd_b, ixFill_b a x y i]
    · exact ixFill_b a x y i
theorem Ok_fill {a : Ix} {x y : Nat} (h : Ok a) : ∀ i, Ok (ixFill a x y i)
  | 0 => h
  | i + 1 => by
    rw [ixFill]
    by_cases c : x + i * y < 2 ^ a.1
    · rw [if_pos c]; exact Ok_add (Ok_fill h i) (by rw [ixFill_b]; exact c)
    · rw [if_neg c]; exact Ok_fill h i
theorem at_e (x i y : Nat) : nI x + nI i * nI y = nI (x + i * y) := by rw [pk_mul, nI_add]
theorem i_mul_lt {i y c : Nat} (hy : y ≤ 999) (hi : i < c) (hc : c ≤ 96) : i * y ≤ 95904 := by
  have h1 : i * y ≤ 96 * y := Nat.mul_le_mul_right y (by omega)
  omega
theorem fill_loop_c {a : Ix} {bits size jo : Int32} {x y c : Nat} (h : Ok a) (hx : x < 65536) (hy : y ≤ 999) (hc : c ≤ 96) :
    ∀ (k f i : Nat) (kc mc sp : Int32) (keys marks : Nat → Int32), i + k = c → k < f → CB bits size kc mc sp jo keys marks (ixFill a x y i) →
      ∃ w kc' mc' sp' k' m', lpX0_putInAll_3 (nI x) (nI y) (nI c) bits size f (nI i) kc mc sp keys marks = some (w, kc', mc', sp', k', m') ∧ CB bits size kc' mc' sp' jo k' m' (ixFill a x y c) := by
  intro k
  induction k with
  | zero =>
    intro f i kc mc sp keys marks h1 h2 h3
    obtain ⟨f, rfl⟩ : ∃ g, f = g + 1 := ⟨f - 1, by omega⟩
    obtain rfl : i = c := by omega
    exact ⟨nI i, kc, mc, sp, keys, marks, by rw [lpX0_putInAll_3, if_pos (nI_le (by omega) (by omega))], h3⟩
  | succ k ih =>
    intro f i kc mc sp keys marks h1 h2 h3
    obtain ⟨f, rfl⟩ : ∃ g, f = g + 1 := ⟨f - 1, by omega⟩
    have hO := Ok_fill (x := x) (y := y) h i
    have hbe := ixFill_b a x y i
    have hb16 : a.1 ≤ 16 := by
      obtain ⟨b, s, n, m, p, j, K, M⟩ := a
      exact h.2.1
    have hbits : bits = nI a.1 := by rw [← hbe]; exact h3.1
    have hm := i_mul_lt (i := i) hy (by omega) hc
    by_cases e : x + i * y < 2 ^ a.1
    · obtain ⟨kc', mc', sp', k', m', q1, q2⟩ := add_c hO h3 (x := x + i * y) (by rw [hbe]; exact e)
      obtain ⟨w, kc2, mc2, sp2, k2, m2, r1, r2⟩ := ih f (i + 1) kc' mc' sp' k' m' (by omega) (by omega) (by rw [ixFill, if_pos e]; exact q2)
      refine ⟨w, kc2, mc2, sp2, k2, m2, ?_, r2⟩
      rw [lpX0_putInAll_3, if_neg (nI_ge (by omega) (by omega)), at_e, hbits, inB_t hb16 e, obd_s, if_neg z10, q1, obd_s, obd_s, nI_1, ← hbits]
      exact r1
    · obtain ⟨w, kc2, mc2, sp2, k2, m2, r1, r2⟩ := ih f (i + 1) kc mc sp keys marks (by omega) (by omega) (by rw [ixFill, if_neg e]; exact h3)
      refine ⟨w, kc2, mc2, sp2, k2, m2, ?_, r2⟩
      rw [lpX0_putInAll_3, if_neg (nI_ge (by omega) (by omega)), at_e, hbits, inB_f hb16 (by omega) (by omega), obd_s, if_pos z00, obd_s, nI_1, ← hbits]
      exact r1
theorem fill_c {a : Ix} {bits size kc mc sp jo : Int32} {keys marks : Nat → Int32} {x y c : Nat} (h : Ok a) (hx : x < 65536) (hy : y ≤ 999) (hc : c ≤ 96) (hC : CB bits size kc mc sp jo keys marks a) :
    ∃ kc' mc' sp' k' m', fX0_putInAll bits size kc mc sp keys marks (nI x) (nI y) (nI c) = some (kc', mc', sp', k', m') ∧ CB bits size kc' mc' sp' jo k' m' (ixFill a x y c) := by
  obtain ⟨w, kc2, mc2, sp2, k2, m2, r1, r2⟩ := fill_loop_c (bits := bits) (size := size) (jo := jo) h hx hy hc c 100000 0 kc mc sp keys marks (by omega) (by omega) hC
  refine ⟨kc2, mc2, sp2, k2, m2, ?_, r2⟩
  unfold fX0_putInAll
  have r1' : lpX0_putInAll_3 (nI x) (nI y) (nI c) bits size 100000 0 kc mc sp keys marks = some (w, kc2, mc2, sp2, k2, m2) := r1
  rw [r1', obd_s]
theorem fill_loop_m {a : Ix} {B x y c : Nat} (hB : B ≤ 1672) (h : Ok a) (hx : x < 65536) (hy : y ≤ 999) (hc : c ≤ 96) :
    ∀ (k f i : Nat) (row : Nat → Int32), i + k = c → k < f → MRow row B (ixFill a x y i) →
      ∃ w r, lpX7_fill_3 (nI B) (nI x) (nI y) (nI c) f (nI i) row = some (w, r) ∧ MRow r B (ixFill a x y c) ∧ sameOut row r B := by
  intro k
  induction k with
  | zero =>
    intro f i row h1 h2 h3
    obtain ⟨f, rfl⟩ : ∃ g, f = g + 1 := ⟨f - 1, by omega⟩
    obtain rfl : i = c := by omega
    exact ⟨nI i, row, by rw [lpX7_fill_3, if_pos (nI_le (by omega) (by omega))], h3, sameOut.rf _ _⟩
  | succ k ih =>
    intro f i row h1 h2 h3
    obtain ⟨f, rfl⟩ : ∃ g, f = g + 1 := ⟨f - 1, by omega⟩
    have hO := Ok_fill (x := x) (y := y) h i
    have hbe := ixFill_b a x y i
    have hb16 : a.1 ≤ 16 := by
      obtain ⟨b, s, n, m, p, j, K, M⟩ := a
      exact h.2.1
    have hp := pow_le16 hb16
    have hr0 : row B = nI a.1 := by rw [← hbe]; exact h3.1
    have hm := i_mul_lt (i := i) hy (by omega) hc
    have e0 : nI B + 0 = nI B := nI_add B 0
    by_cases e : x + i * y < 2 ^ a.1
    · obtain ⟨r, q1, q2, q3⟩ := add_m hB hO h3 (x := x + i * y) (by rw [hbe]; exact e)
      obtain ⟨w, r2, s1, s2, s3⟩ := ih f (i + 1) r (by omega) (by omega) (by rw [ixFill, if_pos e]; exact q2)
      refine ⟨w, r2, ?_, s2, q3.tr s3⟩
      rw [lpX7_fill_3, if_neg (nI_ge (by omega) (by omega)), at_e, e0, oin_in (by omega) (by omega), nI_clamp (by omega), hr0, one_shl hb16, if_neg (nI_ge e (by omega)), q1, obd_s, obd_s, nI_1]
      exact s1
    · obtain ⟨w, r2, s1, s2, s3⟩ := ih f (i + 1) row (by omega) (by omega) (by rw [ixFill, if_neg e]; exact h3)
      refine ⟨w, r2, ?_, s2, s3⟩
      rw [lpX7_fill_3, if_neg (nI_ge (by omega) (by omega)), at_e, e0, oin_in (by omega) (by omega), nI_clamp (by omega), hr0, one_shl hb16, if_pos (nI_le (by omega) (by omega)), obd_s, nI_1]
      exact s1
theorem fill_m {a : Ix} {row : Nat → Int32} {B x y c : Nat} (hB : B ≤ 1672) (h : Ok a) (hx : x < 65536) (hy : y ≤ 999) (hc : c ≤ 96) (hr : MRow row B a) : ∃ r, fX7_fill row (nI B) (nI x) (nI y) (nI c) = some r ∧ MRow r B (ixFill a x y c) ∧ sameOut row r B := by
  obtain ⟨w, r, s1, s2, s3⟩ := fill_loop_m hB h hx hy hc c 100000 0 row (by omega) (by omega) hr
  refine ⟨r, ?_, s2, s3⟩
  unfold fX7_fill
  have s1' : lpX7_fill_3 (nI B) (nI x) (nI y) (nI c) 100000 0 row = some (w, r) := s1
  rw [s1', obd_s]
theorem cpy96 {f g : Nat → Int32} : fX6_copyOver 96 96 f g = some (va_cpy f g 0 0 96) := rfl
theorem cpy48 {f g : Nat → Int32} : fX6_copyOver 48 48 f g = some (va_cpy f g 0 0 48) := rfl
theorem cpy_in {f g : Nat → Int32} {N i : Nat} (h : i < N) : va_cpy f g 0 0 N i = f i := by
  unfold va_cpy
  rw [if_pos ⟨by omega, by omega⟩]
  congr 1
  omega
theorem become_e {bits size kc mc sp jo ob os ok om op oj : Int32} {keys marks okeys omarks : Nat → Int32} {a : Ix} (h : Ok a) (hC : CB ob os ok om op oj okeys omarks a) :
    ∃ k' m', fX0_become bits size kc mc sp jo keys marks ob os ok om op oj okeys omarks = some (ob, os, ok, om, op, oj, k', m') ∧ CB ob os ok om op oj k' m' a := by
  refine ⟨va_cpy okeys keys 0 0 96, va_cpy omarks marks 0 0 48, ?_, ?_⟩
  · unfold fX0_become
    rw [cpy96, obd_s, cpy48, obd_s]
  · obtain ⟨b, s, n, m, p, j, K, M⟩ := a
    obtain ⟨h1, h2, h3, h4, h5, h6, ha, hm⟩ := hC
    have hCx := Ok_Cx h ha hm
    have hn := hCx.1
    have hm48 := hCx.2.1
    exact ⟨h1, h2, h3, h4, h5, h6, fun i hi => by rw [cpy_in (by omega)]; exact ha i hi, fun i hi => by rw [cpy_in (by omega)]; exact hm i hi⟩
