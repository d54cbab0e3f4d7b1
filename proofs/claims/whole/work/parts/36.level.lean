/-! ===== beginnings, levels ===== -/
def Lx (row marks : Nat → Int32) (b m : Nat) (M : Nat → Nat) : Prop := b ≤ 16 ∧ m ≤ 48 ∧ 1 ≤ m ∧ rises M m ∧ (∀ i, i < m → M i < 2 ^ b) ∧ M (m - 1) = 2 ^ b - 1 ∧ holdsA marks m M ∧ row 0 = nI b ∧ row 3 = nI m ∧ (∀ i, i < m → row (102 + i) = nI (M i))
theorem Both.lx {bits size kc mc sp jo : Int32} {keys marks row : Nat → Int32} {b s n m p j : Nat} {K M : Nat → Nat} (h : Both bits size kc mc sp jo keys marks row b s n m p j K M) : Lx row marks b m M := by
  have hO := h.1
  obtain ⟨h1, h2, h3, h4, h5, h6, hK, hKb, hM, hT, hk⟩ := hO
  have hp2 := pow_ge16 h1
  refine ⟨h2, h.cx.2.1, h6, hM, fun i hi => ?_, hT, h.2.2.2.2.2.2.2.2.1, h.r0, h.r3, fun i hi => h.r102 hi⟩
  have := M_le hM hi
  omega
theorem sub_bl {b l : Nat} (h : l ≤ b) : nI b - nI l = nI (b - l) := pk_sub h
theorem begin_e {b l x : Nat} (hb : b ≤ 16) (hl : l ≤ b) (hx : x < 2147483648) : fX0_beginningOf (nI b) (nI x) (nI l) = some (nI (x / 2 ^ (b - l))) := by
  unfold fX0_beginningOf
  rw [sub_bl hl, shr_n (by omega) hx]
theorem mbegin_e {row : Nat → Int32} {b l x : Nat} (hb : b ≤ 16) (h0 : row 0 = nI b) (hl : l ≤ b) (hx : x < 2147483648) : fX7_beginning row (nI x) (nI l) = some (nI (x / 2 ^ (b - l))) := by
  unfold fX7_beginning
  have o0 : ∀ X : Option Int32, oin (0 : Int32) 1824 X = X := fun X => oin_in (a := 0) (by omega) (by omega)
  have e0 : row (0 : Int32).toNatClampNeg = nI b := h0
  rw [o0, e0, sub_bl hl, shr_n (by omega) hx]
theorem div_iff {x p d : Nat} : x / 2 ^ d = p ↔ p * 2 ^ d ≤ x ∧ x < (p + 1) * 2 ^ d := by
  have hp : 0 < 2 ^ d := Nat.pow_pos (by omega)
  constructor
  · intro h
    refine ⟨?_, ?_⟩
    · rw [← h]; exact Nat.div_mul_le_self x (2 ^ d)
    · rw [← Nat.div_lt_iff_lt_mul hp, h]; omega
  · intro ⟨h1, h2⟩
    have a1 : p ≤ x / 2 ^ d := (Nat.le_div_iff_mul_le hp).mpr h1
    have a2 : x / 2 ^ d < p + 1 := (Nat.div_lt_iff_lt_mul hp).mpr h2
    omega
theorem beg_mul {b l p : Nat} (hl : l ≤ b) (hp : p < 2 ^ l) : (p + 1) * 2 ^ (b - l) ≤ 2 ^ b := by
  have e : 2 ^ b = 2 ^ l * 2 ^ (b - l) := by rw [← Nat.pow_add]; congr 1; omega
  rw [e]
  exact Nat.mul_le_mul_right _ (by omega)
theorem beg_lt {b l x : Nat} (hl : l ≤ b) (hx : x < 2 ^ b) : x / 2 ^ (b - l) < 2 ^ l := by
  have hp : 0 < 2 ^ (b - l) := Nat.pow_pos (by omega)
  have e : 2 ^ b = 2 ^ l * 2 ^ (b - l) := by rw [← Nat.pow_add]; congr 1; omega
  rw [Nat.div_lt_iff_lt_mul hp, ← e]
  exact hx
def bN (c : Prop) [Decidable c] : Int32 := if c then 1 else 0
theorem obl_bN {α : Type} (c : Prop) [Decidable c] (X : Option α) : obl (bN c) X = X := by
  unfold bN
  by_cases h : c
  · rw [if_pos h]; exact obl_1 _
  · rw [if_neg h]; exact obl_0 _
theorem bN_t {c : Prop} [Decidable c] (h : c) : bN c = 1 := if_pos h
theorem bN_f {c : Prop} [Decidable c] (h : ¬ c) : bN c = 0 := if_neg h
/-- a mark begins so -/
abbrev isB (M : Nat → Nat) (m d p : Nat) : Prop := M (lb M (p * 2 ^ d) m) / 2 ^ d = p
theorem lbp_lt {M : Nat → Nat} {m b l p : Nat} (hM : rises M m) (h1 : 1 ≤ m) (hT : M (m - 1) = 2 ^ b - 1) (hl : l ≤ b) (hp : p < 2 ^ l) : lb M (p * 2 ^ (b - l)) m < m := by
  have h := beg_mul hl hp
  have hp2 : 0 < 2 ^ (b - l) := Nat.pow_pos (by omega)
  refine lbM_lt h1 hM ?_
  rw [hT]
  have : p * 2 ^ (b - l) + 2 ^ (b - l) = (p + 1) * 2 ^ (b - l) := by rw [Nat.succ_mul]
  omega
theorem isB_iff {M : Nat → Nat} {m d p : Nat} (hM : rises M m) (hr : lb M (p * 2 ^ d) m < m) : isB M m d p ↔ ∃ t, t < m ∧ M t / 2 ^ d = p := by
  constructor
  · intro h
    exact ⟨_, hr, h⟩
  · intro ⟨t, ht, h⟩
    obtain ⟨a1, a2⟩ := div_iff.mp h
    refine div_iff.mpr ⟨lb_ge (K := M) _ (Nat.le_refl _) hr, ?_⟩
    have hle : lb M (p * 2 ^ d) m ≤ t := by
      rcases Nat.lt_or_ge t (lb M (p * 2 ^ d) m) with c | c
      · have := lb_lt hM t c; omega
      · exact c
    have : M (lb M (p * 2 ^ d) m) ≤ M t := by
      by_cases e : lb M (p * 2 ^ d) m = t
      · rw [e]; exact Nat.le_refl _
      · exact hM _ t (by omega) ht
    omega
theorem ahead_c {row marks : Nat → Int32} {b m l p : Nat} {M : Nat → Nat} (h : Lx row marks b m M) (hl : l ≤ b) (hp : p < 2 ^ l) : fX0_marksAhead (nI b) (nI m) marks (nI l) (nI p) = some (nI (lb M (p * 2 ^ (b - l)) m)) := by
  obtain ⟨h1, h2, h3, h4, h5, h6, h7, h8, h9, h10⟩ := h
  have hb := pow_le16 h1
  have hm := beg_mul hl hp
  have e : (p + 1) * 2 ^ (b - l) = p * 2 ^ (b - l) + 2 ^ (b - l) := by rw [Nat.succ_mul]
  have hpp : 0 < 2 ^ (b - l) := Nat.pow_pos (by omega)
  unfold fX0_marksAhead
  rw [sub_bl hl, shl_n (by omega) (by omega), fnb (by omega) h2 (by omega) h7 (fun i hi => by have := h5 i hi; omega) h4]
  rfl
theorem behind_c {row marks : Nat → Int32} {b m l p : Nat} {M : Nat → Nat} (h : Lx row marks b m M) (hl : l ≤ b) (hp : p < 2 ^ l) : fX0_marksBehind (nI b) (nI m) marks (nI l) (nI p) = some (nI (lb M ((p + 1) * 2 ^ (b - l)) m)) := by
  obtain ⟨h1, h2, h3, h4, h5, h6, h7, h8, h9, h10⟩ := h
  have hb := pow_le16 h1
  have hm := beg_mul hl hp
  unfold fX0_marksBehind
  rw [sub_bl hl, nI_1, shl_n (by omega) (by omega), fnb (by omega) h2 (by omega) h7 (fun i hi => by have := h5 i hi; omega) h4]
  rfl
theorem isB_c {row marks : Nat → Int32} {b m l p : Nat} {M : Nat → Nat} (h : Lx row marks b m M) (hl : l ≤ b) (hp : p < 2 ^ l) : fX0_isBeginning (nI b) (nI m) marks (nI l) (nI p) = some (bN (isB M m (b - l) p)) := by
  have hA := ahead_c h hl hp
  obtain ⟨h1, h2, h3, h4, h5, h6, h7, h8, h9, h10⟩ := h
  have hb := pow_le16 h1
  have hlb := pow_le16 (Nat.le_trans hl h1)
  have hr := lbp_lt h4 h3 h6 hl hp
  have hMr := h5 _ hr
  have hd := beg_lt hl hMr
  unfold fX0_isBeginning
  rw [hA, obd_s, markAt_in h2 h7 hr, obd_s, begin_e h1 hl (by omega), obd_s, olet_s]
  have e : (if nI (M (lb M (p * 2 ^ (b - l)) m) / 2 ^ (b - l)) = nI p then (1 : Int32) else 0) = bN (isB M m (b - l) p) := by
    by_cases c : isB M m (b - l) p
    · rw [bN_t c, if_pos (by rw [c])]
    · rw [bN_f c, if_neg (fun q => c ((nI_eq (by omega) (by omega)).mp q))]
  rw [e, obl_bN]
/-- found among the first i marks -/
def exB (M : Nat → Nat) (d p : Nat) : Nat → Bool
  | 0 => false
  | i + 1 => exB M d p i || decide (M i / 2 ^ d = p)
theorem exB_iff {M : Nat → Nat} {d p : Nat} : ∀ i, exB M d p i = true ↔ ∃ t, t < i ∧ M t / 2 ^ d = p
  | 0 => by simp [exB]
  | i + 1 => by
    rw [exB, Bool.or_eq_true, exB_iff i, decide_eq_true_eq]
    constructor
    · rintro (⟨t, h1, h2⟩ | h)
      · exact ⟨t, by omega, h2⟩
      · exact ⟨i, by omega, h⟩
    · rintro ⟨t, h1, h2⟩
      by_cases e : t = i
      · exact Or.inr (e ▸ h2)
      · exact Or.inl ⟨t, by omega, h2⟩
theorem misB_loop {row marks : Nat → Int32} {b m l p : Nat} {M : Nat → Nat} (h : Lx row marks b m M) (hl : l ≤ b) (hp : p < 2 ^ l) :
    ∀ (k f i : Nat), i + k = m → k < f → ∃ w, lpX7_isBeginning_5 (nI l) (nI p) row f (bN (exB M (b - l) p i = true)) (nI i) = some (bN (exB M (b - l) p m = true), w) := by
  obtain ⟨h1, h2, h3, h4, h5, h6, h7, h8, h9, h10⟩ := h
  have hb := pow_le16 h1
  have hlb := pow_le16 (Nat.le_trans hl h1)
  have o3 : ∀ X : Option (Int32 × Int32), oin (3 : Int32) 1824 X = X := fun X => oin_in (a := 3) (by omega) (by omega)
  have e3 : row (3 : Int32).toNatClampNeg = nI m := h9
  intro k
  induction k with
  | zero =>
    intro f i hi hf
    obtain ⟨f, rfl⟩ : ∃ g, f = g + 1 := ⟨f - 1, by omega⟩
    rw [lpX7_isBeginning_5, o3, e3, if_pos (nI_le (by omega) (by omega)), show i = m by omega]
    exact ⟨_, rfl⟩
  | succ k ih =>
    intro f i hi hf
    obtain ⟨f, rfl⟩ : ∃ g, f = g + 1 := ⟨f - 1, by omega⟩
    rw [lpX7_isBeginning_5, o3, e3, if_neg (nI_ge (by omega) (by omega)), nI_1]
    have hMi := h5 i (by omega)
    have hd := beg_lt hl hMi
    have e : (obd (if bN (exB M (b - l) p i = true) = 0 then (oin ((102 : Int32) + nI i) 1824 (obd (fX7_beginning row (row ((102 : Int32) + nI i).toNatClampNeg) (nI l)) fun u => if u = nI p then (some (1 : Int32)) else (some 0))) else (some 1)) fun w => lpX7_isBeginning_5 (nI l) (nI p) row f w (nI (i + 1))) = lpX7_isBeginning_5 (nI l) (nI p) row f (bN (exB M (b - l) p (i + 1) = true)) (nI (i + 1)) := by
      by_cases c : exB M (b - l) p i = true
      · rw [bN_t c, if_neg z10, obd_s, bN_t (show exB M (b - l) p (i + 1) = true by rw [exB, c]; rfl)]
      · have e102 : (102 : Int32) + nI i = nI (102 + i) := nI_add 102 i
        rw [bN_f c, if_pos z00, e102, oin_in (by omega) (by omega), nI_clamp (by omega), h10 i (by omega), mbegin_e h1 h8 hl (by omega), obd_s]
        by_cases c2 : M i / 2 ^ (b - l) = p
        · rw [if_pos (by rw [c2]), obd_s, bN_t (show exB M (b - l) p (i + 1) = true by rw [exB, Bool.or_eq_true]; exact Or.inr (decide_eq_true c2))]
        · rw [if_neg (fun q => c2 ((nI_eq (by omega) (by omega)).mp q)), obd_s, bN_f (show ¬ exB M (b - l) p (i + 1) = true by rw [exB, Bool.or_eq_true, decide_eq_true_eq]; exact fun q => q.elim c c2)]
    rw [e]
    exact ih f (i + 1) (by omega) (by omega)
theorem isB_m {row marks : Nat → Int32} {b m l p : Nat} {M : Nat → Nat} (h : Lx row marks b m M) (hl : l ≤ b) (hp : p < 2 ^ l) : fX7_isBeginning row (nI l) (nI p) = some (bN (isB M m (b - l) p)) := by
  obtain ⟨w, hw⟩ := misB_loop h hl hp m 100000 0 (by omega) (by have := h.2.1; omega)
  have hw2 : lpX7_isBeginning_5 (nI l) (nI p) row 100000 0 0 = some (bN (exB M (b - l) p m = true), w) := hw
  have hr := lbp_lt h.2.2.2.1 h.2.2.1 h.2.2.2.2.2.1 hl hp
  unfold fX7_isBeginning
  rw [hw2, obd_s]
  have e : bN (exB M (b - l) p m = true) = bN (isB M m (b - l) p) := by
    by_cases c : isB M m (b - l) p
    · rw [bN_t c, bN_t ((exB_iff m).mpr ((isB_iff h.2.2.2.1 hr).mp c))]
    · rw [bN_f c, bN_f (fun q => c ((isB_iff h.2.2.2.1 hr).mpr ((exB_iff m).mp q)))]
  rw [e, obl_bN]
/-- how many beginnings the first i marks have -/
def levF (M : Nat → Nat) (d : Nat) : Nat → Nat
  | 0 => 0
  | i + 1 => levF M d i + (if i ≠ 0 ∧ M i / 2 ^ d = M (i - 1) / 2 ^ d then 0 else 1)
theorem lev_loop_c {row marks : Nat → Int32} {b m l : Nat} {M : Nat → Nat} (h : Lx row marks b m M) (hl : l ≤ b) :
    ∀ (k f i : Nat), i + k = m → k < f → ∃ w1 w2, lpX0_beginnings_7 (nI l) (nI b) (nI m) marks f (nI (levF M (b - l) i)) (if i = 0 then -1 else nI (M (i - 1) / 2 ^ (b - l))) (nI i) = some (nI (levF M (b - l) m), w1, w2) := by
  obtain ⟨h1, h2, h3, h4, h5, h6, h7, h8, h9, h10⟩ := h
  have hb := pow_le16 h1
  have hlb := pow_le16 (Nat.le_trans hl h1)
  intro k
  induction k with
  | zero =>
    intro f i hi hf
    obtain ⟨f, rfl⟩ : ∃ g, f = g + 1 := ⟨f - 1, by omega⟩
    rw [lpX0_beginnings_7, if_pos (nI_le (by omega) (by omega)), show i = m by omega]
    exact ⟨_, _, rfl⟩
  | succ k ih =>
    intro f i hi hf
    obtain ⟨f, rfl⟩ : ∃ g, f = g + 1 := ⟨f - 1, by omega⟩
    have hMi := h5 i (by omega)
    have hd := beg_lt hl hMi
    have := ih f (i + 1) (by omega) (by omega)
    rw [if_neg (show ¬ i + 1 = 0 by omega), show i + 1 - 1 = i by omega] at this
    rw [lpX0_beginnings_7, if_neg (nI_ge (by omega) (by omega)), markAt_in h2 h7 (by omega), obd_s, begin_e h1 hl (by omega), obd_s, nI_1 i]
    by_cases c : i = 0
    · subst c
      rw [if_pos rfl, if_neg (nI_neg1 (by omega)), if_neg (nI_neg1 (by omega)), olet_s, olet_s, nI_1]
      have e : levF M (b - l) (0 + 1) = levF M (b - l) 0 + 1 := by simp [levF]
      rw [e] at this
      exact this
    · rw [if_neg c]
      have hMj := h5 (i - 1) (by omega)
      have hdj := beg_lt hl hMj
      by_cases c2 : M i / 2 ^ (b - l) = M (i - 1) / 2 ^ (b - l)
      · rw [if_pos (by rw [c2]), if_pos (by rw [c2]), olet_s, olet_s]
        have e : levF M (b - l) (i + 1) = levF M (b - l) i := by
          rw [levF, if_pos ⟨c, c2⟩]; rfl
        rw [e, c2] at this
        exact this
      · rw [if_neg (fun q => c2 ((nI_eq (by omega) (by omega)).mp q)), if_neg (fun q => c2 ((nI_eq (by omega) (by omega)).mp q)), olet_s, olet_s, nI_1]
        have e : levF M (b - l) (i + 1) = levF M (b - l) i + 1 := by
          rw [levF, if_neg (fun q => c2 q.2)]
        rw [e] at this
        exact this
theorem lev_c {row marks : Nat → Int32} {b m l : Nat} {M : Nat → Nat} (h : Lx row marks b m M) (hl : l ≤ b) : fX0_beginnings (nI b) (nI m) marks (nI l) = some (nI (levF M (b - l) m)) := by
  obtain ⟨w1, w2, hw⟩ := lev_loop_c h hl m 100000 0 (by omega) (by have := h.2.1; omega)
  have hw2 : lpX0_beginnings_7 (nI l) (nI b) (nI m) marks 100000 0 (-1) 0 = some (nI (levF M (b - l) m), w1, w2) := hw
  unfold fX0_beginnings
  rw [hw2]
  rfl
theorem lev_loop_m {row marks : Nat → Int32} {b m l : Nat} {M : Nat → Nat} (h : Lx row marks b m M) (hl : l ≤ b) :
    ∀ (k f i : Nat), i + k = m → 1 ≤ i → k < f → ∃ w1, lpX7_levelOf_4 (nI l) row f (nI (levF M (b - l) i)) (nI i) = some (nI (levF M (b - l) m), w1) := by
  obtain ⟨h1, h2, h3, h4, h5, h6, h7, h8, h9, h10⟩ := h
  have hb := pow_le16 h1
  have hlb := pow_le16 (Nat.le_trans hl h1)
  have o3 : ∀ X : Option (Int32 × Int32), oin (3 : Int32) 1824 X = X := fun X => oin_in (a := 3) (by omega) (by omega)
  have e3 : row (3 : Int32).toNatClampNeg = nI m := h9
  intro k
  induction k with
  | zero =>
    intro f i hi h1i hf
    obtain ⟨f, rfl⟩ : ∃ g, f = g + 1 := ⟨f - 1, by omega⟩
    rw [lpX7_levelOf_4, o3, e3, if_pos (nI_le (by omega) (by omega)), show i = m by omega]
    exact ⟨_, rfl⟩
  | succ k ih =>
    intro f i hi h1i hf
    obtain ⟨f, rfl⟩ : ∃ g, f = g + 1 := ⟨f - 1, by omega⟩
    have hMi := h5 i (by omega)
    have hd := beg_lt hl hMi
    have hMj := h5 (i - 1) (by omega)
    have hdj := beg_lt hl hMj
    have this := ih f (i + 1) (by omega) (by omega) (by omega)
    have e102 : (102 : Int32) + nI i = nI (102 + i) := nI_add 102 i
    have e101 : nI (102 + i) - 1 = nI (102 + (i - 1)) := by
      have := pk_sub (a := 102 + i) (b := 1) (by omega)
      rw [show 102 + i - 1 = 102 + (i - 1) by omega] at this
      exact this
    rw [lpX7_levelOf_4, o3, e3, if_neg (nI_ge (by omega) (by omega)), e102, e101, oin_in (by omega) (by omega), nI_clamp (by omega), h10 i (by omega), mbegin_e h1 h8 hl (by omega), obd_s, oin_in (by omega) (by omega), nI_clamp (by omega), h10 (i - 1) (by omega), mbegin_e h1 h8 hl (by omega), obd_s, nI_1 i, olet_s]
    by_cases c2 : M i / 2 ^ (b - l) = M (i - 1) / 2 ^ (b - l)
    · rw [if_pos (by rw [c2])]
      have e : levF M (b - l) (i + 1) = levF M (b - l) i + 0 := by
        rw [levF, if_pos ⟨by omega, c2⟩]
      rw [e, ← nI_add] at this
      exact this
    · rw [if_neg (fun q => c2 ((nI_eq (by omega) (by omega)).mp q))]
      have e : levF M (b - l) (i + 1) = levF M (b - l) i + 1 := by
        rw [levF, if_neg (fun q => c2 q.2)]
      rw [e, ← nI_1] at this
      exact this
theorem lev_m {row marks : Nat → Int32} {b m l : Nat} {M : Nat → Nat} (h : Lx row marks b m M) (hl : l ≤ b) : fX7_levelOf row (nI l) = some (nI (levF M (b - l) m)) := by
  obtain ⟨w1, hw⟩ := lev_loop_m h hl (m - 1) 100000 1 (by have := h.2.2.1; omega) (by omega) (by have := h.2.1; omega)
  have e : levF M (b - l) 1 = 1 := by simp [levF]
  rw [e] at hw
  have hw2 : lpX7_levelOf_4 (nI l) row 100000 1 1 = some (nI (levF M (b - l) m), w1) := hw
  unfold fX7_levelOf
  rw [hw2]
  rfl
theorem lev_cases {row marks : Nat → Int32} {b m : Nat} {M : Nat → Nat} (h : Lx row marks b m M) (x : Int32) : (fX0_hasLevel (nI b) x = some 0 ∧ fX7_isLevel row x = some 0) ∨ ∃ l, l ≤ b ∧ x = nI l ∧ fX0_hasLevel (nI b) x = some 1 ∧ fX7_isLevel row x = some 1 := by
  have h16 := h.1
  have o0 : ∀ X : Option Int32, oin (0 : Int32) 1824 X = X := fun X => oin_in (a := 0) (by omega) (by omega)
  have e0 : row (0 : Int32).toNatClampNeg = nI b := h.2.2.2.2.2.2.2.1
  unfold fX0_hasLevel fX7_isLevel
  rw [o0, e0, olet_s, show (0 : Int64) = (0 : Int32).toInt64 from rfl]
  rcases i32_cases x with c | ⟨l, hl, rfl⟩
  · refine Or.inl ⟨?_, ?_⟩
    · rw [if_pos c]; exact obl_0 _
    · rw [inI_lt c, obd_s]; exact obl_0 _
  · by_cases c : l ≤ b
    · refine Or.inr ⟨l, c, rfl, ?_, ?_⟩
      · rw [if_neg (nI_pos hl), if_neg (nI_nlt c (by omega))]; exact obl_1 _
      · rw [inI_in (nI_pos hl) (nI_nlt c (by omega)), obd_s]; exact obl_1 _
    · refine Or.inl ⟨?_, ?_⟩
      · rw [if_neg (nI_pos hl), if_pos (nI_lt (by omega) hl)]; exact obl_0 _
      · rw [inI_gt (nI_lt (by omega) hl), obd_s]; exact obl_0 _
theorem eq_level {row marks : Nat → Int32} {b m : Nat} {M : Nat → Nat} (h : Lx row marks b m M) (x : Int32) : ∃ r, fX6_level (nI b) (nI m) marks x = some r ∧ fX7_level row x = some r := by
  rcases lev_cases h x with ⟨h1, h2⟩ | ⟨l, hl, rfl, h1, h2⟩
  · refine ⟨-2, ?_, ?_⟩
    · unfold fX6_level; rw [h1, obd_s, if_pos z00]; rfl
    · unfold fX7_level; rw [h2, obd_s, if_pos z00]; rfl
  · refine ⟨nI (levF M (b - l) m), ?_, ?_⟩
    · unfold fX6_level; rw [h1, obd_s, if_neg z10, lev_c h hl]; rfl
    · unfold fX7_level; rw [h2, obd_s, if_neg z10, lev_m h hl]; rfl
def sumLev (M : Nat → Nat) (b m : Nat) : Nat → Nat
  | 0 => 0
  | i + 1 => sumLev M b m i + levF M (b - i) m
theorem allB_c {row marks : Nat → Int32} {b m : Nat} {M : Nat → Nat} (h : Lx row marks b m M) : fX0_allBeginnings (nI b) (nI m) marks = some (nI (sumLev M b m (b + 1))) := by
  have h16 := h.1
  have L : ∀ (k f i : Nat), i + k = b + 1 → k < f → ∃ w, lpX0_allBeginnings_4 (nI b) (nI m) marks f (nI (sumLev M b m i)) (nI i) = some (nI (sumLev M b m (b + 1)), w) := by
    intro k
    induction k with
    | zero =>
      intro f i hi hf
      obtain ⟨f, rfl⟩ : ∃ g, f = g + 1 := ⟨f - 1, by omega⟩
      rw [lpX0_allBeginnings_4, if_pos (nI_lt (by omega) (by omega)), show i = b + 1 by omega]
      exact ⟨_, rfl⟩
    | succ k ih =>
      intro f i hi hf
      obtain ⟨f, rfl⟩ : ∃ g, f = g + 1 := ⟨f - 1, by omega⟩
      rw [lpX0_allBeginnings_4, if_neg (nI_nlt (by omega) (by omega)), lev_c h (by omega), obd_s, nI_add, nI_1]
      exact ih f (i + 1) (by omega) (by omega)
  obtain ⟨w, hw⟩ := L (b + 1) 100000 0 (by omega) (by omega)
  have hw2 : lpX0_allBeginnings_4 (nI b) (nI m) marks 100000 0 0 = some (nI (sumLev M b m (b + 1)), w) := hw
  unfold fX0_allBeginnings
  rw [hw2]
  rfl
theorem allB_m {row marks : Nat → Int32} {b m : Nat} {M : Nat → Nat} (h : Lx row marks b m M) : fX7_allBeginnings row = some (nI (sumLev M b m (b + 1))) := by
  have h16 := h.1
  have o0 : ∀ X : Option (Int32 × Int32), oin (0 : Int32) 1824 X = X := fun X => oin_in (a := 0) (by omega) (by omega)
  have e0 : row (0 : Int32).toNatClampNeg = nI b := h.2.2.2.2.2.2.2.1
  have L : ∀ (k f i : Nat), i + k = b + 1 → k < f → ∃ w, lpX7_allBeginnings_4 row f (nI (sumLev M b m i)) (nI i) = some (nI (sumLev M b m (b + 1)), w) := by
    intro k
    induction k with
    | zero =>
      intro f i hi hf
      obtain ⟨f, rfl⟩ : ∃ g, f = g + 1 := ⟨f - 1, by omega⟩
      rw [lpX7_allBeginnings_4, o0, e0, if_pos (nI_lt (by omega) (by omega)), show i = b + 1 by omega]
      exact ⟨_, rfl⟩
    | succ k ih =>
      intro f i hi hf
      obtain ⟨f, rfl⟩ : ∃ g, f = g + 1 := ⟨f - 1, by omega⟩
      rw [lpX7_allBeginnings_4, o0, e0, if_neg (nI_nlt (by omega) (by omega)), lev_m h (by omega), obd_s, nI_add, nI_1]
      exact ih f (i + 1) (by omega) (by omega)
  obtain ⟨w, hw⟩ := L (b + 1) 100000 0 (by omega) (by omega)
  have hw2 : lpX7_allBeginnings_4 row 100000 0 0 = some (nI (sumLev M b m (b + 1)), w) := hw
  unfold fX7_allBeginnings
  rw [hw2]
  rfl
