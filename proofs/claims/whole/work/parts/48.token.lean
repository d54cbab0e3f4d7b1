/-! the text: letters, runs, tokens -/
def kd (c : Nat) : Nat := if c = 32 then 1 else if 97 ≤ c ∧ c ≤ 122 then 2 else if 48 ≤ c ∧ c ≤ 57 then 3 else 4
theorem kd_c : ∀ c, c < 256 → fX5_kindOf (nI c) = some (nI (kd c)) := by decide +kernel
theorem kd_l : ∀ c, c < 256 → fX7_isLetter (nI c) = some (if kd c = 2 then 1 else 0) := by decide +kernel
theorem kd_d : ∀ c, c < 256 → fX7_isDigit (nI c) = some (if kd c = 3 then 1 else 0) := by decide +kernel
theorem kd_b : ∀ c, c < 256 → (nI c = (32 : Int32) ↔ kd c = 1) := by decide +kernel
theorem kd_r (c : Nat) : 1 ≤ kd c ∧ kd c ≤ 4 := by
  unfold kd
  split
  · omega
  · split
    · omega
    · split <;> omega
def TxI (length : Int32) (letters : Nat → Int32) (L : Nat) (tx : Nat → Nat) : Prop := L ≤ 200 ∧ length = nI L ∧ ∀ i, i < L → letters i = nI (tx i) ∧ tx i ≤ 255
def runE (tx : Nat → Nat) (k : Nat) : Nat → Nat → Nat
  | 0, s => s
  | n + 1, s => if kd (tx s) = k then runE tx k n (s + 1) else s
theorem runE_bd (tx : Nat → Nat) (k : Nat) : ∀ n s, s ≤ runE tx k n s ∧ runE tx k n s ≤ s + n
  | 0, s => ⟨Nat.le_refl _, Nat.le_refl _⟩
  | n + 1, s => by
    rw [runE]
    have := runE_bd tx k n (s + 1)
    split <;> omega
theorem runE_in (tx : Nat → Nat) (k : Nat) : ∀ n s i, s ≤ i → i < runE tx k n s → kd (tx i) = k
  | 0, s, i, h1, h2 => by rw [runE] at h2; omega
  | n + 1, s, i, h1, h2 => by
    rw [runE] at h2
    by_cases c : kd (tx s) = k
    · rw [if_pos c] at h2
      by_cases e : i = s
      · rw [e]; exact c
      · exact runE_in tx k n (s + 1) i (by omega) h2
    · rw [if_neg c] at h2; omega
theorem runE_step {tx : Nat → Nat} {k L s : Nat} (hs : s < L) (h : kd (tx s) = k) : runE tx k (L - (s + 1)) (s + 1) = runE tx k (L - s) s := by
  rw [show L - s = (L - (s + 1)) + 1 by omega, runE, if_pos h]
def tS (tx : Nat → Nat) (L p : Nat) : Nat := runE tx 1 (L - p) p
def tK (tx : Nat → Nat) (L p : Nat) : Nat := if tS tx L p = L then 0 else kd (tx (tS tx L p))
def tE (tx : Nat → Nat) (L p : Nat) : Nat := if tS tx L p = L then L else if kd (tx (tS tx L p)) = 2 ∨ kd (tx (tS tx L p)) = 3 then runE tx (kd (tx (tS tx L p))) (L - tS tx L p) (tS tx L p) else tS tx L p + 1
theorem tS_bd {tx : Nat → Nat} {L p : Nat} (h : p ≤ L) : p ≤ tS tx L p ∧ tS tx L p ≤ L := by
  have := runE_bd tx 1 (L - p) p
  unfold tS
  omega
theorem tE_bd {tx : Nat → Nat} {L p : Nat} (h : p ≤ L) : tS tx L p ≤ tE tx L p ∧ tE tx L p ≤ L ∧ (tS tx L p < L → tS tx L p < tE tx L p) := by
  obtain ⟨h1, h2⟩ := tS_bd (tx := tx) h
  unfold tE
  by_cases c : tS tx L p = L
  · rw [if_pos c]; omega
  · rw [if_neg c]
    by_cases d : kd (tx (tS tx L p)) = 2 ∨ kd (tx (tS tx L p)) = 3
    · rw [if_pos d]
      have e := runE_step (tx := tx) (k := kd (tx (tS tx L p))) (L := L) (s := tS tx L p) (by omega) rfl
      have b := runE_bd tx (kd (tx (tS tx L p))) (L - (tS tx L p + 1)) (tS tx L p + 1)
      rw [e] at b
      omega
    · rw [if_neg d]; omega
section
variable {length : Int32} {letters : Nat → Int32} {L : Nat} {tx : Nat → Nat}
theorem let_in (h : TxI length letters L tx) {i : Nat} (hi : i < L) : fX5_letterAt length letters (nI i) = some (nI (tx i)) := by
  have hL := h.1
  unfold fX5_letterAt
  rw [h.2.1, if_neg (nI_pos (by omega)), if_neg (nI_ge hi (by omega)), if_neg (show ¬ (200 : Int32) ≤ nI i from nI_ge (b := 200) (by omega) (by omega)), oin_in (by omega) (by omega), nI_clamp (by omega), (h.2.2 i hi).1, obd_s]
theorem let_out (h : TxI length letters L tx) {i : Nat} (hi : L ≤ i) (h2 : i < 2147483648) : fX5_letterAt length letters (nI i) = some (-1) := by
  unfold fX5_letterAt
  rw [h.2.1, if_neg (nI_pos (by omega)), if_pos (nI_le hi (by omega)), obd_s]
theorem run_c (h : TxI length letters L tx) {k : Nat} (hk : k ≤ 4) : ∀ (n f s : Nat), s + n = L → n < f → lpX5_endOfRun_2 (nI k) length letters f (nI s) = some (nI (runE tx k n s)) := by
  have hL := h.1
  intro n
  induction n with
  | zero =>
    intro f s h1 hf
    obtain ⟨f, rfl⟩ : ∃ g, f = g + 1 := ⟨f - 1, by omega⟩
    rw [lpX5_endOfRun_2, h.2.1, if_pos (nI_le (by omega) (by omega)), runE]
  | succ n ih =>
    intro f s h1 hf
    obtain ⟨f, rfl⟩ : ∃ g, f = g + 1 := ⟨f - 1, by omega⟩
    have hs := (h.2.2 s (by omega)).2
    have hr := kd_r (tx s)
    rw [lpX5_endOfRun_2, if_neg (show ¬ length ≤ nI s by rw [h.2.1]; exact nI_ge (by omega) (by omega)), let_in h (by omega), obd_s, kd_c _ (by omega), obd_s, runE, nI_1]
    by_cases c : kd (tx s) = k
    · rw [if_pos (congrArg nI c), if_pos c]
      exact ih f (s + 1) (by omega) (by omega)
    · rw [if_neg (nI_nq c (by omega) (by omega)), if_neg c]
theorem endRun_c (h : TxI length letters L tx) {k s : Nat} (hk : k ≤ 4) (hs : s ≤ L) : fX5_endOfRun length letters (nI s) (nI k) = some (nI (runE tx k (L - s) s)) := by
  have hL := h.1
  unfold fX5_endOfRun
  rw [run_c h hk (L - s) 100000 s (by omega) (by omega), obd_s]
theorem next_c (h : TxI length letters L tx) {p : Nat} (hp : p ≤ L) (ts tk : Int32) : fX5_nextToken length (nI p) ts tk letters = some (nI (tE tx L p), nI (tS tx L p), nI (tK tx L p)) := by
  have hL := h.1
  obtain ⟨h1, h2⟩ := tS_bd (tx := tx) hp
  have e1 : fX5_endOfRun length letters (nI p) 1 = some (nI (tS tx L p)) := endRun_c (k := 1) h (by omega) hp
  unfold fX5_nextToken tE tK
  rw [e1, obd_s]
  by_cases c : tS tx L p = L
  · rw [if_pos c, if_pos c, c, let_out h (by omega) (by omega), obd_s, show fX5_kindOf (-1) = some (nI 0) from rfl, obd_s, if_neg (by decide), if_neg (by decide), if_pos (show nI 0 = (0 : Int32) from rfl), olet_s, obd_s]
  · have hs := (h.2.2 (tS tx L p) (by omega)).2
    have hr := kd_r (tx (tS tx L p))
    rw [if_neg c, if_neg c, let_in h (by omega), obd_s, kd_c _ (by omega), obd_s]
    have er : fX5_endOfRun length letters (nI (tS tx L p)) (nI (kd (tx (tS tx L p)))) = some (nI (runE tx (kd (tx (tS tx L p))) (L - tS tx L p) (tS tx L p))) := endRun_c h (by omega) (by omega)
    by_cases c2 : kd (tx (tS tx L p)) = 2
    · rw [if_pos (show nI (kd (tx (tS tx L p))) = (2 : Int32) from congrArg nI c2), if_pos (Or.inl c2), er, obd_s, obd_s]
    · rw [if_neg (show ¬ nI (kd (tx (tS tx L p))) = (2 : Int32) from nI_nq (b := 2) c2 (by omega) (by omega))]
      by_cases c3 : kd (tx (tS tx L p)) = 3
      · rw [if_pos (show nI (kd (tx (tS tx L p))) = (3 : Int32) from congrArg nI c3), if_pos (Or.inr c3), er, obd_s, obd_s]
      · rw [if_neg (show ¬ nI (kd (tx (tS tx L p))) = (3 : Int32) from nI_nq (b := 3) c3 (by omega) (by omega)), if_neg (show ¬ (kd (tx (tS tx L p)) = 2 ∨ kd (tx (tS tx L p)) = 3) by omega), if_neg (nI_ne0 (by omega) (by omega)), olet_s, obd_s, nI_1]
theorem run_m8 (h : TxI length letters L tx) : ∀ (n f s : Nat), s + n = L → n < f → lpX7_nextToken_8 length letters f (nI s) = some (nI (runE tx 1 n s)) := by
  have hL := h.1
  intro n
  induction n with
  | zero =>
    intro f s h1 hf
    obtain ⟨f, rfl⟩ : ∃ g, f = g + 1 := ⟨f - 1, by omega⟩
    rw [lpX7_nextToken_8, h.2.1, if_pos (nI_le (by omega) (by omega)), runE]
  | succ n ih =>
    intro f s h1 hf
    obtain ⟨f, rfl⟩ : ∃ g, f = g + 1 := ⟨f - 1, by omega⟩
    have hs := (h.2.2 s (by omega)).2
    rw [lpX7_nextToken_8, if_neg (show ¬ length ≤ nI s by rw [h.2.1]; exact nI_ge (by omega) (by omega)), oin_in (by omega) (by omega), nI_clamp (by omega), (h.2.2 s (by omega)).1, runE, nI_1]
    by_cases c : kd (tx s) = 1
    · rw [if_pos ((kd_b _ (by omega)).mpr c), if_pos c]
      exact ih f (s + 1) (by omega) (by omega)
    · rw [if_neg (fun q => c ((kd_b _ (by omega)).mp q)), if_neg c]
theorem run_m165 (h : TxI length letters L tx) : ∀ (n f s : Nat), s + n = L → n < f → lpX7_nextToken_165 length letters f (nI s) = some (nI (runE tx 3 n s)) := by
  have hL := h.1
  intro n
  induction n with
  | zero =>
    intro f s h1 hf
    obtain ⟨f, rfl⟩ : ∃ g, f = g + 1 := ⟨f - 1, by omega⟩
    rw [lpX7_nextToken_165, h.2.1, if_pos (nI_le (by omega) (by omega)), runE]
  | succ n ih =>
    intro f s h1 hf
    obtain ⟨f, rfl⟩ : ∃ g, f = g + 1 := ⟨f - 1, by omega⟩
    have hs := (h.2.2 s (by omega)).2
    rw [lpX7_nextToken_165, if_neg (show ¬ length ≤ nI s by rw [h.2.1]; exact nI_ge (by omega) (by omega)), oin_in (by omega) (by omega), nI_clamp (by omega), (h.2.2 s (by omega)).1, kd_d _ (by omega), obd_s, runE, nI_1]
    by_cases c : kd (tx s) = 3
    · rw [if_pos c, if_neg z10, if_pos c]
      exact ih f (s + 1) (by omega) (by omega)
    · rw [if_neg c, if_pos z00, if_neg c]
theorem run_m100 (h : TxI length letters L tx) : ∀ (n f s : Nat), s + n = L → n < f → lpX7_nextToken_100 length letters f (nI s) = some (nI (runE tx 2 n s)) := by
  have hL := h.1
  intro n
  induction n with
  | zero =>
    intro f s h1 hf
    obtain ⟨f, rfl⟩ : ∃ g, f = g + 1 := ⟨f - 1, by omega⟩
    rw [lpX7_nextToken_100, h.2.1, if_pos (nI_le (by omega) (by omega)), runE]
  | succ n ih =>
    intro f s h1 hf
    obtain ⟨f, rfl⟩ : ∃ g, f = g + 1 := ⟨f - 1, by omega⟩
    have hs := (h.2.2 s (by omega)).2
    rw [lpX7_nextToken_100, if_neg (show ¬ length ≤ nI s by rw [h.2.1]; exact nI_ge (by omega) (by omega)), oin_in (by omega) (by omega), nI_clamp (by omega), (h.2.2 s (by omega)).1, kd_l _ (by omega), obd_s, runE, nI_1]
    by_cases c : kd (tx s) = 2
    · rw [if_pos c, if_neg z10, if_pos c]
      exact ih f (s + 1) (by omega) (by omega)
    · rw [if_neg c, if_pos z00, if_neg c]
theorem next_m (h : TxI length letters L tx) {p : Nat} (hp : p ≤ L) (fs : Int32) : fX7_nextToken length fs (nI p) letters = some (nI (tS tx L p), nI (tE tx L p)) := by
  have hL := h.1
  obtain ⟨h1, h2⟩ := tS_bd (tx := tx) hp
  have e1 : lpX7_nextToken_8 length letters 100000 (nI p) = some (nI (tS tx L p)) := run_m8 h (L - p) 100000 p (by omega) (by omega)
  unfold fX7_nextToken tE
  rw [e1, obd_s]
  by_cases c : tS tx L p = L
  · have g : length ≤ nI (tS tx L p) := by rw [h.2.1]; exact nI_le (by omega) (by omega)
    rw [if_pos g, olet_s, if_pos g, if_pos g, obd_s, if_pos c, c]
  · have g : ¬ length ≤ nI (tS tx L p) := by rw [h.2.1]; exact nI_ge (by omega) (by omega)
    have hs := (h.2.2 (tS tx L p) (by omega)).2
    have hr := kd_r (tx (tS tx L p))
    rw [if_neg g, olet_s, if_neg g, if_neg g, if_neg c, oin_in (by omega) (by omega), nI_clamp (by omega), (h.2.2 (tS tx L p) (by omega)).1, kd_l _ (by omega), obd_s, nI_1]
    by_cases c2 : kd (tx (tS tx L p)) = 2
    · rw [if_pos c2, if_neg z10, run_m100 h (L - (tS tx L p + 1)) 100000 (tS tx L p + 1) (by omega) (by omega), obd_s, obd_s, runE_step (by omega) c2, if_pos (Or.inl c2), c2]
    · rw [if_neg c2, if_pos z00, oin_in (by omega) (by omega), kd_d _ (by omega), obd_s]
      by_cases c3 : kd (tx (tS tx L p)) = 3
      · rw [if_pos c3, if_neg z10, run_m165 h (L - (tS tx L p + 1)) 100000 (tS tx L p + 1) (by omega) (by omega), obd_s, obd_s, runE_step (by omega) c3, if_pos (Or.inr c3), c3]
      · rw [if_neg c3, if_pos z00, obd_s, if_neg (show ¬ (kd (tx (tS tx L p)) = 2 ∨ kd (tx (tS tx L p)) = 3) by omega)]
end
