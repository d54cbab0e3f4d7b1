/-! a word, a clause: class and reference read alike -/
def eqF (tx wd : Nat → Nat) (t : Nat) : Nat → Nat → Bool
  | 0, _ => true
  | k + 1, i => decide (tx (t + i) = wd i) && eqF tx wd t k (i + 1)
section
variable {cl ml : Int32} {le te : Nat → Int32} {L : Nat} {tx : Nat → Nat}
theorem tok_c (h : TxI cl le L tx) {js n t : Nat} {wd : Nat → Nat} (hn : lenJS.getD js 0 = n) (hn4 : n ≤ 4) (hw : ∀ i, i < n → ((((bytJS.getD js []).getD i 0) &&& 255).toUInt32 % 65536).toInt32 = nI (wd i) ∧ wd i ≤ 255) (ht : t + n ≤ L) :
    ∀ (k f i : Nat), i + k = n → k < f → lpX5_tokenIs_28 js cl (nI t) le f (nI i) = some (if eqF tx wd t k i = true then Sum.inl (nI n) else Sum.inr 0) := by
  have hL := h.1
  have hsh : nI n >>> ((0 : Int32) &&& 31) = nI n := by
    have := shr_n (n := n) (k := 0) (by omega) (by omega)
    rw [Nat.pow_zero, Nat.div_one] at this
    exact this
  intro k
  induction k with
  | zero =>
    intro f i h1 hf
    obtain ⟨f, rfl⟩ : ∃ g, f = g + 1 := ⟨f - 1, by omega⟩
    obtain rfl : i = n := by omega
    rw [lpX5_tokenIs_28, hn, hsh, if_pos (nI_le (by omega) (by omega)), eqF, if_pos rfl]
  | succ k ih =>
    intro f i h1 hf
    obtain ⟨f, rfl⟩ : ∃ g, f = g + 1 := ⟨f - 1, by omega⟩
    have hx := (h.2.2 (t + i) (by omega)).2
    obtain ⟨w1, w2⟩ := hw i (by omega)
    rw [lpX5_tokenIs_28, hn, hsh, if_neg (nI_ge (by omega) (by omega)), nI_add, let_in h (by omega), obd_s, oin_in (by omega) (by omega), nI_clamp (by omega), w1, eqF, nI_1]
    by_cases c : tx (t + i) = wd i
    · rw [if_pos (congrArg nI c), ih f (i + 1) (by omega) (by omega), decide_eq_true c, Bool.true_and]
    · rw [if_neg (nI_nq c (by omega) (by omega)), decide_eq_false c, Bool.false_and, if_neg (by decide)]
      exact obl_0 _
theorem tok_m (h : TxI ml te L tx) {n t : Nat} {wd : Nat → Nat} {a0 : Nat → Int32} (hn4 : n ≤ 4) (hw : ∀ i, i < n → a0 i = nI (wd i) ∧ wd i ≤ 255) (ht : t + n ≤ L) :
    ∀ (k f i : Nat), i + k = n → k + 1 < f → ∃ w, lpX7_isWord_22 n (nI t) te a0 f 1 (nI i) = some (if eqF tx wd t k i = true then 1 else 0, w) := by
  have hL := h.1
  intro k
  induction k with
  | zero =>
    intro f i h1 hf
    obtain ⟨f, rfl⟩ : ∃ g, f = g + 1 := ⟨f - 1, by omega⟩
    obtain rfl : i = n := by omega
    exact ⟨nI i, by rw [lpX7_isWord_22, if_pos (nI_le (by omega) (by omega)), eqF, if_pos rfl]⟩
  | succ k ih =>
    intro f i h1 hf
    obtain ⟨f, rfl⟩ : ∃ g, f = g + 1 := ⟨f - 1, by omega⟩
    have hx := (h.2.2 (t + i) (by omega)).2
    obtain ⟨w1, w2⟩ := hw i (by omega)
    rw [lpX7_isWord_22, if_neg (nI_ge (by omega) (by omega)), if_neg z10, nI_add, oin_in (by omega) (by omega), oin_in (by omega) (by omega), nI_clamp (by omega), nI_clamp (by omega), (h.2.2 (t + i) (by omega)).1, w1, olet_s, eqF, nI_1]
    by_cases c : tx (t + i) = wd i
    · rw [if_pos (congrArg nI c), decide_eq_true c, Bool.true_and]
      exact ih f (i + 1) (by omega) (by omega)
    · rw [if_neg (nI_nq c (by omega) (by omega)), decide_eq_false c, Bool.false_and, if_neg (show ¬ false = true by decide)]
      obtain ⟨f, rfl⟩ : ∃ g, f = g + 1 := ⟨f - 1, by omega⟩
      refine ⟨nI (i + 1), ?_⟩
      rw [lpX7_isWord_22, if_pos z00]
      by_cases d : nI n ≤ nI (i + 1)
      · rw [if_pos d]
      · rw [if_neg d]
theorem tok_both (h1 : TxI cl le L tx) (h2 : TxI ml te L tx) {js n p : Nat} {wd : Nat → Nat} {a0 : Nat → Int32} (hp : p ≤ L) (hn : lenJS.getD js 0 = n) (hn0 : 1 ≤ n) (hn4 : n ≤ 4) (hw : ∀ i, i < n → ((((bytJS.getD js []).getD i 0) &&& 255).toUInt32 % 65536).toInt32 = nI (wd i) ∧ wd i ≤ 255) (ha : ∀ i, i < n → a0 i = nI (wd i)) (hk : kd (wd 0) = 2) :
    ∃ r : Int32, (r = 0 ∨ r = 1) ∧ fX5_tokenIs js cl (nI (tE tx L p)) (nI (tS tx L p)) (nI (tK tx L p)) le = some r ∧ fX7_isWord n (nI (tS tx L p)) (nI (tE tx L p)) te a0 = some r := by
  have hL := h1.1
  obtain ⟨b1, b2⟩ := tS_bd (tx := tx) hp
  obtain ⟨b3, b4, b5⟩ := tE_bd (tx := tx) hp
  have ol0 : ∀ {α : Type} (X : Option α), obl (0 : Int32) X = X := fun X => obl_0 X
  have ol : ∀ {α : Type} (X : Option α), obl (1 : Int32) X = X := fun X => obl_1 X
  have esub : nI (tE tx L p) - nI (tS tx L p) = nI (tE tx L p - tS tx L p) := pk_sub b3
  have hsh : nI n >>> ((0 : Int32) &&& 31) = nI n := by
    have := shr_n (n := n) (k := 0) (by omega) (by omega)
    rw [Nat.pow_zero, Nat.div_one] at this
    exact this
  have hK4 : tK tx L p ≤ 4 := by
    unfold tK
    have := kd_r (tx (tS tx L p))
    split <;> omega
  unfold fX5_tokenIs fX7_isWord
  rw [esub, hn, hsh]
  by_cases cn : tE tx L p - tS tx L p = n
  · rw [if_pos (congrArg nI cn), if_pos (congrArg nI cn), olet_s]
    obtain ⟨w, pm⟩ := tok_m h2 (a0 := a0) (t := tS tx L p) (n := n) hn4 (fun i hi => ⟨ha i hi, (hw i hi).2⟩) (by omega) n 100000 0 (by omega) (by omega)
    have pc := tok_c h1 (js := js) (t := tS tx L p) (n := n) hn hn4 hw (by omega) n 100000 0 (by omega) (by omega)
    have pm' : lpX7_isWord_22 n (nI (tS tx L p)) te a0 100000 1 0 = some (if eqF tx wd (tS tx L p) n 0 = true then 1 else 0, w) := pm
    have pc' : lpX5_tokenIs_28 js cl (nI (tS tx L p)) le 100000 0 = some (if eqF tx wd (tS tx L p) n 0 = true then Sum.inl (nI n) else Sum.inr 0) := pc
    rw [pm', obd_s, pc']
    by_cases c2 : tK tx L p = 2
    · rw [if_pos (show nI (tK tx L p) = (2 : Int32) from congrArg nI c2)]
      by_cases ce : eqF tx wd (tS tx L p) n 0 = true
      · rw [if_pos ce, if_pos ce]
        exact ⟨1, Or.inr rfl, rfl, rfl⟩
      · rw [if_neg ce, if_neg ce]
        exact ⟨0, Or.inl rfl, rfl, rfl⟩
    · have ce : ¬ eqF tx wd (tS tx L p) n 0 = true := by
        obtain ⟨n', rfl⟩ : ∃ k, n = k + 1 := ⟨n - 1, by omega⟩
        rw [eqF]
        intro q
        have q1 := (Bool.and_eq_true _ _ ▸ q).1
        have q2 : tx (tS tx L p) = wd 0 := of_decide_eq_true q1
        have cL : ¬ tS tx L p = L := fun g => by omega
        exact c2 (by unfold tK; rw [if_neg cL, q2, hk])
      rw [if_neg (show ¬ nI (tK tx L p) = (2 : Int32) from nI_nq (b := 2) c2 (by omega) (by omega)), if_neg ce]
      exact ⟨0, Or.inl rfl, rfl, rfl⟩
  · rw [if_neg (nI_nq cn (by omega) (by omega)), if_neg (nI_nq cn (by omega) (by omega)), olet_s]
    have pm : lpX7_isWord_22 n (nI (tS tx L p)) te a0 100000 0 0 = some (0, 0) := by
      rw [show (100000 : Nat) = 99999 + 1 from rfl, lpX7_isWord_22, if_neg (show ¬ nI n ≤ (0 : Int32) from nI_ge (a := 0) (by omega) (by omega)), if_pos z00]
    rw [pm, obd_s]
    refine ⟨0, Or.inl rfl, ?_, rfl⟩
    by_cases c2 : nI (tK tx L p) = (2 : Int32)
    · rw [if_pos c2, ol0]
    · rw [if_neg c2, ol0]
def wdP : Nat → Nat := fun i => [112, 108, 97, 110].getD i 0
def wdA : Nat → Nat := fun i => [97, 100, 100].getD i 0
def wdD : Nat → Nat := fun i => [100, 101, 108].getD i 0
def wdF : Nat → Nat := fun i => [102, 105, 108, 108].getD i 0
def WordsI (pw aw dw fw : Nat → Int32) : Prop := (∀ i, i < 4 → pw i = nI (wdP i)) ∧ (∀ i, i < 3 → aw i = nI (wdA i)) ∧ (∀ i, i < 3 → dw i = nI (wdD i)) ∧ (∀ i, i < 4 → fw i = nI (wdF i))
theorem word_both (h1 : TxI cl le L tx) (h2 : TxI ml te L tx) {pw aw dw fw : Nat → Int32} (hW : WordsI pw aw dw fw) {p : Nat} (hp : p ≤ L) :
    ∃ r : Int32, (r = -1 ∨ r = 0 ∨ r = 1 ∨ r = 2 ∨ r = 3) ∧ fX5_clauseKind cl (nI (tE tx L p)) (nI (tS tx L p)) (nI (tK tx L p)) le = some r ∧ fX7_wordHere (nI (tS tx L p)) (nI (tE tx L p)) te pw aw dw fw = some r := by
  obtain ⟨r0, g0, p0, q0⟩ := tok_both h1 h2 (js := 0) (n := 4) (wd := wdP) (a0 := pw) hp rfl (by omega) (by omega) (by decide +kernel) hW.1 (by decide)
  obtain ⟨r1, g1, p1, q1⟩ := tok_both h1 h2 (js := 1) (n := 3) (wd := wdA) (a0 := aw) hp rfl (by omega) (by omega) (by decide +kernel) hW.2.1 (by decide)
  obtain ⟨r2, g2, p2, q2⟩ := tok_both h1 h2 (js := 2) (n := 3) (wd := wdD) (a0 := dw) hp rfl (by omega) (by omega) (by decide +kernel) hW.2.2.1 (by decide)
  obtain ⟨r3, g3, p3, q3⟩ := tok_both h1 h2 (js := 3) (n := 4) (wd := wdF) (a0 := fw) hp rfl (by omega) (by omega) (by decide +kernel) hW.2.2.2 (by decide)
  unfold fX5_clauseKind fX7_wordHere
  rw [p0, p1, p2, p3, q0, q1, q2, q3]
  rcases g0 with rfl | rfl
  · rcases g1 with rfl | rfl
    · rcases g2 with rfl | rfl
      · rcases g3 with rfl | rfl
        · exact ⟨-1, by decide, rfl, rfl⟩
        · exact ⟨3, by decide, rfl, rfl⟩
      · exact ⟨2, by decide, rfl, rfl⟩
    · exact ⟨1, by decide, rfl, rfl⟩
  · exact ⟨0, by decide, rfl, rfl⟩
end
