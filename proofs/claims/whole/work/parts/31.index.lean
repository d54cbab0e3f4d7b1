/-! ===== the index as a mathematical thing: bits, size, keys, marks ===== -/
def eo (K : Nat → Nat) (n : Nat) (M : Nat → Nat) (i : Nat) : Nat := lb K (M i + 1) n
def so (K : Nat → Nat) (n : Nat) (M : Nat → Nat) (i : Nat) : Nat := if i = 0 then 0 else eo K n M (i - 1)
def kin (K : Nat → Nat) (n : Nat) (M : Nat → Nat) (i : Nat) : Nat := eo K n M i - so K n M i
def strict (K : Nat → Nat) (n : Nat) : Prop := ∀ i j, i < j → j < n → K i < K j
theorem strict.rises {K : Nat → Nat} {n : Nat} (h : strict K n) : rises K n := fun i j h1 h2 => Nat.le_of_lt (h i j h1 h2)
theorem so_le_eo {K : Nat → Nat} {n : Nat} {M : Nat → Nat} {m i : Nat} (hK : rises K n) (hM : rises M m) (hi : i < m) : so K n M i ≤ eo K n M i := by
  unfold so
  by_cases c : i = 0
  · rw [if_pos c]; exact Nat.zero_le _
  · rw [if_neg c]
    exact lb_mono hK (by have := hM (i - 1) i (by omega) hi; omega)
theorem eo_le (K : Nat → Nat) (n : Nat) (M : Nat → Nat) (i : Nat) : eo K n M i ≤ n := lb_le _ _ _
theorem lb_0 (K : Nat → Nat) (n : Nat) : lb K 0 n = 0 := by
  induction n with
  | zero => rfl
  | succ n ih => unfold lb; rw [if_neg (by omega), ih]
theorem lb_at {K : Nat → Nat} {n q : Nat} (h : strict K n) (hq : q < n) : lb K (K q + 1) n = q + 1 := by
  refine (lb_uniq h.rises (by omega) (fun i hi => ?_) (fun c => ?_)).symm
  · by_cases e : i = q
    · rw [e]; omega
    · have := h i q (by omega) hq; omega
  · exact h q (q + 1) (by omega) c
/-- a number is there -/
def ixHas (K : Nat → Nat) (n x : Nat) : Prop := lb K x n < n ∧ K (lb K x n) = x
theorem ixHas_at {K : Nat → Nat} {n q : Nat} (h : strict K n) (hq : q < n) : lb K (K q) n = q := by
  refine (lb_uniq h.rises (by omega) (fun i hi => h i q hi hq) (fun _ => Nat.le_refl _)).symm
theorem ixHas_of {K : Nat → Nat} {n q : Nat} (h : strict K n) (hq : q < n) : ixHas K n (K q) := by
  unfold ixHas
  rw [ixHas_at h hq]
  exact ⟨hq, rfl⟩
theorem nothas_ne {K : Nat → Nat} {n x : Nat} (h : strict K n) (hx : ¬ ixHas K n x) {i : Nat} (hi : i < n) : K i ≠ x := fun e => hx (e ▸ ixHas_of h hi)
theorem ins_strict {K : Nat → Nat} {n x : Nat} (h : strict K n) (hx : ¬ ixHas K n x) : strict (insF K (lb K x n) x) (n + 1) := by
  intro i j hij hj
  have hl := lb_le K x n
  unfold insF
  by_cases c1 : j < lb K x n
  · rw [if_pos c1, if_pos (by omega)]; exact h i j hij (by omega)
  · rw [if_neg c1]
    by_cases c2 : j = lb K x n
    · rw [if_pos c2, if_pos (by omega)]; exact lb_lt h.rises i (by omega)
    · rw [if_neg c2]
      by_cases c3 : i < lb K x n
      · rw [if_pos c3]
        have q1 := lb_lt h.rises (x := x) i c3
        have q2 := lb_ge (K := K) (x := x) (n := n) (j - 1) (by omega) (by omega)
        omega
      · rw [if_neg c3]
        by_cases c4 : i = lb K x n
        · rw [if_pos c4]
          have q2 := lb_ge (K := K) (x := x) (n := n) (j - 1) (by omega) (by omega)
          have q3 := nothas_ne h hx (i := j - 1) (by omega)
          omega
        · rw [if_neg c4]; exact h (i - 1) (j - 1) (by omega) (by omega)
theorem lb_ins {K : Nat → Nat} {n x : Nat} (h : strict K n) (hx : ¬ ixHas K n x) (y : Nat) : lb (insF K (lb K x n) x) y (n + 1) = lb K y n + (if x < y then 1 else 0) := by
  have hs := ins_strict h hx
  have hl := lb_le K x n
  have hy := lb_le K y n
  refine (lb_uniq hs.rises ?_ ?_ ?_).symm
  · split <;> omega
  · intro i hi
    unfold insF
    by_cases c : x < y
    · rw [if_pos c] at hi
      by_cases c1 : i < lb K x n
      · rw [if_pos c1]; have := lb_lt h.rises i c1; omega
      · rw [if_neg c1]
        by_cases c2 : i = lb K x n
        · rw [if_pos c2]; exact c
        · rw [if_neg c2]; exact lb_lt h.rises (i - 1) (by omega)
    · rw [if_neg c] at hi
      have hm : lb K y n ≤ lb K x n := lb_mono h.rises (by omega)
      rw [if_pos (by omega)]
      exact lb_lt h.rises i (by omega)
  · intro hr
    unfold insF
    by_cases c : x < y
    · rw [if_pos c] at hr ⊢
      have hm : lb K x n ≤ lb K y n := lb_mono h.rises (by omega)
      rw [if_neg (by omega), if_neg (by omega)]
      exact lb_ge (K := K) (x := y) (n := n) _ (by omega) (by omega)
    · rw [if_neg c] at hr ⊢
      have hm : lb K y n ≤ lb K x n := lb_mono h.rises (by omega)
      by_cases c1 : lb K y n + 0 < lb K x n
      · rw [if_pos c1]; exact lb_ge (K := K) (x := y) (n := n) _ (by omega) (by omega)
      · rw [if_neg c1, if_pos (by omega)]; omega
theorem del_strict {K : Nat → Nat} {n q : Nat} (h : strict K n) (hq : q < n) : strict (delF K q) (n - 1) := by
  intro i j hij hj
  unfold delF
  by_cases c1 : j < q
  · rw [if_pos c1, if_pos (by omega)]; exact h i j hij (by omega)
  · rw [if_neg c1]
    by_cases c2 : i < q
    · rw [if_pos c2]; exact h i (j + 1) (by omega) (by omega)
    · rw [if_neg c2]; exact h (i + 1) (j + 1) (by omega) (by omega)
theorem lb_del {K : Nat → Nat} {n x : Nat} (h : strict K n) (hx : ixHas K n x) (y : Nat) : lb (delF K (lb K x n)) y (n - 1) = lb K y n - (if x < y then 1 else 0) := by
  obtain ⟨h1, h2⟩ := hx
  have hs := del_strict h h1
  have hy := lb_le K y n
  refine (lb_uniq hs.rises ?_ ?_ ?_).symm
  · by_cases c : x < y
    · rw [if_pos c]; omega
    · rw [if_neg c]
      have hm : lb K y n ≤ lb K x n := lb_mono h.rises (by omega)
      omega
  · intro i hi
    unfold delF
    by_cases c : x < y
    · rw [if_pos c] at hi
      by_cases c1 : i < lb K x n
      · rw [if_pos c1]; have := lb_lt h.rises i c1; omega
      · rw [if_neg c1]; exact lb_lt h.rises (i + 1) (by omega)
    · rw [if_neg c] at hi
      have hm : lb K y n ≤ lb K x n := lb_mono h.rises (by omega)
      rw [if_pos (by omega)]
      exact lb_lt h.rises i (by omega)
  · intro hr
    unfold delF
    by_cases c : x < y
    · rw [if_pos c] at hr ⊢
      have hm : lb K x n < lb K y n := by
        rcases Nat.lt_or_ge (lb K x n) (lb K y n) with q | q
        · exact q
        · have := lb_ge (K := K) (x := y) (n := n) (lb K x n) q h1; omega
      rw [if_neg (by omega)]
      exact lb_ge (K := K) (x := y) (n := n) _ (by omega) (by omega)
    · rw [if_neg c] at hr ⊢
      have hm : lb K y n ≤ lb K x n := lb_mono h.rises (by omega)
      by_cases c1 : lb K y n - 0 < lb K x n
      · rw [if_pos c1]; exact lb_ge (K := K) (x := y) (n := n) _ (by omega) (by omega)
      · rw [if_neg c1]; exact lb_ge (K := K) (x := y) (n := n) _ (by omega) (by omega)
/-- bits, size, keys, buckets, splits, joins; the keys, the marks -/
abbrev Ix : Type := Nat × Nat × Nat × Nat × Nat × Nat × (Nat → Nat) × (Nat → Nat)
def Ok : Ix → Prop
  | (b, s, n, m, _, _, K, M) => 4 ≤ b ∧ b ≤ 16 ∧ 2 ≤ s ∧ s ≤ 5 ∧ n ≤ 96 ∧ 1 ≤ m ∧ strict K n ∧ (∀ i, i < n → K i < 2 ^ b) ∧ rises M m ∧ M (m - 1) = 2 ^ b - 1 ∧ (m = 1 ∨ ∀ i, i < m → 2 ≤ kin K n M i)
theorem pow_le16 {b : Nat} (h : b ≤ 16) : 2 ^ b ≤ 65536 := by
  have := Nat.pow_le_pow_right (n := 2) (by omega) h
  simpa using this
theorem pow_ge16 {b : Nat} (h : 4 ≤ b) : 16 ≤ 2 ^ b := by
  have := Nat.pow_le_pow_right (n := 2) (by omega) h
  simpa using this
theorem eo_grow {K : Nat → Nat} {n : Nat} {M : Nat → Nat} {m : Nat} (hK : rises K n) (hM : rises M m) (h : ∀ i, i < m → 2 ≤ kin K n M i) : ∀ i, i < m → 2 * (i + 1) ≤ eo K n M i := by
  intro i
  induction i with
  | zero =>
    intro hi
    have := h 0 hi
    unfold kin at this
    omega
  | succ i ih =>
    intro hi
    have q := h (i + 1) hi
    have q2 := ih (by omega)
    unfold kin so at q
    rw [if_neg (by omega)] at q
    have e : i + 1 - 1 = i := by omega
    rw [e] at q
    omega
theorem eo_grow7 {K : Nat → Nat} {n : Nat} {M : Nat → Nat} {m t : Nat} (hK : rises K n) (hM : rises M m) (h : ∀ i, i < m → 2 ≤ kin K n M i) (ht : t < m) (h7 : 7 ≤ kin K n M t) : ∀ k, t + k < m → 2 * (t + k + 1) + 5 ≤ eo K n M (t + k) := by
  intro k
  induction k with
  | zero =>
    intro hi
    unfold kin so at h7
    by_cases c : t = 0
    · rw [if_pos c] at h7; simp only [Nat.add_zero]; omega
    · rw [if_neg c] at h7
      have := eo_grow hK hM h (t - 1) (by omega)
      simp only [Nat.add_zero]
      omega
  | succ k ih =>
    intro hi
    have q := h (t + (k + 1)) hi
    have q2 := ih (by omega)
    unfold kin so at q
    rw [if_neg (by omega)] at q
    have e : t + (k + 1) - 1 = t + k := by omega
    rw [e] at q
    omega
theorem m_small {K : Nat → Nat} {n : Nat} {M : Nat → Nat} {m : Nat} (hn : n ≤ 96) (hK : rises K n) (hM : rises M m) (h : m = 1 ∨ ∀ i, i < m → 2 ≤ kin K n M i) : m ≤ 48 := by
  rcases h with h | h
  · omega
  · rcases Nat.lt_or_ge 48 m with c | c
    · have q := eo_grow hK hM h 48 c
      have := eo_le K n M 48
      omega
    · exact c
theorem m_room {K : Nat → Nat} {n : Nat} {M : Nat → Nat} {m t : Nat} (hn : n ≤ 96) (hK : rises K n) (hM : rises M m) (h : m = 1 ∨ ∀ i, i < m → 2 ≤ kin K n M i) (ht : t < m) (h7 : 7 ≤ kin K n M t) : m ≤ 45 := by
  rcases h with h | h
  · omega
  · have q := eo_grow7 hK hM h ht h7 (m - 1 - t) (by omega)
    have := eo_le K n M (t + (m - 1 - t))
    omega
theorem M_le {M : Nat → Nat} {m i : Nat} (h : rises M m) (hi : i < m) : M i ≤ M (m - 1) := by
  by_cases e : i = m - 1
  · rw [e]; exact Nat.le_refl _
  · exact h i (m - 1) (by omega) (by omega)
/-- the mark of the lesser half of a bucket -/
def mkH (K : Nat → Nat) (n : Nat) (M : Nat → Nat) (i : Nat) : Nat := K (so K n M i + kin K n M i / 2 - 1)
def ixHalve : Ix → Nat → Ix
  | (b, s, n, m, p, j, K, M), i => (b, s, n, m + 1, p + 1, j, K, insF M i (mkH K n M i))
theorem mk_bounds {K : Nat → Nat} {n : Nat} {M : Nat → Nat} {m i : Nat} (hK : strict K n) (hM : rises M m) (hi : i < m) (h7 : 4 ≤ kin K n M i) : so K n M i + kin K n M i / 2 - 1 < n ∧ mkH K n M i ≤ M i ∧ (0 < i → M (i - 1) < mkH K n M i) ∧ lb K (mkH K n M i + 1) n = so K n M i + kin K n M i / 2 := by
  have h1 := so_le_eo hK.rises hM hi
  have h2 := eo_le K n M i
  have e : eo K n M i = so K n M i + kin K n M i := by unfold kin; omega
  have hq : so K n M i + kin K n M i / 2 - 1 < n := by omega
  refine ⟨hq, ?_, ?_, ?_⟩
  · unfold mkH
    have := lb_lt hK.rises (x := M i + 1) (so K n M i + kin K n M i / 2 - 1) (by unfold eo at e; omega)
    omega
  · intro h0
    unfold mkH
    have hso : so K n M i = lb K (M (i - 1) + 1) n := by unfold so; rw [if_neg (by omega)]; rfl
    have := lb_ge (K := K) (x := M (i - 1) + 1) (n := n) (so K n M i + kin K n M i / 2 - 1) (by omega) hq
    omega
  · unfold mkH
    rw [lb_at hK hq]
    omega
theorem halve_kin {K : Nat → Nat} {n : Nat} {M : Nat → Nat} {m i : Nat} (hK : strict K n) (hM : rises M m) (hi : i < m) (h7 : 4 ≤ kin K n M i) (h : m = 1 ∨ ∀ t, t < m → 2 ≤ kin K n M t) : ∀ t, t < m + 1 → 2 ≤ kin K n (insF M i (mkH K n M i)) t := by
  obtain ⟨b1, b2, b3, b4⟩ := mk_bounds hK hM hi h7
  have hse := so_le_eo hK.rises hM hi
  have e : eo K n M i = so K n M i + kin K n M i := by unfold kin; omega
  have E : ∀ t, eo K n (insF M i (mkH K n M i)) t = if t < i then eo K n M t else if t = i then so K n M i + kin K n M i / 2 else eo K n M (t - 1) := by
    intro t
    unfold eo insF
    by_cases c1 : t < i
    · rw [if_pos c1, if_pos c1]
    · rw [if_neg c1, if_neg c1]
      by_cases c2 : t = i
      · rw [if_pos c2, if_pos c2]; exact b4
      · rw [if_neg c2, if_neg c2]
  intro t ht
  unfold kin so
  by_cases c1 : t < i
  · have hh : 2 ≤ kin K n M t := by
      rcases h with h | h
      · omega
      · exact h t (by omega)
    unfold kin so at hh
    rw [E t, if_pos c1]
    by_cases c0 : t = 0
    · rw [if_pos c0] at hh ⊢; exact hh
    · rw [if_neg c0] at hh ⊢
      rw [E (t - 1), if_pos (by omega)]; exact hh
  · by_cases c2 : t = i
    · subst c2
      rw [E t, if_neg (by omega), if_pos rfl]
      by_cases c0 : t = 0
      · rw [if_pos c0]; unfold so at *; rw [if_pos c0] at *; omega
      · rw [if_neg c0, E (t - 1), if_pos (by omega)]
        have hso : so K n M t = eo K n M (t - 1) := by unfold so; rw [if_neg c0]
        omega
    · rw [E t, if_neg c1, if_neg c2, if_neg (by omega)]
      by_cases c3 : t = i + 1
      · subst c3
        have e1 : i + 1 - 1 = i := by omega
        rw [e1, E i, if_neg (by omega), if_pos rfl]
        omega
      · have hh : 2 ≤ kin K n M (t - 1) := by
          rcases h with h | h
          · omega
          · exact h (t - 1) (by omega)
        unfold kin so at hh
        rw [if_neg (by omega)] at hh
        rw [E (t - 1), if_neg (by omega), if_neg (by omega)]
        exact hh
theorem halve_rises {K : Nat → Nat} {n : Nat} {M : Nat → Nat} {m i : Nat} (hK : strict K n) (hM : rises M m) (hi : i < m) (h7 : 4 ≤ kin K n M i) : rises (insF M i (mkH K n M i)) (m + 1) := by
  obtain ⟨b1, b2, b3, b4⟩ := mk_bounds hK hM hi h7
  intro u v huv hv
  unfold insF
  by_cases c1 : v < i
  · rw [if_pos c1, if_pos (by omega)]; exact hM u v huv (by omega)
  · rw [if_neg c1]
    by_cases c2 : v = i
    · rw [if_pos c2, if_pos (by omega)]
      have := b3 (by omega)
      by_cases e : u = i - 1
      · rw [e]; omega
      · have := hM u (i - 1) (by omega) (by omega); omega
    · rw [if_neg c2]
      by_cases c3 : u < i
      · rw [if_pos c3]; exact hM u (v - 1) (by omega) (by omega)
      · rw [if_neg c3]
        by_cases c4 : u = i
        · rw [if_pos c4]
          by_cases e : i = v - 1
          · rw [← e]; exact b2
          · have := hM i (v - 1) (by omega) (by omega); omega
        · rw [if_neg c4]; exact hM (u - 1) (v - 1) (by omega) (by omega)
theorem Ok_halve {a : Ix} {i : Nat} (h : Ok a) (hi : i < a.2.2.2.1) (h7 : 7 ≤ kin a.2.2.2.2.2.2.1 a.2.2.1 a.2.2.2.2.2.2.2 i) : Ok (ixHalve a i) := by
  obtain ⟨b, s, n, m, p, j, K, M⟩ := a
  obtain ⟨h1, h2, h3, h4, h5, h6, hK, hKb, hM, hT, hk⟩ := h
  dsimp only at hi h7
  refine ⟨h1, h2, h3, h4, h5, by omega, hK, hKb, halve_rises hK hM hi (by omega), ?_, Or.inr (halve_kin hK hM hi (by omega) hk)⟩
  show insF M i (mkH K n M i) (m + 1 - 1) = 2 ^ b - 1
  unfold insF
  rw [if_neg (by omega), if_neg (by omega)]
  exact hT
def ixPut : Ix → Nat → Ix
  | (b, s, n, m, p, j, K, M), x => if 4 * s < kin (insF K (lb K x n) x) (n + 1) M (lb M x m) then ixHalve (b, s, n + 1, m, p, j, insF K (lb K x n) x, M) (lb M x m) else (b, s, n + 1, m, p, j, insF K (lb K x n) x, M)
theorem lbM_lt {M : Nat → Nat} {m x : Nat} (hm : 1 ≤ m) (hM : rises M m) (hx : x ≤ M (m - 1)) : lb M x m < m := by
  rcases Nat.lt_or_ge (lb M x m) m with c | c
  · exact c
  · have := lb_lt hM (x := x) (m - 1) (by omega)
    omega
theorem put_kin {K : Nat → Nat} {n x : Nat} {M : Nat → Nat} {m : Nat} (hK : strict K n) (hx : ¬ ixHas K n x) (hM : rises M m) : ∀ i, i < m → kin K n M i ≤ kin (insF K (lb K x n) x) (n + 1) M i := by
  intro i hi
  unfold kin so eo
  rw [lb_ins hK hx]
  by_cases c : i = 0
  · rw [if_pos c, if_pos c]; omega
  · rw [if_neg c, if_neg c, lb_ins hK hx]
    have h1 := hM (i - 1) i (by omega) hi
    have h2 : lb K (M (i - 1) + 1) n ≤ lb K (M i + 1) n := lb_mono hK.rises (by omega)
    by_cases c2 : x < M (i - 1) + 1
    · rw [if_pos c2, if_pos (by omega)]; omega
    · rw [if_neg c2]; omega
theorem ins_bound {K : Nat → Nat} {n x B : Nat} (h : ∀ i, i < n → K i < B) (hx : x < B) (r : Nat) (hr : r ≤ n) : ∀ i, i < n + 1 → insF K r x i < B := by
  intro i hi
  unfold insF
  by_cases c : i < r
  · rw [if_pos c]; exact h i (by omega)
  · rw [if_neg c]
    by_cases c2 : i = r
    · rw [if_pos c2]; exact hx
    · rw [if_neg c2]; exact h (i - 1) (by omega)
theorem Ok_put {a : Ix} {x : Nat} (h : Ok a) (hx : x < 2 ^ a.1) (hh : ¬ ixHas a.2.2.2.2.2.2.1 a.2.2.1 x) (hn : a.2.2.1 < 96) : Ok (ixPut a x) := by
  obtain ⟨b, s, n, m, p, j, K, M⟩ := a
  obtain ⟨h1, h2, h3, h4, h5, h6, hK, hKb, hM, hT, hk⟩ := h
  dsimp only at hx hh hn
  have base : Ok (b, s, n + 1, m, p, j, insF K (lb K x n) x, M) := by
    refine ⟨h1, h2, h3, h4, by omega, h6, ins_strict hK hh, ins_bound hKb hx _ (lb_le K x n), hM, hT, ?_⟩
    rcases hk with hk | hk
    · exact Or.inl hk
    · exact Or.inr (fun i hi => Nat.le_trans (hk i hi) (put_kin hK hh hM i hi))
  unfold ixPut
  dsimp only
  by_cases c : 4 * s < kin (insF K (lb K x n) x) (n + 1) M (lb M x m)
  · rw [if_pos c]
    have hxm : x ≤ M (m - 1) := by rw [hT]; omega
    exact Ok_halve base (lbM_lt h6 hM hxm) (by dsimp only; omega)
  · rw [if_neg c]; exact base
def ixTake : Ix → Nat → Ix
  | (b, s, n, m, p, j, K, M), x => if kin (delF K (lb K x n)) (n - 1) M (lb M x m) < s ∧ 1 < m then
      (if 3 * s < kin (delF K (lb K x n)) (n - 1) (delF M (if lb M x m = m - 1 then lb M x m - 1 else lb M x m)) (if lb M x m = m - 1 then lb M x m - 1 else lb M x m) then ixHalve (b, s, n - 1, m - 1, p, j + 1, delF K (lb K x n), delF M (if lb M x m = m - 1 then lb M x m - 1 else lb M x m)) (if lb M x m = m - 1 then lb M x m - 1 else lb M x m) else (b, s, n - 1, m - 1, p, j + 1, delF K (lb K x n), delF M (if lb M x m = m - 1 then lb M x m - 1 else lb M x m)))
    else (b, s, n - 1, m, p, j, delF K (lb K x n), M)
theorem take_kin {K : Nat → Nat} {n x : Nat} {M : Nat → Nat} {m : Nat} (hK : strict K n) (hx : ixHas K n x) (hM : rises M m) : ∀ i, i < m → i ≠ lb M x m → kin (delF K (lb K x n)) (n - 1) M i = kin K n M i := by
  intro i hi hne
  unfold kin so eo
  rw [lb_del hK hx]
  rcases Nat.lt_trichotomy i (lb M x m) with c | c | c
  · have hxi := lb_lt hM i c
    rw [if_neg (by omega)]
    by_cases c0 : i = 0
    · rw [if_pos c0, if_pos c0]; omega
    · rw [if_neg c0, if_neg c0, lb_del hK hx]
      have := lb_lt hM (x := x) (i - 1) (by omega)
      rw [if_neg (by omega)]
      omega
  · exact absurd c hne
  · have hxi := lb_ge (K := M) (x := x) (n := m) i (by omega) hi
    have hxj := lb_ge (K := M) (x := x) (n := m) (i - 1) (by omega) (by omega)
    rw [if_pos (by omega), if_neg (by omega), if_neg (by omega), lb_del hK hx, if_pos (by omega)]
    have hpos : 0 < lb K (M (i - 1) + 1) n := by
      rcases Nat.eq_zero_or_pos (lb K (M (i - 1) + 1) n) with q | q
      · have := lb_ge (K := K) (x := M (i - 1) + 1) (n := n) (lb K x n) (by omega) hx.1
        have := hx.2
        omega
      · exact q
    have h2 : lb K (M (i - 1) + 1) n ≤ lb K (M i + 1) n := lb_mono hK.rises (by have := hM (i - 1) i (by omega) hi; omega)
    omega
theorem join_kin {K : Nat → Nat} {n : Nat} {M : Nat → Nat} {m f : Nat} (hK : rises K n) (hM : rises M m) (hf : f + 1 < m) : ∀ t, t < m - 1 → kin K n (delF M f) t = if t < f then kin K n M t else if t = f then kin K n M f + kin K n M (f + 1) else kin K n M (t + 1) := by
  have E : ∀ t, eo K n (delF M f) t = if t < f then eo K n M t else eo K n M (t + 1) := by
    intro t
    unfold eo delF
    by_cases c : t < f
    · rw [if_pos c, if_pos c]
    · rw [if_neg c, if_neg c]
  intro t ht
  by_cases c : t < f
  · rw [if_pos c]
    unfold kin so
    rw [E t, if_pos c]
    by_cases c0 : t = 0
    · rw [if_pos c0, if_pos c0]
    · rw [if_neg c0, if_neg c0, E (t - 1), if_pos (by omega)]
  · rw [if_neg c]
    by_cases c1 : t = f
    · rw [if_pos c1]
      have a1 := so_le_eo hK hM (i := f) (by omega)
      have a2 := so_le_eo hK hM (i := f + 1) (by omega)
      have a3 : so K n M (f + 1) = eo K n M f := by unfold so; rw [if_neg (by omega)]; rfl
      subst c1
      have s1 : so K n (delF M t) t = so K n M t := by
        unfold so
        by_cases c0 : t = 0
        · rw [if_pos c0, if_pos c0]
        · rw [if_neg c0, if_neg c0, E (t - 1), if_pos (by omega)]
      unfold kin
      rw [s1, E t, if_neg (by omega), a3]
      rw [a3] at a2
      omega
    · rw [if_neg c1]
      unfold kin so
      rw [E t, if_neg (by omega), if_neg (by omega), if_neg (by omega), E (t - 1), if_neg (by omega)]
      have e : t - 1 + 1 = t + 1 - 1 := by omega
      rw [e]
theorem del_rises {M : Nat → Nat} {m f : Nat} (hM : rises M m) (hf : f < m) : rises (delF M f) (m - 1) := by
  intro i j hij hj
  unfold delF
  by_cases c1 : j < f
  · rw [if_pos c1, if_pos (by omega)]; exact hM i j hij (by omega)
  · rw [if_neg c1]
    by_cases c2 : i < f
    · rw [if_pos c2]; exact hM i (j + 1) (by omega) (by omega)
    · rw [if_neg c2]; exact hM (i + 1) (j + 1) (by omega) (by omega)
theorem Ok_take {a : Ix} {x : Nat} (h : Ok a) (hx : ixHas a.2.2.2.2.2.2.1 a.2.2.1 x) : Ok (ixTake a x) := by
  obtain ⟨b, s, n, m, p, j, K, M⟩ := a
  obtain ⟨h1, h2, h3, h4, h5, h6, hK, hKb, hM, hT, hk⟩ := h
  dsimp only at hx
  have hs := del_strict hK hx.1
  have hb : ∀ i, i < n - 1 → delF K (lb K x n) i < 2 ^ b := by
    intro i hi
    unfold delF
    split
    · exact hKb i (by omega)
    · exact hKb (i + 1) (by omega)
  have hxb : x < 2 ^ b := by rw [← hx.2]; exact hKb _ hx.1
  have hi := lbM_lt h6 hM (x := x) (by rw [hT]; omega)
  have tk := take_kin hK hx hM
  unfold ixTake
  dsimp only
  by_cases c : kin (delF K (lb K x n)) (n - 1) M (lb M x m) < s ∧ 1 < m
  · rw [if_pos c]
    generalize hfe : (if lb M x m = m - 1 then lb M x m - 1 else lb M x m) = f
    have hf : f + 1 < m := by rw [← hfe]; split <;> omega
    have hff : lb M x m = f ∨ lb M x m = f + 1 := by rw [← hfe]; split <;> omega
    have hk2 : ∀ i, i < m → 2 ≤ kin K n M i := by
      rcases hk with hk | hk
      · omega
      · exact hk
    have base : Ok (b, s, n - 1, m - 1, p, j + 1, delF K (lb K x n), delF M f) := by
      refine ⟨h1, h2, h3, h4, by omega, by omega, hs, hb, del_rises hM (by omega), ?_, Or.inr (fun t ht => ?_)⟩
      · show delF M f (m - 1 - 1) = 2 ^ b - 1
        unfold delF
        rw [if_neg (by omega)]
        have e : m - 1 - 1 + 1 = m - 1 := by omega
        rw [e]; exact hT
      · rw [join_kin hs.rises hM hf t ht]
        by_cases c1 : t < f
        · rw [if_pos c1, tk t (by omega) (by omega)]; exact hk2 t (by omega)
        · rw [if_neg c1]
          by_cases c2 : t = f
          · rw [if_pos c2]
            rcases hff with q | q
            · have := tk (f + 1) (by omega) (by omega)
              have := hk2 (f + 1) (by omega)
              omega
            · have := tk f (by omega) (by omega)
              have := hk2 f (by omega)
              omega
          · rw [if_neg c2, tk (t + 1) (by omega) (by omega)]; exact hk2 (t + 1) (by omega)
    by_cases c2 : 3 * s < kin (delF K (lb K x n)) (n - 1) (delF M f) f
    · rw [if_pos c2]; exact Ok_halve base (by dsimp only; omega) (by dsimp only; omega)
    · rw [if_neg c2]; exact base
  · rw [if_neg c]
    refine ⟨h1, h2, h3, h4, by omega, h6, hs, hb, hM, hT, ?_⟩
    rcases hk with hk | hk
    · exact Or.inl hk
    · by_cases c1 : m = 1
      · exact Or.inl c1
      · refine Or.inr (fun i hi' => ?_)
        by_cases e : i = lb M x m
        · rw [e]; omega
        · rw [tk i hi' e]; exact hk i hi'
