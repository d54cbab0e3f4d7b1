/-! ===== the pure side: numbers ===== -/
theorem li_0 : (0 : Int32) = nI 0 := rfl
theorem li_1 : (1 : Int32) = nI 1 := rfl
theorem li_2 : (2 : Int32) = nI 2 := rfl
theorem li_3 : (3 : Int32) = nI 3 := rfl
theorem li_4 : (4 : Int32) = nI 4 := rfl
theorem li_5 : (5 : Int32) = nI 5 := rfl
theorem li_6 : (6 : Int32) = nI 6 := rfl
theorem li_8 : (8 : Int32) = nI 8 := rfl
theorem li_10 : (10 : Int32) = nI 10 := rfl
theorem li_12 : (12 : Int32) = nI 12 := rfl
theorem li_16 : (16 : Int32) = nI 16 := rfl
theorem li_24 : (24 : Int32) = nI 24 := rfl
theorem li_32 : (32 : Int32) = nI 32 := rfl
theorem li_36 : (36 : Int32) = nI 36 := rfl
theorem li_48 : (48 : Int32) = nI 48 := rfl
theorem li_50 : (50 : Int32) = nI 50 := rfl
theorem li_57 : (57 : Int32) = nI 57 := rfl
theorem li_59 : (59 : Int32) = nI 59 := rfl
theorem li_64 : (64 : Int32) = nI 64 := rfl
theorem li_72 : (72 : Int32) = nI 72 := rfl
theorem li_96 : (96 : Int32) = nI 96 := rfl
theorem li_97 : (97 : Int32) = nI 97 := rfl
theorem li_100 : (100 : Int32) = nI 100 := rfl
theorem li_101 : (101 : Int32) = nI 101 := rfl
theorem li_102 : (102 : Int32) = nI 102 := rfl
theorem li_104 : (104 : Int32) = nI 104 := rfl
theorem li_105 : (105 : Int32) = nI 105 := rfl
theorem li_108 : (108 : Int32) = nI 108 := rfl
theorem li_110 : (110 : Int32) = nI 110 := rfl
theorem li_112 : (112 : Int32) = nI 112 := rfl
theorem li_122 : (122 : Int32) = nI 122 := rfl
theorem li_127 : (127 : Int32) = nI 127 := rfl
theorem li_152 : (152 : Int32) = nI 152 := rfl
theorem li_200 : (200 : Int32) = nI 200 := rfl
theorem li_255 : (255 : Int32) = nI 255 := rfl
theorem li_999 : (999 : Int32) = nI 999 := rfl
theorem li_1368 : (1368 : Int32) = nI 1368 := rfl
theorem li_1672 : (1672 : Int32) = nI 1672 := rfl
theorem li_1674 : (1674 : Int32) = nI 1674 := rfl
theorem li_1675 : (1675 : Int32) = nI 1675 := rfl
theorem li_1676 : (1676 : Int32) = nI 1676 := rfl
theorem li_1677 : (1677 : Int32) = nI 1677 := rfl
theorem li_1824 : (1824 : Int32) = nI 1824 := rfl
theorem oin_in {α : Type} {a n : Nat} {X : Option α} (h : a < n) (hn : n < 2147483648) : oin (nI a) n X = X := by
  unfold oin
  rw [if_neg (nI_in h hn)]
theorem olet_s {α β : Type} (v : α) (k : α → Option β) : olet v k = k v := rfl
theorem obl_0 {α : Type} (X : Option α) : obl (nI 0) X = X := by
  unfold obl
  exact if_pos (Or.inl rfl)
theorem obl_1 {α : Type} (X : Option α) : obl (nI 1) X = X := by
  unfold obl
  exact if_pos (Or.inr rfl)
theorem onz_n {α : Type} {a : Nat} {X : Option α} (h : 0 < a) (h2 : a < 2147483648) : onz (nI a) X = X := by
  unfold onz
  exact if_neg (nI_ne0 h h2)
theorem nI_neg1 {a : Nat} (h : a < 2147483648) : ¬ nI a = -1 := by
  intro e
  have h1 := congrArg Int32.toInt e
  rw [nI_toInt h] at h1
  have h2 : (-1 : Int32).toInt = -1 := by decide
  omega
theorem nI_nn {a : Nat} (h : a < 2147483648) : ¬ nI a < nI 0 := nI_pos h
/-- how many of the first n are below x (they rise) -/
def lb (K : Nat → Nat) (x : Nat) : Nat → Nat
  | 0 => 0
  | n + 1 => if K n < x then n + 1 else lb K x n
def rises (K : Nat → Nat) (n : Nat) : Prop := ∀ i j, i < j → j < n → K i ≤ K j
theorem rises_sub {K : Nat → Nat} {n k : Nat} (h : rises K n) (hk : k ≤ n) : rises K k := fun i j h1 h2 => h i j h1 (by omega)
theorem lb_le (K : Nat → Nat) (x : Nat) : ∀ n, lb K x n ≤ n
  | 0 => Nat.le_refl 0
  | n + 1 => by
    have h := lb_le K x n
    unfold lb
    split <;> omega
theorem lb_lt {K : Nat → Nat} {x : Nat} : ∀ {n : Nat}, rises K n → ∀ i, i < lb K x n → K i < x
  | 0, _, i, h => by unfold lb at h; omega
  | n + 1, hr, i, h => by
    unfold lb at h
    by_cases c : K n < x
    · rw [if_pos c] at h
      by_cases e : i = n
      · rw [e]; exact c
      · exact Nat.lt_of_le_of_lt (hr i n (by omega) (by omega)) c
    · rw [if_neg c] at h
      exact lb_lt (rises_sub hr (by omega)) i h
theorem lb_ge {K : Nat → Nat} {x : Nat} : ∀ {n : Nat}, ∀ i, lb K x n ≤ i → i < n → x ≤ K i
  | 0, i, _, h => by omega
  | n + 1, i, h, h2 => by
    unfold lb at h
    by_cases c : K n < x
    · rw [if_pos c] at h; omega
    · rw [if_neg c] at h
      by_cases e : i = n
      · rw [e]; omega
      · exact lb_ge i h (by omega)
theorem lb_uniq {K : Nat → Nat} {x n r : Nat} (hr : rises K n) (h0 : r ≤ n) (h1 : ∀ i, i < r → K i < x) (h2 : r < n → x ≤ K r) : r = lb K x n := by
  have hl := lb_le K x n
  rcases Nat.lt_trichotomy r (lb K x n) with c | c | c
  · have q := lb_lt hr r c
    have q2 := h2 (by omega)
    omega
  · exact c
  · have q := lb_ge (K := K) (x := x) (n := n) (lb K x n) (Nat.le_refl _) (by omega)
    have q2 := h1 _ c
    omega
theorem lb_cong {K L : Nat → Nat} {x : Nat} : ∀ {n : Nat}, (∀ i, i < n → K i = L i) → lb K x n = lb L x n
  | 0, _ => rfl
  | n + 1, h => by
    unfold lb
    rw [h n (by omega), lb_cong (fun i hi => h i (by omega))]
theorem lb_mono {K : Nat → Nat} {x y n : Nat} (hr : rises K n) (h : x ≤ y) : lb K x n ≤ lb K y n := by
  rcases Nat.lt_or_ge (lb K y n) (lb K x n) with c | c
  · have h1 := lb_lt hr (lb K y n) c
    have h2 := lb_ge (K := K) (x := y) (n := n) (lb K y n) (Nat.le_refl _) (by have := lb_le K x n; omega)
    omega
  · exact c
/-- put in at a place, taken out of a place -/
def insF (K : Nat → Nat) (p x : Nat) : Nat → Nat := fun i => if i < p then K i else if i = p then x else K (i - 1)
def delF (K : Nat → Nat) (p : Nat) : Nat → Nat := fun i => if i < p then K i else K (i + 1)
/-- the first n places of a row hold the numbers K -/
def holdsA (a : Nat → Int32) (n : Nat) (K : Nat → Nat) : Prop := ∀ i, i < n → a i = nI (K i)
theorem upd_at (f : Nat → Int32) (k : Nat) (x : Int32) : upd f k x k = x := by simp [upd]
theorem upd_ne {f : Nat → Int32} {k j : Nat} {x : Int32} (h : j ≠ k) : upd f k x j = f j := by simp [upd, h]
/-! ===== halving, putting in, taking out: the class's own rows ===== -/
theorem fnb_loop {N n x : Nat} {a0 : Nat → Int32} {K : Nat → Nat} (hN : N ≤ 2000) (hnN : n ≤ N) (hx : x < 2147483648) (ha : holdsA a0 n K) (hK : ∀ i, i < n → K i < 2147483648) (hs : rises K n) :
    ∀ (k f lo hi st : Nat), hi - lo < 2 ^ k → k < f → st + k ≤ 31 → lo ≤ hi → hi ≤ n → (∀ i, i < lo → K i < x) → (∀ i, hi ≤ i → i < n → x ≤ K i) →
      ∃ h' s', lpX6_firstNotBelow_19 N (nI x) a0 f (nI lo) (nI hi) (nI st) = some (nI (lb K x n), h', s') := by
  intro k
  induction k with
  | zero =>
    intro f lo hi st h1 h2 h3 h4 h5 h6 h7
    have e : lo = hi := by simp at h1; omega
    subst e
    obtain ⟨f, rfl⟩ : ∃ g, f = g + 1 := ⟨f - 1, by omega⟩
    rw [lpX6_firstNotBelow_19, if_pos (nI_le (Nat.le_refl lo) (by omega))]
    rw [← lb_uniq hs h5 h6 (fun q => h7 lo (Nat.le_refl _) q)]
    exact ⟨_, _, rfl⟩
  | succ k ih =>
    intro f lo hi st h1 h2 h3 h4 h5 h6 h7
    obtain ⟨f, rfl⟩ : ∃ g, f = g + 1 := ⟨f - 1, by omega⟩
    rw [lpX6_firstNotBelow_19]
    by_cases c : hi ≤ lo
    · have e : lo = hi := by omega
      subst e
      rw [if_pos (nI_le (Nat.le_refl lo) (by omega)), ← lb_uniq hs h5 h6 (fun q => h7 lo (Nat.le_refl _) q)]
      exact ⟨_, _, rfl⟩
    · rw [if_neg (nI_ge (by omega) (by omega)), if_neg (show ¬ (32 : Int32) ≤ nI st from nI_ge (a := st) (b := 32) (by omega) (by omega))]
      have hp : 2 ^ (k + 1) = 2 * 2 ^ k := by rw [Nat.pow_succ]; omega
      have hm1 : lo ≤ (lo + hi) / 2 := by omega
      have hm2 : (lo + hi) / 2 < hi := by omega
      have em : (nI lo + nI hi) / 2 = nI ((lo + hi) / 2) := by rw [nI_add]; exact pk_div (d := 2) (by omega) (by omega) (by omega)
      rw [em]
      generalize hmid : (lo + hi) / 2 = mid at *
      have hKm := hK mid (by omega)
      rw [oin_in (by omega) (by omega), nI_clamp (by omega), ha mid (by omega), olet_s, olet_s]
      by_cases c2 : x ≤ K mid
      · rw [if_pos (nI_le c2 hKm), if_pos (nI_le c2 hKm), nI_1 st]
        exact ih f lo mid (st + 1) (by omega) (by omega) (by omega) hm1 (by omega) h6 (fun i q1 q2 => by
          by_cases e : i = mid
          · rw [e]; exact c2
          · exact Nat.le_trans c2 (hs mid i (by omega) q2))
      · rw [if_neg (nI_ge (by omega) hx), if_neg (nI_ge (by omega) hx), nI_1 st, nI_1 mid]
        exact ih f (mid + 1) hi (st + 1) (by omega) (by omega) (by omega) (by omega) h5 (fun i q1 => by
          by_cases e : i = mid
          · rw [e]; omega
          · exact Nat.lt_of_le_of_lt (hs i mid (by omega) (by omega)) (by omega)) h7
theorem fnb {N n x : Nat} {a0 : Nat → Int32} {K : Nat → Nat} (hN : N ≤ 2000) (hnN : n ≤ N) (hx : x < 2147483648) (ha : holdsA a0 n K) (hK : ∀ i, i < n → K i < 2147483648) (hs : rises K n) : fX6_firstNotBelow N a0 (nI n) (nI x) = some (nI (lb K x n)) := by
  unfold fX6_firstNotBelow
  have e : (if nI N ≤ nI n then nI N else nI n) = nI n := by
    by_cases c : N ≤ n
    · have e : N = n := by omega
      rw [e]; simp
    · rw [if_neg (nI_ge (by omega) (by omega))]
  rw [olet_s, e]
  obtain ⟨h', s', q⟩ := fnb_loop hN hnN hx ha hK hs 11 100000 0 n 0 (by omega) (by omega) (by omega) (by omega) (Nat.le_refl n) (fun i h => by omega) (fun i h1 h2 => by omega)
  have q2 : lpX6_firstNotBelow_19 N (nI x) a0 100000 0 (nI n) 0 = some (nI (lb K x n), h', s') := q
  rw [q2, obd_s]
theorem ins_loop {N n p : Nat} {x : Int32} {K : Nat → Nat} {a0 : Nat → Int32} (hN : N < 2147483648) (hn : n < N) (hp : p ≤ n) (ha : holdsA a0 n K) :
    ∀ (k f : Nat) (z : Nat → Int32), p + k ≤ n → k < f → (∀ i, i < p + k → z i = a0 i) → (∀ i, p + k < i → i ≤ n → z i = a0 (i - 1)) →
      ∃ m z', lpX6_insertAt_24 N (nI p) x f (nI (p + k)) z = some (m, z') ∧ (∀ i, i < p → z' i = a0 i) ∧ (∀ i, p < i → i ≤ n → z' i = a0 (i - 1)) := by
  intro k
  induction k with
  | zero =>
    intro f z h1 h2 h3 h4
    obtain ⟨f, rfl⟩ : ∃ g, f = g + 1 := ⟨f - 1, by omega⟩
    rw [lpX6_insertAt_24, if_pos (nI_le (by omega) (by omega))]
    exact ⟨_, _, rfl, h3, h4⟩
  | succ k ih =>
    intro f z h1 h2 h3 h4
    obtain ⟨f, rfl⟩ : ∃ g, f = g + 1 := ⟨f - 1, by omega⟩
    rw [lpX6_insertAt_24, if_neg (nI_ge (by omega) (by omega))]
    have e1 : nI (p + (k + 1)) - 1 = nI (p + k) := nI_pred (p + k)
    have e2 : nI (p + (k + 1)) + -1 = nI (p + k) := pk_m1 (p + k)
    rw [e1, e2, oin_in (by omega) hN, oin_in (by omega) hN, nI_clamp (by omega), nI_clamp (by omega)]
    refine ih f _ (by omega) (by omega) (fun i q => ?_) (fun i q1 q2 => ?_)
    · rw [upd_ne (by omega)]; exact h3 i (by omega)
    · by_cases e : i = p + (k + 1)
      · rw [e, upd_at, h3 _ (by omega)]
        rfl
      · rw [upd_ne e]; exact h4 i (by omega) q2
theorem ins {N n p : Nat} {x : Nat} {K : Nat → Nat} {a0 : Nat → Int32} (hN : N ≤ 2000) (hn : n < N) (hp : p ≤ n) (ha : holdsA a0 n K) : ∃ z, fX6_insertAt N a0 (nI n) (nI p) (nI x) = some (1, z) ∧ holdsA z (n + 1) (insF K p x) := by
  unfold fX6_insertAt
  rw [if_neg (nI_pos (by omega)), if_neg (nI_ge hn (by omega)), if_neg (nI_pos (by omega)), if_pos (nI_le hp (by omega))]
  obtain ⟨m, z, q, h1, h2⟩ := ins_loop (x := nI x) (by omega) hn hp ha (n - p) 100000 a0 (by omega) (by omega) (fun i _ => rfl) (fun i q1 q2 => by omega)
  have e : p + (n - p) = n := by omega
  rw [e] at q
  rw [q, obd_s, oin_in (by omega) (by omega), nI_clamp (by omega)]
  dsimp only
  refine ⟨_, obl_1 _, fun i hi => ?_⟩
  unfold insF
  by_cases c1 : i < p
  · rw [if_pos c1, upd_ne (by omega), h1 i c1]; exact ha i (by omega)
  · rw [if_neg c1]
    by_cases c2 : i = p
    · rw [if_pos c2, c2, upd_at]
    · rw [if_neg c2, upd_ne c2, h2 i (by omega) (by omega)]; exact ha (i - 1) (by omega)
theorem ins_full {N : Nat} {p x : Int32} {a0 : Nat → Int32} (hN : N ≤ 2000) : fX6_insertAt N a0 (nI N) p x = some (0, a0) := by
  unfold fX6_insertAt
  rw [if_neg (nI_pos (by omega)), if_pos (nI_le (Nat.le_refl N) (by omega))]
  exact obl_0 _
theorem del_loop {N n p : Nat} {K : Nat → Nat} {a0 : Nat → Int32} (hN : N < 2147483648) (hn : n ≤ N) (hp : p < n) (ha : holdsA a0 n K) :
    ∀ (k f q : Nat) (z : Nat → Int32), q + k + 1 = n → p ≤ q → k < f → (∀ i, i < p → z i = a0 i) → (∀ i, p ≤ i → i < q → z i = a0 (i + 1)) → (∀ i, q ≤ i → i < n → z i = a0 i) →
      ∃ m z', lpX6_deleteAt_23 N (nI n) f (nI q) z = some (m, z') ∧ (∀ i, i < p → z' i = a0 i) ∧ (∀ i, p ≤ i → i < n - 1 → z' i = a0 (i + 1)) := by
  intro k
  induction k with
  | zero =>
    intro f q z h1 h2 h3 h4 h5 h6
    obtain ⟨f, rfl⟩ : ∃ g, f = g + 1 := ⟨f - 1, by omega⟩
    have e1 : nI n - 1 = nI (n - 1) := pk_sub (b := 1) (by omega)
    rw [lpX6_deleteAt_23, e1, if_pos (nI_le (by omega) (by omega))]
    exact ⟨_, _, rfl, h4, fun i q1 q2 => h5 i q1 (by omega)⟩
  | succ k ih =>
    intro f q z h1 h2 h3 h4 h5 h6
    obtain ⟨f, rfl⟩ : ∃ g, f = g + 1 := ⟨f - 1, by omega⟩
    have e1 : nI n - 1 = nI (n - 1) := pk_sub (b := 1) (by omega)
    have e2 : nI q + 1 = nI (q + 1) := nI_1 q
    rw [lpX6_deleteAt_23, e1, if_neg (nI_ge (by omega) (by omega)), e2, oin_in (by omega) hN, oin_in (by omega) hN, nI_clamp (by omega), nI_clamp (by omega)]
    refine ih f (q + 1) _ (by omega) (by omega) (by omega) (fun i q1 => ?_) (fun i q1 q2 => ?_) (fun i q1 q2 => ?_)
    · rw [upd_ne (by omega)]; exact h4 i q1
    · by_cases e : i = q
      · rw [e, upd_at]; exact h6 (q + 1) (by omega) (by omega)
      · rw [upd_ne e]; exact h5 i q1 (by omega)
    · rw [upd_ne (by omega)]; exact h6 i (by omega) q2
theorem del {N n p : Nat} {K : Nat → Nat} {a0 : Nat → Int32} (hN : N ≤ 2000) (hn : n ≤ N) (hp : p < n) (ha : holdsA a0 n K) : ∃ z, fX6_deleteAt N a0 (nI n) (nI p) = some (1, z) ∧ holdsA z (n - 1) (delF K p) := by
  unfold fX6_deleteAt
  rw [if_neg (nI_pos (by omega)), if_neg (nI_nlt hn (by omega)), if_neg (nI_pos (by omega)), if_pos (nI_lt hp (by omega))]
  obtain ⟨m, z, q, h1, h2⟩ := del_loop (by omega) hn hp ha (n - 1 - p) 100000 p a0 (by omega) (Nat.le_refl p) (by omega) (fun i _ => rfl) (fun i q1 q2 => by omega) (fun i _ _ => rfl)
  rw [q, obd_s]
  dsimp only
  refine ⟨_, obl_1 _, fun i hi => ?_⟩
  unfold delF
  by_cases c1 : i < p
  · rw [if_pos c1, h1 i c1]; exact ha i (by omega)
  · rw [if_neg c1, h2 i (by omega) hi]; exact ha (i + 1) (by omega)
