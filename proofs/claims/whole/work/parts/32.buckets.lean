/-! ===== Buckets: what the class's own functions answer, over the mathematical index ===== -/
def Cx (n m : Nat) (K M : Nat → Nat) (keys marks : Nat → Int32) : Prop := n ≤ 96 ∧ m ≤ 48 ∧ 1 ≤ m ∧ strict K n ∧ (∀ i, i < n → K i < 65536) ∧ rises M m ∧ (∀ i, i < m → M i < 65536) ∧ holdsA keys n K ∧ holdsA marks m M
theorem sh_k : ∀ n, n < 32 → ((nI n &&& 31).toBitVec.smod 32).toNat = n := by decide
theorem shl_n {n k : Nat} (hk : k < 32) (h : n * 2 ^ k < 4294967296) : nI n <<< (nI k &&& 31) = nI (n * 2 ^ k) := pk_shlN _ k (sh_k k hk) h
theorem shr_n {n k : Nat} (hk : k < 32) (h : n < 2147483648) : nI n >>> (nI k &&& 31) = nI (n / 2 ^ k) := pk_shrN h _ k (sh_k k hk)
theorem top_e {b : Nat} (hb : b ≤ 16) : (1 : Int32) <<< (nI b &&& 31) - 1 = nI (2 ^ b - 1) := by
  have h1 := pow_le16 hb
  have e : (1 : Int32) <<< (nI b &&& 31) = nI (2 ^ b) := by
    have := shl_n (n := 1) (k := b) (by omega) (by omega)
    rw [Nat.one_mul] at this
    exact this
  have hp : 0 < 2 ^ b := Nat.pow_pos (by omega)
  rw [e]
  exact pk_sub (b := 1) (by omega)
theorem fX0_top_e {b : Nat} (hb : b ≤ 16) : fX0_top (nI b) = some (nI (2 ^ b - 1)) := by
  unfold fX0_top
  rw [top_e hb]
theorem rank_e {n x : Nat} {K : Nat → Nat} {keys : Nat → Int32} (hn : n ≤ 96) (hK : strict K n) (hb : ∀ i, i < n → K i < 65536) (ha : holdsA keys n K) (hx : x < 2147483648) : fX0_rankOf (nI n) keys (nI x) = some (nI (lb K x n)) := by
  unfold fX0_rankOf
  rw [fnb (by omega) hn hx ha (fun i hi => by have := hb i hi; omega) hK.rises]
  rfl
theorem keyAt_in {n i : Nat} {K : Nat → Nat} {keys : Nat → Int32} (hn : n ≤ 96) (ha : holdsA keys n K) (hi : i < n) : fX0_keyAt (nI n) keys (nI i) = some (nI (K i)) := by
  unfold fX0_keyAt
  rw [if_neg (nI_pos (by omega)), if_neg (nI_ge hi (by omega)), if_neg (show ¬ (96 : Int32) ≤ nI i from nI_ge (b := 96) (by omega) (by omega)), oin_in (by omega) (by omega), nI_clamp (by omega), ha i hi]
  rfl
theorem keyAt_out {n i : Nat} {keys : Nat → Int32} (hn : n ≤ 96) (hi : n ≤ i) (h : i < 2147483648) : fX0_keyAt (nI n) keys (nI i) = some (-1) := by
  unfold fX0_keyAt
  rw [if_neg (nI_pos (by omega)), if_pos (nI_le hi h)]
  rfl
theorem keyAt_neg {kc : Int32} {keys : Nat → Int32} : fX0_keyAt kc keys (-1) = some (-1) := by
  unfold fX0_keyAt
  rw [if_pos (by decide)]
  rfl
theorem markAt_in {m i : Nat} {M : Nat → Nat} {marks : Nat → Int32} (hm : m ≤ 48) (ha : holdsA marks m M) (hi : i < m) : fX0_markAt (nI m) marks (nI i) = some (nI (M i)) := by
  unfold fX0_markAt
  rw [if_neg (nI_pos (by omega)), if_neg (nI_ge hi (by omega)), if_neg (show ¬ (48 : Int32) ≤ nI i from nI_ge (b := 48) (by omega) (by omega)), oin_in (by omega) (by omega), nI_clamp (by omega), ha i hi]
  rfl
theorem markAt_neg {mc : Int32} {marks : Nat → Int32} : fX0_markAt mc marks (-1) = some (-1) := by
  unfold fX0_markAt
  rw [if_pos (by decide)]
  rfl
theorem markAt_out {m i : Nat} {marks : Nat → Int32} (hm : m ≤ 48) (hi : m ≤ i) (h : i < 2147483648) : fX0_markAt (nI m) marks (nI i) = some (-1) := by
  unfold fX0_markAt
  rw [if_neg (nI_pos (by omega)), if_pos (nI_le hi h)]
  rfl
theorem holds_t {n x : Nat} {K : Nat → Nat} {keys : Nat → Int32} (hn : n ≤ 96) (hK : strict K n) (hb : ∀ i, i < n → K i < 65536) (ha : holdsA keys n K) (hx : x < 2147483648) (h : ixHas K n x) : fX0_holds (nI n) keys (nI x) = some 1 := by
  unfold fX0_holds
  rw [if_neg (nI_pos (by omega)), rank_e hn hK hb ha hx, obd_s, keyAt_in hn ha h.1, obd_s, h.2, if_pos rfl, obd_s]
  exact obl_1 _
theorem holds_f {n x : Nat} {K : Nat → Nat} {keys : Nat → Int32} (hn : n ≤ 96) (hK : strict K n) (hb : ∀ i, i < n → K i < 65536) (ha : holdsA keys n K) (hx : x < 2147483648) (h : ¬ ixHas K n x) : fX0_holds (nI n) keys (nI x) = some 0 := by
  unfold fX0_holds
  have hl := lb_le K x n
  rw [if_neg (nI_pos (by omega)), rank_e hn hK hb ha hx, obd_s]
  by_cases c : lb K x n < n
  · have := hb _ c
    rw [keyAt_in hn ha c, obd_s, if_neg (fun e => h ⟨c, (nI_eq (by omega) hx).mp e⟩), obd_s]
    exact obl_0 _
  · rw [keyAt_out hn (by omega) (by omega), obd_s, if_neg (fun e => nI_neg1 hx e.symm), obd_s]
    exact obl_0 _
theorem bucket_e {m x : Nat} {M : Nat → Nat} {marks : Nat → Int32} (hm : m ≤ 48) (hM : rises M m) (hb : ∀ i, i < m → M i < 65536) (ha : holdsA marks m M) (hx : x < 2147483648) : fX0_bucketOf (nI m) marks (nI x) = some (nI (lb M x m)) := by
  unfold fX0_bucketOf
  rw [fnb (by omega) hm hx ha (fun i hi => by have := hb i hi; omega) hM]
  rfl
theorem end_in {n m i : Nat} {K M : Nat → Nat} {keys marks : Nat → Int32} (h : Cx n m K M keys marks) (hi : i < m) : fX0_endOf (nI n) (nI m) keys marks (nI i) = some (nI (eo K n M i)) := by
  obtain ⟨h1, h2, h3, h4, h5, h6, h7, h8, h9⟩ := h
  unfold fX0_endOf
  have := h7 i hi
  rw [markAt_in h2 h9 hi, obd_s, nI_1, fnb (by omega) h1 (by omega) h8 (fun i hi => by have := h5 i hi; omega) h4.rises]
  rfl
theorem end_neg {n m : Nat} {K M : Nat → Nat} {keys marks : Nat → Int32} (h : Cx n m K M keys marks) : fX0_endOf (nI n) (nI m) keys marks (-1) = some (nI 0) := by
  obtain ⟨h1, h2, h3, h4, h5, h6, h7, h8, h9⟩ := h
  unfold fX0_endOf
  have e : (-1 : Int32) + 1 = nI 0 := by decide
  rw [markAt_neg, obd_s, e, fnb (by omega) h1 (by omega) h8 (fun i hi => by have := h5 i hi; omega) h4.rises, lb_0]
  rfl
theorem end_pred {n m i : Nat} {K M : Nat → Nat} {keys marks : Nat → Int32} (h : Cx n m K M keys marks) (hi : i < m) : fX0_endOf (nI n) (nI m) keys marks (nI i - 1) = some (nI (so K n M i)) := by
  unfold so
  by_cases c : i = 0
  · rw [if_pos c, c]
    exact end_neg h
  · rw [if_neg c]
    have e : nI i - 1 = nI (i - 1) := pk_sub (b := 1) (by omega)
    rw [e]
    exact end_in h (by omega)
theorem start_e {n m i : Nat} {K M : Nat → Nat} {keys marks : Nat → Int32} (h : Cx n m K M keys marks) (hi : i < m) : fX0_startOf (nI n) (nI m) keys marks (nI i) = some (nI (so K n M i)) := by
  unfold fX0_startOf
  rw [end_pred h hi]
  rfl
theorem keysIn_e {n m i : Nat} {K M : Nat → Nat} {keys marks : Nat → Int32} (h : Cx n m K M keys marks) (hi : i < m) : fX0_keysIn (nI n) (nI m) keys marks (nI i) = some (nI (kin K n M i)) := by
  unfold fX0_keysIn
  rw [end_in h hi, obd_s, end_pred h hi, obd_s, pk_sub (so_le_eo h.2.2.2.1.rises h.2.2.2.2.2.1 hi)]
  rfl
theorem halve_e {n m i : Nat} {K M : Nat → Nat} {keys marks : Nat → Int32} {p : Nat} (h : Cx n m K M keys marks) (hi : i < m) (hm : m < 48) (h4 : 4 ≤ kin K n M i) : ∃ z, fX0_halve (nI n) (nI m) (nI p) keys marks (nI i) = some (nI (m + 1), nI (p + 1), z) ∧ holdsA z (m + 1) (insF M i (mkH K n M i)) := by
  have hse := so_le_eo h.2.2.2.1.rises h.2.2.2.2.2.1 hi
  have hel := eo_le K n M i
  have b1 := (mk_bounds h.2.2.2.1 h.2.2.2.2.2.1 hi h4).1
  have hn := h.1
  unfold fX0_halve
  rw [end_pred h hi, obd_s, end_in h hi, obd_s, pk_sub hse]
  have e1 : nI (eo K n M i - so K n M i) / 2 = nI (kin K n M i / 2) := pk_div (d := 2) (by omega) (by omega) (by omega)
  have e2 : nI (so K n M i + kin K n M i / 2) - 1 = nI (so K n M i + kin K n M i / 2 - 1) := pk_sub (b := 1) (by omega)
  rw [e1, nI_add, e2, keyAt_in h.1 h.2.2.2.2.2.2.2.1 b1, obd_s]
  obtain ⟨z, hz, hA⟩ := ins (N := 48) (n := m) (p := i) (x := K (so K n M i + kin K n M i / 2 - 1)) (by omega) hm (by omega) h.2.2.2.2.2.2.2.2
  rw [hz, obd_s]
  dsimp only
  rw [if_neg (by decide), if_neg (by decide), olet_s, olet_s, nI_1, nI_1]
  exact ⟨z, rfl, hA⟩
/-- a Buckets object holds an index -/
def CB (bits size kc mc sp jo : Int32) (keys marks : Nat → Int32) : Ix → Prop
  | (b, s, n, m, p, j, K, M) => bits = nI b ∧ size = nI s ∧ kc = nI n ∧ mc = nI m ∧ sp = nI p ∧ jo = nI j ∧ holdsA keys n K ∧ holdsA marks m M
theorem Ok_Cx {b s n m p j : Nat} {K M : Nat → Nat} {keys marks : Nat → Int32} (h : Ok (b, s, n, m, p, j, K, M)) (ha : holdsA keys n K) (hm : holdsA marks m M) : Cx n m K M keys marks := by
  obtain ⟨h1, h2, h3, h4, h5, h6, hK, hKb, hM, hT, hk⟩ := h
  have hp := pow_le16 h2
  have hp2 := pow_ge16 h1
  refine ⟨h5, m_small h5 hK.rises hM hk, h6, hK, fun i hi => by have := hKb i hi; omega, hM, fun i hi => ?_, ha, hm⟩
  have := M_le hM hi
  omega
theorem putIn_has {b s n m p j : Nat} {K M : Nat → Nat} {keys marks : Nat → Int32} {size mc sp : Int32} {x : Nat} (h : Ok (b, s, n, m, p, j, K, M)) (ha : holdsA keys n K) (hm : holdsA marks m M) (hx : x < 2147483648) (hh : ixHas K n x) : fX0_putIn size (nI n) mc sp keys marks (nI x) = some (nI n, mc, sp, keys, marks) := by
  have C := Ok_Cx h ha hm
  unfold fX0_putIn
  rw [holds_t C.1 C.2.2.2.1 C.2.2.2.2.1 ha hx hh, obd_s, if_neg (by decide)]
theorem putIn_full {b s m p j : Nat} {K M : Nat → Nat} {keys marks : Nat → Int32} {size mc sp : Int32} {x : Nat} (h : Ok (b, s, 96, m, p, j, K, M)) (ha : holdsA keys 96 K) (hm : holdsA marks m M) (hx : x < 2147483648) (hh : ¬ ixHas K 96 x) : fX0_putIn size (nI 96) mc sp keys marks (nI x) = some (nI 96, mc, sp, keys, marks) := by
  have C := Ok_Cx h ha hm
  unfold fX0_putIn
  rw [holds_f C.1 C.2.2.2.1 C.2.2.2.2.1 ha hx hh, obd_s, if_pos rfl, rank_e C.1 C.2.2.2.1 C.2.2.2.2.1 ha hx, obd_s, ins_full (by omega), obd_s]
  dsimp only
  rw [if_pos rfl]
theorem putIn_new {b s n m p j : Nat} {K M : Nat → Nat} {keys marks : Nat → Int32} {x : Nat} (h : Ok (b, s, n, m, p, j, K, M)) (ha : holdsA keys n K) (hm : holdsA marks m M) (hx : x < 2 ^ b) (hh : ¬ ixHas K n x) (hn : n < 96) :
    ∃ kc mc sp k1 m1, fX0_putIn (nI s) (nI n) (nI m) (nI p) keys marks (nI x) = some (kc, mc, sp, k1, m1) ∧ CB (nI b) (nI s) kc mc sp (nI j) k1 m1 (ixPut (b, s, n, m, p, j, K, M) x) := by
  have C := Ok_Cx h ha hm
  have hO := h
  obtain ⟨h1, h2, h3, h4, h5, h6, hK, hKb, hM, hT, hk⟩ := h
  have hp := pow_le16 h2
  have hxx : x < 2147483648 := by omega
  unfold fX0_putIn
  rw [holds_f C.1 C.2.2.2.1 C.2.2.2.2.1 ha hxx hh, obd_s, if_pos rfl, rank_e C.1 C.2.2.2.1 C.2.2.2.2.1 ha hxx, obd_s]
  obtain ⟨z, hz, hA⟩ := ins (N := 96) (n := n) (p := lb K x n) (x := x) (by omega) hn (lb_le K x n) ha
  rw [hz, obd_s]
  dsimp only
  have hi := lbM_lt h6 hM (x := x) (by rw [hT]; omega)
  have base : Ok (b, s, n + 1, m, p, j, insF K (lb K x n) x, M) := by
    refine ⟨h1, h2, h3, h4, by omega, h6, ins_strict hK hh, ins_bound hKb hx _ (lb_le K x n), hM, hT, ?_⟩
    rcases hk with hk | hk
    · exact Or.inl hk
    · exact Or.inr (fun i hi => Nat.le_trans (hk i hi) (put_kin hK hh hM i hi))
  have C1 := Ok_Cx base hA hm
  rw [if_neg (by decide), bucket_e C.2.1 hM C.2.2.2.2.2.2.1 hm hxx, obd_s, nI_1, keysIn_e C1 hi, obd_s]
  have e4 : (4 : Int32) * nI s = nI (4 * s) := pk_mul 4 s
  have hkl : kin (insF K (lb K x n) x) (n + 1) M (lb M x m) ≤ 96 := by
    have := eo_le (insF K (lb K x n) x) (n + 1) M (lb M x m)
    unfold kin
    omega
  rw [e4]
  unfold ixPut
  dsimp only
  by_cases c : 4 * s < kin (insF K (lb K x n) x) (n + 1) M (lb M x m)
  · rw [if_neg (nI_ge c (by omega)), if_pos c]
    have hm45 := m_room (by omega) (ins_strict hK hh).rises hM base.2.2.2.2.2.2.2.2.2.2 hi (by omega)
    obtain ⟨z2, hz2, hA2⟩ := halve_e (p := p) C1 hi (by omega) (by omega)
    rw [hz2, obd_s, obd_s]
    exact ⟨_, _, _, _, _, rfl, rfl, rfl, rfl, rfl, rfl, rfl, hA, hA2⟩
  · rw [if_pos (nI_le (by omega) (by omega)), if_neg c, obd_s]
    exact ⟨_, _, _, _, _, rfl, rfl, rfl, rfl, rfl, rfl, rfl, hA, hm⟩
theorem unite_e {b s n m p j : Nat} {K M : Nat → Nat} {keys marks : Nat → Int32} {i f : Nat} (hC : Cx n m K M keys marks) (hs : s ≤ 5) (h2s : 2 ≤ s) (hm1 : 1 < m) (hi : i < m) (hf : (if i = m - 1 then i - 1 else i) = f) (hk : m - 1 = 1 ∨ ∀ t, t < m - 1 → 2 ≤ kin K n (delF M f) t) :
    ∃ mc sp z, fX0_unite (nI s) (nI n) (nI m) (nI p) (nI j) keys marks (nI i) = some (mc, sp, nI (j + 1), z) ∧ CB (nI b) (nI s) (nI n) mc sp (nI (j + 1)) keys z (if 3 * s < kin K n (delF M f) f then ixHalve (b, s, n, m - 1, p, j + 1, K, delF M f) f else (b, s, n, m - 1, p, j + 1, K, delF M f)) := by
  obtain ⟨h1, h2, h3, h4, h5, h6, h7, h8, h9⟩ := hC
  have hfm : f + 1 < m := by rw [← hf]; split <;> omega
  unfold fX0_unite
  have e1 : nI m - 1 = nI (m - 1) := pk_sub (b := 1) (by omega)
  have ey : (if nI i = nI m - 1 then nI i - 1 else nI i) = nI f := by
    rw [e1, ← hf]
    by_cases c : i = m - 1
    · rw [if_pos (by rw [c]), if_pos c]; exact pk_sub (b := 1) (by omega)
    · rw [if_neg (fun e => c ((nI_eq (by omega) (by omega)).mp e)), if_neg c]
  rw [ey, olet_s]
  obtain ⟨z, hz, hA⟩ := del (N := 48) (n := m) (p := f) (by omega) h2 (by omega) h9
  rw [hz, obd_s]
  dsimp only
  have C1 : Cx n (m - 1) K (delF M f) keys z := by
    refine ⟨h1, by omega, by omega, h4, h5, del_rises h6 (by omega), fun t ht => ?_, h8, hA⟩
    unfold delF
    split
    · exact h7 t (by omega)
    · exact h7 (t + 1) (by omega)
  have hkl : kin K n (delF M f) f ≤ 96 := by
    have := eo_le K n (delF M f) f
    unfold kin
    omega
  have e3 : (3 : Int32) * nI s = nI (3 * s) := pk_mul 3 s
  rw [if_neg (by decide), e1, keysIn_e C1 (by omega), obd_s, e3, nI_1]
  by_cases c : 3 * s < kin K n (delF M f) f
  · rw [if_neg (nI_ge c (by omega)), if_pos c]
    have hm45 := m_room h1 h4.rises C1.2.2.2.2.2.1 hk (by omega) (show 7 ≤ kin K n (delF M f) f by omega)
    obtain ⟨z2, hz2, hA2⟩ := halve_e (p := p) C1 (i := f) (by omega) (by omega) (by omega)
    rw [hz2, obd_s, obd_s]
    exact ⟨_, _, _, rfl, rfl, rfl, rfl, rfl, rfl, rfl, h8, hA2⟩
  · rw [if_pos (nI_le (by omega) (by omega)), if_neg c, obd_s]
    exact ⟨_, _, _, rfl, rfl, rfl, rfl, rfl, rfl, rfl, h8, hA⟩
theorem takeOut_not {b s n m p j : Nat} {K M : Nat → Nat} {keys marks : Nat → Int32} {size mc sp jo : Int32} {x : Nat} (h : Ok (b, s, n, m, p, j, K, M)) (ha : holdsA keys n K) (hm : holdsA marks m M) (hx : x < 2147483648) (hh : ¬ ixHas K n x) : fX0_takeOut size (nI n) mc sp jo keys marks (nI x) = some (nI n, mc, sp, jo, keys, marks) := by
  have C := Ok_Cx h ha hm
  unfold fX0_takeOut
  rw [holds_f C.1 C.2.2.2.1 C.2.2.2.2.1 ha hx hh, obd_s, if_pos rfl]
theorem takeOut_has {b s n m p j : Nat} {K M : Nat → Nat} {keys marks : Nat → Int32} {x : Nat} (h : Ok (b, s, n, m, p, j, K, M)) (ha : holdsA keys n K) (hm : holdsA marks m M) (hh : ixHas K n x) :
    ∃ kc mc sp jo k1 m1, fX0_takeOut (nI s) (nI n) (nI m) (nI p) (nI j) keys marks (nI x) = some (kc, mc, sp, jo, k1, m1) ∧ CB (nI b) (nI s) kc mc sp jo k1 m1 (ixTake (b, s, n, m, p, j, K, M) x) := by
  have C := Ok_Cx h ha hm
  have hO2 := Ok_take h hh
  obtain ⟨h1, h2, h3, h4, h5, h6, hK, hKb, hM, hT, hk⟩ := h
  have hp := pow_le16 h2
  have hxb : x < 2 ^ b := by rw [← hh.2]; exact hKb _ hh.1
  have hxx : x < 2147483648 := by omega
  have hn0 : lb K x n < n := hh.1
  unfold fX0_takeOut
  rw [holds_t C.1 C.2.2.2.1 C.2.2.2.2.1 ha hxx hh, obd_s, if_neg (by decide), rank_e C.1 C.2.2.2.1 C.2.2.2.2.1 ha hxx, obd_s]
  obtain ⟨z, hz, hA⟩ := del (N := 96) (n := n) (p := lb K x n) (by omega) h5 hn0 ha
  rw [hz, obd_s]
  dsimp only
  have hi := lbM_lt h6 hM (x := x) (by rw [hT]; omega)
  have e1 : nI n - 1 = nI (n - 1) := pk_sub (b := 1) (by omega)
  have hb1 : ∀ i, i < n - 1 → delF K (lb K x n) i < 65536 := by
    intro i hi
    unfold delF
    split
    · have := hKb i (by omega); omega
    · have := hKb (i + 1) (by omega); omega
  have C1 : Cx (n - 1) m (delF K (lb K x n)) M z marks := ⟨by omega, C.2.1, h6, del_strict hK hn0, hb1, hM, C.2.2.2.2.2.2.1, hA, hm⟩
  have hkl : kin (delF K (lb K x n)) (n - 1) M (lb M x m) ≤ 96 := by
    have := eo_le (delF K (lb K x n)) (n - 1) M (lb M x m)
    unfold kin
    omega
  rw [if_neg (by decide), bucket_e C.2.1 hM C.2.2.2.2.2.2.1 hm hxx, obd_s, e1]
  unfold ixTake at hO2 ⊢
  dsimp only at hO2 ⊢
  have hm48 := C.2.1
  by_cases cm : m ≤ 1
  · rw [if_pos (show nI m ≤ (1 : Int32) from nI_le (b := 1) cm (by omega)), obd_s, if_neg (by omega)]
    exact ⟨_, _, _, _, _, _, rfl, rfl, rfl, rfl, rfl, rfl, rfl, hA, hm⟩
  · rw [if_neg (show ¬ nI m ≤ (1 : Int32) from nI_ge (a := 1) (by omega) (by omega)), keysIn_e C1 hi, obd_s]
    by_cases cs : kin (delF K (lb K x n)) (n - 1) M (lb M x m) < s
    · rw [if_neg (nI_ge cs (by omega)), if_pos ⟨cs, by omega⟩]
      rw [if_pos ⟨cs, by omega⟩] at hO2
      generalize hfe : (if lb M x m = m - 1 then lb M x m - 1 else lb M x m) = f at hO2 ⊢
      have hk2 : m - 1 = 1 ∨ ∀ t, t < m - 1 → 2 ≤ kin (delF K (lb K x n)) (n - 1) (delF M f) t := by
        by_cases c3 : 3 * s < kin (delF K (lb K x n)) (n - 1) (delF M f) f
        · have hk3 : ∀ i, i < m → 2 ≤ kin K n M i := by
            rcases hk with hk | hk
            · omega
            · exact hk
          have hf : f + 1 < m := by rw [← hfe]; split <;> omega
          have hff : lb M x m = f ∨ lb M x m = f + 1 := by rw [← hfe]; split <;> omega
          have tk := take_kin hK hh hM
          refine Or.inr (fun t ht => ?_)
          rw [join_kin (del_strict hK hn0).rises hM hf t ht]
          by_cases c1 : t < f
          · rw [if_pos c1, tk t (by omega) (by omega)]; exact hk3 t (by omega)
          · rw [if_neg c1]
            by_cases c2 : t = f
            · rw [if_pos c2]
              rcases hff with q | q
              · have := tk (f + 1) (by omega) (by omega)
                have := hk3 (f + 1) (by omega)
                omega
              · have := tk f (by omega) (by omega)
                have := hk3 f (by omega)
                omega
            · rw [if_neg c2, tk (t + 1) (by omega) (by omega)]; exact hk3 (t + 1) (by omega)
        · rw [if_neg c3] at hO2
          exact hO2.2.2.2.2.2.2.2.2.2.2
      obtain ⟨mc, sp, z2, hz2, hB⟩ := unite_e (b := b) (p := p) (j := j) C1 h4 h3 (by omega) hi hfe hk2
      rw [hz2, obd_s, obd_s]
      refine ⟨_, _, _, _, _, _, rfl, ?_⟩
      exact hB
    · rw [if_pos (nI_le (by omega) (by omega)), if_neg (by omega), obd_s]
      exact ⟨_, _, _, _, _, _, rfl, rfl, rfl, rfl, rfl, rfl, rfl, hA, hm⟩
