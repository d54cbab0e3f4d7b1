/-! ===== marks, under, spread ===== -/
theorem one_shl {l : Nat} (hl : l ≤ 16) : (1 : Int32) <<< (nI l &&& 31) = nI (2 ^ l) := by
  have h1 := pow_le16 hl
  have := shl_n (n := 1) (k := l) (by omega) (by omega)
  rw [Nat.one_mul] at this
  exact this
theorem div_lb {M : Nat → Nat} {m d p t : Nat} (hM : rises M m) (ht : t < m) : M t / 2 ^ d = p ↔ lb M (p * 2 ^ d) m ≤ t ∧ t < lb M ((p + 1) * 2 ^ d) m := by
  rw [div_iff]
  constructor
  · intro ⟨h1, h2⟩
    refine ⟨?_, ?_⟩
    · rcases Nat.lt_or_ge t (lb M (p * 2 ^ d) m) with c | c
      · have := lb_lt hM t c; omega
      · exact c
    · rcases Nat.lt_or_ge t (lb M ((p + 1) * 2 ^ d) m) with c | c
      · exact c
      · have := lb_ge (K := M) (n := m) t c ht; omega
  · intro ⟨h1, h2⟩
    exact ⟨lb_ge (K := M) (n := m) t h1 ht, lb_lt hM t h2⟩
theorem p_cases {l : Nat} (hl : l ≤ 16) (x : Int32) : ((x < 0 ∨ nI (2 ^ l) ≤ x) ∧ fX7_in x.toInt64 (0 : Int64) ((((1 : Int32) <<< (nI l &&& 31)) - 1).toInt64) = some 0) ∨ ∃ p, p < 2 ^ l ∧ p < 65536 ∧ x = nI p ∧ fX7_in x.toInt64 (0 : Int64) ((((1 : Int32) <<< (nI l &&& 31)) - 1).toInt64) = some 1 := by
  have h1 := pow_le16 hl
  have hp : 0 < 2 ^ l := Nat.pow_pos (by omega)
  rw [top_e hl, show (0 : Int64) = (0 : Int32).toInt64 from rfl]
  rcases i32_cases x with c | ⟨p, hp2, rfl⟩
  · exact Or.inl ⟨Or.inl c, inI_lt c⟩
  · by_cases c : p < 2 ^ l
    · exact Or.inr ⟨p, c, by omega, rfl, inI_in (nI_pos hp2) (nI_nlt (by omega) (by omega))⟩
    · exact Or.inl ⟨Or.inr (nI_le (by omega) hp2), inI_gt (nI_lt (by omega) hp2)⟩
def cntF (M : Nat → Nat) (d p : Nat) : Nat → Nat
  | 0 => 0
  | i + 1 => cntF M d p i + (if M i / 2 ^ d = p then 1 else 0)
theorem cntF_eq {M : Nat → Nat} {m d p : Nat} (hM : rises M m) : ∀ i, i ≤ m → cntF M d p i = (if i ≤ lb M ((p + 1) * 2 ^ d) m then i else lb M ((p + 1) * 2 ^ d) m) - lb M (p * 2 ^ d) m := by
  have hxy : lb M (p * 2 ^ d) m ≤ lb M ((p + 1) * 2 ^ d) m := lb_mono hM (Nat.mul_le_mul_right _ (by omega))
  intro i
  induction i with
  | zero => intro _; rw [cntF, if_pos (by omega)]; omega
  | succ i ih =>
    intro hi
    rw [cntF, ih (by omega)]
    by_cases c : M i / 2 ^ d = p
    · have := (div_lb hM (by omega)).mp c
      rw [if_pos c, if_pos (by omega), if_pos (by omega)]
      omega
    · have hc : ¬ (lb M (p * 2 ^ d) m ≤ i ∧ i < lb M ((p + 1) * 2 ^ d) m) := fun q => c ((div_lb hM (by omega)).mpr q)
      rw [if_neg c]
      by_cases c2 : i < lb M ((p + 1) * 2 ^ d) m
      · rw [if_pos (by omega), if_pos (by omega)]; omega
      · rw [if_neg (show ¬ i + 1 ≤ _ by omega)]
        split <;> omega
theorem cnt_loop {row marks : Nat → Int32} {b m l p : Nat} {M : Nat → Nat} (h : Lx row marks b m M) (hl : l ≤ b) (hp : p < 65536) :
    ∀ (k f i : Nat), i + k = m → k < f → ∃ w, lpX7_marks_34 (nI l) (nI p) row f (nI (cntF M (b - l) p i)) (nI i) = some (nI (cntF M (b - l) p m), w) := by
  obtain ⟨h1, h2, h3, h4, h5, h6, h7, h8, h9, h10⟩ := h
  have hb := pow_le16 h1
  have hlb := pow_le16 (Nat.le_trans hl h1)
  have o3 : ∀ X : Option (Int32 × Int32), oin (3 : Int32) 1824 X = X := fun X => oin_in (a := 3) (by omega) (by omega)
  have e3 : row (3 : Int32).toNatClampNeg = nI m := h9
  intro k
  induction k with
  | zero =>
    intro f i hi hf
    obtain ⟨f, rfl⟩ : ∃ g, f = g + 1 := ⟨f - 1, by omega⟩
    rw [lpX7_marks_34, o3, e3, if_pos (nI_le (by omega) (by omega)), show i = m by omega]
    exact ⟨_, rfl⟩
  | succ k ih =>
    intro f i hi hf
    obtain ⟨f, rfl⟩ : ∃ g, f = g + 1 := ⟨f - 1, by omega⟩
    have hMi := h5 i (by omega)
    have hd := beg_lt hl hMi
    have this := ih f (i + 1) (by omega) (by omega)
    have e102 : (102 : Int32) + nI i = nI (102 + i) := nI_add 102 i
    rw [lpX7_marks_34, o3, e3, if_neg (nI_ge (by omega) (by omega)), e102, oin_in (by omega) (by omega), nI_clamp (by omega), h10 i (by omega), mbegin_e h1 h8 hl (by omega), obd_s, olet_s, nI_1 i]
    rw [cntF] at this
    by_cases c : M i / 2 ^ (b - l) = p
    · rw [if_pos c, ← nI_1] at this
      rw [if_pos (by rw [c])]
      exact this
    · rw [if_neg c, ← nI_add] at this
      rw [if_neg (fun q => c ((nI_eq (by omega) (by omega)).mp q))]
      exact this
theorem eq_marks {row marks : Nat → Int32} {b m : Nat} {M : Nat → Nat} (h : Lx row marks b m M) (x y : Int32) : ∃ r, fX6_marks (nI b) (nI m) marks x y = some r ∧ fX7_marks row x y = some r := by
  rcases lev_cases h x with ⟨h1, h2⟩ | ⟨l, hl, rfl, h1, h2⟩
  · refine ⟨-2, ?_, ?_⟩
    · unfold fX6_marks; rw [h1, obd_s, if_pos z00]
    · unfold fX7_marks; rw [h2, obd_s, if_pos z00]
  · have h16 := h.1
    rcases p_cases (show l ≤ 16 by omega) y with ⟨c, hin⟩ | ⟨p, hp, hp2, rfl, hin⟩
    · refine ⟨-3, ?_, ?_⟩
      · unfold fX6_marks
        rw [h1, obd_s, if_neg z10, one_shl (by omega)]
        by_cases c0 : y < 0
        · rw [if_pos c0]
        · rw [if_neg c0, if_neg (Int32.not_lt.mpr (c.resolve_left c0))]
      · unfold fX7_marks
        rw [h2, obd_s, if_neg z10, hin, obd_s, if_pos z00]
    · have hM := h.2.2.2.1
      have hxy : lb M (p * 2 ^ (b - l)) m ≤ lb M ((p + 1) * 2 ^ (b - l)) m := lb_mono hM (Nat.mul_le_mul_right _ (by omega))
      have hym := lb_le M ((p + 1) * 2 ^ (b - l)) m
      refine ⟨nI (lb M ((p + 1) * 2 ^ (b - l)) m - lb M (p * 2 ^ (b - l)) m), ?_, ?_⟩
      · unfold fX6_marks
        have := pow_le16 (show l ≤ 16 by omega)
        rw [h1, obd_s, if_neg z10, one_shl (by omega), if_neg (nI_pos (by omega)), if_pos (nI_lt hp (by omega)), behind_c h hl hp, obd_s, ahead_c h hl hp, obd_s, pk_sub hxy]
      · unfold fX7_marks
        rw [h2, obd_s, if_neg z10, hin, obd_s, if_neg z10]
        obtain ⟨w, hw⟩ := cnt_loop h hl hp2 m 100000 0 (by omega) (by have := h.2.1; omega)
        have hw2 : lpX7_marks_34 (nI l) (nI p) row 100000 0 0 = some (nI (cntF M (b - l) p m), w) := hw
        rw [hw2, obd_s, cntF_eq hM m (Nat.le_refl m)]
        have e : (if m ≤ lb M ((p + 1) * 2 ^ (b - l)) m then m else lb M ((p + 1) * 2 ^ (b - l)) m) = lb M ((p + 1) * 2 ^ (b - l)) m := by split <;> omega
        rw [e]
def leF (M : Nat → Nat) (x y i : Nat) : Int32 := if x < i ∧ x < y then nI (M x) else -1
def grF (M : Nat → Nat) (x y i : Nat) : Int32 := if x < i ∧ x < y then nI (M ((if i ≤ y then i else y) - 1)) else -1
theorem und_loop {row marks : Nat → Int32} {b m l p : Nat} {M : Nat → Nat} {q3 : Int32} (h : Lx row marks b m M) (hl : l ≤ b) (hp : p < 65536) :
    ∀ (k f i : Nat), i + k = m → k < f → ∃ w, lpX7_under_48 (nI l) (nI p) q3 row f (leF M (lb M (p * 2 ^ (b - l)) m) (lb M ((p + 1) * 2 ^ (b - l)) m) i) (grF M (lb M (p * 2 ^ (b - l)) m) (lb M ((p + 1) * 2 ^ (b - l)) m) i) (nI i) = some (leF M (lb M (p * 2 ^ (b - l)) m) (lb M ((p + 1) * 2 ^ (b - l)) m) m, grF M (lb M (p * 2 ^ (b - l)) m) (lb M ((p + 1) * 2 ^ (b - l)) m) m, w) := by
  obtain ⟨h1, h2, h3, h4, h5, h6, h7, h8, h9, h10⟩ := h
  have hb := pow_le16 h1
  have hlb := pow_le16 (Nat.le_trans hl h1)
  have o3 : ∀ X : Option (Int32 × Int32 × Int32), oin (3 : Int32) 1824 X = X := fun X => oin_in (a := 3) (by omega) (by omega)
  have e3 : row (3 : Int32).toNatClampNeg = nI m := h9
  have dl : ∀ t, t < m → (M t / 2 ^ (b - l) = p ↔ lb M (p * 2 ^ (b - l)) m ≤ t ∧ t < lb M ((p + 1) * 2 ^ (b - l)) m) := fun t ht => div_lb h4 ht
  have hxm := lb_le M (p * 2 ^ (b - l)) m
  generalize lb M (p * 2 ^ (b - l)) m = x at dl hxm ⊢
  generalize lb M ((p + 1) * 2 ^ (b - l)) m = y at dl ⊢
  intro k
  induction k with
  | zero =>
    intro f i hi hf
    obtain ⟨f, rfl⟩ : ∃ g, f = g + 1 := ⟨f - 1, by omega⟩
    rw [lpX7_under_48, o3, e3, if_pos (nI_le (by omega) (by omega)), show i = m by omega]
    exact ⟨_, rfl⟩
  | succ k ih =>
    intro f i hi hf
    obtain ⟨f, rfl⟩ : ∃ g, f = g + 1 := ⟨f - 1, by omega⟩
    have hMi := h5 i (by omega)
    have hd := beg_lt hl hMi
    have this := ih f (i + 1) (by omega) (by omega)
    have e102 : (102 : Int32) + nI i = nI (102 + i) := nI_add 102 i
    have oi : ∀ X : Option Int32, oin (nI (102 + i)) 1824 X = X := fun X => oin_in (by omega) (by omega)
    rw [lpX7_under_48, o3, e3, if_neg (nI_ge (by omega) (by omega)), e102, oin_in (by omega) (by omega), nI_clamp (by omega), h10 i (by omega), mbegin_e h1 h8 hl (by omega), obd_s, olet_s, nI_1 i, oi]
    by_cases c : M i / 2 ^ (b - l) = p
    · obtain ⟨c1, c2⟩ := (dl i (by omega)).mp c
      rw [if_pos (show nI (M i / 2 ^ (b - l)) = nI p by rw [c]), if_neg z10, if_neg z10]
      have eg : grF M x y (i + 1) = nI (M i) := by
        unfold grF
        rw [if_pos (by omega), if_pos (by omega)]
        rfl
      have el : obd (if leF M x y i = -1 then some (nI (M i)) else some (leF M x y i)) (fun w_19 => lpX7_under_48 (nI l) (nI p) q3 row f w_19 (nI (M i)) (nI (i + 1))) = lpX7_under_48 (nI l) (nI p) q3 row f (leF M x y (i + 1)) (nI (M i)) (nI (i + 1)) := by
        by_cases cx : x = i
        · have e1 : leF M x y i = -1 := by unfold leF; rw [if_neg (by omega)]
          have e2 : leF M x y (i + 1) = nI (M i) := by unfold leF; rw [if_pos (by omega), cx]
          rw [e1, e2, if_pos rfl, obd_s]
        · have e1 : leF M x y i = nI (M x) := by unfold leF; rw [if_pos (by omega)]
          have e2 : leF M x y (i + 1) = nI (M x) := by unfold leF; rw [if_pos (by omega)]
          have := h5 x (by omega)
          rw [e1, e2, if_neg (nI_neg1 (by omega)), obd_s]
      rw [eg] at this
      obtain ⟨w, hw⟩ := this
      exact ⟨w, el.trans hw⟩
    · have hc : ¬ (x ≤ i ∧ i < y) := fun q => c ((dl i (by omega)).mpr q)
      rw [if_neg (show ¬ nI (M i / 2 ^ (b - l)) = nI p from fun q => c ((nI_eq (by omega) (by omega)).mp q)), if_pos z00, if_pos z00, obd_s, obd_s]
      have e1 : leF M x y (i + 1) = leF M x y i := by
        unfold leF
        by_cases cc : x < i ∧ x < y
        · rw [if_pos cc, if_pos (by omega)]
        · rw [if_neg cc, if_neg (by omega)]
      have e2 : grF M x y (i + 1) = grF M x y i := by
        unfold grF
        by_cases cc : x < i ∧ x < y
        · rw [if_pos cc, if_pos (show x < i + 1 ∧ x < y by omega)]
          have : (if i + 1 ≤ y then i + 1 else y) = (if i ≤ y then i else y) := by
            rw [if_neg (by omega)]
            split <;> omega
          rw [this]
        · rw [if_neg cc, if_neg (by omega)]
      rw [e1, e2] at this
      exact this
theorem eq_under {row marks : Nat → Int32} {b m : Nat} {M : Nat → Nat} (h : Lx row marks b m M) (x y z : Int32) : ∃ r, fX6_under (nI b) (nI m) marks x y z = some r ∧ fX7_under row x y z = some r := by
  rcases lev_cases h x with ⟨h1, h2⟩ | ⟨l, hl, rfl, h1, h2⟩
  · refine ⟨-2, ?_, ?_⟩
    · unfold fX6_under; rw [h1, obd_s, if_pos z00]
    · unfold fX7_under; rw [h2, obd_s, if_pos z00]
  · have h16 := h.1
    have hpl := pow_le16 (show l ≤ 16 by omega)
    rcases p_cases (show l ≤ 16 by omega) y with ⟨c, hin⟩ | ⟨p, hp, hp2, rfl, hin⟩
    · refine ⟨-3, ?_, ?_⟩
      · unfold fX6_under
        rw [h1, obd_s, if_neg z10, one_shl (by omega)]
        by_cases c0 : y < 0
        · rw [if_pos c0]
        · rw [if_neg c0, if_pos (c.resolve_left c0)]
      · unfold fX7_under
        rw [h2, obd_s, if_neg z10, hin, obd_s, if_pos z00]
    · have A : fX6_under (nI b) (nI m) marks (nI l) (nI p) z = (if z < 0 then (some (-3)) else (if z ≤ 1 then (obd (fX0_isBeginning (nI b) (nI m) marks (nI l) (nI p)) fun u_8 => if u_8 = 0 then (some (-1)) else (obd (if z = 0 then (obd (fX0_marksAhead (nI b) (nI m) marks (nI l) (nI p)) fun u_17 => obd (fX0_markAt (nI m) marks u_17) fun u_19 => some u_19) else (obd (fX0_marksBehind (nI b) (nI m) marks (nI l) (nI p)) fun u_13 => obd (fX0_markAt (nI m) marks (u_13 - 1)) fun u_15 => some u_15)) fun w_12 => some w_12)) else (some (-3)))) := by
        unfold fX6_under
        rw [h1, obd_s, if_neg z10, one_shl (by omega), if_neg (nI_pos (by omega)), if_neg (nI_ge hp (by omega))]
      have B : fX7_under row (nI l) (nI p) z = (obd (fX7_in z.toInt64 (0 : Int32).toInt64 (1 : Int32).toInt64) fun u_7 => if u_7 = 0 then (some (-3)) else (obd (lpX7_under_48 (nI l) (nI p) z row 100000 (-1) (-1) 0) fun w_43 => olet (if z = 0 then (w_43.1) else (w_43.2.1)) fun y_46 => some y_46)) := by
        unfold fX7_under
        rw [h2, obd_s, if_neg z10, hin, obd_s, if_neg z10]
        rfl
      rw [A, B]
      rcases way_cases z (N := 1) (by omega) with c | ⟨v, hv, rfl⟩ | c
      · refine ⟨-3, ?_, ?_⟩
        · rw [if_pos c]
        · rw [inI_lt c, obd_s, if_pos z00]
      · have hM := h.2.2.2.1
        have hr := lbp_lt hM h.2.2.1 h.2.2.2.2.2.1 hl hp
        have hym := lb_le M ((p + 1) * 2 ^ (b - l)) m
        have hm48 := h.2.1
        have hxy : lb M (p * 2 ^ (b - l)) m ≤ lb M ((p + 1) * 2 ^ (b - l)) m := lb_mono hM (Nat.mul_le_mul_right _ (by omega))
        have hB : isB M m (b - l) p ↔ lb M (p * 2 ^ (b - l)) m < lb M ((p + 1) * 2 ^ (b - l)) m := by
          show M (lb M (p * 2 ^ (b - l)) m) / 2 ^ (b - l) = p ↔ _
          rw [div_lb hM hr]
          exact ⟨fun q => q.2, fun q => ⟨Nat.le_refl _, q⟩⟩
        obtain ⟨w, hw⟩ := und_loop (q3 := nI v) h hl hp2 m 100000 0 (by omega) (by omega)
        have hw2 : lpX7_under_48 (nI l) (nI p) (nI v) row 100000 (-1) (-1) 0 = some (leF M (lb M (p * 2 ^ (b - l)) m) (lb M ((p + 1) * 2 ^ (b - l)) m) m, grF M (lb M (p * 2 ^ (b - l)) m) (lb M ((p + 1) * 2 ^ (b - l)) m) m, w) := by
          have e1 : leF M (lb M (p * 2 ^ (b - l)) m) (lb M ((p + 1) * 2 ^ (b - l)) m) 0 = -1 := by unfold leF; rw [if_neg (by omega)]
          have e2 : grF M (lb M (p * 2 ^ (b - l)) m) (lb M ((p + 1) * 2 ^ (b - l)) m) 0 = -1 := by unfold grF; rw [if_neg (by omega)]
          rw [e1, e2] at hw
          exact hw
        rw [if_neg (nI_pos (by omega)), if_pos (show nI v ≤ (1 : Int32) from nI_le (b := 1) hv (by omega)), inI_in (nI_pos (by omega)) (show ¬ (1 : Int32) < nI v from nI_nlt (a := 1) hv (by omega)), hw2, obd_s, obd_s, isB_c h hl hp, obd_s, olet_s, if_neg (show ¬ (1 : Int32) = 0 from z10)]
        by_cases cB : isB M m (b - l) p
        · have hlt := hB.mp cB
          rw [bN_t cB, if_neg z10]
          have e1 : leF M (lb M (p * 2 ^ (b - l)) m) (lb M ((p + 1) * 2 ^ (b - l)) m) m = nI (M (lb M (p * 2 ^ (b - l)) m)) := by unfold leF; rw [if_pos ⟨hr, hlt⟩]
          have e2 : grF M (lb M (p * 2 ^ (b - l)) m) (lb M ((p + 1) * 2 ^ (b - l)) m) m = nI (M (lb M ((p + 1) * 2 ^ (b - l)) m - 1)) := by
            unfold grF
            rw [if_pos ⟨hr, hlt⟩]
            congr 2
            split <;> omega
          dsimp only
          rw [e1, e2]
          by_cases c0 : v = 0
          · subst c0
            refine ⟨nI (M (lb M (p * 2 ^ (b - l)) m)), ?_, ?_⟩
            · rw [if_pos (show nI 0 = (0 : Int32) from rfl), ahead_c h hl hp, obd_s, markAt_in hm48 h.2.2.2.2.2.2.1 hr]; rfl
            · rw [if_pos (show nI 0 = (0 : Int32) from rfl)]
          · have ev : v = 1 := by omega
            subst ev
            have e3 : nI (lb M ((p + 1) * 2 ^ (b - l)) m) - 1 = nI (lb M ((p + 1) * 2 ^ (b - l)) m - 1) := pk_sub (b := 1) (by omega)
            refine ⟨nI (M (lb M ((p + 1) * 2 ^ (b - l)) m - 1)), ?_, ?_⟩
            · rw [if_neg (show ¬ nI 1 = (0 : Int32) by decide), behind_c h hl hp, obd_s, e3, markAt_in hm48 h.2.2.2.2.2.2.1 (by omega)]; rfl
            · rw [if_neg (show ¬ nI 1 = (0 : Int32) by decide)]
        · have hlt : ¬ _ := fun q => cB (hB.mpr q)
          rw [bN_f cB, if_pos z00]
          have e1 : leF M (lb M (p * 2 ^ (b - l)) m) (lb M ((p + 1) * 2 ^ (b - l)) m) m = -1 := by unfold leF; rw [if_neg (fun q => hlt q.2)]
          have e2 : grF M (lb M (p * 2 ^ (b - l)) m) (lb M ((p + 1) * 2 ^ (b - l)) m) m = -1 := by unfold grF; rw [if_neg (fun q => hlt q.2)]
          dsimp only
          rw [e1, e2]
          refine ⟨-1, rfl, ?_⟩
          split <;> rfl
      · refine ⟨-3, ?_, ?_⟩
        · rw [if_neg (big_nn (N := 1) (by omega) c), if_neg (show ¬ z ≤ 1 from big_nle c)]
        · rw [inI_gt (show (1 : Int32) < z from c), obd_s, if_pos z00]
