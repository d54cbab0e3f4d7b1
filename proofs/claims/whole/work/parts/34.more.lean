/-! ===== the reference takes out; plans, fills, copies ===== -/
theorem lb_pred {K : Nat → Nat} {n x : Nat} (hK : strict K n) (h : ixHas K n x) : lb K x (n - 1) = lb K x n := by
  obtain ⟨h1, h2⟩ := h
  refine (lb_uniq (rises_sub hK.rises (by omega)) (by omega) (fun i hi => lb_lt hK.rises i hi) (fun _ => ?_)).symm
  omega
theorem mtake1_loop {row : Nat → Int32} {B r n' : Nat} {q3 : Int32} (hB : B ≤ 1672) (hn : n' < 96) (h2 : row (B + 2) = nI n') :
    ∀ (k f i : Nat) (z : Nat → Int32), i + k = n' → r ≤ i → k < f → (∀ t, z t = if B + 6 + r ≤ t ∧ t < B + 6 + i then row (t + 1) else row t) →
      ∃ w, lpX7_takeOut_27 (nI B) q3 f (nI i) z = some w ∧ (∀ t, w.2 t = if B + 6 + r ≤ t ∧ t < B + 6 + n' then row (t + 1) else row t) := by
  have e2 : nI B + 2 = nI (B + 2) := nI_add B 2
  intro k
  induction k with
  | zero =>
    intro f i z h1 hr hf hz
    obtain ⟨f, rfl⟩ : ∃ g, f = g + 1 := ⟨f - 1, by omega⟩
    rw [lpX7_takeOut_27, e2, oin_in (by omega) (by omega), nI_clamp (by omega), (show z (B + 2) = nI n' by rw [hz, if_neg (by omega), h2]), if_pos (nI_le (by omega) (by omega))]
    have ei : i = n' := by omega
    subst ei
    exact ⟨_, rfl, hz⟩
  | succ k ih =>
    intro f i z h1 hr hf hz
    obtain ⟨f, rfl⟩ : ∃ g, f = g + 1 := ⟨f - 1, by omega⟩
    have e6 : nI B + 6 + nI i = nI (B + 6 + i) := (congrArg (· + nI i) (nI_add B 6)).trans (nI_add (B + 6) _)
    have e7 : nI (B + 6 + i) + 1 = nI (B + 6 + i + 1) := nI_1 _
    rw [lpX7_takeOut_27, e2, oin_in (by omega) (by omega), nI_clamp (by omega), (show z (B + 2) = nI n' by rw [hz, if_neg (by omega), h2]), if_neg (nI_ge (by omega) (by omega)), e6, e7, oin_in (by omega) (by omega), oin_in (by omega) (by omega), nI_clamp (by omega), nI_clamp (by omega), nI_1]
    refine ih f (i + 1) _ (by omega) (by omega) (by omega) (fun t => ?_)
    by_cases e : t = B + 6 + i
    · rw [e, upd_at, hz, if_neg (by omega), if_pos (by omega)]
    · rw [upd_ne e, hz]
      by_cases c : B + 6 + r ≤ t ∧ t < B + 6 + i
      · rw [if_pos c, if_pos (by omega)]
      · rw [if_neg c, if_neg (by omega)]
theorem mtake2_loop {row : Nat → Int32} {B r n' : Nat} {q4 : Int32} (hB : B ≤ 1672) (hn : n' < 48) (h2 : row (B + 3) = nI n') :
    ∀ (k f i : Nat) (z : Nat → Int32), i + k = n' → r ≤ i → k < f → (∀ t, z t = if B + 102 + r ≤ t ∧ t < B + 102 + i then row (t + 1) else row t) →
      ∃ w, lpX7_takeOut_152 (nI B) q4 f (nI i) z = some w ∧ (∀ t, w.2 t = if B + 102 + r ≤ t ∧ t < B + 102 + n' then row (t + 1) else row t) := by
  have e2 : nI B + 3 = nI (B + 3) := nI_add B 3
  intro k
  induction k with
  | zero =>
    intro f i z h1 hr hf hz
    obtain ⟨f, rfl⟩ : ∃ g, f = g + 1 := ⟨f - 1, by omega⟩
    rw [lpX7_takeOut_152, e2, oin_in (by omega) (by omega), nI_clamp (by omega), (show z (B + 3) = nI n' by rw [hz, if_neg (by omega), h2]), if_pos (nI_le (by omega) (by omega))]
    have ei : i = n' := by omega
    subst ei
    exact ⟨_, rfl, hz⟩
  | succ k ih =>
    intro f i z h1 hr hf hz
    obtain ⟨f, rfl⟩ : ∃ g, f = g + 1 := ⟨f - 1, by omega⟩
    have e6 : nI B + 102 + nI i = nI (B + 102 + i) := (congrArg (· + nI i) (nI_add B 102)).trans (nI_add (B + 102) _)
    have e7 : nI (B + 102 + i) + 1 = nI (B + 102 + i + 1) := nI_1 _
    rw [lpX7_takeOut_152, e2, oin_in (by omega) (by omega), nI_clamp (by omega), (show z (B + 3) = nI n' by rw [hz, if_neg (by omega), h2]), if_neg (nI_ge (by omega) (by omega)), e6, e7, oin_in (by omega) (by omega), oin_in (by omega) (by omega), nI_clamp (by omega), nI_clamp (by omega), nI_1]
    refine ih f (i + 1) _ (by omega) (by omega) (by omega) (fun t => ?_)
    by_cases e : t = B + 102 + i
    · rw [e, upd_at, hz, if_neg (by omega), if_pos (by omega)]
    · rw [upd_ne e, hz]
      by_cases c : B + 102 + r ≤ t ∧ t < B + 102 + i
      · rw [if_pos c, if_pos (by omega)]
      · rw [if_neg c, if_neg (by omega)]
theorem mtake_e {row : Nat → Int32} {B b s n m p j x : Nat} {K M : Nat → Nat} (hB : B ≤ 1672) (h : Ok (b, s, n, m, p, j, K, M)) (hr : MRow row B (b, s, n, m, p, j, K, M)) (hh : ixHas K n x) : ∃ r, fX7_takeOut row (nI B) (nI x) = some r ∧ MRow r B (ixTake (b, s, n, m, p, j, K, M) x) ∧ sameOut row r B := by
  have X := Ok_Mx hB h hr
  have hO2 := Ok_take h hh
  obtain ⟨h1, h2, h3, h4, h5, h6, hK, hKb, hM, hT, hk⟩ := h
  have hp := pow_le16 h2
  have hxb : x < 2 ^ b := by rw [← hh.2]; exact hKb _ hh.1
  have hxx : x < 2147483648 := by omega
  have hr0 : lb K x n < n := hh.1
  have hm48 := X.2.2.1
  have hi := lbM_lt h6 hM (x := x) (by rw [hT]; omega)
  obtain ⟨q0, q1, q2, q3, q4, q5, q6, q7⟩ := id hr
  unfold fX7_takeOut
  have e1 : nI B + 1 = nI (B + 1) := nI_add B 1
  have e2 : nI B + 2 = nI (B + 2) := nI_add B 2
  have e3 : nI B + 3 = nI (B + 3) := nI_add B 3
  have e5 : nI B + 5 = nI (B + 5) := nI_add B 5
  have en : nI n - 1 = nI (n - 1) := pk_sub (b := 1) (by omega)
  rw [mbucket_e hB hm48 hxx q7 hM X.2.2.2.2.2.2.2.1 h6 (by rw [hT]; omega), obd_s, e2, oin_in (by omega) (by omega), oin_in (by omega) (by omega), nI_clamp (by omega), q2, en]
  have a2 : upd row (B + 2) (nI (n - 1)) (B + 2) = nI (n - 1) := upd_at _ _ _
  have a6 : ∀ i, i < n - 1 → upd row (B + 2) (nI (n - 1)) (B + 6 + i) = nI (K i) := fun i hi => by rw [upd_ne (by omega)]; exact q6 i (by omega)
  rw [below_e hB (by omega) hxx a2 a6 (rises_sub hK.rises (by omega)) (fun i hi => X.2.2.2.2.2.1 i (by omega)), obd_s, lb_pred hK hh]
  obtain ⟨w, hw, hz⟩ := mtake1_loop (q3 := nI (lb M x m)) (r := lb K x n) hB (by omega) a2 (n - 1 - lb K x n) 100000 (lb K x n) _ (by omega) (Nat.le_refl _) (by omega) (fun t => by rw [if_neg (by omega)])
  rw [hw, obd_s]
  have hW : ∀ t, t ≠ B + 2 → w.2 t = if B + 6 + lb K x n ≤ t ∧ t < B + 6 + (n - 1) then row (t + 1) else row t := by
    intro t ht
    rw [hz]
    by_cases c : B + 6 + lb K x n ≤ t ∧ t < B + 6 + (n - 1)
    · rw [if_pos c, if_pos c, upd_ne (by omega)]
    · rw [if_neg c, if_neg c, upd_ne ht]
  generalize hR : w.2 = R at hW ⊢
  have hR2 : R (B + 2) = nI (n - 1) := by rw [← hR, hz, if_neg (by omega)]; exact a2
  have hRr : MRow R B (b, s, n - 1, m, p, j, delF K (lb K x n), M) := by
    refine ⟨?_, ?_, hR2, ?_, ?_, ?_, fun t ht => ?_, fun t ht => ?_⟩
    · rw [hW _ (by omega), if_neg (by omega), q0]
    · rw [hW _ (by omega), if_neg (by omega), q1]
    · rw [hW _ (by omega), if_neg (by omega), q3]
    · rw [hW _ (by omega), if_neg (by omega), q4]
    · rw [hW _ (by omega), if_neg (by omega), q5]
    · unfold delF
      by_cases c : t < lb K x n
      · rw [hW _ (by omega), if_neg (by omega), if_pos c, q6 t (by omega)]
      · rw [hW _ (by omega), if_pos (by omega), if_neg c]
        exact q6 (t + 1) (by omega)
    · rw [hW _ (by omega), if_neg (by omega), q7 t ht]
  have hRo : sameOut row R B := fun t ht => by rw [hW t (by omega), if_neg (by omega)]
  have hb1 : ∀ i, i < n - 1 → delF K (lb K x n) i < 65536 := by
    intro i hi
    unfold delF
    split
    · exact X.2.2.2.2.2.1 i (by omega)
    · exact X.2.2.2.2.2.1 (i + 1) (by omega)
  have X1 : Mx R B (n - 1) m (delF K (lb K x n)) M := ⟨hB, by omega, hm48, h6, del_strict hK hr0, hb1, hM, X.2.2.2.2.2.2.2.1, hR2, hRr.2.2.2.1, hRr.2.2.2.2.2.2.1, hRr.2.2.2.2.2.2.2⟩
  have hkl : kin (delF K (lb K x n)) (n - 1) M (lb M x m) ≤ 96 := by
    have := eo_le (delF K (lb K x n)) (n - 1) M (lb M x m)
    unfold kin
    omega
  rw [mkeysIn_e X1 hi, obd_s, e1, oin_in (by omega) (by omega), nI_clamp (by omega), hRr.2.1]
  unfold ixTake at hO2 ⊢
  dsimp only at hO2 ⊢
  by_cases cs : kin (delF K (lb K x n)) (n - 1) M (lb M x m) < s
  · rw [if_neg (nI_ge cs (by omega)), e3, oin_in (by omega) (by omega), nI_clamp (by omega), hRr.2.2.2.1]
    by_cases cm : m ≤ 1
    · rw [if_pos (show nI m ≤ (1 : Int32) from nI_le (b := 1) cm (by omega)), obd_s, if_neg (by omega)]
      exact ⟨R, rfl, hRr, hRo⟩
    · rw [if_neg (show ¬ nI m ≤ (1 : Int32) from nI_ge (a := 1) (by omega) (by omega)), if_pos (show kin (delF K (lb K x n)) (n - 1) M (lb M x m) < s ∧ 1 < m from ⟨cs, by omega⟩)]
      rw [if_pos ⟨cs, by omega⟩] at hO2
      have em : nI m - 1 = nI (m - 1) := pk_sub (b := 1) (by omega)
      rw [oin_in (by omega) (by omega), em]
      generalize hfe : (if lb M x m = m - 1 then lb M x m - 1 else lb M x m) = f at hO2 ⊢
      have ey : (if nI (lb M x m) = nI (m - 1) then nI (lb M x m) - 1 else nI (lb M x m)) = nI f := by
        rw [← hfe]
        by_cases c : lb M x m = m - 1
        · rw [if_pos (by rw [c]), if_pos c]; exact pk_sub (b := 1) (by omega)
        · rw [if_neg (fun e => c ((nI_eq (by omega) (by omega)).mp e)), if_neg c]
      have hf : f + 1 < m := by rw [← hfe]; split <;> omega
      have hff : lb M x m = f ∨ lb M x m = f + 1 := by rw [← hfe]; split <;> omega
      rw [ey, olet_s, oin_in (by omega) (by omega), oin_in (by omega) (by omega), e5, oin_in (by omega) (by omega), oin_in (by omega) (by omega), nI_clamp (by omega)]
      generalize hR3 : upd (upd R (B + 3) (nI (m - 1))) (B + 5) (upd R (B + 3) (nI (m - 1)) (B + 5) + 1) = R3
      have hR3m : R3 (B + 3) = nI (m - 1) := by rw [← hR3, upd_ne (by omega), upd_at]
      obtain ⟨w2, hw2, hz2⟩ := mtake2_loop (row := R3) (q4 := nI f) (r := f) hB (by omega) hR3m (m - 1 - f) 100000 f R3 (by omega) (Nat.le_refl _) (by omega) (fun t => by rw [if_neg (by omega)])
      rw [hw2, obd_s]
      generalize hR4 : w2.2 = R4 at hz2 ⊢
      have hR4r : MRow R4 B (b, s, n - 1, m - 1, p, j + 1, delF K (lb K x n), delF M f) := by
        obtain ⟨g0, g1, g2, g3, g4, g5, g6, g7⟩ := hRr
        refine ⟨?_, ?_, ?_, ?_, ?_, ?_, fun t ht => ?_, fun t ht => ?_⟩
        · rw [hz2, if_neg (by omega), ← hR3, upd_ne (by omega), upd_ne (by omega), g0]
        · rw [hz2, if_neg (by omega), ← hR3, upd_ne (by omega), upd_ne (by omega), g1]
        · rw [hz2, if_neg (by omega), ← hR3, upd_ne (by omega), upd_ne (by omega), g2]
        · rw [hz2, if_neg (by omega), hR3m]
        · rw [hz2, if_neg (by omega), ← hR3, upd_ne (by omega), upd_ne (by omega), g4]
        · rw [hz2, if_neg (by omega), ← hR3, upd_at, upd_ne (by omega), g5, nI_1]
        · rw [hz2, if_neg (by omega), ← hR3, upd_ne (by omega), upd_ne (by omega), g6 t ht]
        · unfold delF
          by_cases c : t < f
          · rw [hz2, if_neg (by omega), if_pos c, ← hR3, upd_ne (by omega), upd_ne (by omega), g7 t (by omega)]
          · rw [hz2, if_pos (by omega), if_neg c, ← hR3, upd_ne (by omega), upd_ne (by omega)]
            exact g7 (t + 1) (by omega)
      have hR4o : sameOut row R4 B := fun t ht => by
        rw [hz2, if_neg (by omega), ← hR3, upd_ne (by omega), upd_ne (by omega)]
        exact hRo t ht
      have hkl2 : kin (delF K (lb K x n)) (n - 1) (delF M f) f ≤ 96 := by
        have := eo_le (delF K (lb K x n)) (n - 1) (delF M f) f
        unfold kin
        omega
      have hMb2 : ∀ t, t < m - 1 → delF M f t < 65536 := by
        intro t ht
        unfold delF
        split
        · exact X.2.2.2.2.2.2.2.1 t (by omega)
        · exact X.2.2.2.2.2.2.2.1 (t + 1) (by omega)
      have X4 : Mx R4 B (n - 1) (m - 1) (delF K (lb K x n)) (delF M f) := ⟨hB, by omega, by omega, by omega, del_strict hK hr0, hb1, del_rises hM (by omega), hMb2, hR4r.2.2.1, hR4r.2.2.2.1, hR4r.2.2.2.2.2.2.1, hR4r.2.2.2.2.2.2.2⟩
      have es : (3 : Int32) * nI s = nI (3 * s) := pk_mul 3 s
      rw [mkeysIn_e X4 (by omega), obd_s, oin_in (by omega) (by omega), hR4r.2.1, es]
      by_cases c3 : 3 * s < kin (delF K (lb K x n)) (n - 1) (delF M f) f
      · rw [if_neg (nI_ge c3 (by omega)), if_pos c3]
        have hk3 : ∀ i, i < m → 2 ≤ kin K n M i := by
          rcases hk with hk | hk
          · omega
          · exact hk
        have tk := take_kin hK hh hM
        have hk2 : m - 1 = 1 ∨ ∀ t, t < m - 1 → 2 ≤ kin (delF K (lb K x n)) (n - 1) (delF M f) t := by
          refine Or.inr (fun t ht => ?_)
          rw [join_kin (del_strict hK hr0).rises hM hf t ht]
          by_cases c1 : t < f
          · rw [if_pos c1, tk t (by omega) (by omega)]; exact hk3 t (by omega)
          · rw [if_neg c1]
            by_cases c2 : t = f
            · rw [if_pos c2]
              rcases hff with q | q
              · have := tk (f + 1) (by omega) (by omega)
                have := hk3 (f + 1) (by omega)
                omega
              · have := tk f (by omega) (by omega)
                have := hk3 f (by omega)
                omega
            · rw [if_neg c2, tk (t + 1) (by omega) (by omega)]; exact hk3 (t + 1) (by omega)
        have hm45 := m_room (by omega) (del_strict hK hr0).rises (del_rises hM (by omega)) hk2 (show f < m - 1 by omega) (by omega)
        obtain ⟨r, hr1, hr2, hr3⟩ := msplit_e X4 hR4r (show f < m - 1 by omega) (by omega) (by omega)
        rw [hr1, obd_s, obd_s]
        exact ⟨r, rfl, hr2, hR4o.tr hr3⟩
      · rw [if_pos (nI_le (by omega) (by omega)), if_neg c3, obd_s]
        exact ⟨R4, rfl, hR4r, hR4o⟩
  · rw [if_pos (nI_le (by omega) (by omega)), obd_s, if_neg (by omega)]
    exact ⟨R, rfl, hRr, hRo⟩
theorem copy_loop {row : Nat → Int32} {F T : Nat} (hF : F ≤ 1672) (hT : T ≤ 1672) (hd : F + 152 ≤ T ∨ T + 152 ≤ F) :
    ∀ (k f i : Nat) (z : Nat → Int32), i + k = 152 → k < f → (∀ t, z t = if T ≤ t ∧ t < T + i then row (F + (t - T)) else row t) →
      ∃ w, lpX7_copyRow_2 (nI F) (nI T) f (nI i) z = some w ∧ (∀ t, w.2 t = if T ≤ t ∧ t < T + 152 then row (F + (t - T)) else row t) := by
  intro k
  induction k with
  | zero =>
    intro f i z h1 hf hz
    obtain ⟨f, rfl⟩ : ∃ g, f = g + 1 := ⟨f - 1, by omega⟩
    have ei : i = 152 := by omega
    subst ei
    rw [lpX7_copyRow_2, if_pos (show (152 : Int32) ≤ nI 152 from nI_le (Nat.le_refl 152) (by omega))]
    exact ⟨_, rfl, hz⟩
  | succ k ih =>
    intro f i z h1 hf hz
    obtain ⟨f, rfl⟩ : ∃ g, f = g + 1 := ⟨f - 1, by omega⟩
    rw [lpX7_copyRow_2, if_neg (show ¬ (152 : Int32) ≤ nI i from nI_ge (b := 152) (by omega) (by omega)), nI_add, nI_add, oin_in (by omega) (by omega), oin_in (by omega) (by omega), nI_clamp (by omega), nI_clamp (by omega), nI_1]
    refine ih f (i + 1) _ (by omega) (by omega) (fun t => ?_)
    by_cases e : t = T + i
    · rw [e, upd_at, hz, if_neg (by omega), if_pos (by omega)]
      rw [show T + i - T = i by omega]
    · rw [upd_ne e, hz]
      by_cases c : T ≤ t ∧ t < T + i
      · rw [if_pos c, if_pos (by omega)]
      · rw [if_neg c, if_neg (by omega)]
theorem copy_e {row : Nat → Int32} {F T : Nat} (hF : F ≤ 1672) (hT : T ≤ 1672) (hd : F + 152 ≤ T ∨ T + 152 ≤ F) : ∃ r, fX7_copyRow row (nI F) (nI T) = some r ∧ (∀ t, r t = if T ≤ t ∧ t < T + 152 then row (F + (t - T)) else row t) := by
  unfold fX7_copyRow
  obtain ⟨w, hw, hz⟩ := copy_loop (row := row) hF hT hd 152 100000 0 row (by omega) (by omega) (fun t => by rw [if_neg (by omega)])
  have hw2 : lpX7_copyRow_2 (nI F) (nI T) 100000 0 row = some w := hw
  rw [hw2, obd_s]
  exact ⟨_, rfl, hz⟩
theorem copy_row {row r : Nat → Int32} {F T : Nat} {a : Ix} (h : ∀ t, r t = if T ≤ t ∧ t < T + 152 then row (F + (t - T)) else row t) (ha : MRow row F a) (hn : a.2.2.1 ≤ 96) (hm : a.2.2.2.1 ≤ 48) : MRow r T a ∧ sameOut row r T := by
  obtain ⟨b, s, n, m, p, j, K, M⟩ := a
  obtain ⟨q0, q1, q2, q3, q4, q5, q6, q7⟩ := ha
  dsimp only at hn hm
  have g : ∀ d, d < 152 → r (T + d) = row (F + d) := by
    intro d hd
    rw [h, if_pos (by omega), show T + d - T = d by omega]
  refine ⟨⟨(g 0 (by omega)).trans q0, (g 1 (by omega)).trans q1, (g 2 (by omega)).trans q2, (g 3 (by omega)).trans q3, (g 4 (by omega)).trans q4, (g 5 (by omega)).trans q5, fun t ht => ?_, fun t ht => ?_⟩, fun t ht => by rw [h, if_neg (by omega)]⟩
  · have := g (6 + t) (by omega)
    rw [show T + (6 + t) = T + 6 + t by omega, show F + (6 + t) = F + 6 + t by omega] at this
    exact this.trans (q6 t ht)
  · have := g (102 + t) (by omega)
    rw [show T + (102 + t) = T + 102 + t by omega, show F + (102 + t) = F + 102 + t by omega] at this
    exact this.trans (q7 t ht)
def ixNew (b s : Nat) : Ix := (b, s, 0, 1, 0, 0, (fun _ => 0), (fun _ => 2 ^ b - 1))
theorem Ok_new {b s : Nat} (h1 : 4 ≤ b) (h2 : b ≤ 16) (h3 : 2 ≤ s) (h4 : s ≤ 5) : Ok (ixNew b s) :=
  ⟨h1, h2, h3, h4, by omega, by omega, fun i j _ h => by omega, fun i h => by omega, fun i j h1 h2 => Nat.le_refl _, rfl, Or.inl rfl⟩
theorem plan_loop {row : Nat → Int32} {B : Nat} {q2 q3 : Int32} (hB : B ≤ 1672) :
    ∀ (k f i : Nat) (z : Nat → Int32), i + k = 152 → k < f → (∀ t, z t = if B ≤ t ∧ t < B + i then 0 else row t) →
      ∃ w, lpX7_plan_3 (nI B) q2 q3 f (nI i) z = some w ∧ (∀ t, w.2 t = if B ≤ t ∧ t < B + 152 then 0 else row t) := by
  intro k
  induction k with
  | zero =>
    intro f i z h1 hf hz
    obtain ⟨f, rfl⟩ : ∃ g, f = g + 1 := ⟨f - 1, by omega⟩
    have ei : i = 152 := by omega
    subst ei
    rw [lpX7_plan_3, if_pos (show (152 : Int32) ≤ nI 152 from nI_le (Nat.le_refl 152) (by omega))]
    exact ⟨_, rfl, hz⟩
  | succ k ih =>
    intro f i z h1 hf hz
    obtain ⟨f, rfl⟩ : ∃ g, f = g + 1 := ⟨f - 1, by omega⟩
    rw [lpX7_plan_3, if_neg (show ¬ (152 : Int32) ≤ nI i from nI_ge (b := 152) (by omega) (by omega)), nI_add, oin_in (by omega) (by omega), nI_clamp (by omega), nI_1]
    refine ih f (i + 1) _ (by omega) (by omega) (fun t => ?_)
    by_cases e : t = B + i
    · rw [e, upd_at, if_pos (by omega)]
    · rw [upd_ne e, hz]
      by_cases c : B ≤ t ∧ t < B + i
      · rw [if_pos c, if_pos (by omega)]
      · rw [if_neg c, if_neg (by omega)]
theorem plan_e {row : Nat → Int32} {B b s : Nat} (hB : B ≤ 1672) (hb : b ≤ 16) : ∃ r, fX7_plan row (nI B) (nI b) (nI s) = some r ∧ MRow r B (ixNew b s) ∧ sameOut row r B := by
  unfold fX7_plan
  obtain ⟨w, hw, hz⟩ := plan_loop (row := row) (q2 := nI b) (q3 := nI s) hB 152 100000 0 row (by omega) (by omega) (fun t => by rw [if_neg (by omega)])
  have hw2 : lpX7_plan_3 (nI B) (nI b) (nI s) 100000 0 row = some w := hw
  have e0 : nI B + 0 = nI B := nI_add B 0
  have e1 : nI B + 1 = nI (B + 1) := nI_add B 1
  have e3 : nI B + 3 = nI (B + 3) := nI_add B 3
  have e102 : nI B + 102 = nI (B + 102) := nI_add B 102
  rw [hw2, obd_s, e0, e1, e3, e102, oin_in (by omega) (by omega), oin_in (by omega) (by omega), oin_in (by omega) (by omega), oin_in (by omega) (by omega), nI_clamp (by omega), nI_clamp (by omega), nI_clamp (by omega), nI_clamp (by omega), top_e hb]
  refine ⟨_, rfl, ⟨?_, ?_, ?_, ?_, ?_, ?_, fun t ht => by omega, fun t ht => ?_⟩, fun t ht => ?_⟩
  · rw [upd_ne (by omega), upd_ne (by omega), upd_ne (by omega), upd_at]
  · rw [upd_ne (by omega), upd_ne (by omega), upd_at]
  · rw [upd_ne (by omega), upd_ne (by omega), upd_ne (by omega), upd_ne (by omega), hz, if_pos (by omega)]; rfl
  · rw [upd_ne (by omega), upd_at]; rfl
  · rw [upd_ne (by omega), upd_ne (by omega), upd_ne (by omega), upd_ne (by omega), hz, if_pos (by omega)]; rfl
  · rw [upd_ne (by omega), upd_ne (by omega), upd_ne (by omega), upd_ne (by omega), hz, if_pos (by omega)]; rfl
  · have et : t = 0 := by omega
    subst et
    rw [Nat.add_zero, upd_at]
  · rw [upd_ne (by omega), upd_ne (by omega), upd_ne (by omega), upd_ne (by omega), hz, if_neg (by omega)]
