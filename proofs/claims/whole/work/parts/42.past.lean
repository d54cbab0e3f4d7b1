/-! the past and the kept -/
abbrev BC : Type := Int32 × Int32 × Int32 × Int32 × Int32 × Int32 × (Nat → Int32) × (Nat → Int32)
def CBt (t : BC) (a : Ix) : Prop := CB t.1 t.2.1 t.2.2.1 t.2.2.2.1 t.2.2.2.2.1 t.2.2.2.2.2.1 t.2.2.2.2.2.2.1 t.2.2.2.2.2.2.2 a
def ringSet (ring : Nat → BC) (e : Nat) (t : BC) : Nat → BC := fun i => if i = e then t else ring i
theorem nI_nq {a b : Nat} (h : a ≠ b) (ha : a < 2147483648) (hb : b < 2147483648) : ¬ nI a = nI b := fun q => h ((nI_eq (by omega) (by omega)).mp q)
theorem Ok_lim {a : Ix} (h : Ok a) : a.2.2.1 ≤ 96 ∧ a.2.2.2.1 ≤ 48 := by
  obtain ⟨b, s, n, m, p, j, K, M⟩ := a
  exact ⟨h.2.2.2.2.1, m_small h.2.2.2.2.1 h.2.2.2.2.2.2.1.rises h.2.2.2.2.2.2.2.2.1 h.2.2.2.2.2.2.2.2.2.2⟩
theorem MRow_mv {row r : Nat → Int32} {F T : Nat} {a : Ix} (h : ∀ i, i < 152 → r (T + i) = row (F + i)) (hO : Ok a) (hr : MRow row F a) : MRow r T a := by
  have hl := Ok_lim hO
  obtain ⟨b, s, n, m, p, j, K, M⟩ := a
  obtain ⟨h0, h1, h2, h3, h4, h5, h6, h7⟩ := hr
  have hn' : n ≤ 96 := hl.1
  have hm' : m ≤ 48 := hl.2
  refine ⟨?_, ?_, ?_, ?_, ?_, ?_, fun i hi => ?_, fun i hi => ?_⟩
  · exact (h 0 (by omega)).trans h0
  · exact (h 1 (by omega)).trans h1
  · exact (h 2 (by omega)).trans h2
  · exact (h 3 (by omega)).trans h3
  · exact (h 4 (by omega)).trans h4
  · exact (h 5 (by omega)).trans h5
  · rw [Nat.add_assoc, h (6 + i) (by omega), ← Nat.add_assoc]; exact h6 i hi
  · rw [Nat.add_assoc, h (102 + i) (by omega), ← Nat.add_assoc]; exact h7 i hi
theorem kp_loop {row : Nat → Int32} : ∀ (k f i : Nat) (z : Nat → Int32), i + k = 1064 → k < f → (∀ t, z t = if 152 ≤ t ∧ t < 152 + i then row (t + 152) else row t) →
    ∃ w, lpX7_keepPast_2 8 f (nI i) z = some w ∧ (∀ t, w.2 t = if 152 ≤ t ∧ t < 1216 then row (t + 152) else row t) := by
  intro k
  induction k with
  | zero =>
    intro f i z h1 hf hz
    obtain ⟨f, rfl⟩ : ∃ g, f = g + 1 := ⟨f - 1, by omega⟩
    obtain rfl : i = 1064 := by omega
    refine ⟨(nI 1064, z), ?_, hz⟩
    rw [lpX7_keepPast_2, if_pos (show (1064 : Int32) ≤ nI 1064 from nI_le (a := 1064) (by omega) (by omega))]
  | succ k ih =>
    intro f i z h1 hf hz
    obtain ⟨f, rfl⟩ : ∃ g, f = g + 1 := ⟨f - 1, by omega⟩
    have e3 : (304 : Int32) + nI i = nI (304 + i) := nI_add 304 i
    have e1 : (152 : Int32) + nI i = nI (152 + i) := nI_add 152 i
    rw [lpX7_keepPast_2, if_neg (show ¬ (1064 : Int32) ≤ nI i from nI_ge (b := 1064) (by omega) (by omega)), if_pos rfl, e3, e1, oin_in (by omega) (by omega), oin_in (by omega) (by omega), nI_clamp (by omega), nI_clamp (by omega), nI_1]
    refine ih f (i + 1) _ (by omega) (by omega) (fun t => ?_)
    by_cases e : t = 152 + i
    · rw [e, upd_at, hz, if_neg (by omega), if_pos (by omega)]
      congr 1
      omega
    · rw [upd_ne e, hz]
      by_cases c : 152 ≤ t ∧ t < 152 + i
      · rw [if_pos c, if_pos (by omega)]
      · rw [if_neg c, if_neg (by omega)]
def pastP (P : Nat → Ix) (a : Ix) (h : Nat) : Nat → Ix := fun t => if h < 8 then (if t < h then P t else a) else (if t < 7 then P (t + 1) else a)
def hUp (h : Nat) : Nat := if h < 8 then h + 1 else 8
theorem keepPast_e {row : Nat → Int32} {a : Ix} {h : Nat} {P : Nat → Ix} (hO : Ok a) (hr : MRow row 0 a) (hh : h ≤ 8) (hP : ∀ t, t < h → Ok (P t) ∧ MRow row (152 + 152 * t) (P t)) :
    ∃ r, fX7_keepPast (nI h) row = some (nI (hUp h), r) ∧ (∀ i, (i < 152 ∨ 1368 ≤ i) → r i = row i) ∧ (∀ t, t < hUp h → Ok (pastP P a h t) ∧ MRow r (152 + 152 * t) (pastP P a h t)) := by
  by_cases c : h < 8
  · obtain ⟨r, c1, c2⟩ := copy_e (row := row) (F := 0) (T := 152 + 152 * h) (by omega) (by omega) (by omega)
    have eu : hUp h = h + 1 := if_pos c
    refine ⟨r, ?_, fun i hi => by rw [c2, if_neg (by omega)], fun t ht => ?_⟩
    · unfold fX7_keepPast
      have l1 : lpX7_keepPast_2 (nI h) 100000 0 row = some (0, row) := by
        rw [show (100000 : Nat) = 99999 + 1 from rfl, lpX7_keepPast_2, if_neg (show ¬ (1064 : Int32) ≤ 0 by decide), if_neg (show ¬ nI h = (8 : Int32) from nI_nq (b := 8) (by omega) (by omega) (by omega))]
      have e0 : nI h - 0 = nI h := Int32.sub_zero _
      have e1 : (152 : Int32) * nI h = nI (152 * h) := pk_mul 152 h
      have e2 : (152 : Int32) + nI (152 * h) = nI (152 + 152 * h) := nI_add 152 _
      have c1' : fX7_copyRow row 0 (nI (152 + 152 * h)) = some r := c1
      rw [l1, obd_s, olet_s, if_neg (show ¬ nI h = (8 : Int32) from nI_nq (b := 8) (by omega) (by omega) (by omega)), e0, e1, e2, c1', obd_s, nI_1, eu]
    · rw [eu] at ht
      unfold pastP
      rw [if_pos c]
      by_cases ct : t < h
      · rw [if_pos ct]
        exact ⟨(hP t ct).1, MRow_mv (fun i hi => by rw [c2, if_neg (by omega)]) (hP t ct).1 (hP t ct).2⟩
      · rw [if_neg ct]
        obtain rfl : t = h := by omega
        refine ⟨hO, MRow_mv (F := 0) (fun i hi => ?_) hO hr⟩
        rw [c2, if_pos (by omega)]
        congr 1
        omega
  · obtain rfl : h = 8 := by omega
    obtain ⟨w, k1, k2⟩ := kp_loop (row := row) 1064 100000 0 row (by omega) (by omega) (fun t => by rw [if_neg (by omega)])
    obtain ⟨r, c1, c2⟩ := copy_e (row := w.2) (F := 0) (T := 1216) (by omega) (by omega) (by omega)
    refine ⟨r, ?_, fun i hi => by rw [c2, if_neg (by omega), k2, if_neg (by omega)], fun t ht => ?_⟩
    · unfold fX7_keepPast
      have k1' : lpX7_keepPast_2 (nI 8) 100000 0 row = some w := k1
      have c1' : fX7_copyRow w.2 0 ((152 : Int32) + (152 : Int32) * (nI 8 - 1)) = some r := c1
      rw [k1', obd_s, olet_s, if_pos (show nI 8 = (8 : Int32) from rfl), c1', obd_s]
      rfl
    · have ht' : t < 8 := ht
      unfold pastP
      rw [if_neg (show ¬ 8 < 8 by omega)]
      by_cases ct : t < 7
      · rw [if_pos ct]
        refine ⟨(hP (t + 1) (by omega)).1, MRow_mv (F := 152 + 152 * (t + 1)) (fun i hi => ?_) (hP (t + 1) (by omega)).1 (hP (t + 1) (by omega)).2⟩
        rw [c2, if_neg (by omega), k2, if_pos (by omega)]
        exact congrArg row (by omega)
      · rw [if_neg ct]
        obtain rfl : t = 7 := by omega
        refine ⟨hO, MRow_mv (F := 0) (fun i hi => ?_) hO hr⟩
        rw [c2, if_pos (by omega), k2, if_neg (by omega)]
        exact congrArg row (by omega)
def PastI (next held : Int32) (ring : Nat → BC) (undos : Int32) (row : Nat → Int32) : Prop := ∃ (h e : Nat) (P : Nat → Ix), h ≤ 8 ∧ e < 8 ∧ held = nI h ∧ next = nI e ∧ undos = nI h ∧ ∀ t, t < h → Ok (P t) ∧ CBt (ring ((e + 8 - h + t) % 8)) (P t) ∧ MRow row (152 + 152 * t) (P t)
theorem mod8_e {k : Nat} (h : k < 1000) : nI k - nI k / 8 * 8 = nI (k % 8) := mod_e (c := 8) (by omega) (by omega) (by omega)
/-- the class remembers -/
theorem rem_c {e h : Nat} {t0 now : BC} {a : Ix} (he : e < 8) (hh : h ≤ 8) (hO : Ok a) (hC : CBt now a) : ∃ t' : BC, fX3_remember (nI e) (nI h) t0.1 t0.2.1 t0.2.2.1 t0.2.2.2.1 t0.2.2.2.2.1 t0.2.2.2.2.2.1 t0.2.2.2.2.2.2.1 t0.2.2.2.2.2.2.2 now.1 now.2.1 now.2.2.1 now.2.2.2.1 now.2.2.2.2.1 now.2.2.2.2.2.1 now.2.2.2.2.2.2.1 now.2.2.2.2.2.2.2 = some (nI ((e + 1) % 8), nI (hUp h), t') ∧ CBt t' a := by
  obtain ⟨k', m', b1, b2⟩ := become_e (bits := t0.1) (size := t0.2.1) (kc := t0.2.2.1) (mc := t0.2.2.2.1) (sp := t0.2.2.2.2.1) (jo := t0.2.2.2.2.2.1) (keys := t0.2.2.2.2.2.2.1) (marks := t0.2.2.2.2.2.2.2) hO hC
  refine ⟨(now.1, now.2.1, now.2.2.1, now.2.2.2.1, now.2.2.2.2.1, now.2.2.2.2.2.1, k', m'), ?_, b2⟩
  have cA : fX3_copyAt (nI e) = some () := by
    unfold fX3_copyAt
    rw [if_neg (nI_pos (by omega)), if_neg (show ¬ (8 : Int32) ≤ nI e from nI_ge (b := 8) he (by omega)), oin_in he (by omega), obd_s]
  unfold fX3_remember
  rw [cA, obd_s, b1, obd_s, nI_1 e, nI_1 h, mod8_e (by omega)]
  have : (if (8 : Int32) < nI (h + 1) then (8 : Int32) else nI (h + 1)) = nI (hUp h) := by
    unfold hUp
    by_cases c : h < 8
    · rw [if_pos c, if_neg (show ¬ (8 : Int32) < nI (h + 1) from nI_nlt (a := 8) (by omega) (by omega))]
      
    · rw [if_neg c, if_pos (show (8 : Int32) < nI (h + 1) from nI_lt (a := 8) (by omega) (by omega))]
      rfl
  rw [this]
theorem PastI_up {ring : Nat → BC} {row r : Nat → Int32} {h e : Nat} {P : Nat → Ix} {a : Ix} {t' : BC} (hh : h ≤ 8) (he : e < 8) (hP : ∀ t, t < h → Ok (P t) ∧ CBt (ring ((e + 8 - h + t) % 8)) (P t) ∧ MRow row (152 + 152 * t) (P t)) (hr : ∀ t, t < hUp h → Ok (pastP P a h t) ∧ MRow r (152 + 152 * t) (pastP P a h t)) (ht : CBt t' a) :
    PastI (nI ((e + 1) % 8)) (nI (hUp h)) (ringSet ring e t') (nI (hUp h)) r := by
  have h8 : hUp h ≤ 8 := by unfold hUp; split <;> omega
  refine ⟨hUp h, (e + 1) % 8, pastP P a h, h8, by omega, rfl, rfl, rfl, fun t h1 => ⟨(hr t h1).1, ?_, (hr t h1).2⟩⟩
  unfold pastP ringSet
  by_cases c : h < 8
  · have eu : hUp h = h + 1 := if_pos c
    rw [eu] at h1
    rw [eu, if_pos c, show ((e + 1) % 8 + 8 - (h + 1) + t) % 8 = (e + 8 - h + t) % 8 by omega]
    by_cases ct : t < h
    · rw [if_pos ct, if_neg (by omega)]
      exact (hP t ct).2.1
    · rw [if_neg ct, if_pos (by omega)]
      exact ht
  · have eu : hUp h = 8 := if_neg c
    rw [eu] at h1
    obtain rfl : h = 8 := by omega
    rw [eu, if_neg c]
    by_cases ct : t < 7
    · rw [if_pos ct, if_neg (by omega)]
      have := (hP (t + 1) (by omega)).2.1
      rw [show ((e + 1) % 8 + 8 - 8 + t) % 8 = (e + 8 - 8 + (t + 1)) % 8 by omega]
      exact this
    · rw [if_neg ct, if_pos (by omega)]
      exact ht
