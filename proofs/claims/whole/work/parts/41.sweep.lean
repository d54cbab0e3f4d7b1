/-! sweep and flood -/
def ixSweep (A : Nat) (a : Ix) : Nat → Ix
  | 0 => a
  | i + 1 => ixTake (ixSweep A a i) ((ixSweep A a i).2.2.2.2.2.2.1 (lb (ixSweep A a i).2.2.2.2.2.2.1 A (ixSweep A a i).2.2.1))
theorem ixTake_n (a : Ix) (x : Nat) : (ixTake a x).2.2.1 = a.2.2.1 - 1 ∧ (ixTake a x).2.2.2.2.2.2.1 = delF a.2.2.2.2.2.2.1 (lb a.2.2.2.2.2.2.1 x a.2.2.1) ∧ (ixTake a x).1 = a.1 ∧ (ixTake a x).2.1 = a.2.1 := by
  obtain ⟨b, s, n, m, p, j, K, M⟩ := a
  unfold ixTake ixHalve
  dsimp only
  split
  · split <;> split <;> exact ⟨rfl, rfl, rfl, rfl⟩
  · exact ⟨rfl, rfl, rfl, rfl⟩
theorem Ok_strict {a : Ix} (h : Ok a) : strict a.2.2.2.2.2.2.1 a.2.2.1 ∧ (∀ i, i < a.2.2.1 → a.2.2.2.2.2.2.1 i < 65536) ∧ a.2.2.1 ≤ 96 ∧ a.1 ≤ 16 := by
  obtain ⟨b, s, n, m, p, j, K, M⟩ := a
  have hp := pow_le16 h.2.1
  refine ⟨h.2.2.2.2.2.2.1, fun i hi => ?_, h.2.2.2.2.1, h.2.1⟩
  have := h.2.2.2.2.2.2.2.1 i hi
  show K i < 65536
  omega
/-- after i takings: an index, the same bits; below A as many as before, at most Z as many less i -/
theorem sweep_inv {a : Ix} {A Z : Nat} (h : Ok a) (hAZ : A ≤ Z) : ∀ i, i ≤ lb a.2.2.2.2.2.2.1 (Z + 1) a.2.2.1 - lb a.2.2.2.2.2.2.1 A a.2.2.1 →
    Ok (ixSweep A a i) ∧ lb (ixSweep A a i).2.2.2.2.2.2.1 A (ixSweep A a i).2.2.1 = lb a.2.2.2.2.2.2.1 A a.2.2.1 ∧ lb (ixSweep A a i).2.2.2.2.2.2.1 (Z + 1) (ixSweep A a i).2.2.1 = lb a.2.2.2.2.2.2.1 (Z + 1) a.2.2.1 - i := by
  intro i
  induction i with
  | zero => intro _; exact ⟨h, rfl, rfl⟩
  | succ i ih =>
    intro hi
    obtain ⟨q1, q2, q3⟩ := ih (by omega)
    rw [ixSweep]
    generalize ixSweep A a i = c at q1 q2 q3
    obtain ⟨hs, hb, hn, _⟩ := Ok_strict q1
    obtain ⟨t1, t2, t3, t4⟩ := ixTake_n c (c.2.2.2.2.2.2.1 (lb c.2.2.2.2.2.2.1 A c.2.2.1))
    have hl := lb_le c.2.2.2.2.2.2.1 (Z + 1) c.2.2.1
    have hr : lb c.2.2.2.2.2.2.1 A c.2.2.1 < c.2.2.1 := by omega
    have hk := lb_lt (x := Z + 1) hs.rises (lb c.2.2.2.2.2.2.1 A c.2.2.1) (by omega)
    have hk2 := lb_ge (K := c.2.2.2.2.2.2.1) (x := A) (lb c.2.2.2.2.2.2.1 A c.2.2.1) (by omega) hr
    have hh := ixHas_of hs hr
    refine ⟨Ok_take q1 hh, ?_, ?_⟩
    · rw [t1, t2, lb_del hs hh, if_neg (by omega), q2]; omega
    · rw [t1, t2, lb_del hs hh, if_pos hk, q3]; omega
theorem take_c {a : Ix} {bits size kc mc sp jo : Int32} {keys marks : Nat → Int32} {x : Nat} (h : Ok a) (hC : CB bits size kc mc sp jo keys marks a) (hh : ixHas a.2.2.2.2.2.2.1 a.2.2.1 x) :
    ∃ kc' mc' sp' jo' k' m', fX0_takeOut size kc mc sp jo keys marks (nI x) = some (kc', mc', sp', jo', k', m') ∧ CB bits size kc' mc' sp' jo' k' m' (ixTake a x) := by
  obtain ⟨b, s, n, m, p, j, K, M⟩ := a
  obtain ⟨rfl, rfl, rfl, rfl, rfl, rfl, ha, hm⟩ := hC
  exact takeOut_has h ha hm hh
theorem take_m {a : Ix} {row : Nat → Int32} {B x : Nat} (hB : B ≤ 1672) (h : Ok a) (hr : MRow row B a) (hh : ixHas a.2.2.2.2.2.2.1 a.2.2.1 x) : ∃ r, fX7_takeOut row (nI B) (nI x) = some r ∧ MRow r B (ixTake a x) ∧ sameOut row r B := by
  obtain ⟨b, s, n, m, p, j, K, M⟩ := a
  exact mtake_e hB h hr hh
theorem rank_c {a : Ix} {bits size kc mc sp jo : Int32} {keys marks : Nat → Int32} {x : Nat} (h : Ok a) (hC : CB bits size kc mc sp jo keys marks a) (hx : x < 2147483648) : fX0_rankOf kc keys (nI x) = some (nI (lb a.2.2.2.2.2.2.1 x a.2.2.1)) := by
  have hO := Ok_strict h
  obtain ⟨b, s, n, m, p, j, K, M⟩ := a
  obtain ⟨rfl, rfl, rfl, rfl, rfl, rfl, ha, hm⟩ := hC
  exact rank_e hO.2.2.1 hO.1 hO.2.1 ha hx
theorem key_c {a : Ix} {bits size kc mc sp jo : Int32} {keys marks : Nat → Int32} {i : Nat} (h : Ok a) (hC : CB bits size kc mc sp jo keys marks a) (hi : i < a.2.2.1) : fX0_keyAt kc keys (nI i) = some (nI (a.2.2.2.2.2.2.1 i)) := by
  have hO := Ok_strict h
  obtain ⟨b, s, n, m, p, j, K, M⟩ := a
  obtain ⟨rfl, rfl, rfl, rfl, rfl, rfl, ha, hm⟩ := hC
  exact keyAt_in hO.2.2.1 ha hi
theorem sweep_loop_c {a : Ix} {bits size : Int32} {A Z c : Nat} (h : Ok a) (hAZ : A ≤ Z) (hZ : Z < 65536) (hc : c = lb a.2.2.2.2.2.2.1 (Z + 1) a.2.2.1 - lb a.2.2.2.2.2.2.1 A a.2.2.1) :
    ∀ (k f i : Nat) (kc mc sp jo : Int32) (keys marks : Nat → Int32), i + k = c → k < f → CB bits size kc mc sp jo keys marks (ixSweep A a i) →
      ∃ w kc' mc' sp' jo' k' m', lpX0_takeOutAll_17 (nI A) (nI c) size f (nI i) kc mc sp jo keys marks = some (w, kc', mc', sp', jo', k', m') ∧ CB bits size kc' mc' sp' jo' k' m' (ixSweep A a c) := by
  have hc96 : c ≤ 96 := by
    have := (Ok_strict h).2.2.1
    have := lb_le a.2.2.2.2.2.2.1 (Z + 1) a.2.2.1
    omega
  intro k
  induction k with
  | zero =>
    intro f i kc mc sp jo keys marks h1 h2 h3
    obtain ⟨f, rfl⟩ : ∃ g, f = g + 1 := ⟨f - 1, by omega⟩
    obtain rfl : i = c := by omega
    exact ⟨nI i, kc, mc, sp, jo, keys, marks, by rw [lpX0_takeOutAll_17, if_pos (nI_le (by omega) (by omega))], h3⟩
  | succ k ih =>
    intro f i kc mc sp jo keys marks h1 h2 h3
    obtain ⟨f, rfl⟩ : ∃ g, f = g + 1 := ⟨f - 1, by omega⟩
    obtain ⟨q1, q2, q3⟩ := sweep_inv h hAZ i (by omega)
    have hl := lb_le (ixSweep A a i).2.2.2.2.2.2.1 (Z + 1) (ixSweep A a i).2.2.1
    have hr : lb (ixSweep A a i).2.2.2.2.2.2.1 A (ixSweep A a i).2.2.1 < (ixSweep A a i).2.2.1 := by omega
    obtain ⟨kc', mc', sp', jo', k', m', s1, s2⟩ := take_c q1 h3 (ixHas_of (Ok_strict q1).1 hr)
    obtain ⟨w, kc2, mc2, sp2, jo2, k2, m2, r1, r2⟩ := ih f (i + 1) kc' mc' sp' jo' k' m' (by omega) (by omega) s2
    refine ⟨w, kc2, mc2, sp2, jo2, k2, m2, ?_, r2⟩
    rw [lpX0_takeOutAll_17, if_neg (nI_ge (by omega) (by omega)), rank_c q1 h3 (by omega), obd_s, key_c q1 h3 hr, obd_s, s1, obd_s, nI_1]
    exact r1
theorem sweep_c {a : Ix} {bits size kc mc sp jo : Int32} {keys marks : Nat → Int32} {A Z c : Nat} (h : Ok a) (hAZ : A ≤ Z) (hZ : Z < 65536) (hc : c = lb a.2.2.2.2.2.2.1 (Z + 1) a.2.2.1 - lb a.2.2.2.2.2.2.1 A a.2.2.1) (hC : CB bits size kc mc sp jo keys marks a) :
    ∃ kc' mc' sp' jo' k' m', fX0_takeOutAll size kc mc sp jo keys marks (nI A) (nI Z) = some (kc', mc', sp', jo', k', m') ∧ CB bits size kc' mc' sp' jo' k' m' (ixSweep A a c) := by
  have hc96 : c ≤ 96 := by
    have := (Ok_strict h).2.2.1
    have := lb_le a.2.2.2.2.2.2.1 (Z + 1) a.2.2.1
    omega
  obtain ⟨w, kc2, mc2, sp2, jo2, k2, m2, r1, r2⟩ := sweep_loop_c (bits := bits) (size := size) h hAZ hZ hc c 100000 0 kc mc sp jo keys marks (by omega) (by omega) hC
  refine ⟨kc2, mc2, sp2, jo2, k2, m2, ?_, r2⟩
  unfold fX0_takeOutAll
  have hmono := lb_mono (K := a.2.2.2.2.2.2.1) (x := A) (y := Z + 1) (Ok_strict h).1.rises (by omega)
  rw [nI_1, rank_c h hC (by omega), obd_s, rank_c h hC (by omega), obd_s, pk_sub hmono, ← hc]
  have r1' : lpX0_takeOutAll_17 (nI A) (nI c) size 100000 0 kc mc sp jo keys marks = some (w, kc2, mc2, sp2, jo2, k2, m2) := r1
  rw [r1', obd_s]
theorem sweep_loop_m {a : Ix} {A Z c : Nat} {q3 : Int32} (h : Ok a) (hAZ : A ≤ Z) (hZ : Z < 65536) (hc : c = lb a.2.2.2.2.2.2.1 (Z + 1) a.2.2.1 - lb a.2.2.2.2.2.2.1 A a.2.2.1) :
    ∀ (k f i : Nat) (row : Nat → Int32), i + k = c → k < f → MRow row 1672 (ixSweep A a i) →
      ∃ r, lpX7_sweep_54 (nI Z) q3 (nI (lb a.2.2.2.2.2.2.1 A a.2.2.1)) f row = some r ∧ MRow r 1672 (ixSweep A a c) ∧ sameOut row r 1672 := by
  have hn96 := (Ok_strict h).2.2.1
  have hlA := lb_le a.2.2.2.2.2.2.1 A a.2.2.1
  have o4 : ∀ {α : Type} (X : Option α), oin (1674 : Int32) 1824 X = X := fun X => oin_in (a := 1674) (by omega) (by omega)
  have e8 : (1678 : Int32) + nI (lb a.2.2.2.2.2.2.1 A a.2.2.1) = nI (1672 + 6 + lb a.2.2.2.2.2.2.1 A a.2.2.1) := nI_add 1678 _
  have step : ∀ i row, i ≤ c → MRow row 1672 (ixSweep A a i) → row (1674 : Int32).toNatClampNeg = nI (ixSweep A a i).2.2.1 := fun i row hi hr => MRow_n hr
  have key : ∀ i row, MRow row 1672 (ixSweep A a i) → ∀ t, t < (ixSweep A a i).2.2.1 → row (1672 + 6 + t) = nI ((ixSweep A a i).2.2.2.2.2.2.1 t) := fun i row hr => hr.2.2.2.2.2.2.1
  intro k
  induction k with
  | zero =>
    intro f i row h1 h2 h3
    obtain ⟨f, rfl⟩ : ∃ g, f = g + 1 := ⟨f - 1, by omega⟩
    obtain rfl : i = c := by omega
    obtain ⟨q1, q2, q3⟩ := sweep_inv h hAZ i (by omega)
    obtain ⟨hs, hb, hn, _⟩ := Ok_strict q1
    refine ⟨row, ?_, h3, sameOut.rf _ _⟩
    rw [lpX7_sweep_54, o4, step i row (by omega) h3]
    by_cases c2 : (ixSweep A a i).2.2.1 ≤ lb a.2.2.2.2.2.2.1 A a.2.2.1
    · rw [if_pos (nI_le c2 (by omega))]
    · have hk := lb_ge (K := (ixSweep A a i).2.2.2.2.2.2.1) (x := Z + 1) (n := (ixSweep A a i).2.2.1) (lb a.2.2.2.2.2.2.1 A a.2.2.1) (by have := lb_mono (K := a.2.2.2.2.2.2.1) (x := A) (y := Z + 1) (Ok_strict h).1.rises (by omega); omega) (by omega)
      have hkb := hb (lb a.2.2.2.2.2.2.1 A a.2.2.1) (by omega)
      rw [if_neg (nI_ge (by omega) (by omega)), e8, oin_in (by omega) (by omega), nI_clamp (by omega), key i row h3 _ (by omega), if_pos (nI_lt (by omega) (by omega))]
  | succ k ih =>
    intro f i row h1 h2 h3
    obtain ⟨f, rfl⟩ : ∃ g, f = g + 1 := ⟨f - 1, by omega⟩
    obtain ⟨q1, q2, q3⟩ := sweep_inv h hAZ i (by omega)
    obtain ⟨hs, hb, hn, _⟩ := Ok_strict q1
    have hl := lb_le (ixSweep A a i).2.2.2.2.2.2.1 (Z + 1) (ixSweep A a i).2.2.1
    have hr : lb a.2.2.2.2.2.2.1 A a.2.2.1 < (ixSweep A a i).2.2.1 := by omega
    have hk := lb_lt (x := Z + 1) hs.rises (lb a.2.2.2.2.2.2.1 A a.2.2.1) (by omega)
    have hkb := hb (lb a.2.2.2.2.2.2.1 A a.2.2.1) hr
    obtain ⟨r, s1, s2, s3⟩ := take_m (B := 1672) (by omega) q1 h3 (ixHas_of hs hr)
    obtain ⟨r', t1, t2, t3⟩ := ih f (i + 1) r (by omega) (by omega) (by rw [ixSweep, q2]; exact s2)
    refine ⟨r', ?_, t2, s3.tr t3⟩
    have s1' : fX7_takeOut row 1672 (nI ((ixSweep A a i).2.2.2.2.2.2.1 (lb a.2.2.2.2.2.2.1 A a.2.2.1))) = some r := s1
    rw [lpX7_sweep_54, o4, step i row (by omega) h3, if_neg (nI_ge hr (by omega)), e8, oin_in (by omega) (by omega), nI_clamp (by omega), key i row h3 _ hr, if_neg (nI_nlt (by omega) (by omega)), oin_in (by omega) (by omega), s1', obd_s]
    exact t1
theorem MRow_out {row r : Nat → Int32} {B B2 : Nat} {a : Ix} (h : sameOut row r B) (hr : MRow row B2 a) (hn : a.2.2.1 ≤ 96) (hm : a.2.2.2.1 ≤ 48) (hd : B2 + 152 ≤ B ∨ B + 152 ≤ B2) : MRow r B2 a := by
  obtain ⟨b, s, n, m, p, j, K, M⟩ := a
  obtain ⟨h0, h1, h2, h3, h4, h5, h6, h7⟩ := hr
  have hn' : n ≤ 96 := hn
  have hm' : m ≤ 48 := hm
  refine ⟨?_, ?_, ?_, ?_, ?_, ?_, fun i hi => ?_, fun i hi => ?_⟩
  · rw [h _ (by omega)]; exact h0
  · rw [h _ (by omega)]; exact h1
  · rw [h _ (by omega)]; exact h2
  · rw [h _ (by omega)]; exact h3
  · rw [h _ (by omega)]; exact h4
  · rw [h _ (by omega)]; exact h5
  · rw [h _ (by omega)]; exact h6 i hi
  · rw [h _ (by omega)]; exact h7 i hi
section
variable {bits size kc mc sp jo : Int32} {keys marks row : Nat → Int32} {b s n m p j : Nat} {K M : Nat → Nat}
theorem Both.cb (h : Both bits size kc mc sp jo keys marks row b s n m p j K M) : CB bits size kc mc sp jo keys marks (b, s, n, m, p, j, K, M) := ⟨h.2.1, h.2.2.1, h.2.2.2.1, h.2.2.2.2.1, h.2.2.2.2.2.1, h.2.2.2.2.2.2.1, h.2.2.2.2.2.2.2.1, h.2.2.2.2.2.2.2.2.1⟩
theorem eq_sweep (h : Both bits size kc mc sp jo keys marks row b s n m p j K M) (t1 t2 t3 t4 t5 t6 : Int32) (tk tm : Nat → Int32) (x y w : Int32) :
    ∃ r u rr, fX6_sweep bits size kc mc sp jo keys marks t1 t2 t3 t4 t5 t6 tk tm x y w = some (r, u) ∧ fX7_sweep row x y w = some (r, rr) ∧ sameOut row rr 1672 := by
  have hn := h.cx.1
  have hm := h.cx.2.1
  have eL : ∀ z : Int32, fX7_in z.toInt64 (0 : Int64) (2 : Int64) = fX7_in z.toInt64 (0 : Int32).toInt64 (2 : Int32).toInt64 := fun _ => rfl
  have hb := pow_le16 h.b16
  unfold fX6_sweep fX7_sweep
  rw [eL]
  rcases h.bnd x with ⟨h1, h2⟩ | ⟨A, hA, hA2, rfl, h1, h2⟩
  · rw [h1, h2, obd_s, obd_s, if_pos rfl, if_pos rfl]
    exact ⟨_, _, _, rfl, rfl, sameOut.rf _ _⟩
  rw [h1, h2, obd_s, obd_s, if_neg z10, if_neg z10]
  rcases h.bnd y with ⟨h1, h2⟩ | ⟨Z, hZ, hZ2, rfl, h1, h2⟩
  · rw [h1, h2, obd_s, obd_s, if_pos rfl, if_pos rfl]
    exact ⟨_, _, _, rfl, rfl, sameOut.rf _ _⟩
  rw [h1, h2, obd_s, obd_s, if_neg z10, if_neg z10]
  by_cases hAZ : Z < A
  · rw [if_pos (nI_lt hAZ (by omega)), if_pos (nI_lt hAZ (by omega))]
    exact ⟨_, _, _, rfl, rfl, sameOut.rf _ _⟩
  rw [if_neg (nI_nlt (by omega) (by omega)), if_neg (nI_nlt (by omega) (by omega))]
  rcases way_cases w (N := 2) (by omega) with c | ⟨v, hv, rfl⟩ | c
  · rw [if_pos c, inI_lt c, obd_s, if_pos z00]
    exact ⟨_, _, _, rfl, rfl, sameOut.rf _ _⟩
  · rw [if_neg (nI_pos (by omega)), if_pos (show nI v ≤ (2 : Int32) from nI_le (b := 2) hv (by omega)), inI_in (nI_pos (by omega)) (show ¬ (2 : Int32) < nI v from nI_nlt (a := 2) hv (by omega)), obd_s, if_neg z10]
    obtain ⟨k', m', b1, b2⟩ := become_e (bits := t1) (size := t2) (kc := t3) (mc := t4) (sp := t5) (jo := t6) (keys := tk) (marks := tm) h.1 h.cb
    obtain ⟨kc2, mc2, sp2, jo2, k2, m2, s1, s2⟩ := sweep_c h.1 (show A ≤ Z by omega) hZ2 rfl b2
    obtain ⟨r1, c1, c2⟩ := copy_e (row := row) (F := 0) (T := 1672) (by omega) (by omega) (by omega)
    obtain ⟨c3, c4⟩ := copy_row c2 h.2.2.2.2.2.2.2.2.2 hn hm
    have hM := Ok_Mx (by omega) h.1 c3
    have hbel : fX7_below r1 1672 (nI A) = some (nI (lb K A n)) := below_e (B := 1672) (by omega) hn (by omega) hM.2.2.2.2.2.2.2.2.1 hM.2.2.2.2.2.2.2.2.2.2.1 hM.2.2.2.2.1.rises hM.2.2.2.2.2.1
    have hl : lb K (Z + 1) n ≤ n := lb_le _ _ _
    obtain ⟨r2, d1, d2, d3⟩ := sweep_loop_m (q3 := nI v) h.1 (show A ≤ Z by omega) hZ2 rfl (lb K (Z + 1) n - lb K A n) 100000 0 r1 (by show 0 + _ = lb K (Z + 1) n - lb K A n; omega) (by omega) c3
    have hout := c4.tr d3
    have c1' : fX7_copyRow row 0 1672 = some r1 := c1
    have d1' : lpX7_sweep_54 (nI Z) (nI v) (nI (lb K A n)) 100000 r1 = some r2 := d1
    rw [b1, obd_s]
    dsimp only
    rw [s1, obd_s, c1', obd_s, hbel, obd_s, d1', obd_s]
    have h4 : r2 (4 : Int32).toNatClampNeg = nI p := (hout 4 (by omega)).trans h.2.2.2.2.2.2.2.2.2.2.2.2.2.1
    have h5 : r2 (5 : Int32).toNatClampNeg = nI j := (hout 5 (by omega)).trans h.2.2.2.2.2.2.2.2.2.2.2.2.2.2.1
    have o1675 : ∀ {α : Type} (X : Option α), oin (1675 : Int32) 1824 X = X := fun X => oin_in (a := 1675) (by omega) (by omega)
    have o1676 : ∀ {α : Type} (X : Option α), oin (1676 : Int32) 1824 X = X := fun X => oin_in (a := 1676) (by omega) (by omega)
    have o1677 : ∀ {α : Type} (X : Option α), oin (1677 : Int32) 1824 X = X := fun X => oin_in (a := 1677) (by omega) (by omega)
    have o4 : ∀ {α : Type} (X : Option α), oin (4 : Int32) 1824 X = X := fun X => oin_in (a := 4) (by omega) (by omega)
    have o5 : ∀ {α : Type} (X : Option α), oin (5 : Int32) 1824 X = X := fun X => oin_in (a := 5) (by omega) (by omega)
    rw [o1675, o1676, o1677, o4, o5, h4, h5]
    have hs : sp = nI p := h.2.2.2.2.2.1
    have hj : jo = nI j := h.2.2.2.2.2.2.1
    generalize ixSweep A (b, s, n, m, p, j, K, M) _ = a2 at s2 d2
    obtain ⟨b', s', n', m2', p', j', K', M'⟩ := a2
    have e3 : r2 (1675 : Int32).toNatClampNeg = mc2 := d2.2.2.2.1.trans s2.2.2.2.1.symm
    have e4 : r2 (1676 : Int32).toNatClampNeg = sp2 := d2.2.2.2.2.1.trans s2.2.2.2.2.1.symm
    have e5 : r2 (1677 : Int32).toNatClampNeg = jo2 := d2.2.2.2.2.2.1.trans s2.2.2.2.2.2.1.symm
    rw [e3, e4, e5, hs, hj]
    have : v = 0 ∨ v = 1 ∨ v = 2 := by omega
    rcases this with rfl | rfl | rfl <;> exact ⟨_, _, _, rfl, rfl, hout⟩
  · rw [if_neg (big_nn (N := 2) (by omega) c), if_neg (show ¬ w ≤ 2 from big_nle c), inI_gt (show (2 : Int32) < w from c), obd_s, if_pos z00]
    exact ⟨_, _, _, rfl, rfl, sameOut.rf _ _⟩
theorem rng_cases (w : Int32) {N : Nat} (h1 : 1 ≤ N) (hN : N < 2147483648) : ((w < 1 ∨ (¬ w < 1 ∧ nI N < w)) ∧ fX7_in w.toInt64 (1 : Int32).toInt64 (nI N).toInt64 = some 0) ∨ ∃ k, 1 ≤ k ∧ k ≤ N ∧ w = nI k ∧ ¬ w < 1 ∧ ¬ nI N < w ∧ fX7_in w.toInt64 (1 : Int32).toInt64 (nI N).toInt64 = some 1 := by
  rcases i32_cases w with c | ⟨k, hk, rfl⟩
  · have : w < 1 := Int32.lt_trans c (by decide)
    exact Or.inl ⟨Or.inl this, inI_lt this⟩
  · by_cases c0 : k = 0
    · subst c0
      exact Or.inl ⟨Or.inl (by decide), inI_lt (by decide)⟩
    · have n1 : ¬ nI k < 1 := nI_nlt (b := 1) (by omega) hk
      by_cases c1 : N < k
      · have n2 : nI N < nI k := nI_lt c1 hk
        exact Or.inl ⟨Or.inr ⟨n1, n2⟩, inI_gt n2⟩
      · have n2 : ¬ nI N < nI k := nI_nlt (by omega) (by omega)
        exact Or.inr ⟨k, by omega, by omega, rfl, n1, n2, inI_in n1 n2⟩
theorem eq_flood (h : Both bits size kc mc sp jo keys marks row b s n m p j K M) (t1 t2 t3 t4 t5 t6 : Int32) (tk tm : Nat → Int32) (x y z w : Int32) :
    ∃ r u rr, fX6_flood bits size kc mc sp jo keys marks t1 t2 t3 t4 t5 t6 tk tm x y z w = some (r, u) ∧ fX7_flood row x y z w = some (r, rr) ∧ sameOut row rr 1672 := by
  have hn := h.cx.1
  have hm := h.cx.2.1
  have eL : ∀ z : Int32, fX7_in z.toInt64 (0 : Int64) (2 : Int64) = fX7_in z.toInt64 (0 : Int32).toInt64 (2 : Int32).toInt64 := fun _ => rfl
  have eL9 : ∀ z : Int32, fX7_in z.toInt64 (1 : Int64) (999 : Int64) = fX7_in z.toInt64 (1 : Int32).toInt64 (nI 999).toInt64 := fun _ => rfl
  have eL6 : ∀ z : Int32, fX7_in z.toInt64 (1 : Int64) (96 : Int64) = fX7_in z.toInt64 (1 : Int32).toInt64 (nI 96).toInt64 := fun _ => rfl
  have hb := pow_le16 h.b16
  unfold fX6_flood fX7_flood
  rw [eL, eL9, eL6]
  rcases h.bnd x with ⟨h1, h2⟩ | ⟨A, hA, hA2, rfl, h1, h2⟩
  · rw [h1, h2, obd_s, obd_s, if_pos rfl, if_pos rfl]
    exact ⟨_, _, _, rfl, rfl, sameOut.rf _ _⟩
  rw [h1, h2, obd_s, obd_s, if_neg z10, if_neg z10]
  rcases rng_cases y (N := 999) (by omega) (by omega) with ⟨h1 | ⟨h1, h1'⟩, h2⟩ | ⟨Y, hY1, hY2, rfl, g1, g2, h2⟩
  · rw [if_pos h1, h2, obd_s, if_pos rfl]
    exact ⟨_, _, _, rfl, rfl, sameOut.rf _ _⟩
  · rw [if_neg h1, if_pos (show (999 : Int32) < y from h1'), h2, obd_s, if_pos rfl]
    exact ⟨_, _, _, rfl, rfl, sameOut.rf _ _⟩
  rw [if_neg g1, if_neg (show ¬ (999 : Int32) < nI Y from g2), h2, obd_s, if_neg z10]
  rcases rng_cases z (N := 96) (by omega) (by omega) with ⟨h1 | ⟨h1, h1'⟩, h2⟩ | ⟨Z, hZ1, hZ2, rfl, g1, g2, h2⟩
  · rw [if_pos h1, h2, obd_s, if_pos rfl]
    exact ⟨_, _, _, rfl, rfl, sameOut.rf _ _⟩
  · rw [if_neg h1, if_pos (show (96 : Int32) < z from h1'), h2, obd_s, if_pos rfl]
    exact ⟨_, _, _, rfl, rfl, sameOut.rf _ _⟩
  rw [if_neg g1, if_neg (show ¬ (96 : Int32) < nI Z from g2), h2, obd_s, if_neg z10]
  rcases way_cases w (N := 2) (by omega) with c | ⟨v, hv, rfl⟩ | c
  · rw [if_pos c, inI_lt c, obd_s, if_pos z00]
    exact ⟨_, _, _, rfl, rfl, sameOut.rf _ _⟩
  · rw [if_neg (nI_pos (by omega)), if_pos (show nI v ≤ (2 : Int32) from nI_le (b := 2) hv (by omega)), inI_in (nI_pos (by omega)) (show ¬ (2 : Int32) < nI v from nI_nlt (a := 2) hv (by omega)), obd_s, if_neg z10]
    obtain ⟨k', m', b1, b2⟩ := become_e (bits := t1) (size := t2) (kc := t3) (mc := t4) (sp := t5) (jo := t6) (keys := tk) (marks := tm) h.1 h.cb
    obtain ⟨kc2, mc2, sp2, k2, m2, s1, s2⟩ := fill_c h.1 hA2 hY2 hZ2 b2
    obtain ⟨r1, c1, c2⟩ := copy_e (row := row) (F := 0) (T := 1672) (by omega) (by omega) (by omega)
    obtain ⟨c3, c4⟩ := copy_row c2 h.2.2.2.2.2.2.2.2.2 hn hm
    obtain ⟨r2, d1, d2, d3⟩ := fill_m (B := 1672) (by omega) h.1 hA2 hY2 hZ2 c3
    have hout := c4.tr d3
    have c1' : fX7_copyRow row 0 1672 = some r1 := c1
    have d1' : fX7_fill r1 1672 (nI A) (nI Y) (nI Z) = some r2 := d1
    rw [b1, obd_s]
    dsimp only
    rw [s1, obd_s, c1', obd_s, d1', obd_s]
    have h4 : r2 (4 : Int32).toNatClampNeg = nI p := (hout 4 (by omega)).trans h.2.2.2.2.2.2.2.2.2.2.2.2.2.1
    have o1675 : ∀ {α : Type} (X : Option α), oin (1675 : Int32) 1824 X = X := fun X => oin_in (a := 1675) (by omega) (by omega)
    have o1676 : ∀ {α : Type} (X : Option α), oin (1676 : Int32) 1824 X = X := fun X => oin_in (a := 1676) (by omega) (by omega)
    have o1674 : ∀ {α : Type} (X : Option α), oin (1674 : Int32) 1824 X = X := fun X => oin_in (a := 1674) (by omega) (by omega)
    have o4 : ∀ {α : Type} (X : Option α), oin (4 : Int32) 1824 X = X := fun X => oin_in (a := 4) (by omega) (by omega)
    rw [o1675, o1676, o1674, o4, h4]
    have hs : sp = nI p := h.2.2.2.2.2.1
    generalize ixFill (b, s, n, m, p, j, K, M) A Y Z = a2 at s2 d2
    obtain ⟨b', s', n', m2', p', j', K', M'⟩ := a2
    have e2 : r2 (1674 : Int32).toNatClampNeg = kc2 := d2.2.2.1.trans s2.2.2.1.symm
    have e3 : r2 (1675 : Int32).toNatClampNeg = mc2 := d2.2.2.2.1.trans s2.2.2.2.1.symm
    have e4 : r2 (1676 : Int32).toNatClampNeg = sp2 := d2.2.2.2.2.1.trans s2.2.2.2.2.1.symm
    rw [e2, e3, e4, hs]
    have : v = 0 ∨ v = 1 ∨ v = 2 := by omega
    rcases this with rfl | rfl | rfl <;> exact ⟨_, _, _, rfl, rfl, hout⟩
  · rw [if_neg (big_nn (N := 2) (by omega) c), if_neg (show ¬ w ≤ 2 from big_nle c), inI_gt (show (2 : Int32) < w from c), obd_s, if_pos z00]
    exact ⟨_, _, _, rfl, rfl, sameOut.rf _ _⟩
end
