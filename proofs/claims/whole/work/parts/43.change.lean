/-! add, remove, undo, keep, back -/
theorem ringSet_self (ring : Nat → BC) (e : Nat) : ringSet ring e (ring e) = ring := by
  funext i
  unfold ringSet
  by_cases c : i = e
  · rw [if_pos c, c]
  · rw [if_neg c]
theorem toBoth {now : BC} {b s n m p j : Nat} {K M : Nat → Nat} {row : Nat → Int32} (hO : Ok (b, s, n, m, p, j, K, M)) (hC : CBt now (b, s, n, m, p, j, K, M)) (hr : MRow row 0 (b, s, n, m, p, j, K, M)) : Both now.1 now.2.1 now.2.2.1 now.2.2.2.1 now.2.2.2.2.1 now.2.2.2.2.2.1 now.2.2.2.2.2.2.1 now.2.2.2.2.2.2.2 row b s n m p j K M :=
  ⟨hO, hC.1, hC.2.1, hC.2.2.1, hC.2.2.2.1, hC.2.2.2.2.1, hC.2.2.2.2.2.1, hC.2.2.2.2.2.2.1, hC.2.2.2.2.2.2.2, hr⟩
/-- class and reference hold the same index now -/
def NowI (now : BC) (row : Nat → Int32) : Prop := ∃ a, Ok a ∧ CBt now a ∧ MRow row 0 a
theorem PastI_row {next held undos : Int32} {ring : Nat → BC} {row r : Nat → Int32} (h : PastI next held ring undos row) (hr : ∀ i, 152 ≤ i → i < 1368 → r i = row i) : PastI next held ring undos r := by
  obtain ⟨h0, e, P, a1, a2, a3, a4, a5, a6⟩ := h
  exact ⟨h0, e, P, a1, a2, a3, a4, a5, fun t ht => ⟨(a6 t ht).1, (a6 t ht).2.1, MRow_mv (fun i hi => hr _ (by omega) (by omega)) (a6 t ht).1 (a6 t ht).2.2⟩⟩
theorem eq_add {now : BC} {next held undos : Int32} {ring : Nat → BC} {row : Nat → Int32} {e : Nat} (hN : NowI now row) (hP : PastI next held ring undos row) (he8 : e < 8) (he : next = nI e) (x : Int32) :
    ∃ (r kc mc sp : Int32) (keys marks : Nat → Int32) (next' held' : Int32) (t' : BC) (undos' : Int32) (row' : Nat → Int32), fX6_add now.1 now.2.1 now.2.2.1 now.2.2.2.1 now.2.2.2.2.1 now.2.2.2.2.2.1 now.2.2.2.2.2.2.1 now.2.2.2.2.2.2.2 next held (ring e).1 (ring e).2.1 (ring e).2.2.1 (ring e).2.2.2.1 (ring e).2.2.2.2.1 (ring e).2.2.2.2.2.1 (ring e).2.2.2.2.2.2.1 (ring e).2.2.2.2.2.2.2 x = some (r, kc, mc, sp, keys, marks, next', held', t') ∧ fX7_add undos row x = some (r, undos', row') ∧ NowI (now.1, now.2.1, kc, mc, sp, now.2.2.2.2.2.1, keys, marks) row' ∧ PastI next' held' (ringSet ring e t') undos' row' ∧ (∀ i, 1368 ≤ i → row' i = row i) := by
  have hN0 := hN
  have hP0 := hP
  obtain ⟨⟨b, s, n, m, p, j, K, M⟩, hO, hC, hr⟩ := hN
  have hB := toBoth hO hC hr
  obtain ⟨h, e', P, hh, he', hh2, he2, hu, hP⟩ := hP
  obtain rfl : e' = e := by
    have : nI e' = nI e := he2.symm.trans he
    exact (nI_eq (by omega) (by omega)).mp this
  have hn := hB.cx.1
  have o2 : ∀ {α : Type} (X : Option α), oin (2 : Int32) 1824 X = X := fun X => oin_in (a := 2) (by omega) (by omega)
  have e2 : row (2 : Int32).toNatClampNeg = nI n := hB.r2
  have hkc : now.2.2.1 = nI n := hC.2.2.1
  unfold fX6_add fX7_add
  rcases hB.bnd x with ⟨h1, h2⟩ | ⟨k, hk, hk2, rfl, h1, h2⟩
  · rw [h1, h2, obd_s, obd_s, if_pos rfl, if_pos rfl]
    exact ⟨_, _, _, _, _, _, _, _, ring e', _, _, rfl, rfl, hN0, by rw [ringSet_self]; exact hP0, fun _ _ => rfl⟩
  rw [h1, h2, obd_s, obd_s, if_neg z10, if_neg z10]
  by_cases ch : ixHas K n k
  · obtain ⟨g1, g2⟩ := hB.keyT (by omega) ch
    rw [g1, g2, obd_s, obd_s, if_neg z10, if_neg z10]
    exact ⟨_, _, _, _, _, _, _, _, ring e', _, _, rfl, rfl, hN0, by rw [ringSet_self]; exact hP0, fun _ _ => rfl⟩
  obtain ⟨g1, g2⟩ := hB.keyF (by omega) ch
  rw [g1, g2, obd_s, obd_s, if_pos z00, if_pos z00, o2, e2]
  by_cases cn : n < 96
  · rw [if_pos (show now.2.2.1 < 96 from hkc ▸ nI_lt (b := 96) cn (by omega)), if_neg (show ¬ nI n = (96 : Int32) from nI_nq (b := 96) (by omega) (by omega) (by omega))]
    obtain ⟨t', m1, m2⟩ := rem_c (t0 := ring e') he8 hh hO hC
    obtain ⟨kc', mc', sp', k', m', q1, q2⟩ := add_c (x := k) hO hC hk
    have ea : ixAdd (b, s, n, m, p, j, K, M) k = ixPut (b, s, n, m, p, j, K, M) k := by
      unfold ixAdd
      dsimp only
      rw [if_neg (show ¬ (lb K k n < n ∧ K (lb K k n) = k) from ch), if_pos cn]
    rw [ea] at q2
    obtain ⟨r, s1, s2, s3⟩ := keepPast_e hO hr hh (fun t ht => ⟨(hP t ht).1, (hP t ht).2.2⟩)
    have hr0 : MRow r 0 (b, s, n, m, p, j, K, M) := MRow_mv (fun i hi => s2 _ (by omega)) hO hr
    obtain ⟨r', u1, u2, u3⟩ := mput_e (B := 0) (by omega) hO hr0 hk ch cn
    have u1' : fX7_putIn r 0 (nI k) = some r' := u1
    have hO' : Ok (ixPut (b, s, n, m, p, j, K, M) k) := Ok_put hO hk ch cn
    have ekc : kc' = nI (ixPut (b, s, n, m, p, j, K, M) k).2.2.1 := q2.2.2.1
    have er : r' (2 : Int32).toNatClampNeg = nI (ixPut (b, s, n, m, p, j, K, M) k).2.2.1 := MRow_n u2
    rw [he2, hh2, m1, obd_s, q1, obd_s, hu, s1, obd_s]
    dsimp only
    rw [u1', obd_s, o2, er, ekc]
    refine ⟨_, _, _, _, _, _, _, _, t', _, _, rfl, rfl, ⟨_, hO', ?_, u2⟩, PastI_row (PastI_up hh he8 hP s3 m2) (fun i h1 h2 => u3 i (by omega)), fun i hi => (u3 i (by omega)).trans (s2 i (by omega))⟩
    rw [← ekc]
    exact q2
  · obtain rfl : n = 96 := by omega
    rw [if_neg (show ¬ now.2.2.1 < 96 by rw [hkc]; decide), if_pos (show nI 96 = (96 : Int32) from rfl)]
    exact ⟨_, _, _, _, _, _, _, _, ring e', _, _, rfl, rfl, hN0, by rw [ringSet_self]; exact hP0, fun _ _ => rfl⟩
theorem eq_remove {now : BC} {next held undos : Int32} {ring : Nat → BC} {row : Nat → Int32} {e : Nat} (hN : NowI now row) (hP : PastI next held ring undos row) (he8 : e < 8) (he : next = nI e) (x : Int32) :
    ∃ (r kc mc sp jo : Int32) (keys marks : Nat → Int32) (next' held' : Int32) (t' : BC) (undos' : Int32) (row' : Nat → Int32), fX6_remove now.1 now.2.1 now.2.2.1 now.2.2.2.1 now.2.2.2.2.1 now.2.2.2.2.2.1 now.2.2.2.2.2.2.1 now.2.2.2.2.2.2.2 next held (ring e).1 (ring e).2.1 (ring e).2.2.1 (ring e).2.2.2.1 (ring e).2.2.2.2.1 (ring e).2.2.2.2.2.1 (ring e).2.2.2.2.2.2.1 (ring e).2.2.2.2.2.2.2 x = some (r, kc, mc, sp, jo, keys, marks, next', held', t') ∧ fX7_remove undos row x = some (r, undos', row') ∧ NowI (now.1, now.2.1, kc, mc, sp, jo, keys, marks) row' ∧ PastI next' held' (ringSet ring e t') undos' row' ∧ (∀ i, 1368 ≤ i → row' i = row i) := by
  have hN0 := hN
  have hP0 := hP
  obtain ⟨⟨b, s, n, m, p, j, K, M⟩, hO, hC, hr⟩ := hN
  have hB := toBoth hO hC hr
  obtain ⟨h, e', P, hh, he', hh2, he2, hu, hP⟩ := hP
  obtain rfl : e' = e := by
    have : nI e' = nI e := he2.symm.trans he
    exact (nI_eq (by omega) (by omega)).mp this
  have hn := hB.cx.1
  have o2 : ∀ {α : Type} (X : Option α), oin (2 : Int32) 1824 X = X := fun X => oin_in (a := 2) (by omega) (by omega)
  unfold fX6_remove fX7_remove
  rcases hB.bnd x with ⟨h1, h2⟩ | ⟨k, hk, hk2, rfl, h1, h2⟩
  · rw [h1, h2, obd_s, obd_s, if_pos rfl, if_pos rfl]
    exact ⟨_, _, _, _, _, _, _, _, _, ring e', _, _, rfl, rfl, hN0, by rw [ringSet_self]; exact hP0, fun _ _ => rfl⟩
  rw [h1, h2, obd_s, obd_s, if_neg z10, if_neg z10]
  by_cases ch : ixHas K n k
  · obtain ⟨g1, g2⟩ := hB.keyT (by omega) ch
    rw [g1, g2, obd_s, obd_s, if_neg z10, if_neg z10]
    obtain ⟨t', m1, m2⟩ := rem_c (t0 := ring e') he8 hh hO hC
    obtain ⟨kc', mc', sp', jo', k', m', q1, q2⟩ := take_c (x := k) hO hC ch
    obtain ⟨r, s1, s2, s3⟩ := keepPast_e hO hr hh (fun t ht => ⟨(hP t ht).1, (hP t ht).2.2⟩)
    have hr0 : MRow r 0 (b, s, n, m, p, j, K, M) := MRow_mv (fun i hi => s2 _ (by omega)) hO hr
    obtain ⟨r', u1, u2, u3⟩ := mtake_e (B := 0) (by omega) hO hr0 ch
    have u1' : fX7_takeOut r 0 (nI k) = some r' := u1
    have hO' : Ok (ixTake (b, s, n, m, p, j, K, M) k) := Ok_take hO ch
    have ekc : kc' = nI (ixTake (b, s, n, m, p, j, K, M) k).2.2.1 := q2.2.2.1
    have er : r' (2 : Int32).toNatClampNeg = nI (ixTake (b, s, n, m, p, j, K, M) k).2.2.1 := MRow_n u2
    rw [he2, hh2, m1, obd_s, q1, obd_s, hu, s1, obd_s]
    dsimp only
    rw [u1', obd_s, o2, er, ekc]
    refine ⟨_, _, _, _, _, _, _, _, _, t', _, _, rfl, rfl, ⟨_, hO', ?_, u2⟩, PastI_row (PastI_up hh he8 hP s3 m2) (fun i h1 h2 => u3 i (by omega)), fun i hi => (u3 i (by omega)).trans (s2 i (by omega))⟩
    rw [← ekc]
    exact q2
  obtain ⟨g1, g2⟩ := hB.keyF (by omega) ch
  rw [g1, g2, obd_s, obd_s, if_pos z00, if_pos z00]
  exact ⟨_, _, _, _, _, _, _, _, _, ring e', _, _, rfl, rfl, hN0, by rw [ringSet_self]; exact hP0, fun _ _ => rfl⟩
/-- undo speaks of the element before next -/
theorem eq_undo {now : BC} {next held undos : Int32} {ring : Nat → BC} {row : Nat → Int32} {e : Nat} (hN : NowI now row) (hP : PastI next held ring undos row) (he8 : e < 8) (he : next = nI e) :
    ∃ (r : Int32) (now' : BC) (next' held' undos' : Int32) (row' : Nat → Int32), fX6_undo now.1 now.2.1 now.2.2.1 now.2.2.2.1 now.2.2.2.2.1 now.2.2.2.2.2.1 now.2.2.2.2.2.2.1 now.2.2.2.2.2.2.2 next held (ring ((e + 7) % 8)).1 (ring ((e + 7) % 8)).2.1 (ring ((e + 7) % 8)).2.2.1 (ring ((e + 7) % 8)).2.2.2.1 (ring ((e + 7) % 8)).2.2.2.2.1 (ring ((e + 7) % 8)).2.2.2.2.2.1 (ring ((e + 7) % 8)).2.2.2.2.2.2.1 (ring ((e + 7) % 8)).2.2.2.2.2.2.2 = some (r, now'.1, now'.2.1, now'.2.2.1, now'.2.2.2.1, now'.2.2.2.2.1, now'.2.2.2.2.2.1, now'.2.2.2.2.2.2.1, now'.2.2.2.2.2.2.2, next', held') ∧ fX7_undo undos row = some (r, undos', row') ∧ NowI now' row' ∧ PastI next' held' ring undos' row' ∧ (∀ i, 1368 ≤ i → row' i = row i) := by
  have hN0 := hN
  have hP0 := hP
  obtain ⟨h, e', P, hh, he', hh2, he2, hu, hP⟩ := hP
  obtain rfl : e' = e := by
    have : nI e' = nI e := he2.symm.trans he
    exact (nI_eq (by omega) (by omega)).mp this
  unfold fX6_undo fX7_undo
  by_cases c : h = 0
  · subst c
    rw [if_neg (show ¬ 0 < held by rw [hh2]; decide), if_pos (show undos = 0 from hu)]
    exact ⟨_, now, _, _, _, _, rfl, rfl, hN0, hP0, fun _ _ => rfl⟩
  · rw [if_pos (show 0 < held by rw [hh2]; exact nI_lt (a := 0) (by omega) (by omega)), if_neg (show ¬ undos = 0 by rw [hu]; exact nI_ne0 (by omega) (by omega))]
    obtain ⟨p1, p2, p3⟩ := hP (h - 1) (by omega)
    rw [show (e' + 8 - h + (h - 1)) % 8 = (e' + 7) % 8 by omega] at p2
    obtain ⟨k', m', b1, b2⟩ := become_e (bits := now.1) (size := now.2.1) (kc := now.2.2.1) (mc := now.2.2.2.1) (sp := now.2.2.2.2.1) (jo := now.2.2.2.2.2.1) (keys := now.2.2.2.2.2.2.1) (marks := now.2.2.2.2.2.2.2) p1 p2
    obtain ⟨r, c1, c2⟩ := copy_e (row := row) (F := 152 + 152 * (h - 1)) (T := 0) (by omega) (by omega) (by omega)
    have hr0 : MRow r 0 (P (h - 1)) := MRow_mv (fun i hi => by rw [c2, if_pos (by omega)]; exact congrArg row (by omega)) p1 p3
    have en : ((next + 8) - 1) - ((next + 8) - 1) / 8 * 8 = nI ((e' + 7) % 8) := by
      have e1 : next + 8 = nI (e' + 8) := by rw [he2]; exact nI_add e' 8
      have e2 : nI (e' + 8) - 1 = nI (e' + 7) := pk_sub (b := 1) (by omega)
      rw [e1, e2, mod8_e (by omega)]
    have cA : fX3_copyAt (nI ((e' + 7) % 8)) = some () := by
      unfold fX3_copyAt
      rw [if_neg (nI_pos (by omega)), if_neg (show ¬ (8 : Int32) ≤ nI ((e' + 7) % 8) from nI_ge (b := 8) (by omega) (by omega)), oin_in (by omega) (by omega), obd_s]
    have eh : held - 1 = nI (h - 1) := by rw [hh2]; exact pk_sub (b := 1) (by omega)
    have eu : undos - 1 = nI (h - 1) := by rw [hu]; exact pk_sub (b := 1) (by omega)
    have ef : (152 : Int32) + 152 * nI (h - 1) = nI (152 + 152 * (h - 1)) := by
      have e1 : (152 : Int32) * nI (h - 1) = nI (152 * (h - 1)) := pk_mul 152 _
      rw [e1]
      exact nI_add 152 _
    have c1' : fX7_copyRow row (nI (152 + 152 * (h - 1))) 0 = some r := c1
    unfold fX3_restore
    rw [en, cA, obd_s, if_neg (show ¬ held ≤ 0 by rw [hh2]; exact nI_ge (a := 0) (by omega) (by omega)), b1, obd_s, obd_s, eh, eu, ef, c1', obd_s]
    refine ⟨_, (_, _, _, _, _, _, _, _), _, _, _, _, rfl, rfl, ⟨_, p1, b2, hr0⟩, ⟨h - 1, (e' + 7) % 8, P, by omega, by omega, rfl, rfl, rfl, fun t ht => ⟨(hP t (by omega)).1, ?_, ?_⟩⟩, fun i hi => by rw [c2, if_neg (by omega)]⟩
    · rw [show ((e' + 7) % 8 + 8 - (h - 1) + t) % 8 = (e' + 8 - h + t) % 8 by omega]
      exact (hP t (by omega)).2.1
    · exact MRow_mv (fun i hi => by rw [c2, if_neg (by omega)]) (hP t (by omega)).1 (hP t (by omega)).2.2
/-- what is kept: two places -/
def KeptI (full isKept : Nat → Int32) (cop : Nat → BC) (row : Nat → Int32) : Prop := ∀ k, k < 2 → (full k = 0 ∧ isKept k = 0) ∨ (full k = 1 ∧ isKept k = 1 ∧ ∃ Q, Ok Q ∧ CBt (cop k) Q ∧ MRow row (1368 + 152 * k) Q)
theorem KeptI_row {full isKept : Nat → Int32} {cop : Nat → BC} {row r : Nat → Int32} (h : KeptI full isKept cop row) (hr : ∀ i, 1368 ≤ i → i < 1672 → r i = row i) : KeptI full isKept cop r := by
  intro k hk
  rcases h k hk with c | ⟨c1, c2, Q, q1, q2, q3⟩
  · exact Or.inl c
  · exact Or.inr ⟨c1, c2, Q, q1, q2, MRow_mv (fun i hi => hr _ (by omega) (by omega)) q1 q3⟩
theorem known_out {x : Int32} (h : x < 0 ∨ nI 1 < x) : fX2_known x = some 0 := by
  unfold fX2_known
  rcases h with c | c
  · rw [if_pos c, olet_s]; exact obl_0 _
  · rw [if_neg (big_nn (N := 1) (by omega) c), if_pos (show (2 : Int32) ≤ x by
      rcases i32_cases x with d | ⟨k, hk, rfl⟩
      · exact absurd d (big_nn (N := 1) (by omega) c)
      · have : 1 < k := by
          rcases Nat.lt_or_ge 1 k with q | q
          · exact q
          · exact absurd c (nI_nlt q (by omega))
        exact nI_le (a := 2) (by omega) hk), olet_s]
    exact obl_0 _
theorem known_in {k : Nat} (h : k < 2) : fX2_known (nI k) = some 1 := by
  have : k = 0 ∨ k = 1 := by omega
  rcases this with rfl | rfl <;> rfl
theorem eq_keep {now : BC} {full isKept : Nat → Int32} {cop : Nat → BC} {row : Nat → Int32} {k : Nat} (hN : NowI now row) (hK : KeptI full isKept cop row) (x : Int32) (hk : (x < 0 ∨ nI 1 < x) ∨ (k < 2 ∧ x = nI k)) :
    ∃ (r : Int32) (t' : BC) (full' isKept' row' : Nat → Int32), fX6_keep now.1 now.2.1 now.2.2.1 now.2.2.2.1 now.2.2.2.2.1 now.2.2.2.2.2.1 now.2.2.2.2.2.2.1 now.2.2.2.2.2.2.2 (cop k).1 (cop k).2.1 (cop k).2.2.1 (cop k).2.2.2.1 (cop k).2.2.2.2.1 (cop k).2.2.2.2.2.1 (cop k).2.2.2.2.2.2.1 (cop k).2.2.2.2.2.2.2 full x = some (r, t'.1, t'.2.1, t'.2.2.1, t'.2.2.2.1, t'.2.2.2.2.1, t'.2.2.2.2.2.1, t'.2.2.2.2.2.2.1, t'.2.2.2.2.2.2.2, full') ∧ fX7_keep row isKept x = some (r, row', isKept') ∧ KeptI full' isKept' (ringSet cop k t') row' ∧ (∀ i, i < 1368 → row' i = row i) := by
  unfold fX6_keep fX7_keep
  have eL : ∀ z : Int32, fX7_in z.toInt64 (0 : Int64) (1 : Int64) = fX7_in z.toInt64 (0 : Int32).toInt64 (1 : Int32).toInt64 := fun _ => rfl
  rw [eL]
  rcases hk with c | ⟨hk, rfl⟩
  · have : fX7_in x.toInt64 (0 : Int32).toInt64 (1 : Int32).toInt64 = some 0 := by
      rcases c with c | c
      · exact inI_lt c
      · exact inI_gt c
    rw [this, known_out c, obd_s, obd_s, if_pos z00, if_pos z00]
    exact ⟨_, cop k, _, _, _, rfl, rfl, by rw [ringSet_self]; exact hK, fun _ _ => rfl⟩
  · obtain ⟨a, hO, hC, hr⟩ := hN
    rw [known_in hk, inI_in (nI_pos (by omega)) (show ¬ (1 : Int32) < nI k from nI_nlt (a := 1) (by omega) (by omega)), obd_s, obd_s, if_neg z10, if_neg z10]
    obtain ⟨k', m', b1, b2⟩ := become_e (bits := (cop k).1) (size := (cop k).2.1) (kc := (cop k).2.2.1) (mc := (cop k).2.2.2.1) (sp := (cop k).2.2.2.2.1) (jo := (cop k).2.2.2.2.2.1) (keys := (cop k).2.2.2.2.2.2.1) (marks := (cop k).2.2.2.2.2.2.2) hO hC
    obtain ⟨r, c1, c2⟩ := copy_e (row := row) (F := 0) (T := 1368 + 152 * k) (by omega) (by omega) (by omega)
    have hrT : MRow r (1368 + 152 * k) a := MRow_mv (F := 0) (fun i hi => by rw [c2, if_pos (by omega)]; exact congrArg row (by omega)) hO hr
    have ef : (1368 : Int32) + 152 * nI k = nI (1368 + 152 * k) := by
      have e1 : (152 : Int32) * nI k = nI (152 * k) := pk_mul 152 _
      rw [e1]
      exact nI_add 1368 _
    have c1' : fX7_copyRow row 0 (nI (1368 + 152 * k)) = some r := c1
    have o2 : ∀ {α : Type} (X : Option α), oin (2 : Int32) 1824 X = X := fun X => oin_in (a := 2) (by omega) (by omega)
    have e2 : r (2 : Int32).toNatClampNeg = now.2.2.1 := by
      have q1 : r 2 = row 2 := by rw [c2, if_neg (by omega)]
      have q2 : row 2 = nI a.2.2.1 := by have := MRow_n hr; simpa using this
      have q3 : now.2.2.1 = nI a.2.2.1 := hC.2.2.1
      exact q1.trans (q2.trans q3.symm)
    have ol : ∀ {α : Type} (X : Option α), obl (1 : Int32) X = X := fun X => obl_1 X
    unfold fX2_remember
    rw [known_in hk, obd_s, if_neg z10, oin_in hk (by omega), oin_in hk (by omega), b1, obd_s, oin_in hk (by omega), ol, obd_s, ef, c1', obd_s, oin_in hk (by omega), ol, o2, nI_clamp (by omega), e2]
    refine ⟨now.2.2.1, (now.1, now.2.1, now.2.2.1, now.2.2.2.1, now.2.2.2.2.1, now.2.2.2.2.2.1, k', m'), upd full k 1, upd isKept k 1, r, rfl, rfl, fun i hi => ?_, fun i hi => by rw [c2, if_neg (by omega)]⟩
    by_cases ci : i = k
    · subst ci
      refine Or.inr ⟨upd_at _ _ _, upd_at _ _ _, a, hO, ?_, hrT⟩
      unfold ringSet
      rw [if_pos rfl]
      exact b2
    · rw [upd_ne ci, upd_ne ci]
      unfold ringSet
      rw [if_neg ci]
      rcases hK i hi with c | ⟨d1, d2, Q, d3, d4, d5⟩
      · exact Or.inl c
      · exact Or.inr ⟨d1, d2, Q, d3, d4, MRow_mv (fun t ht => by rw [c2, if_neg (by omega)]) d3 d5⟩
theorem eq_back {now : BC} {next held undos : Int32} {ring : Nat → BC} {full isKept : Nat → Int32} {cop : Nat → BC} {row : Nat → Int32} {k : Nat} (hN : NowI now row) (hP : PastI next held ring undos row) (hK : KeptI full isKept cop row) (x : Int32) (hk : (x < 0 ∨ nI 1 < x) ∨ (k < 2 ∧ x = nI k)) :
    ∃ (r : Int32) (now' : BC) (held' undos' : Int32) (row' : Nat → Int32), fX6_back now.1 now.2.1 now.2.2.1 now.2.2.2.1 now.2.2.2.2.1 now.2.2.2.2.2.1 now.2.2.2.2.2.2.1 now.2.2.2.2.2.2.2 held (cop k).1 (cop k).2.1 (cop k).2.2.1 (cop k).2.2.2.1 (cop k).2.2.2.2.1 (cop k).2.2.2.2.2.1 (cop k).2.2.2.2.2.2.1 (cop k).2.2.2.2.2.2.2 full x = some (r, now'.1, now'.2.1, now'.2.2.1, now'.2.2.2.1, now'.2.2.2.2.1, now'.2.2.2.2.2.1, now'.2.2.2.2.2.2.1, now'.2.2.2.2.2.2.2, held') ∧ fX7_back undos row isKept x = some (r, undos', row') ∧ NowI now' row' ∧ PastI next held' ring undos' row' ∧ (∀ i, 152 ≤ i → row' i = row i) := by
  unfold fX6_back fX7_back
  have eL : ∀ z : Int32, fX7_in z.toInt64 (0 : Int64) (1 : Int64) = fX7_in z.toInt64 (0 : Int32).toInt64 (1 : Int32).toInt64 := fun _ => rfl
  rw [eL]
  rcases hk with c | ⟨hk, rfl⟩
  · have : fX7_in x.toInt64 (0 : Int32).toInt64 (1 : Int32).toInt64 = some 0 := by
      rcases c with c | c
      · exact inI_lt c
      · exact inI_gt c
    rw [this, known_out c, obd_s, obd_s, if_pos z00, if_pos z00]
    exact ⟨_, now, _, _, _, rfl, rfl, hN, hP, fun _ _ => rfl⟩
  · rw [known_in hk, inI_in (nI_pos (by omega)) (show ¬ (1 : Int32) < nI k from nI_nlt (a := 1) (by omega) (by omega)), obd_s, obd_s, if_neg z10, if_neg z10, oin_in hk (by omega), nI_clamp (by omega)]
    have ol0 : ∀ {α : Type} (X : Option α), obl (0 : Int32) X = X := fun X => obl_0 X
    have ol : ∀ {α : Type} (X : Option α), obl (1 : Int32) X = X := fun X => obl_1 X
    rcases hK k hk with ⟨c1, c2⟩ | ⟨c1, c2, Q, q1, q2, q3⟩
    · have hh : fX2_holds full (nI k) = some 0 := by
        unfold fX2_holds
        rw [known_in hk, obd_s, if_neg z10, oin_in hk (by omega), nI_clamp (by omega), c1, if_pos z00, obd_s, ol0]
      rw [hh, obd_s, if_pos z00, c2, if_pos z00]
      exact ⟨_, now, _, _, _, rfl, rfl, hN, hP, fun _ _ => rfl⟩
    · have hh : fX2_holds full (nI k) = some 1 := by
        unfold fX2_holds
        rw [known_in hk, obd_s, if_neg z10, oin_in hk (by omega), nI_clamp (by omega), c1, if_neg z10, obd_s, ol]
      obtain ⟨k', m', b1, b2⟩ := become_e (bits := now.1) (size := now.2.1) (kc := now.2.2.1) (mc := now.2.2.2.1) (sp := now.2.2.2.2.1) (jo := now.2.2.2.2.2.1) (keys := now.2.2.2.2.2.2.1) (marks := now.2.2.2.2.2.2.2) q1 q2
      obtain ⟨r, d1, d2⟩ := copy_e (row := row) (F := 1368 + 152 * k) (T := 0) (by omega) (by omega) (by omega)
      have hr0 : MRow r 0 Q := MRow_mv (fun i hi => by rw [d2, if_pos (by omega)]; exact congrArg row (by omega)) q1 q3
      have ef : (1368 : Int32) + 152 * nI k = nI (1368 + 152 * k) := by
        have e1 : (152 : Int32) * nI k = nI (152 * k) := pk_mul 152 _
        rw [e1]
        exact nI_add 1368 _
      have d1' : fX7_copyRow row (nI (1368 + 152 * k)) 0 = some r := d1
      have o2 : ∀ {α : Type} (X : Option α), oin (2 : Int32) 1824 X = X := fun X => oin_in (a := 2) (by omega) (by omega)
      have e2 : r (2 : Int32).toNatClampNeg = (cop k).2.2.1 := by
        have g2 : r 2 = nI Q.2.2.1 := by have := MRow_n hr0; simpa using this
        have g3 : (cop k).2.2.1 = nI Q.2.2.1 := q2.2.2.1
        exact g2.trans g3.symm
      have hres : fX2_restore (cop k).1 (cop k).2.1 (cop k).2.2.1 (cop k).2.2.2.1 (cop k).2.2.2.2.1 (cop k).2.2.2.2.2.1 (cop k).2.2.2.2.2.2.1 (cop k).2.2.2.2.2.2.2 full now.1 now.2.1 now.2.2.1 now.2.2.2.1 now.2.2.2.2.1 now.2.2.2.2.2.1 now.2.2.2.2.2.2.1 now.2.2.2.2.2.2.2 (nI k) = some ((cop k).1, (cop k).2.1, (cop k).2.2.1, (cop k).2.2.2.1, (cop k).2.2.2.2.1, (cop k).2.2.2.2.2.1, k', m') := by
        unfold fX2_restore
        rw [hh, obd_s, if_neg z10, oin_in hk (by omega), oin_in hk (by omega), b1, obd_s]
      rw [hh, obd_s, if_neg z10, c2, if_neg z10, hres, obd_s, ef, d1', obd_s, o2, e2]
      obtain ⟨h, e, P, g1, g2, g3, g4, g5, g6⟩ := hP
      refine ⟨_, (_, _, _, _, _, _, _, _), _, _, _, rfl, rfl, ⟨Q, q1, b2, hr0⟩, ⟨0, e, P, by omega, g2, rfl, g4, rfl, fun t ht => by omega⟩, fun i hi => by rw [d2, if_neg (by omega)]⟩
