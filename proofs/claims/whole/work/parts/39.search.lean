/-! the seek whole, search, dearest, mean -/
theorem and1_n {k : Nat} (h : k < 2147483648) : nI k &&& 1 = nI (k % 2) := pk_andN (by omega) 1 (by decide)
theorem kin_le {K : Nat → Nat} {n : Nat} {M : Nat → Nat} {i : Nat} : kin K n M i ≤ 96 ∨ 96 < n := by
  have := eo_le K n M i
  unfold kin
  omega
section
variable {bits size kc mc sp jo : Int32} {keys marks row : Nat → Int32} {b s n m p j : Nat} {K M : Nat → Nat}
theorem seek_both (h : Both bits size kc mc sp jo keys marks row b s n m p j K M) {x : Nat} (hx : x < 2 ^ b) (c1 c2 c3 c4 c5 d1 d2 d3 d4 : Int32) :
    ∃ P L Q l : Nat, P ≤ 31 ∧ L ≤ 1 ∧ Q ≤ 31 ∧ l ≤ 16 ∧ fX1_seek c1 c2 c3 c4 c5 bits kc mc keys marks (nI x) = some (nI P, nI L, nI Q, nI l, nI (lb M x m)) ∧ fX7_seek d1 d2 d3 d4 row (nI x) = some (nI P, nI L, nI Q, nI l) ∧ fX7_bucketOf row 0 (nI x) = some (nI (lb M x m)) := by
  have hC := h.cx
  have hM := h.mx
  have hL := h.lx
  have hr0 := h.r0
  have hr6 : ∀ i, i < n → row (6 + i) = nI (K i) := fun i hi => h.r6 hi
  have h16 := h.b16
  have hp := pow_le16 h16
  obtain ⟨hOk, rfl, rfl, rfl, rfl, rfl, rfl, ha, hm, hr⟩ := h
  have hlb : lb M x m < m := lbM_lt hC.2.2.1 hC.2.2.2.2.2.1 (by have := hL.2.2.2.2.2.1; omega)
  have o0 : ∀ {α : Type} (X : Option α), oin (0 : Int32) 1824 X = X := fun X => oin_in (a := 0) (by omega) (by omega)
  have e0 : row (0 : Int32).toNatClampNeg = nI b := hr0
  obtain ⟨l, P, w1, w2, hl, hP, p1, p2⟩ := probe_both hL hx b 100000 0 b 0 (by omega) (by omega) (by omega) (by omega) (by omega)
  have hkin := so_le_eo hC.2.2.2.1.rises hC.2.2.2.2.2.1 hlb
  have heo := eo_le K n M (lb M x m)
  obtain ⟨Q, w3, w4, w5, w6, hQ, q1, q2⟩ := look_both (x := x) (s0 := so K n M (lb M x m)) hC.1 (by omega) hC.2.2.2.2.1 ha hr6 7 100000 0 (kin K n M (lb M x m)) 0 (by have := hC.1; show kin K n M (lb M x m) - 0 < 128; unfold kin; omega) (by omega) (by omega) (by omega) (by unfold kin; omega)
  have mb : fX7_bucketOf row 0 (nI x) = some (nI (lb M x m)) := mbucket_e (B := 0) (by omega) hC.2.1 (by omega) (fun i hi => hM.2.2.2.2.2.2.2.2.2.2.2 i hi) hC.2.2.2.2.2.1 hC.2.2.2.2.2.2.1 hC.2.2.1 (by have := hL.2.2.2.2.2.1; omega)
  obtain ⟨L, hLL, l1, l2⟩ : ∃ L : Nat, L ≤ 1 ∧ (obd (if nI b ≤ nI l then (some (0 : Int32)) else (obd (fX0_beginningOf (nI b) (nI x) (nI l + (1 : Int32))) fun u_11 => if (u_11 &&& (1 : Int32)) = (1 : Int32) then (some (1 : Int32)) else (some (0 : Int32)))) fun w_4 => some (if w_4 = 0 then ((0 : Int32)) else ((1 : Int32)))) = some (nI L) ∧ (if nI b ≤ nI l then (some (0 : Int32)) else (obd (fX7_beginning row (nI x) (nI l + (1 : Int32))) fun u_55 => some (u_55 &&& (1 : Int32)))) = some (nI L) := by
    by_cases c : b ≤ l
    · rw [if_pos (nI_le c (by omega)), if_pos (nI_le c (by omega)), obd_s]
      exact ⟨0, by omega, rfl, rfl⟩
    · rw [if_neg (nI_ge (by omega) (by omega)), if_neg (nI_ge (by omega) (by omega)), nI_1 l, begin_e h16 (by omega) (by omega), mbegin_e h16 hr0 (by omega) (by omega), obd_s, obd_s]
      have hd : x / 2 ^ (b - (l + 1)) ≤ x := Nat.div_le_self _ _
      rw [and1_n (by omega)]
      rcases Nat.mod_two_eq_zero_or_one (x / 2 ^ (b - (l + 1))) with e | e
      · rw [e]; exact ⟨0, by omega, rfl, rfl⟩
      · rw [e]; exact ⟨1, by omega, rfl, rfl⟩
  obtain ⟨w, hw1, hw2⟩ := obd_e l1
  refine ⟨P, L, Q, l, hP, hLL, hQ, by omega, ?_, ?_, mb⟩
  · unfold fX1_seek
    have A : fX1_probe c1 c4 (nI b) (nI m) marks (nI x) = some (nI P, nI l) := by
      unfold fX1_probe
      rw [show (0 : Int32) = nI 0 from rfl, p1, obd_s]
    have B : fX1_look c3 (nI (lb M x m)) (nI n) (nI m) keys marks (nI x) = some (nI Q) := by
      unfold fX1_look
      rw [start_e hC hlb, obd_s, keysIn_e hC hlb, obd_s, show (0 : Int32) = nI 0 from rfl, q1, obd_s]
    rw [A, obd_s]
    dsimp only
    rw [hw1, obd_s, olet_s, Option.some.inj hw2, bucket_e hC.2.1 hC.2.2.2.2.2.1 hC.2.2.2.2.2.2.1 hm (by omega), obd_s, B, obd_s]
  · unfold fX7_seek
    have a1 : fX7_aheadOf row 0 (nI (lb M x m)) = some (nI (so K n M (lb M x m))) := ahead_e hM hlb
    have a2 : fX7_keysIn row 0 (nI (lb M x m)) = some (nI (kin K n M (lb M x m))) := mkeysIn_e hM hlb
    have p2' : lpX7_seek_19 (nI x) row 100000 0 (nI b) 0 = some (nI l, w2, nI P) := p2
    have q2' : lpX7_seek_147 (nI x) (nI (so K n M (lb M x m))) row 100000 0 (nI (kin K n M (lb M x m))) 0 = some (w5, w6, nI Q) := q2
    rw [o0, e0, p2', obd_s, o0]
    dsimp only
    rw [l2, obd_s, mb, obd_s, a1, obd_s, a2, obd_s, q2', obd_s]
theorem eq_search (h : Both bits size kc mc sp jo keys marks row b s n m p j K M) (c1 c2 c3 c4 c5 d1 d2 d3 d4 x y : Int32) : ∃ r u v, fX6_search bits kc mc keys marks c1 c2 c3 c4 c5 x y = some (r, u) ∧ fX7_search d1 d2 d3 d4 row x y = some (r, v) := by
  unfold fX6_search fX7_search
  have eL : ∀ z : Int32, fX7_in z.toInt64 (0 : Int64) (4 : Int64) = fX7_in z.toInt64 (0 : Int32).toInt64 (4 : Int32).toInt64 := fun _ => rfl
  rw [eL]
  rcases h.bnd x with ⟨h1, h2⟩ | ⟨k, hk, hk2, rfl, h1, h2⟩
  · rw [h1, h2, obd_s, obd_s, if_pos rfl, if_pos rfl]
    exact ⟨_, _, _, rfl, rfl⟩
  · rw [h1, h2, obd_s, obd_s, if_neg z10, if_neg z10]
    obtain ⟨P, L, Q, l, _, _, _, _, s1, s2, mb⟩ := seek_both h hk c1 c2 c3 c4 c5 d1 d2 d3 d4
    rcases way_cases y (N := 4) (by omega) with c | ⟨v, hv, rfl⟩ | c
    · rw [if_pos c, inI_lt c, obd_s, if_pos z00]
      exact ⟨_, _, _, rfl, rfl⟩
    · rw [if_neg (nI_pos (by omega)), if_pos (show nI v ≤ (4 : Int32) from nI_le (b := 4) hv (by omega)), inI_in (nI_pos (by omega)) (show ¬ (4 : Int32) < nI v from nI_nlt (a := 4) hv (by omega)), obd_s, if_neg z10, s1, s2, obd_s, obd_s, mb]
      have : v = 0 ∨ v = 1 ∨ v = 2 ∨ v = 3 ∨ v = 4 := by omega
      rcases this with rfl | rfl | rfl | rfl | rfl <;> exact ⟨_, _, _, rfl, rfl⟩
    · rw [if_neg (big_nn (N := 4) (by omega) c), if_neg (show ¬ y ≤ 4 from big_nle c), inI_gt (show (4 : Int32) < y from c), obd_s, if_pos z00]
      exact ⟨_, _, _, rfl, rfl⟩
theorem cost_both (h : Both bits size kc mc sp jo keys marks row b s n m p j K M) {x : Nat} (hx : x < 2 ^ b) (c1 c2 c3 c4 c5 d1 d2 d3 d4 : Int32) :
    ∃ C : Nat, C ≤ 63 ∧ ∃ e1 e2 e3 e4 e5 g1 g2 g3 g4, fX6_costOf bits kc mc keys marks c1 c2 c3 c4 c5 (nI x) = some (nI C, e1, e2, e3, e4, e5) ∧ fX7_costOf d1 d2 d3 d4 row (nI x) = some (nI C, g1, g2, g3, g4) := by
  obtain ⟨P, L, Q, l, h1, h2, h3, h4, s1, s2, _⟩ := seek_both h hx c1 c2 c3 c4 c5 d1 d2 d3 d4
  refine ⟨P + L + Q, by omega, nI P, nI L, nI Q, nI l, nI (lb M x m), nI P, nI L, nI Q, nI l, ?_, ?_⟩
  · unfold fX6_costOf
    rw [s1, obd_s]
    dsimp only
    rw [nI_add, nI_add]
  · unfold fX7_costOf
    rw [s2, obd_s]
    dsimp only
    rw [nI_add, nI_add]
theorem dear_loop (h : Both bits size kc mc sp jo keys marks row b s n m p j K M) {q1 q2 : Int32} :
    ∀ (k f i : Nat) (key most c1 c2 c3 c4 c5 d1 d2 d3 d4 : Int32), i + k = n → k < f →
      ∃ key' most' u v, lpX6_dearest_19 q1 bits kc mc keys marks f key most (nI i) c1 c2 c3 c4 c5 = some (key', most', u) ∧ lpX7_dearest_20 q2 row f most key (nI i) d1 d2 d3 d4 = some (most', key', v) := by
  have o2 : ∀ {α : Type} (X : Option α), oin (2 : Int32) 1824 X = X := fun X => oin_in (a := 2) (by omega) (by omega)
  have e2 : row (2 : Int32).toNatClampNeg = nI n := h.r2
  have ek : kc = nI n := h.2.2.2.1
  have hn := h.cx.1
  intro k
  induction k with
  | zero =>
    intro f i key most c1 c2 c3 c4 c5 d1 d2 d3 d4 h1 h2
    obtain ⟨f, rfl⟩ : ∃ g, f = g + 1 := ⟨f - 1, by omega⟩
    refine ⟨key, most, (nI i, c1, c2, c3, c4, c5), (nI i, d1, d2, d3, d4), ?_, ?_⟩
    · rw [lpX6_dearest_19, ek, if_pos (nI_le (by omega) (by omega))]
    · rw [lpX7_dearest_20, o2, e2, if_pos (nI_le (by omega) (by omega))]
  | succ k ih =>
    intro f i key most c1 c2 c3 c4 c5 d1 d2 d3 d4 h1 h2
    obtain ⟨f, rfl⟩ : ∃ g, f = g + 1 := ⟨f - 1, by omega⟩
    have hKi : K i < 2 ^ b := h.1.2.2.2.2.2.2.2.1 i (by omega)
    obtain ⟨C, hC, x1, x2, x3, x4, x5, y1, y2, y3, y4, w1, w2⟩ := cost_both h hKi c1 c2 c3 c4 c5 d1 d2 d3 d4
    have e6 : (6 : Int32) + nI i = nI (6 + i) := nI_add 6 i
    by_cases c : nI C ≤ most
    · obtain ⟨key', most', u, v, r1, r2⟩ := ih f (i + 1) key most x1 x2 x3 x4 x5 y1 y2 y3 y4 (by omega) (by omega)
      refine ⟨key', most', u, v, ?_, ?_⟩
      · rw [lpX6_dearest_19, if_neg (show ¬ kc ≤ nI i from ek ▸ nI_ge (by omega) (by omega)), h.keyAtI (by omega), obd_s, w1, obd_s, if_pos c, obd_s, nI_1]
        exact r1
      · rw [lpX7_dearest_20, o2, e2, if_neg (nI_ge (by omega) (by omega)), e6, oin_in (by omega) (by omega), nI_clamp (by omega), h.r6 (by omega), w2, obd_s]
        dsimp only
        rw [if_pos c, obd_s, olet_s, if_pos c, nI_1]
        exact r2
    · obtain ⟨key', most', u, v, r1, r2⟩ := ih f (i + 1) (nI (K i)) (nI C) x1 x2 x3 x4 x5 y1 y2 y3 y4 (by omega) (by omega)
      refine ⟨key', most', u, v, ?_, ?_⟩
      · rw [lpX6_dearest_19, if_neg (show ¬ kc ≤ nI i from ek ▸ nI_ge (by omega) (by omega)), h.keyAtI (by omega), obd_s, w1, obd_s, if_neg c, obd_s, obd_s, nI_1]
        exact r1
      · rw [lpX7_dearest_20, o2, e2, if_neg (nI_ge (by omega) (by omega)), e6, oin_in (by omega) (by omega), nI_clamp (by omega), h.r6 (by omega), w2, obd_s]
        dsimp only
        rw [if_neg c, oin_in (by omega) (by omega), obd_s, olet_s, if_neg c, nI_1]
        exact r2
theorem eq_dearest (h : Both bits size kc mc sp jo keys marks row b s n m p j K M) (c1 c2 c3 c4 c5 d1 d2 d3 d4 x : Int32) : ∃ r u v, fX6_dearest bits kc mc keys marks c1 c2 c3 c4 c5 x = some (r, u) ∧ fX7_dearest d1 d2 d3 d4 row x = some (r, v) := by
  unfold fX6_dearest fX7_dearest
  have hn := h.cx.1
  have eL : ∀ z : Int32, fX7_in z.toInt64 (0 : Int64) (1 : Int64) = fX7_in z.toInt64 (0 : Int32).toInt64 (1 : Int32).toInt64 := fun _ => rfl
  rw [eL]
  rcases way_cases x (N := 1) (by omega) with c | ⟨v, hv, rfl⟩ | c
  · rw [if_pos c, inI_lt c, obd_s, if_pos z00]
    exact ⟨_, _, _, rfl, rfl⟩
  · obtain ⟨key', most', u, w, r1, r2⟩ := dear_loop h (q1 := nI v) (q2 := nI v) n 100000 0 (-1) (-1) c1 c2 c3 c4 c5 d1 d2 d3 d4 (by omega) (by omega)
    rw [if_neg (nI_pos (by omega)), if_pos (show nI v ≤ (1 : Int32) from nI_le (b := 1) hv (by omega)), inI_in (nI_pos (by omega)) (show ¬ (1 : Int32) < nI v from nI_nlt (a := 1) hv (by omega)), obd_s, if_neg z10]
    have r1' : lpX6_dearest_19 (nI v) bits kc mc keys marks 100000 (-1) (-1) 0 c1 c2 c3 c4 c5 = some (key', most', u) := r1
    have r2' : lpX7_dearest_20 (nI v) row 100000 (-1) (-1) 0 d1 d2 d3 d4 = some (most', key', w) := r2
    rw [r1', r2', obd_s, obd_s]
    exact ⟨_, _, _, rfl, rfl⟩
  · rw [if_neg (big_nn (N := 1) (by omega) c), if_neg (show ¬ x ≤ 1 from big_nle c), inI_gt (show (1 : Int32) < x from c), obd_s, if_pos z00]
    exact ⟨_, _, _, rfl, rfl⟩
theorem mean_loop (h : Both bits size kc mc sp jo keys marks row b s n m p j K M) {q1 q2 : Int32} :
    ∀ (k f i S : Nat) (c1 c2 c3 c4 c5 d1 d2 d3 d4 : Int32), i + k = n → k < f → S ≤ 63 * i →
      ∃ S', S' ≤ 6048 ∧ ∃ u v, lpX6_mean_29 q1 bits kc mc keys marks f (nI S) (nI i) c1 c2 c3 c4 c5 = some (nI S', u) ∧ lpX7_mean_29 q2 row f (nI S) (nI i) d1 d2 d3 d4 = some (nI S', v) := by
  have o2 : ∀ {α : Type} (X : Option α), oin (2 : Int32) 1824 X = X := fun X => oin_in (a := 2) (by omega) (by omega)
  have e2 : row (2 : Int32).toNatClampNeg = nI n := h.r2
  have ek : kc = nI n := h.2.2.2.1
  have hn := h.cx.1
  intro k
  induction k with
  | zero =>
    intro f i S c1 c2 c3 c4 c5 d1 d2 d3 d4 h1 h2 h3
    obtain ⟨f, rfl⟩ : ∃ g, f = g + 1 := ⟨f - 1, by omega⟩
    refine ⟨S, by omega, (nI i, c1, c2, c3, c4, c5), (nI i, d1, d2, d3, d4), ?_, ?_⟩
    · rw [lpX6_mean_29, ek, if_pos (nI_le (by omega) (by omega))]
    · rw [lpX7_mean_29, o2, e2, if_pos (nI_le (by omega) (by omega))]
  | succ k ih =>
    intro f i S c1 c2 c3 c4 c5 d1 d2 d3 d4 h1 h2 h3
    obtain ⟨f, rfl⟩ : ∃ g, f = g + 1 := ⟨f - 1, by omega⟩
    have hKi : K i < 2 ^ b := h.1.2.2.2.2.2.2.2.1 i (by omega)
    obtain ⟨C, hC, x1, x2, x3, x4, x5, y1, y2, y3, y4, w1, w2⟩ := cost_both h hKi c1 c2 c3 c4 c5 d1 d2 d3 d4
    have e6 : (6 : Int32) + nI i = nI (6 + i) := nI_add 6 i
    obtain ⟨S', hS, u, v, r1, r2⟩ := ih f (i + 1) (S + C) x1 x2 x3 x4 x5 y1 y2 y3 y4 (by omega) (by omega) (by omega)
    refine ⟨S', hS, u, v, ?_, ?_⟩
    · rw [lpX6_mean_29, if_neg (show ¬ kc ≤ nI i from ek ▸ nI_ge (by omega) (by omega)), h.keyAtI (by omega), obd_s, w1, obd_s]
      dsimp only
      rw [nI_1, nI_add]
      exact r1
    · rw [lpX7_mean_29, o2, e2, if_neg (nI_ge (by omega) (by omega)), e6, oin_in (by omega) (by omega), nI_clamp (by omega), h.r6 (by omega), w2, obd_s]
      dsimp only
      rw [nI_1, nI_add]
      exact r2
theorem mod_e {a c : Nat} (ha : a < 2147483648) (hc : 0 < c) (hc2 : c < 2147483648) : nI a - nI a / nI c * nI c = nI (a % c) := by
  have e := Nat.div_add_mod a c
  rw [pk_div (by omega) hc (by omega), pk_mul, pk_sub (Nat.div_mul_le_self a c)]
  congr 1
  rw [Nat.mul_comm] at e
  omega
theorem gcd_both {q1 q2 : Int32} : ∀ (t f a c i : Nat), a * c < 2 ^ t → c ≤ a → 1 ≤ a → a < 2147483648 → t < f → i + t < 64 →
    ∃ g w, 1 ≤ g ∧ g < 2147483648 ∧ lpX6_commonDivisor_7 f (nI a) (nI c) (nI i) = some (nI g, w) ∧ ∃ w2, lpX7_mean_71 q1 q2 f (nI a) (nI c) = some (nI g, w2) := by
  intro t
  induction t with
  | zero =>
    intro f a c i h1 h2 h3 h4 h5 h6
    obtain ⟨f, rfl⟩ : ∃ g, f = g + 1 := ⟨f - 1, by omega⟩
    have : c = 0 := by
      rcases Nat.eq_zero_or_pos c with e | e
      · exact e
      · have := Nat.mul_pos (show 0 < a by omega) e
        simp at h1; omega
    subst this
    refine ⟨a, (nI 0, nI i), h3, h4, ?_, nI 0, ?_⟩
    · rw [lpX6_commonDivisor_7, if_pos (show nI 0 = (0 : Int32) from rfl)]
    · rw [lpX7_mean_71, if_pos (show nI 0 = (0 : Int32) from rfl)]
  | succ t ih =>
    intro f a c i h1 h2 h3 h4 h5 h6
    obtain ⟨f, rfl⟩ : ∃ g, f = g + 1 := ⟨f - 1, by omega⟩
    rcases Nat.eq_zero_or_pos c with e | e
    · subst e
      refine ⟨a, (nI 0, nI i), h3, h4, ?_, nI 0, ?_⟩
      · rw [lpX6_commonDivisor_7, if_pos (show nI 0 = (0 : Int32) from rfl)]
      · rw [lpX7_mean_71, if_pos (show nI 0 = (0 : Int32) from rfl)]
    · have hr : a % c < c := Nat.mod_lt _ e
      have h2r : 2 * (a % c) ≤ a := by
        have e1 := Nat.div_add_mod a c
        have e2 : 1 ≤ a / c := Nat.div_pos h2 e
        have e3 : c * 1 ≤ c * (a / c) := Nat.mul_le_mul_left c e2
        omega
      have hpr : c * (a % c) < 2 ^ t := by
        have e1 : c * (2 * (a % c)) ≤ c * a := Nat.mul_le_mul_left c h2r
        have e2 : c * (2 * (a % c)) = 2 * (c * (a % c)) := by rw [Nat.mul_left_comm]
        have e3 : c * a = a * c := Nat.mul_comm _ _
        have e4 : 2 ^ (t + 1) = 2 * 2 ^ t := by rw [Nat.pow_succ, Nat.mul_comm]
        omega
      obtain ⟨g, w, g1, g2, r1, w2, r2⟩ := ih f c (a % c) (i + 1) hpr (by omega) (by omega) (by omega) (by omega) (by omega)
      refine ⟨g, w, g1, g2, ?_, w2, ?_⟩
      · rw [lpX6_commonDivisor_7, if_neg (nI_ne0 (by omega) (by omega)), if_neg (show ¬ (64 : Int32) ≤ nI i from nI_ge (b := 64) (by omega) (by omega)), onz_n e (by omega), mod_e h4 e (by omega), nI_1]
        exact r1
      · rw [lpX7_mean_71, if_neg (nI_ne0 (by omega) (by omega)), onz_n e (by omega), mod_e h4 e (by omega)]
        exact r2
theorem gcd_start {q1 q2 : Int32} {S n : Nat} (hS : S ≤ 6048) (h0 : 1 ≤ n) (hn : n ≤ 96) : ∃ g, 1 ≤ g ∧ g < 2147483648 ∧ fX6_commonDivisor (nI S) (nI n) = some (nI g) ∧ ∃ w2, lpX7_mean_71 q1 q2 100000 (nI S) (nI n) = some (nI g, w2) := by
  have hr : S % n < n := Nat.mod_lt _ h0
  have hp : n * (S % n) < 2 ^ 14 := by
    have e1 : n * (S % n) ≤ 96 * (S % n) := Nat.mul_le_mul_right _ hn
    omega
  obtain ⟨g, w, g1, g2, r1, w2, r2⟩ := gcd_both (q1 := q1) (q2 := q2) 14 99999 n (S % n) 1 hp (by omega) h0 (by omega) (by omega) (by omega)
  refine ⟨g, g1, g2, ?_, w2, ?_⟩
  · unfold fX6_commonDivisor
    rw [show (100000 : Nat) = 99999 + 1 from rfl, lpX6_commonDivisor_7, if_neg (nI_ne0 (by omega) (by omega)), if_neg (show ¬ (64 : Int32) ≤ 0 by decide), onz_n h0 (by omega), mod_e (by omega) h0 (by omega)]
    have r1' : lpX6_commonDivisor_7 99999 (nI n) (nI (S % n)) (0 + 1) = some (nI g, w) := r1
    rw [r1', obd_s]
  · rw [show (100000 : Nat) = 99999 + 1 from rfl, lpX7_mean_71, if_neg (nI_ne0 (by omega) (by omega)), onz_n h0 (by omega), mod_e (by omega) h0 (by omega)]
    exact r2
theorem eq_mean (h : Both bits size kc mc sp jo keys marks row b s n m p j K M) (c1 c2 c3 c4 c5 d1 d2 d3 d4 x : Int32) : ∃ r u v, fX6_mean bits kc mc keys marks c1 c2 c3 c4 c5 x = some (r, u) ∧ fX7_mean d1 d2 d3 d4 row x = some (r, v) := by
  unfold fX6_mean fX7_mean
  have hn := h.cx.1
  have o2 : ∀ {α : Type} (X : Option α), oin (2 : Int32) 1824 X = X := fun X => oin_in (a := 2) (by omega) (by omega)
  have e2 : row (2 : Int32).toNatClampNeg = nI n := h.r2
  have ek : kc = nI n := h.2.2.2.1
  have eL : ∀ z : Int32, fX7_in z.toInt64 (0 : Int64) (1 : Int64) = fX7_in z.toInt64 (0 : Int32).toInt64 (1 : Int32).toInt64 := fun _ => rfl
  rw [eL]
  rcases way_cases x (N := 1) (by omega) with c | ⟨v, hv, rfl⟩ | c
  · rw [if_pos c, inI_lt c, obd_s, if_pos z00]
    exact ⟨_, _, _, rfl, rfl⟩
  · rw [if_neg (nI_pos (by omega)), if_pos (show nI v ≤ (1 : Int32) from nI_le (b := 1) hv (by omega)), inI_in (nI_pos (by omega)) (show ¬ (1 : Int32) < nI v from nI_nlt (a := 1) hv (by omega)), obd_s, if_neg z10, o2, e2]
    by_cases c0 : n = 0
    · subst c0
      rw [ek, if_neg (show ¬ (0 : Int32) < nI 0 by decide), if_pos (show nI 0 = (0 : Int32) from rfl)]
      exact ⟨_, _, _, rfl, rfl⟩
    · obtain ⟨S, hS, u, w, r1, r2⟩ := mean_loop h (q1 := nI v) (q2 := nI v) n 100000 0 0 c1 c2 c3 c4 c5 d1 d2 d3 d4 (by omega) (by omega) (by omega)
      obtain ⟨g, g1, g2, s1, w2, s2⟩ := gcd_start (q1 := nI v) (q2 := nI S) (n := n) hS (by omega) hn
      have r1' : lpX6_mean_29 (nI v) bits kc mc keys marks 100000 0 0 c1 c2 c3 c4 c5 = some (nI S, u) := r1
      have r2' : lpX7_mean_29 (nI v) row 100000 0 0 d1 d2 d3 d4 = some (nI S, w) := r2
      rw [r1', r2', obd_s, obd_s, if_pos (show 0 < kc from ek ▸ nI_lt (a := 0) (by omega) (by omega)), if_neg (show ¬ nI n = (0 : Int32) from nI_ne0 (by omega) (by omega)), ek]
      dsimp only
      rw [s1, obd_s, o2, s2, obd_s, if_pos (show (0 : Int32) < nI g from nI_lt (a := 0) (by omega) (by omega)), olet_s, onz_n (by omega) (by omega)]
      dsimp only
      rw [o2, onz_n (by omega) (by omega), onz_n (by omega) (by omega)]
      by_cases cv : nI v = 0
      · rw [if_pos cv, if_pos cv]
        exact ⟨_, _, _, rfl, rfl⟩
      · rw [if_neg cv, if_neg cv]
        exact ⟨_, _, _, rfl, rfl⟩
  · rw [if_neg (big_nn (N := 1) (by omega) c), if_neg (show ¬ x ≤ 1 from big_nle c), inI_gt (show (1 : Int32) < x from c), obd_s, if_pos z00]
    exact ⟨_, _, _, rfl, rfl⟩
end
