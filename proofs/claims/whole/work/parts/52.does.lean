/-! a clause is done: class and reference alike -/
abbrev CL : Type := Nat × Nat × Nat × Nat
def ixDo (a : Ix) (c : CL) : Ix := if c.1 = 0 then ixNew c.2.1 c.2.2.1 else if c.1 = 1 then ixAdd a c.2.1 else if c.1 = 2 then (if lb a.2.2.2.2.2.2.1 c.2.1 a.2.2.1 < a.2.2.1 ∧ a.2.2.2.2.2.2.1 (lb a.2.2.2.2.2.2.1 c.2.1 a.2.2.1) = c.2.1 then ixTake a c.2.1 else a) else ixFill a c.2.1 c.2.2.1 c.2.2.2
def ixAll (a : Ix) : List CL → Ix
  | [] => a
  | c :: cs => ixAll (ixDo a c) cs
def ValidC (b : Nat) (c : CL) : Prop := Valid b c.1 c.2.1 c.2.2.1 c.2.2.2
def ValidAll (b : Nat) : List CL → Prop
  | [] => True
  | c :: cs => ValidC b c ∧ ValidAll (clB b c.1 c.2.1) cs
def Holds (ki nu : Nat → Int32) (i : Nat) : List CL → Prop
  | [] => True
  | c :: cs => (ki i = nI c.1 ∧ nu (3 * i) = nI c.2.1 ∧ (c.1 = 0 ∨ c.1 = 3 → nu (3 * i + 1) = nI c.2.2.1) ∧ (c.1 = 3 → nu (3 * i + 2) = nI c.2.2.2)) ∧ Holds ki nu (i + 1) cs
theorem do_ok {a : Ix} {c : CL} (h : Ok a) (hv : ValidC a.1 c) : Ok (ixDo a c) ∧ (ixDo a c).1 = clB a.1 c.1 c.2.1 := by
  obtain ⟨k, v0, v1, v2⟩ := c
  unfold ixDo clB
  dsimp only
  rcases hv with ⟨rfl, g1, g2, g3, g4⟩ | ⟨rfl | rfl, g⟩ | ⟨rfl, g1, g2, g3⟩
  · dsimp only at g1 g2 g3 g4
    rw [if_pos rfl, if_pos rfl]; exact ⟨Ok_new g1 g2 g3 g4, rfl⟩
  · dsimp only at g
    rw [if_neg (by decide), if_pos rfl, if_neg (by decide)]; exact ⟨Ok_add h g, ixAdd_b a v0⟩
  · rw [if_neg (show ¬ 2 = 0 by decide), if_neg (show ¬ 2 = 1 by decide), if_pos (show 2 = 2 from rfl), if_neg (show ¬ 2 = 0 by decide)]
    by_cases e : lb a.2.2.2.2.2.2.1 v0 a.2.2.1 < a.2.2.1 ∧ a.2.2.2.2.2.2.1 (lb a.2.2.2.2.2.2.1 v0 a.2.2.1) = v0
    · rw [if_pos e]; exact ⟨Ok_take h e, (ixTake_n a v0).2.2.1⟩
    · rw [if_neg e]; exact ⟨h, rfl⟩
  · rw [if_neg (by decide), if_neg (by decide), if_neg (by decide), if_neg (by decide)]; exact ⟨Ok_fill h _, ixFill_b _ _ _ _⟩
theorem all_ok : ∀ (cs : List CL) {a : Ix}, Ok a → ValidAll a.1 cs → Ok (ixAll a cs)
  | [], _, h, _ => h
  | c :: cs, a, h, hv => by
    obtain ⟨h1, h2⟩ := do_ok h hv.1
    exact all_ok cs h1 (by rw [h2]; exact hv.2)
theorem Ok_b16 {a : Ix} (h : Ok a) : a.1 ≤ 16 := (Ok_strict h).2.2.2
theorem does_m {a : Ix} {c : CL} {row nu nu' : Nat → Int32} (h : Ok a) (hr : MRow row 0 a) (hv : ValidC a.1 c) (hn : NumsAt nu nu' 0 c.1 c.2.1 c.2.2.1 c.2.2.2) : ∃ r, fX7_does row nu' (nI c.1) = some r ∧ MRow r 0 (ixDo a c) ∧ sameOut row r 0 := by
  have hb := pow_le16 (Ok_b16 h)
  have hlim := Ok_lim h
  obtain ⟨k, v0, v1, v2⟩ := c
  obtain ⟨n0, n1, n2, -⟩ := hn
  unfold ixDo fX7_does
  dsimp only
  have o0 : ∀ {α : Type} (X : Option α), oin (0 : Int32) 3 X = X := fun X => oin_in (a := 0) (by omega) (by omega)
  have o1 : ∀ {α : Type} (X : Option α), oin (1 : Int32) 3 X = X := fun X => oin_in (a := 1) (by omega) (by omega)
  have o2 : ∀ {α : Type} (X : Option α), oin (2 : Int32) 3 X = X := fun X => oin_in (a := 2) (by omega) (by omega)
  have e0 : nu' (0 : Int32).toNatClampNeg = nI v0 := n0
  rw [o0, o1, o0, o0, o0, o0, o1, o2, e0]
  rcases hv with ⟨hk, g1, g2, g3, g4⟩ | ⟨hk | hk, g⟩ | ⟨hk, g1, g2, g3⟩
  · dsimp only at hk g1 g2 g3 g4
    subst hk
    have e1 : nu' (1 : Int32).toNatClampNeg = nI v1 := n1 (Or.inl rfl)
    obtain ⟨r, p1, p2, p3⟩ := plan_e (row := row) (B := 0) (b := v0) (s := v1) (by omega) g2
    have p1' : fX7_plan row 0 (nI v0) (nI v1) = some r := p1
    rw [if_pos (show nI 0 = (0 : Int32) from rfl), e1, p1', obd_s, obd_s, if_pos rfl]
    exact ⟨r, rfl, p2, p3⟩
  · dsimp only at hk g
    subst hk
    obtain ⟨r, p1, p2, p3⟩ := add_m (B := 0) (by omega) h hr g
    have p1' : fX7_addAt row 0 (nI v0) = some r := p1
    rw [if_neg (show ¬ nI 1 = (0 : Int32) by decide), if_pos (show nI 1 = (1 : Int32) from rfl), p1', obd_s, obd_s, if_neg (by decide), if_pos rfl]
    exact ⟨r, rfl, p2, p3⟩
  · dsimp only at hk g
    subst hk
    rw [if_neg (show ¬ nI 2 = (0 : Int32) by decide), if_neg (show ¬ nI 2 = (1 : Int32) by decide), if_pos (show nI 2 = (2 : Int32) from rfl), if_neg (show ¬ 2 = 0 by decide), if_neg (show ¬ 2 = 1 by decide), if_pos (show 2 = 2 from rfl)]
    obtain ⟨b, s, n, m, p, j, K, M⟩ := a
    have hM := Ok_Mx (by omega) h hr
    by_cases e : lb K v0 n < n ∧ K (lb K v0 n) = v0
    · have kk : fX7_isKey row 0 (nI v0) = some 1 := isKey_t (B := 0) (by omega) hM.2.1 (by omega) hM.2.2.2.2.2.2.2.2.1 hM.2.2.2.2.2.2.2.2.2.2.1 hM.2.2.2.2.1 hM.2.2.2.2.2.1 e
      obtain ⟨r, p1, p2, p3⟩ := take_m (B := 0) (by omega) h hr e
      have p1' : fX7_takeOut row 0 (nI v0) = some r := p1
      rw [kk, obd_s, if_neg z10, p1', obd_s, obd_s, if_pos e]
      exact ⟨r, rfl, p2, p3⟩
    · have kk : fX7_isKey row 0 (nI v0) = some 0 := isKey_f (B := 0) (by omega) hM.2.1 (by omega) hM.2.2.2.2.2.2.2.2.1 hM.2.2.2.2.2.2.2.2.2.2.1 hM.2.2.2.2.1 hM.2.2.2.2.2.1 e
      rw [kk, obd_s, if_pos z00, obd_s, if_neg e]
      exact ⟨row, rfl, hr, sameOut.rf _ _⟩
  · dsimp only at hk g1 g2 g3
    subst hk
    have e1 : nu' (1 : Int32).toNatClampNeg = nI v1 := n1 (Or.inr rfl)
    have e2 : nu' (2 : Int32).toNatClampNeg = nI v2 := n2 rfl
    obtain ⟨r, p1, p2, p3⟩ := fill_m (B := 0) (by omega) h (show v0 < 65536 by omega) g2 g3 hr
    have p1' : fX7_fill row 0 (nI v0) (nI v1) (nI v2) = some r := p1
    rw [if_neg (show ¬ nI 3 = (0 : Int32) by decide), if_neg (show ¬ nI 3 = (1 : Int32) by decide), if_neg (show ¬ nI 3 = (2 : Int32) by decide), e1, e2, p1', obd_s, obd_s, if_neg (by decide), if_neg (by decide), if_neg (by decide)]
    exact ⟨r, rfl, p2, p3⟩
theorem numOf0 {nu : Nat → Int32} {i : Nat} (hi : i < 24) : fX5_numberOf nu (nI i) 0 = some (nu (3 * i)) ∧ fX5_numberOf nu (nI i) 1 = some (nu (3 * i + 1)) ∧ fX5_numberOf nu (nI i) 2 = some (nu (3 * i + 2)) := by
  have g : ∀ w : Nat, w < 3 → fX5_numberOf nu (nI i) (nI w) = some (nu (3 * i + w)) := fun w hw => by
    have es : nI i * (3 : Int32) + nI w = nI (3 * i + w) := by
      have e : nI i * (3 : Int32) = nI (i * 3) := pk_mul i 3
      rw [e, nI_add, Nat.mul_comm]
    unfold fX5_numberOf
    rw [es, if_neg (nI_pos (by omega)), if_neg (show ¬ (72 : Int32) ≤ nI (3 * i + w) from nI_ge (b := 72) (by omega) (by omega)), oin_in (by omega) (by omega), nI_clamp (by omega), obd_s]
  exact ⟨g 0 (by omega), g 1 (by omega), g 2 (by omega)⟩
theorem begin_new {a1 a2 a3 a4 a5 a6 : Int32} {keys marks : Nat → Int32} {v0 v1 : Nat} (h : v0 ≤ 16) : ∃ m', fX0_begin a1 a2 a3 a4 a5 a6 marks (nI v0) (nI v1) = some (nI v0, nI v1, 0, 1, 0, 0, m') ∧ CB (nI v0) (nI v1) 0 1 0 0 keys m' (ixNew v0 v1) := by
  refine ⟨upd marks 0 (nI (2 ^ v0 - 1)), ?_, rfl, rfl, rfl, rfl, rfl, rfl, fun i hi => by omega, fun i hi => ?_⟩
  · unfold fX0_begin
    rw [fX0_top_e h, obd_s]
    rfl
  · obtain rfl : i = 0 := by omega
    exact upd_at _ _ _
theorem perform_loop {ki nu : Nat → Int32} {N : Nat} (hN : N ≤ 24) : ∀ (cs : List CL) (i f : Nat) (t : BC) (a : Ix), Ok a → CBt t a → ValidAll a.1 cs → Holds ki nu i cs → i + cs.length = N → cs.length < f →
    ∃ w t', lpX5_perform_2 (nI N) ki nu f (nI i) t.1 t.2.1 t.2.2.1 t.2.2.2.1 t.2.2.2.2.1 t.2.2.2.2.2.1 t.2.2.2.2.2.2.1 t.2.2.2.2.2.2.2 = some (w, t') ∧ CBt t' (ixAll a cs) := by
  intro cs
  induction cs with
  | nil =>
    intro i f t a h hC hv hh h1 hf
    obtain ⟨f, rfl⟩ : ∃ g, f = g + 1 := ⟨f - 1, by omega⟩
    obtain rfl : i = N := h1
    refine ⟨nI i, t, ?_, hC⟩
    rw [lpX5_perform_2, if_pos (nI_le (by omega) (by omega))]
  | cons c cs ih =>
    intro i f t a h hC hv hh h1 hf
    obtain ⟨f, rfl⟩ : ∃ g, f = g + 1 := ⟨f - 1, by omega⟩
    have hlen : (c :: cs).length = cs.length + 1 := rfl
    rw [hlen] at h1 hf
    obtain ⟨hv1, hv2⟩ := hv
    obtain ⟨⟨k0, k1, k2, k3⟩, hh2⟩ := hh
    obtain ⟨o1, o2⟩ := do_ok h hv1
    obtain ⟨q0, q1, q2⟩ := numOf0 (nu := nu) (i := i) (by omega)
    have hb := pow_le16 (Ok_b16 h)
    have step : ∃ t' : BC, CBt t' (ixDo a c) ∧ lpX5_perform_2 (nI N) ki nu (f + 1) (nI i) t.1 t.2.1 t.2.2.1 t.2.2.2.1 t.2.2.2.2.1 t.2.2.2.2.2.1 t.2.2.2.2.2.2.1 t.2.2.2.2.2.2.2 = lpX5_perform_2 (nI N) ki nu f (nI (i + 1)) t'.1 t'.2.1 t'.2.2.1 t'.2.2.2.1 t'.2.2.2.2.1 t'.2.2.2.2.2.1 t'.2.2.2.2.2.2.1 t'.2.2.2.2.2.2.2 := by
      rw [lpX5_perform_2, if_neg (nI_ge (by omega) (by omega)), if_neg (show ¬ (24 : Int32) ≤ nI i from nI_ge (b := 24) (by omega) (by omega)), q0, obd_s, k1, oin_in (by omega) (by omega), nI_clamp (by omega), k0, nI_1]
      obtain ⟨k, v0, v1, v2⟩ := c
      unfold ixDo
      dsimp only at k2 k3 ⊢
      rcases hv1 with ⟨hk, g1, g2, g3, g4⟩ | ⟨hk | hk, g⟩ | ⟨hk, g1, g2, g3⟩
      · dsimp only at hk g1 g2 g3 g4
        subst hk
        obtain ⟨m', p1, p2⟩ := begin_new (a1 := t.1) (a2 := t.2.1) (a3 := t.2.2.1) (a4 := t.2.2.2.1) (a5 := t.2.2.2.2.1) (a6 := t.2.2.2.2.2.1) (keys := t.2.2.2.2.2.2.1) (marks := t.2.2.2.2.2.2.2) (v0 := v0) (v1 := v1) g2
        rw [if_pos (show nI 0 = (0 : Int32) from rfl), q1, obd_s, k2 (Or.inl rfl), p1, obd_s, obd_s, if_pos rfl]
        exact ⟨(nI v0, nI v1, 0, 1, 0, 0, t.2.2.2.2.2.2.1, m'), p2, rfl⟩
      · dsimp only at hk g
        subst hk
        obtain ⟨kc', mc', sp', k', m', p1, p2⟩ := add_c h hC g
        rw [if_neg (show ¬ nI 1 = (0 : Int32) by decide), if_pos (show nI 1 = (1 : Int32) from rfl), p1, obd_s, obd_s, if_neg (by decide), if_pos rfl]
        exact ⟨(t.1, t.2.1, kc', mc', sp', t.2.2.2.2.2.1, k', m'), p2, rfl⟩
      · dsimp only at hk g
        subst hk
        rw [if_neg (show ¬ nI 2 = (0 : Int32) by decide), if_neg (show ¬ nI 2 = (1 : Int32) by decide), if_pos (show nI 2 = (2 : Int32) from rfl), if_neg (show ¬ 2 = 0 by decide), if_neg (show ¬ 2 = 1 by decide), if_pos (show 2 = 2 from rfl)]
        by_cases e : lb a.2.2.2.2.2.2.1 v0 a.2.2.1 < a.2.2.1 ∧ a.2.2.2.2.2.2.1 (lb a.2.2.2.2.2.2.1 v0 a.2.2.1) = v0
        · obtain ⟨kc', mc', sp', jo', k', m', p1, p2⟩ := take_c h hC e
          rw [p1, obd_s, obd_s, if_pos e]
          exact ⟨(t.1, t.2.1, kc', mc', sp', jo', k', m'), p2, rfl⟩
        · have p1 : fX0_takeOut t.2.1 t.2.2.1 t.2.2.2.1 t.2.2.2.2.1 t.2.2.2.2.2.1 t.2.2.2.2.2.2.1 t.2.2.2.2.2.2.2 (nI v0) = some (t.2.2.1, t.2.2.2.1, t.2.2.2.2.1, t.2.2.2.2.2.1, t.2.2.2.2.2.2.1, t.2.2.2.2.2.2.2) := by
            obtain ⟨b, s, n, m, p, j, K, M⟩ := a
            have hk : t.2.2.1 = nI n := hC.2.2.1
            rw [hk]
            exact takeOut_not h hC.2.2.2.2.2.2.1 hC.2.2.2.2.2.2.2 (by omega) e
          rw [p1, obd_s, obd_s, if_neg e]
          exact ⟨t, hC, rfl⟩
      · dsimp only at hk g1 g2 g3
        subst hk
        obtain ⟨kc', mc', sp', k', m', p1, p2⟩ := fill_c h (show v0 < 65536 by omega) g2 g3 hC
        rw [if_neg (show ¬ nI 3 = (0 : Int32) by decide), if_neg (show ¬ nI 3 = (1 : Int32) by decide), if_neg (show ¬ nI 3 = (2 : Int32) by decide), q1, obd_s, q2, obd_s, k2 (Or.inr rfl), k3 rfl, p1, obd_s, obd_s, if_neg (by decide), if_neg (by decide), if_neg (by decide)]
        exact ⟨(t.1, t.2.1, kc', mc', sp', t.2.2.2.2.2.1, k', m'), p2, rfl⟩
    obtain ⟨t1, s1, s2⟩ := step
    rw [s2]
    exact ih (i + 1) f t1 (ixDo a c) o1 s1 (by rw [o2]; exact hv2) hh2 (by omega) (by omega)
