/-! a clause: class and reference read alike -/
def Valid (b k v0 v1 v2 : Nat) : Prop := (k = 0 ∧ 4 ≤ v0 ∧ v0 ≤ 16 ∧ 2 ≤ v1 ∧ v1 ≤ 5) ∨ ((k = 1 ∨ k = 2) ∧ v0 < 2 ^ b) ∨ (k = 3 ∧ v0 < 2 ^ b ∧ v1 ≤ 999 ∧ v2 ≤ 96)
def clB (b k v0 : Nat) : Nat := if k = 0 then v0 else b
def NumsAt (nu nu' : Nat → Int32) (i k v0 v1 v2 : Nat) : Prop := nu' (3 * i) = nI v0 ∧ (k = 0 ∨ k = 3 → nu' (3 * i + 1) = nI v1) ∧ (k = 3 → nu' (3 * i + 2) = nI v2) ∧ ∀ j, (j < 3 * i ∨ 3 * i + 3 ≤ j) → nu' j = nu j
theorem val_nat {v : Int32} {a c : Nat} (h1 : ¬ v < nI a) (h2 : ¬ nI c < v) (hc : c < 2147483648) (ha : a < 2147483648) : ∃ k, a ≤ k ∧ k ≤ c ∧ v = nI k := by
  rcases i32_cases v with d | ⟨k, hk, rfl⟩
  · exact absurd (Int32.lt_of_lt_of_le d (nI_pos' (by omega))) h1
  · refine ⟨k, ?_, ?_, rfl⟩
    · rcases Nat.lt_or_ge k a with q | q
      · exact absurd (nI_lt q ha) h1
      · exact q
    · rcases Nat.lt_or_ge c k with q | q
      · exact absurd (nI_lt q hk) h2
      · exact q
section
variable {cl ml : Int32} {le te : Nat → Int32} {L : Nat} {tx : Nat → Nat}
theorem num3 (h1 : TxI cl le L tx) (h2 : TxI ml te L tx) {p : Nat} (hp : p ≤ L) (lo hi : Int32) {a c : Nat} (hlo : lo = nI a) (hhi : hi = nI c) (ha : a < 2147483648) (hc : c < 2147483648) :
    ((∀ (i : Nat) (ts tk : Int32) (nu : Nat → Int32), i < 24 → fX5_parseNumber cl (nI p) ts tk le nu (nI i) 0 lo hi = some (0, nI (tE tx L p), nI (tS tx L p), nI (tK tx L p), nu) ∧ fX5_parseNumber cl (nI p) ts tk le nu (nI i) 1 lo hi = some (0, nI (tE tx L p), nI (tS tx L p), nI (tK tx L p), nu) ∧ fX5_parseNumber cl (nI p) ts tk le nu (nI i) 2 lo hi = some (0, nI (tE tx L p), nI (tS tx L p), nI (tK tx L p), nu)) ∧ (∀ (nu : Nat → Int32), fX7_number ml (nI (tS tx L p)) (nI (tE tx L p)) te nu 0 lo hi = some (0, nI (tS tx L p), nI (tE tx L p), nu) ∧ fX7_number ml (nI (tS tx L p)) (nI (tE tx L p)) te nu 1 lo hi = some (0, nI (tS tx L p), nI (tE tx L p), nu) ∧ fX7_number ml (nI (tS tx L p)) (nI (tE tx L p)) te nu 2 lo hi = some (0, nI (tS tx L p), nI (tE tx L p), nu)))
    ∨ ∃ v : Nat, a ≤ v ∧ v ≤ c ∧ (∀ (i : Nat) (ts tk : Int32) (nu : Nat → Int32), i < 24 → fX5_parseNumber cl (nI p) ts tk le nu (nI i) 0 lo hi = some (1, nI (tE tx L p), nI (tS tx L p), nI (tK tx L p), upd nu (3 * i) (nI v)) ∧ fX5_parseNumber cl (nI p) ts tk le nu (nI i) 1 lo hi = some (1, nI (tE tx L p), nI (tS tx L p), nI (tK tx L p), upd nu (3 * i + 1) (nI v)) ∧ fX5_parseNumber cl (nI p) ts tk le nu (nI i) 2 lo hi = some (1, nI (tE tx L p), nI (tS tx L p), nI (tK tx L p), upd nu (3 * i + 2) (nI v))) ∧ (∀ (nu : Nat → Int32), fX7_number ml (nI (tS tx L p)) (nI (tE tx L p)) te nu 0 lo hi = some (1, nI (tS tx L (tE tx L p)), nI (tE tx L (tE tx L p)), upd nu 0 (nI v)) ∧ fX7_number ml (nI (tS tx L p)) (nI (tE tx L p)) te nu 1 lo hi = some (1, nI (tS tx L (tE tx L p)), nI (tE tx L (tE tx L p)), upd nu 1 (nI v)) ∧ fX7_number ml (nI (tS tx L p)) (nI (tE tx L p)) te nu 2 lo hi = some (1, nI (tS tx L (tE tx L p)), nI (tE tx L (tE tx L p)), upd nu 2 (nI v))) := by
  rcases num_both h1 h2 hp lo hi with ⟨A, B⟩ | ⟨v, v1, v2, A, B⟩
  · exact Or.inl ⟨fun i ts tk nu hi' => ⟨A i 0 ts tk nu hi' (by omega), A i 1 ts tk nu hi' (by omega), A i 2 ts tk nu hi' (by omega)⟩, fun nu => ⟨B 0 nu (by omega), B 1 nu (by omega), B 2 nu (by omega)⟩⟩
  · obtain ⟨k, k1, k2, rfl⟩ := val_nat (a := a) (c := c) (hlo ▸ v1) (hhi ▸ v2) hc ha
    exact Or.inr ⟨k, k1, k2, fun i ts tk nu hi' => ⟨A i 0 ts tk nu hi' (by omega), A i 1 ts tk nu hi' (by omega), A i 2 ts tk nu hi' (by omega)⟩, fun nu => ⟨B 0 nu (by omega), B 1 nu (by omega), B 2 nu (by omega)⟩⟩
def ClNo (cl ml : Int32) (le te : Nat → Int32) (L : Nat) (tx : Nat → Nat) (pw aw dw fw : Nat → Int32) (b p : Nat) : Prop := ∃ q, q ≤ L ∧ (∀ (i : Nat) (ts tk : Int32) (ki nu : Nat → Int32), i < 24 → ∃ (pl tk' : Int32) (ki' nu' : Nat → Int32), fX5_parseClause cl (nI b) (nI p) ts tk le ki nu (nI i) = some (0, nI b, pl, nI q, tk', ki', nu')) ∧ (∀ (d : Int32) (row nu : Nat → Int32), ∃ (be : Int32) (nu' : Nat → Int32), fX7_readsClause ml (nI (tS tx L p)) (nI (tE tx L p)) (nI b) d row te nu pw aw dw fw = some (0, nI q, be, nI b, row, nu'))
def ClYes (cl ml : Int32) (le te : Nat → Int32) (L : Nat) (tx : Nat → Nat) (pw aw dw fw : Nat → Int32) (b p k v0 v1 v2 p' : Nat) : Prop := Valid b k v0 v1 v2 ∧ p' ≤ L ∧ (∀ (i : Nat) (ts tk : Int32) (ki nu : Nat → Int32), i < 24 → ∃ (ts' tk' : Int32) (nu' : Nat → Int32), fX5_parseClause cl (nI b) (nI p) ts tk le ki nu (nI i) = some (1, nI (clB b k v0), nI p', ts', tk', upd ki i (nI k), nu') ∧ NumsAt nu nu' i k v0 v1 v2) ∧ (∀ (d : Int32) (row nu : Nat → Int32), ∃ (nu' : Nat → Int32), NumsAt nu nu' 0 k v0 v1 v2 ∧ fX7_readsClause ml (nI (tS tx L p)) (nI (tE tx L p)) (nI b) d row te nu pw aw dw fw = obd (if d = 0 then some row else fX7_does row nu' (nI k)) fun row' => some (1, nI (tS tx L p'), nI (tE tx L p'), nI (clB b k v0), row', nu'))
theorem NumsAt1 {nu : Nat → Int32} {i k v0 v1 v2 : Nat} (h : k = 1 ∨ k = 2) : NumsAt nu (upd nu (3 * i) (nI v0)) i k v0 v1 v2 :=
  ⟨upd_at _ _ _, fun q => by omega, fun q => by omega, fun j hj => upd_ne (by omega)⟩
theorem NumsAt2 {nu : Nat → Int32} {i k v0 v1 v2 : Nat} (h : k = 0) : NumsAt nu (upd (upd nu (3 * i) (nI v0)) (3 * i + 1) (nI v1)) i k v0 v1 v2 :=
  ⟨by rw [upd_ne (by omega), upd_at], fun _ => upd_at _ _ _, fun q => by omega, fun j hj => by rw [upd_ne (by omega), upd_ne (by omega)]⟩
theorem NumsAt3 {nu : Nat → Int32} {i k v0 v1 v2 : Nat} : NumsAt nu (upd (upd (upd nu (3 * i) (nI v0)) (3 * i + 1) (nI v1)) (3 * i + 2) (nI v2)) i k v0 v1 v2 :=
  ⟨by rw [upd_ne (by omega), upd_ne (by omega), upd_at], fun _ => by rw [upd_ne (by omega), upd_at], fun _ => upd_at _ _ _, fun j hj => by rw [upd_ne (by omega), upd_ne (by omega), upd_ne (by omega)]⟩
theorem clause_both (h1 : TxI cl le L tx) (h2 : TxI ml te L tx) {pw aw dw fw : Nat → Int32} (hW : WordsI pw aw dw fw) {b p : Nat} (hb : b ≤ 16) (hp : p ≤ L) : ClNo cl ml le te L tx pw aw dw fw b p ∨ ∃ k v0 v1 v2 p', ClYes cl ml le te L tx pw aw dw fw b p k v0 v1 v2 p' := by
  obtain ⟨b1, b2⟩ := tS_bd (tx := tx) hp
  obtain ⟨b3, b4, b5⟩ := tE_bd (tx := tx) hp
  have ol0 : ∀ {α : Type} (X : Option α), obl (0 : Int32) X = X := fun X => obl_0 X
  have ol : ∀ {α : Type} (X : Option α), obl (1 : Int32) X = X := fun X => obl_1 X
  have hpow := pow_le16 hb
  have hpos : 0 < 2 ^ b := Nat.two_pow_pos b
  obtain ⟨r, hr, w1, w2⟩ := word_both h1 h2 hW hp
  have n24 : ∀ {i : Nat}, i < 24 → nI i < (24 : Int32) := fun h => nI_lt (b := 24) h (by omega)
  have npos : ∀ {i : Nat}, i < 24 → ¬ nI i < 0 := fun h => nI_pos (by omega)
  have top : (1 : Int32) <<< (nI b &&& 31) - 1 = nI (2 ^ b - 1) := top_e hb
  have pc0 : ∀ (i : Nat) (ts tk : Int32) (ki nu : Nat → Int32), fX5_nextToken cl (nI p) ts tk le = some (nI (tE tx L p), nI (tS tx L p), nI (tK tx L p)) := fun i ts tk ki nu => next_c h1 hp ts tk
  have mt : ∀ fs, fX7_nextToken ml fs (nI (tE tx L p)) te = some (nI (tS tx L (tE tx L p)), nI (tE tx L (tE tx L p))) := fun fs => next_m h2 b4 fs
  obtain ⟨s1, s2⟩ := tS_bd (tx := tx) b4
  obtain ⟨s3, s4, s5⟩ := tE_bd (tx := tx) b4
  obtain ⟨t1, t2⟩ := tS_bd (tx := tx) s4
  obtain ⟨t3, t4, t5⟩ := tE_bd (tx := tx) s4
  obtain ⟨u1, u2⟩ := tS_bd (tx := tx) t4
  obtain ⟨u3, u4, u5⟩ := tE_bd (tx := tx) t4
  have numOf : ∀ (nu : Nat → Int32) (i : Nat), i < 24 → fX5_numberOf nu (nI i) 0 = some (nu (3 * i)) := fun nu i hi => by
    have es : nI i * (3 : Int32) + 0 = nI (3 * i) := by
      have e : nI i * (3 : Int32) = nI (i * 3) := pk_mul i 3
      rw [e, Nat.mul_comm]
      exact nI_add (3 * i) 0
    unfold fX5_numberOf
    rw [es, if_neg (nI_pos (by omega)), if_neg (show ¬ (72 : Int32) ≤ nI (3 * i) from nI_ge (b := 72) (by omega) (by omega)), oin_in (by omega) (by omega), nI_clamp (by omega), obd_s]
  have fin : ∀ (X : Option (Nat → Int32)) (d V f be : Int32) (row nu' : Nat → Int32), (obd (if d = 0 then some (V, row) else obd X fun u => some (V, u)) fun w_9 => obl (1 : Int32) (some ((1 : Int32), f, be, w_9.1, w_9.2, nu'))) = obd (if d = 0 then some row else X) fun row' => some ((1 : Int32), f, be, V, row', nu') := fun X d V f be row nu' => by
    by_cases c : d = 0
    · rw [if_pos c, if_pos c]; rfl
    · rw [if_neg c, if_neg c]
      cases X <;> rfl
  generalize hP1 : tE tx L p = P1 at *
  generalize hP2 : tE tx L P1 = P2 at *
  generalize hP3 : tE tx L P2 = P3 at *
  generalize hP4 : tE tx L P3 = P4 at *
  rcases hr with rfl | rfl | rfl | rfl | rfl
  · refine Or.inl ⟨tS tx L p, b2, fun i ts tk ki nu hi => ⟨nI P1, nI (tK tx L p), ki, nu, ?_⟩, fun d row nu => ⟨nI P1, nu, ?_⟩⟩
    · unfold fX5_parseClause
      rw [next_c h1 hp, obd_s, hP1]
      dsimp only
      rw [w1, obd_s, if_pos rfl, ol0]
    · unfold fX7_readsClause
      rw [hP1, w2, obd_s, if_pos rfl, ol0]
  · rcases num3 h1 h2 b4 4 16 (a := 4) (c := 16) rfl rfl (by omega) (by omega) with ⟨A, B⟩ | ⟨v0, g0, g0', A, B⟩
    · simp only [hP2] at A B
      refine Or.inl ⟨tS tx L P1, s2, fun i ts tk ki nu hi => ⟨nI P2, nI (tK tx L P1), upd ki i 0, nu, ?_⟩, fun d row nu => ⟨nI P2, nu, ?_⟩⟩
      · unfold fX5_parseClause
        rw [next_c h1 hp, obd_s, hP1]
        dsimp only
        rw [w1, obd_s, if_neg (show ¬ (0 : Int32) = -1 by decide), if_neg (npos hi), if_pos (n24 hi), oin_in hi (by omega), nI_clamp (by omega), if_pos z00, (A i _ _ _ hi).1, obd_s]
        rfl
      · unfold fX7_readsClause
        rw [hP1, w2, obd_s, if_neg (show ¬ (0 : Int32) = -1 by decide), mt, obd_s]
        dsimp only
        rw [if_pos z00, (B nu).1, obd_s]
        rfl
    simp only [hP2] at A B
    rcases num3 h1 h2 s4 2 5 (a := 2) (c := 5) rfl rfl (by omega) (by omega) with ⟨A2, B2⟩ | ⟨v1, g1, g1', A2, B2⟩
    · simp only [hP3] at A2 B2 B
      refine Or.inl ⟨tS tx L P2, t2, fun i ts tk ki nu hi => ⟨nI P3, nI (tK tx L P2), upd ki i 0, upd nu (3 * i) (nI v0), ?_⟩, fun d row nu => ⟨nI P3, upd nu 0 (nI v0), ?_⟩⟩
      · unfold fX5_parseClause
        rw [next_c h1 hp, obd_s, hP1]
        dsimp only
        rw [w1, obd_s, if_neg (show ¬ (0 : Int32) = -1 by decide), if_neg (npos hi), if_pos (n24 hi), oin_in hi (by omega), nI_clamp (by omega), if_pos z00, (A i _ _ _ hi).1, obd_s]
        dsimp only
        rw [if_neg z10, (A2 i _ _ _ hi).2.1, obd_s]
        rfl
      · unfold fX7_readsClause
        rw [hP1, w2, obd_s, if_neg (show ¬ (0 : Int32) = -1 by decide), mt, obd_s]
        dsimp only
        rw [if_pos z00, (B nu).1, obd_s]
        dsimp only
        rw [if_neg z10, (B2 _).2.1, obd_s]
        rfl
    · simp only [hP3] at A2 B2 B
      refine Or.inr ⟨0, v0, v1, 0, P3, Or.inl ⟨rfl, g0, g0', g1, g1'⟩, t4, fun i ts tk ki nu hi => ⟨nI (tS tx L P2), nI (tK tx L P2), upd (upd nu (3 * i) (nI v0)) (3 * i + 1) (nI v1), ?_, NumsAt2 rfl⟩, fun d row nu => ⟨upd (upd nu (3 * 0) (nI v0)) (3 * 0 + 1) (nI v1), NumsAt2 rfl, ?_⟩⟩
      · unfold fX5_parseClause
        rw [next_c h1 hp, obd_s, hP1]
        dsimp only
        rw [w1, obd_s, if_neg (show ¬ (0 : Int32) = -1 by decide), if_neg (npos hi), if_pos (n24 hi), oin_in hi (by omega), nI_clamp (by omega), if_pos z00, (A i _ _ _ hi).1, obd_s]
        dsimp only
        rw [if_neg z10, (A2 i _ _ _ hi).2.1, obd_s]
        dsimp only
        rw [if_neg z10, obd_s]
        dsimp only
        rw [if_neg z10, numOf _ _ hi, obd_s, obd_s, ol, upd_ne (by omega), upd_at]
        rfl
      · unfold fX7_readsClause
        rw [hP1, w2, obd_s, if_neg (show ¬ (0 : Int32) = -1 by decide), mt, obd_s]
        dsimp only
        rw [if_pos z00, (B nu).1, obd_s]
        dsimp only
        rw [if_neg z10, (B2 _).2.1, obd_s]
        dsimp only
        rw [if_neg z10, obd_s]
        dsimp only
        rw [if_neg z10, if_pos z00, show (oin (0 : Int32) 3 (some (upd (upd nu 0 (nI v0)) 1 (nI v1) (0 : Int32).toNatClampNeg))) = some (nI v0) from rfl, obd_s, hP4]
        exact fin _ d _ _ _ row _
  · rcases num3 h1 h2 b4 0 ((1 : Int32) <<< (nI b &&& 31) - 1) (a := 0) (c := 2 ^ b - 1) rfl top (by omega) (by omega) with ⟨A, B⟩ | ⟨v0, g0, g0', A, B⟩
    · rw [hP2] at B
      simp only [hP2] at A
      refine Or.inl ⟨tS tx L P1, s2, fun i ts tk ki nu hi => ⟨nI P2, nI (tK tx L P1), upd ki i 1, nu, ?_⟩, fun d row nu => ⟨nI P2, nu, ?_⟩⟩
      · unfold fX5_parseClause
        rw [next_c h1 hp, obd_s, hP1]
        dsimp only
        rw [w1, obd_s, if_neg (show ¬ (1 : Int32) = -1 by decide), if_neg (npos hi), if_pos (n24 hi), oin_in hi (by omega), nI_clamp (by omega), if_neg (show ¬ (1 : Int32) = 0 by decide), if_neg (show ¬ (1 : Int32) = 3 by decide), (A i _ _ _ hi).1, obd_s]
        rfl
      · unfold fX7_readsClause
        rw [hP1, w2, obd_s, if_neg (show ¬ (1 : Int32) = -1 by decide), mt, obd_s]
        dsimp only
        rw [if_neg (show ¬ (1 : Int32) = 0 by decide), (B nu).1, obd_s]
        rfl
    · simp only [hP2] at A B
      refine Or.inr ⟨1, v0, 0, 0, P2, Or.inr (Or.inl ⟨by omega, by omega⟩), s4, fun i ts tk ki nu hi => ⟨nI (tS tx L P1), nI (tK tx L P1), upd nu (3 * i) (nI v0), ?_, NumsAt1 (by omega)⟩, fun d row nu => ⟨upd nu (3 * 0) (nI v0), NumsAt1 (by omega), ?_⟩⟩
      · unfold fX5_parseClause
        rw [next_c h1 hp, obd_s, hP1]
        dsimp only
        rw [w1, obd_s, if_neg (show ¬ (1 : Int32) = -1 by decide), if_neg (npos hi), if_pos (n24 hi), oin_in hi (by omega), nI_clamp (by omega), if_neg (show ¬ (1 : Int32) = 0 by decide), if_neg (show ¬ (1 : Int32) = 3 by decide), (A i _ _ _ hi).1, obd_s]
        rfl
      · unfold fX7_readsClause
        rw [hP1, w2, obd_s, if_neg (show ¬ (1 : Int32) = -1 by decide), mt, obd_s]
        dsimp only
        rw [if_neg (show ¬ (1 : Int32) = 0 by decide), (B nu).1, obd_s]
        dsimp only
        rw [if_neg z10, if_neg (show ¬ (1 : Int32) = 3 by decide), obd_s]
        dsimp only
        rw [if_neg z10, if_neg (show ¬ (1 : Int32) = 0 by decide), obd_s, hP3]
        exact fin _ d _ _ _ row _
  · rcases num3 h1 h2 b4 0 ((1 : Int32) <<< (nI b &&& 31) - 1) (a := 0) (c := 2 ^ b - 1) rfl top (by omega) (by omega) with ⟨A, B⟩ | ⟨v0, g0, g0', A, B⟩
    · rw [hP2] at B
      simp only [hP2] at A
      refine Or.inl ⟨tS tx L P1, s2, fun i ts tk ki nu hi => ⟨nI P2, nI (tK tx L P1), upd ki i 2, nu, ?_⟩, fun d row nu => ⟨nI P2, nu, ?_⟩⟩
      · unfold fX5_parseClause
        rw [next_c h1 hp, obd_s, hP1]
        dsimp only
        rw [w1, obd_s, if_neg (show ¬ (2 : Int32) = -1 by decide), if_neg (npos hi), if_pos (n24 hi), oin_in hi (by omega), nI_clamp (by omega), if_neg (show ¬ (2 : Int32) = 0 by decide), if_neg (show ¬ (2 : Int32) = 3 by decide), (A i _ _ _ hi).1, obd_s]
        rfl
      · unfold fX7_readsClause
        rw [hP1, w2, obd_s, if_neg (show ¬ (2 : Int32) = -1 by decide), mt, obd_s]
        dsimp only
        rw [if_neg (show ¬ (2 : Int32) = 0 by decide), (B nu).1, obd_s]
        rfl
    · simp only [hP2] at A B
      refine Or.inr ⟨2, v0, 0, 0, P2, Or.inr (Or.inl ⟨by omega, by omega⟩), s4, fun i ts tk ki nu hi => ⟨nI (tS tx L P1), nI (tK tx L P1), upd nu (3 * i) (nI v0), ?_, NumsAt1 (by omega)⟩, fun d row nu => ⟨upd nu (3 * 0) (nI v0), NumsAt1 (by omega), ?_⟩⟩
      · unfold fX5_parseClause
        rw [next_c h1 hp, obd_s, hP1]
        dsimp only
        rw [w1, obd_s, if_neg (show ¬ (2 : Int32) = -1 by decide), if_neg (npos hi), if_pos (n24 hi), oin_in hi (by omega), nI_clamp (by omega), if_neg (show ¬ (2 : Int32) = 0 by decide), if_neg (show ¬ (2 : Int32) = 3 by decide), (A i _ _ _ hi).1, obd_s]
        rfl
      · unfold fX7_readsClause
        rw [hP1, w2, obd_s, if_neg (show ¬ (2 : Int32) = -1 by decide), mt, obd_s]
        dsimp only
        rw [if_neg (show ¬ (2 : Int32) = 0 by decide), (B nu).1, obd_s]
        dsimp only
        rw [if_neg z10, if_neg (show ¬ (2 : Int32) = 3 by decide), obd_s]
        dsimp only
        rw [if_neg z10, if_neg (show ¬ (2 : Int32) = 0 by decide), obd_s, hP3]
        exact fin _ d _ _ _ row _
  · rcases num3 h1 h2 b4 0 ((1 : Int32) <<< (nI b &&& 31) - 1) (a := 0) (c := 2 ^ b - 1) rfl top (by omega) (by omega) with ⟨A, B⟩ | ⟨v0, g0, g0', A, B⟩
    · simp only [hP2] at A B
      refine Or.inl ⟨tS tx L P1, s2, fun i ts tk ki nu hi => ⟨nI P2, nI (tK tx L P1), upd ki i 3, nu, ?_⟩, fun d row nu => ⟨nI P2, nu, ?_⟩⟩
      · unfold fX5_parseClause
        rw [next_c h1 hp, obd_s, hP1]
        dsimp only
        rw [w1, obd_s, if_neg (show ¬ (3 : Int32) = -1 by decide), if_neg (npos hi), if_pos (n24 hi), oin_in hi (by omega), nI_clamp (by omega), if_neg (show ¬ (3 : Int32) = 0 by decide), if_pos (show (3 : Int32) = 3 from rfl), (A i _ _ _ hi).1, obd_s]
        rfl
      · unfold fX7_readsClause
        rw [hP1, w2, obd_s, if_neg (show ¬ (3 : Int32) = -1 by decide), mt, obd_s]
        dsimp only
        rw [if_neg (show ¬ (3 : Int32) = 0 by decide), (B nu).1, obd_s]
        rfl
    simp only [hP2] at A B
    rcases num3 h1 h2 s4 1 999 (a := 1) (c := 999) rfl rfl (by omega) (by omega) with ⟨A2, B2⟩ | ⟨v1, g1, g1', A2, B2⟩
    · simp only [hP3] at A2 B2 B
      refine Or.inl ⟨tS tx L P2, t2, fun i ts tk ki nu hi => ⟨nI P3, nI (tK tx L P2), upd ki i 3, upd nu (3 * i) (nI v0), ?_⟩, fun d row nu => ⟨nI P3, upd nu 0 (nI v0), ?_⟩⟩
      · unfold fX5_parseClause
        rw [next_c h1 hp, obd_s, hP1]
        dsimp only
        rw [w1, obd_s, if_neg (show ¬ (3 : Int32) = -1 by decide), if_neg (npos hi), if_pos (n24 hi), oin_in hi (by omega), nI_clamp (by omega), if_neg (show ¬ (3 : Int32) = 0 by decide), if_pos (show (3 : Int32) = 3 from rfl), (A i _ _ _ hi).1, obd_s]
        dsimp only
        rw [if_neg z10, (A2 i _ _ _ hi).2.1, obd_s]
        rfl
      · unfold fX7_readsClause
        rw [hP1, w2, obd_s, if_neg (show ¬ (3 : Int32) = -1 by decide), mt, obd_s]
        dsimp only
        rw [if_neg (show ¬ (3 : Int32) = 0 by decide), (B nu).1, obd_s]
        dsimp only
        rw [if_neg z10, if_pos (show (3 : Int32) = 3 from rfl), (B2 _).2.1, obd_s]
        rfl
    simp only [hP3] at A2 B2 B
    rcases num3 h1 h2 t4 1 96 (a := 1) (c := 96) rfl rfl (by omega) (by omega) with ⟨A3, B3⟩ | ⟨v2, g2, g2', A3, B3⟩
    · simp only [hP4] at A3 B3 B2
      refine Or.inl ⟨tS tx L P3, u2, fun i ts tk ki nu hi => ⟨nI P4, nI (tK tx L P3), upd ki i 3, upd (upd nu (3 * i) (nI v0)) (3 * i + 1) (nI v1), ?_⟩, fun d row nu => ⟨nI P4, upd (upd nu 0 (nI v0)) 1 (nI v1), ?_⟩⟩
      · unfold fX5_parseClause
        rw [next_c h1 hp, obd_s, hP1]
        dsimp only
        rw [w1, obd_s, if_neg (show ¬ (3 : Int32) = -1 by decide), if_neg (npos hi), if_pos (n24 hi), oin_in hi (by omega), nI_clamp (by omega), if_neg (show ¬ (3 : Int32) = 0 by decide), if_pos (show (3 : Int32) = 3 from rfl), (A i _ _ _ hi).1, obd_s]
        dsimp only
        rw [if_neg z10, (A2 i _ _ _ hi).2.1, obd_s]
        dsimp only
        rw [if_neg z10, (A3 i _ _ _ hi).2.2, obd_s]
        rfl
      · unfold fX7_readsClause
        rw [hP1, w2, obd_s, if_neg (show ¬ (3 : Int32) = -1 by decide), mt, obd_s]
        dsimp only
        rw [if_neg (show ¬ (3 : Int32) = 0 by decide), (B nu).1, obd_s]
        dsimp only
        rw [if_neg z10, if_pos (show (3 : Int32) = 3 from rfl), (B2 _).2.1, obd_s]
        dsimp only
        rw [if_neg z10, (B3 _).2.2, obd_s]
        rfl
    · simp only [hP4] at A3 B3 B2
      refine Or.inr ⟨3, v0, v1, v2, P4, Or.inr (Or.inr ⟨rfl, by omega, g1', g2'⟩), u4, fun i ts tk ki nu hi => ⟨nI (tS tx L P3), nI (tK tx L P3), upd (upd (upd nu (3 * i) (nI v0)) (3 * i + 1) (nI v1)) (3 * i + 2) (nI v2), ?_, NumsAt3⟩, fun d row nu => ⟨upd (upd (upd nu (3 * 0) (nI v0)) (3 * 0 + 1) (nI v1)) (3 * 0 + 2) (nI v2), NumsAt3, ?_⟩⟩
      · unfold fX5_parseClause
        rw [next_c h1 hp, obd_s, hP1]
        dsimp only
        rw [w1, obd_s, if_neg (show ¬ (3 : Int32) = -1 by decide), if_neg (npos hi), if_pos (n24 hi), oin_in hi (by omega), nI_clamp (by omega), if_neg (show ¬ (3 : Int32) = 0 by decide), if_pos (show (3 : Int32) = 3 from rfl), (A i _ _ _ hi).1, obd_s]
        dsimp only
        rw [if_neg z10, (A2 i _ _ _ hi).2.1, obd_s]
        dsimp only
        rw [if_neg z10, (A3 i _ _ _ hi).2.2, obd_s]
        rfl
      · unfold fX7_readsClause
        rw [hP1, w2, obd_s, if_neg (show ¬ (3 : Int32) = -1 by decide), mt, obd_s]
        dsimp only
        rw [if_neg (show ¬ (3 : Int32) = 0 by decide), (B nu).1, obd_s]
        dsimp only
        rw [if_neg z10, if_pos (show (3 : Int32) = 3 from rfl), (B2 _).2.1, obd_s]
        dsimp only
        rw [if_neg z10, (B3 _).2.2, obd_s]
        dsimp only
        rw [if_neg z10, obd_s]
        dsimp only
        rw [if_neg z10, if_neg (show ¬ (3 : Int32) = 0 by decide), obd_s]
        exact fin _ d _ _ _ row _
end
