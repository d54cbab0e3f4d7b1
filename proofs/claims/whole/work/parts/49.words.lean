/-! write, erase; a number, a word: class and reference read alike -/
def TextI (cl : Int32) (le : Nat → Int32) (ml : Int32) (te : Nat → Int32) : Prop := ∃ L tx, TxI cl le L tx ∧ TxI ml te L tx
theorem TxI_up {length : Int32} {letters : Nat → Int32} {L c : Nat} {tx : Nat → Nat} (h : TxI length letters L tx) (hL : L < 200) (hc : c ≤ 255) : TxI (nI (L + 1)) (upd letters L (nI c)) (L + 1) (fun i => if i = L then c else tx i) := by
  refine ⟨by omega, rfl, fun i hi => ?_⟩
  dsimp only
  by_cases e : i = L
  · rw [if_pos e, e, upd_at]; exact ⟨rfl, hc⟩
  · rw [if_neg e, upd_ne e]; exact h.2.2 i (by omega)
theorem eq_write {cl ml : Int32} {le te : Nat → Int32} (h : TextI cl le ml te) (x : Int32) : ∃ r cl' le' ml' te', fX6_write cl le x = some (r, cl', le') ∧ fX7_write ml te x = some (r, ml', te') ∧ TextI cl' le' ml' te' := by
  have h0 := h
  obtain ⟨L, tx, h1, h2⟩ := h
  have eL : ∀ z : Int32, fX7_in z.toInt64 (0 : Int64) (255 : Int64) = fX7_in z.toInt64 (0 : Int32).toInt64 (255 : Int32).toInt64 := fun _ => rfl
  have hL := h1.1
  unfold fX6_write fX7_write
  rw [eL]
  rcases way_cases x (N := 255) (by omega) with c | ⟨v, hv, rfl⟩ | c
  · rw [if_pos c, inI_lt c, obd_s, if_pos z00]
    exact ⟨_, _, _, _, _, rfl, rfl, h0⟩
  · rw [if_neg (nI_pos (by omega)), if_pos (show nI v ≤ (255 : Int32) from nI_le (b := 255) hv (by omega)), inI_in (nI_pos (by omega)) (show ¬ (255 : Int32) < nI v from nI_nlt (a := 255) hv (by omega)), obd_s, if_neg z10]
    unfold fX5_append
    rw [h1.2.1, h2.2.1, if_neg (nI_pos (by omega))]
    have ol0 : ∀ {α : Type} (X : Option α), obl (0 : Int32) X = X := fun X => obl_0 X
    have ol : ∀ {α : Type} (X : Option α), obl (1 : Int32) X = X := fun X => obl_1 X
    by_cases cL : L < 200
    · rw [if_pos (show nI L < (200 : Int32) from nI_lt (b := 200) cL (by omega)), oin_in cL (by omega), ol, obd_s, if_neg (show ¬ nI L = (200 : Int32) from nI_nq (b := 200) (by omega) (by omega) (by omega)), oin_in cL (by omega), nI_clamp (by omega), nI_1]
      exact ⟨_, _, _, _, _, rfl, rfl, L + 1, _, TxI_up h1 cL hv, TxI_up h2 cL hv⟩
    · obtain rfl : L = 200 := by omega
      rw [if_neg (show ¬ nI 200 < (200 : Int32) by decide), ol0, obd_s, if_pos (show nI 200 = (200 : Int32) from rfl)]
      exact ⟨_, _, _, _, _, rfl, rfl, 200, tx, ⟨hL, rfl, h1.2.2⟩, ⟨hL, rfl, h2.2.2⟩⟩
  · rw [if_neg (big_nn (N := 255) (by omega) c), if_neg (show ¬ x ≤ 255 from big_nle c), inI_gt (show (255 : Int32) < x from c), obd_s, if_pos z00]
    exact ⟨_, _, _, _, _, rfl, rfl, h0⟩
theorem eq_erase {cl ml : Int32} {le te : Nat → Int32} (h : TextI cl le ml te) : ∃ r cl' ml', fX6_erase cl = some (r, cl') ∧ fX7_erase ml = some (r, ml') ∧ TextI cl' le ml' te := by
  obtain ⟨L, tx, h1, h2⟩ := h
  unfold fX6_erase fX5_clear fX7_erase
  rw [obd_s, h1.2.1, h2.2.1]
  exact ⟨_, _, _, rfl, rfl, 0, tx, ⟨by omega, rfl, fun i hi => by omega⟩, ⟨by omega, rfl, fun i hi => by omega⟩⟩
def valI (tx : Nat → Nat) : Nat → Nat → Int32 → Int32
  | 0, _, v => v
  | n + 1, t, v => valI tx n (t + 1) (10 * v + (nI (tx t) - 48))
section
variable {cl ml : Int32} {le te : Nat → Int32} {L : Nat} {tx : Nat → Nat}
theorem val_c (h : TxI cl le L tx) {q1 q2 q3 q4 : Int32} {e : Nat} (he : e ≤ L) : ∀ (n f t : Nat) (v : Int32), t + n = e → n < f → lpX5_parseNumber_36 q1 q2 q3 q4 cl (nI e) le f v (nI t) = some (valI tx n t v, nI e) := by
  have hL := h.1
  intro n
  induction n with
  | zero =>
    intro f t v h1 hf
    obtain ⟨f, rfl⟩ : ∃ g, f = g + 1 := ⟨f - 1, by omega⟩
    obtain rfl : t = e := by omega
    rw [lpX5_parseNumber_36, if_pos (nI_le (by omega) (by omega)), valI]
  | succ n ih =>
    intro f t v h1 hf
    obtain ⟨f, rfl⟩ : ∃ g, f = g + 1 := ⟨f - 1, by omega⟩
    rw [lpX5_parseNumber_36, if_neg (nI_ge (by omega) (by omega)), let_in h (by omega), obd_s, valI, nI_1]
    exact ih f (t + 1) _ (by omega) (by omega)
theorem val_m (h : TxI ml te L tx) {q1 q2 q3 : Int32} {e : Nat} (he : e ≤ L) : ∀ (n f t : Nat) (v : Int32), t + n = e → n < f → lpX7_number_50 q1 q2 q3 (nI e) te f v (nI t) = some (valI tx n t v, nI e) := by
  have hL := h.1
  intro n
  induction n with
  | zero =>
    intro f t v h1 hf
    obtain ⟨f, rfl⟩ : ∃ g, f = g + 1 := ⟨f - 1, by omega⟩
    obtain rfl : t = e := by omega
    rw [lpX7_number_50, if_pos (nI_le (by omega) (by omega)), valI]
  | succ n ih =>
    intro f t v h1 hf
    obtain ⟨f, rfl⟩ : ∃ g, f = g + 1 := ⟨f - 1, by omega⟩
    have e1 : ∀ a b : Int32, a + b - 48 = a + (b - 48) := fun a b => by rw [Int32.sub_eq_add_neg, Int32.sub_eq_add_neg, Int32.add_assoc]
    rw [lpX7_number_50, if_neg (nI_ge (by omega) (by omega)), oin_in (by omega) (by omega), nI_clamp (by omega), (h.2.2 t (by omega)).1, e1, valI, nI_1]
    exact ih f (t + 1) _ (by omega) (by omega)
theorem num_both (h1 : TxI cl le L tx) (h2 : TxI ml te L tx) {p : Nat} (hp : p ≤ L) (lo hi : Int32) :
    ((∀ (i w : Nat) (ts tk : Int32) (nu : Nat → Int32), i < 24 → w < 3 → fX5_parseNumber cl (nI p) ts tk le nu (nI i) (nI w) lo hi = some (0, nI (tE tx L p), nI (tS tx L p), nI (tK tx L p), nu)) ∧ (∀ (w : Nat) (nu : Nat → Int32), w < 3 → fX7_number ml (nI (tS tx L p)) (nI (tE tx L p)) te nu (nI w) lo hi = some (0, nI (tS tx L p), nI (tE tx L p), nu)))
    ∨ ∃ v : Int32, ¬ v < lo ∧ ¬ hi < v ∧ (∀ (i w : Nat) (ts tk : Int32) (nu : Nat → Int32), i < 24 → w < 3 → fX5_parseNumber cl (nI p) ts tk le nu (nI i) (nI w) lo hi = some (1, nI (tE tx L p), nI (tS tx L p), nI (tK tx L p), upd nu (3 * i + w) v)) ∧ (∀ (w : Nat) (nu : Nat → Int32), w < 3 → fX7_number ml (nI (tS tx L p)) (nI (tE tx L p)) te nu (nI w) lo hi = some (1, nI (tS tx L (tE tx L p)), nI (tE tx L (tE tx L p)), upd nu w v)) := by
  have hL := h1.1
  obtain ⟨b1, b2⟩ := tS_bd (tx := tx) hp
  obtain ⟨b3, b4, b5⟩ := tE_bd (tx := tx) hp
  have ol0 : ∀ {α : Type} (X : Option α), obl (0 : Int32) X = X := fun X => obl_0 X
  have ol : ∀ {α : Type} (X : Option α), obl (1 : Int32) X = X := fun X => obl_1 X
  have esub : nI (tE tx L p) - nI (tS tx L p) = nI (tE tx L p - tS tx L p) := pk_sub b3
  by_cases c3 : tK tx L p = 3
  · have cL : ¬ tS tx L p = L := fun q => by unfold tK at c3; rw [if_pos q] at c3; omega
    have ck : kd (tx (tS tx L p)) = 3 := by unfold tK at c3; rw [if_neg cL] at c3; exact c3
    have hs := (h2.2.2 (tS tx L p) (by omega)).2
    have mA : ∀ (w : Nat) (nu : Nat → Int32), fX7_number ml (nI (tS tx L p)) (nI (tE tx L p)) te nu (nI w) lo hi = (if nI (tE tx L p - tS tx L p) ≤ (5 : Int32) then (obd (lpX7_number_50 (nI w) lo hi (nI (tE tx L p)) te 100000 (0 : Int32) (nI (tS tx L p))) fun w_12 => obd (fX7_in w_12.1.toInt64 lo.toInt64 hi.toInt64) fun u_14 => obd (if u_14 = 0 then (some (nI (tS tx L p), nI (tE tx L p), nu)) else (oin (nI w) 3 (obd (fX7_nextToken ml (nI (tS tx L p)) (nI (tE tx L p)) te) fun u_19 => some (u_19.1, u_19.2, upd nu (nI w).toNatClampNeg w_12.1)))) fun w_17 => obl u_14 (some (u_14, w_17.1, w_17.2.1, w_17.2.2))) else (obl (0 : Int32) (some ((0 : Int32), nI (tS tx L p), nI (tE tx L p), nu)))) := fun w nu => by
      unfold fX7_number
      rw [h2.2.1, if_neg (nI_nq cL (by omega) (by omega)), oin_in (by omega) (by omega), nI_clamp (by omega), (h2.2.2 (tS tx L p) (by omega)).1, kd_d _ (by omega), obd_s, if_pos ck, if_neg z10, esub]
    by_cases c5 : tE tx L p - tS tx L p ≤ 5
    · have g5 : nI (tE tx L p - tS tx L p) ≤ (5 : Int32) := nI_le (b := 5) c5 (by omega)
      have vm : ∀ w : Nat, lpX7_number_50 (nI w) lo hi (nI (tE tx L p)) te 100000 (0 : Int32) (nI (tS tx L p)) = some (valI tx (tE tx L p - tS tx L p) (tS tx L p) 0, nI (tE tx L p)) := fun w => val_m h2 b4 _ 100000 _ 0 (by omega) (by omega)
      have vc : ∀ i w : Nat, lpX5_parseNumber_36 (nI i) (nI w) lo hi cl (nI (tE tx L p)) le 100000 (0 : Int32) (nI (tS tx L p)) = some (valI tx (tE tx L p - tS tx L p) (tS tx L p) 0, nI (tE tx L p)) := fun i w => val_c h1 b4 _ 100000 _ 0 (by omega) (by omega)
      generalize valI tx (tE tx L p - tS tx L p) (tS tx L p) 0 = v at vm vc
      have cA : ∀ (i w : Nat) (ts tk : Int32) (nu : Nat → Int32), i < 24 → w < 3 → fX5_parseNumber cl (nI p) ts tk le nu (nI i) (nI w) lo hi = (if v < lo then some (0, nI (tE tx L p), nI (tS tx L p), nI (tK tx L p), nu) else if hi < v then some (0, nI (tE tx L p), nI (tS tx L p), nI (tK tx L p), nu) else some (1, nI (tE tx L p), nI (tS tx L p), nI (tK tx L p), upd nu (3 * i + w) v)) := fun i w ts tk nu hi' hw => by
        have es : nI i * (3 : Int32) + nI w = nI (3 * i + w) := by
          have e : nI i * (3 : Int32) = nI (i * 3) := pk_mul i 3
          rw [e, nI_add, Nat.mul_comm]
        unfold fX5_parseNumber
        rw [next_c h1 hp, obd_s]
        dsimp only
        rw [if_pos (show nI (tK tx L p) = (3 : Int32) from congrArg nI c3), esub, if_pos g5, vc, obd_s, es, if_neg (nI_pos (by omega)), if_pos (show nI (3 * i + w) < (72 : Int32) from nI_lt (b := 72) (by omega) (by omega)), oin_in (by omega) (by omega), nI_clamp (by omega), ol, ol0]
      by_cases d1 : v < lo
      · refine Or.inl ⟨fun i w ts tk nu hi' hw => by rw [cA i w ts tk nu hi' hw, if_pos d1], fun w nu hw => ?_⟩
        rw [mA, if_pos g5, vm, obd_s, inI_lt d1, obd_s, if_pos z00, obd_s, ol0]
      · by_cases d2 : hi < v
        · refine Or.inl ⟨fun i w ts tk nu hi' hw => by rw [cA i w ts tk nu hi' hw, if_neg d1, if_pos d2], fun w nu hw => ?_⟩
          rw [mA, if_pos g5, vm, obd_s, inI_gt d2, obd_s, if_pos z00, obd_s, ol0]
        · refine Or.inr ⟨v, d1, d2, fun i w ts tk nu hi' hw => by rw [cA i w ts tk nu hi' hw, if_neg d1, if_neg d2], fun w nu hw => ?_⟩
          rw [mA, if_pos g5, vm, obd_s, inI_in d1 d2, obd_s, if_neg z10, oin_in hw (by omega), next_m h2 b4, obd_s, obd_s, nI_clamp (by omega), ol]
    · have g5 : ¬ nI (tE tx L p - tS tx L p) ≤ (5 : Int32) := nI_ge (a := 5) (by omega) (by omega)
      refine Or.inl ⟨fun i w ts tk nu hi' hw => ?_, fun w nu hw => ?_⟩
      · unfold fX5_parseNumber
        rw [next_c h1 hp, obd_s]
        dsimp only
        rw [if_pos (show nI (tK tx L p) = (3 : Int32) from congrArg nI c3), esub, if_neg g5, ol0]
      · rw [mA, if_neg g5, ol0]
  · have hK4 : tK tx L p ≤ 4 := by
      unfold tK
      have := kd_r (tx (tS tx L p))
      split <;> omega
    refine Or.inl ⟨fun i w ts tk nu hi' hw => ?_, fun w nu hw => ?_⟩
    · unfold fX5_parseNumber
      rw [next_c h1 hp, obd_s]
      dsimp only
      rw [if_neg (show ¬ nI (tK tx L p) = (3 : Int32) from nI_nq (b := 3) c3 (by omega) (by omega)), ol0]
    · unfold fX7_number
      rw [h2.2.1]
      by_cases cL : tS tx L p = L
      · rw [if_pos (congrArg nI cL), ol0]
      · have ck : ¬ kd (tx (tS tx L p)) = 3 := fun q => c3 (by unfold tK; rw [if_neg cL]; exact q)
        have hs := (h2.2.2 (tS tx L p) (by omega)).2
        rw [if_neg (nI_nq cL (by omega) (by omega)), oin_in (by omega) (by omega), nI_clamp (by omega), (h2.2.2 (tS tx L p) (by omega)).1, kd_d _ (by omega), obd_s, if_neg ck, if_pos z00, ol0]
end
