/-! the script: fault and read alike -/
def mGo (ml d : Int32) (te pw aw dw fw : Nat → Int32) (L : Nat) (tx : Nat → Nat) (f p b c : Nat) (row nu : Nat → Int32) : Option (Int32 × Int32 × Int32 × Int32 × Int32 × (Nat → Int32) × (Nat → Int32)) := obd (fX7_readsClause ml (nI (tS tx L p)) (nI (tE tx L p)) (nI b) d row te nu pw aw dw fw) fun u => lpX7_reads_34 ml d te pw aw dw fw f u.1 u.2.1 u.2.2.1 u.2.2.2.1 (nI c) u.2.2.2.2.1 u.2.2.2.2.2
section
variable {cl ml : Int32} {le te : Nat → Int32} {L : Nat} {tx : Nat → Nat} {pw aw dw fw : Nat → Int32}
def ScNo (cl ml : Int32) (le te : Nat → Int32) (L : Nat) (tx : Nat → Nat) (pw aw dw fw : Nat → Int32) (n i p b : Nat) : Prop := ∃ q, q ≤ L ∧ (∀ (f : Nat) (cnt ts tk : Int32) (ki nu : Nat → Int32), n < f → (∃ u, lpX5_faultPlace_17 cl le f (nI i) cnt (nI b) (nI p) ts tk ki nu = some (.inl u) ∧ u.2.2.2.2.1 = nI q) ∨ (∃ u, lpX5_faultPlace_17 cl le f (nI i) cnt (nI b) (nI p) ts tk ki nu = some (.inr u) ∧ u.1 = nI q)) ∧ (∀ (f : Nat) (row nu : Nat → Int32), n + 2 < f → ∃ (be bi cc : Int32) (nu' : Nat → Int32), mGo ml 0 te pw aw dw fw L tx f p b (i + 1) row nu = some (0, nI q, be, bi, cc, row, nu'))
def ScYes (cl ml : Int32) (le te : Nat → Int32) (L : Nat) (tx : Nat → Nat) (pw aw dw fw : Nat → Int32) (n i p b : Nat) (cs : List CL) : Prop := ValidAll b cs ∧ i + cs.length ≤ 24 ∧ (∀ (f k : Nat) (ts tk : Int32) (ki nu : Nat → Int32), n < f → ∃ (bi pl ts' tk' : Int32) (ki' nu' : Nat → Int32), lpX5_faultPlace_17 cl le f (nI i) (nI k) (nI b) (nI p) ts tk ki nu = some (.inr (-1, nI (k + cs.length), bi, pl, ts', tk', ki', nu')) ∧ Holds ki' nu' i cs ∧ (∀ j, j < i → ki' j = ki j) ∧ (∀ j, j < 3 * i → nu' j = nu j))
    ∧ (∀ (f : Nat) (row nu : Nat → Int32), n + 2 < f → ∃ (fi be bi : Int32) (nu' : Nat → Int32), mGo ml 0 te pw aw dw fw L tx f p b (i + 1) row nu = some (1, fi, be, bi, nI (i + cs.length), row, nu'))
    ∧ (∀ (f : Nat) (row nu : Nat → Int32) (a : Ix), n + 2 < f → Ok a → a.1 = b → MRow row 0 a → ∃ (fi be bi : Int32) (nu' row' : Nat → Int32), mGo ml 1 te pw aw dw fw L tx f p b (i + 1) row nu = some (1, fi, be, bi, nI (i + cs.length), row', nu') ∧ MRow row' 0 (ixAll a cs) ∧ sameOut row row' 0)
theorem script_sim (h1 : TxI cl le L tx) (h2 : TxI ml te L tx) (hW : WordsI pw aw dw fw) : ∀ (n i p b : Nat), i + n = 24 → 1 ≤ n → p ≤ L → b ≤ 16 → ScNo cl ml le te L tx pw aw dw fw n i p b ∨ ∃ cs, ScYes cl ml le te L tx pw aw dw fw n i p b cs := by
  have hL := h1.1
  intro n
  induction n with
  | zero => intro i p b _ h0; omega
  | succ n ih =>
    intro i p b hin _ hp hb
    have n24 : ¬ (24 : Int32) ≤ nI i := nI_ge (b := 24) (by omega) (by omega)
    rcases clause_both h1 h2 hW hb hp with ⟨q, hq, A, B⟩ | ⟨k, v0, v1, v2, p', hv, hp', A, B⟩
    · refine Or.inl ⟨q, hq, fun f cnt ts tk ki nu hf => ?_, fun f row nu hf => ?_⟩
      · obtain ⟨f, rfl⟩ : ∃ g, f = g + 1 := ⟨f - 1, by omega⟩
        obtain ⟨pl, tk', ki', nu', a⟩ := A i ts tk ki nu (by omega)
        rw [lpX5_faultPlace_17, if_neg n24, a, obd_s, if_pos z00]
        exact Or.inr ⟨_, rfl, rfl⟩
      · obtain ⟨be, nu', a⟩ := B 0 row nu
        obtain ⟨f, rfl⟩ : ∃ g, f = g + 1 := ⟨f - 1, by omega⟩
        refine ⟨be, nI b, nI (i + 1), nu', ?_⟩
        unfold mGo
        rw [a, obd_s, lpX7_reads_34, if_pos z00]
    · obtain ⟨x1, x2⟩ := tS_bd (tx := tx) hp'
      obtain ⟨x3, x4, x5⟩ := tE_bd (tx := tx) hp'
      have hb' : clB b k v0 ≤ 16 := by
        unfold clB
        rcases hv with ⟨hk, g1, g2, _⟩ | ⟨hk, _⟩ | ⟨hk, _⟩
        · rw [if_pos hk]; exact g2
        · rw [if_neg (by omega)]; exact hb
        · rw [if_neg (by omega)]; exact hb
      have hB0 : ∀ (row nu : Nat → Int32), ∃ nu', NumsAt nu nu' 0 k v0 v1 v2 ∧ fX7_readsClause ml (nI (tS tx L p)) (nI (tE tx L p)) (nI b) 0 row te nu pw aw dw fw = some (1, nI (tS tx L p'), nI (tE tx L p'), nI (clB b k v0), row, nu') := fun row nu => by
        obtain ⟨nu', m1, m2⟩ := B 0 row nu
        refine ⟨nu', m1, ?_⟩
        rw [m2, if_pos z00, obd_s]
      have hB1 : ∀ (row nu : Nat → Int32) (a : Ix), Ok a → a.1 = b → MRow row 0 a → ∃ nu' row', fX7_readsClause ml (nI (tS tx L p)) (nI (tE tx L p)) (nI b) 1 row te nu pw aw dw fw = some (1, nI (tS tx L p'), nI (tE tx L p'), nI (clB b k v0), row', nu') ∧ MRow row' 0 (ixDo a (k, v0, v1, v2)) ∧ sameOut row row' 0 := fun row nu a ho hab hr => by
        obtain ⟨nu', m1, m2⟩ := B 1 row nu
        obtain ⟨r, d1, d2, d3⟩ := does_m (c := (k, v0, v1, v2)) ho hr (by rw [hab]; exact hv) m1
        refine ⟨nu', r, ?_, d2, d3⟩
        have d1' : fX7_does row nu' (nI k) = some r := d1
        rw [m2, if_neg z10, d1', obd_s]
      by_cases cE : tS tx L p' = L
      · have hK : tK tx L p' = 0 := if_pos cE
        have gl : ml ≤ nI (tS tx L p') := by rw [h2.2.1, cE]; exact nI_le (by omega) (by omega)
        refine Or.inr ⟨[(k, v0, v1, v2)], ⟨hv, trivial⟩, by show i + 1 ≤ 24; omega, fun f kk ts tk ki nu hf => ?_, fun f row nu hf => ?_, fun f row nu a hf ho hab hr => ?_⟩
        · obtain ⟨f, rfl⟩ : ∃ g, f = g + 1 := ⟨f - 1, by omega⟩
          obtain ⟨ts', tk', nu', a1, a2, a3, a4, a5⟩ := A i ts tk ki nu (by omega)
          refine ⟨nI (clB b k v0), nI (tE tx L p'), nI (tS tx L p'), 0, upd ki i (nI k), nu', ?_, ⟨⟨upd_at _ _ _, a2, a3, a4⟩, trivial⟩, fun j hj => upd_ne (by omega), fun j hj => a5 j (Or.inl hj)⟩
          rw [lpX5_faultPlace_17, if_neg n24, a1, obd_s]
          dsimp only
          rw [if_neg z10, next_c h1 hp', obd_s, hK]
          dsimp only
          rw [if_pos (show nI 0 = (0 : Int32) from rfl), nI_1]
          rfl
        · obtain ⟨f, rfl⟩ : ∃ g, f = g + 1 := ⟨f - 1, by omega⟩
          obtain ⟨nu', -, m2⟩ := hB0 row nu
          refine ⟨nI (tS tx L p'), nI (tE tx L p'), nI (clB b k v0), nu', ?_⟩
          unfold mGo
          rw [m2, obd_s, lpX7_reads_34, if_neg z10, if_pos gl]
          rfl
        · obtain ⟨f, rfl⟩ : ∃ g, f = g + 1 := ⟨f - 1, by omega⟩
          obtain ⟨nu', row', m2, m3, m4⟩ := hB1 row nu a ho hab hr
          refine ⟨nI (tS tx L p'), nI (tE tx L p'), nI (clB b k v0), nu', row', ?_, m3, m4⟩
          unfold mGo
          rw [m2, obd_s, lpX7_reads_34, if_neg z10, if_pos gl]
          rfl
      · have hlt : tS tx L p' < L := by omega
        have gl : ¬ ml ≤ nI (tS tx L p') := by rw [h2.2.1]; exact nI_ge hlt (by omega)
        have hx := (h2.2.2 _ hlt).2
        have hr := kd_r (tx (tS tx L p'))
        have hK : tK tx L p' = kd (tx (tS tx L p')) := if_neg cE
        by_cases c59 : tx (tS tx L p') = 59
        · have hk4 : kd (tx (tS tx L p')) = 4 := by rw [c59]; rfl
          have cls : ∀ (f : Nat) (cnt ts tk : Int32) (ki nu : Nat → Int32), ∃ ts' tk' nu', NumsAt nu nu' i k v0 v1 v2 ∧ lpX5_faultPlace_17 cl le (f + 1) (nI i) cnt (nI b) (nI p) ts tk ki nu = lpX5_faultPlace_17 cl le f (nI (i + 1)) (cnt + 1) (nI (clB b k v0)) (nI (tE tx L p')) (nI (tS tx L p')) tk' (upd ki i (nI k)) nu' := fun f cnt ts tk ki nu => by
            obtain ⟨ts', tk', nu', a1, a2⟩ := A i ts tk ki nu (by omega)
            refine ⟨ts', nI (tK tx L p'), nu', a2, ?_⟩
            rw [lpX5_faultPlace_17, if_neg n24, a1, obd_s]
            dsimp only
            rw [if_neg z10, next_c h1 hp', obd_s, hK, hk4]
            dsimp only
            rw [if_neg (show ¬ nI 4 = (0 : Int32) by decide), if_pos (show nI 4 = (4 : Int32) from rfl), let_in h1 hlt, obd_s, c59, if_pos (show nI 59 = (59 : Int32) from rfl), nI_1]
          by_cases cn : n = 0
          · subst cn
            refine Or.inl ⟨tS tx L p', by omega, fun f cnt ts tk ki nu hf => ?_, fun f row nu hf => ?_⟩
            · obtain ⟨f, rfl⟩ : ∃ g, f = g + 2 := ⟨f - 2, by omega⟩
              obtain ⟨ts', tk', nu', -, a⟩ := cls (f + 1) cnt ts tk ki nu
              have g24 : (24 : Int32) ≤ nI (i + 1) := nI_le (a := 24) (by omega) (by omega)
              rw [a, lpX5_faultPlace_17, if_pos g24]
              exact Or.inl ⟨_, rfl, rfl⟩
            · obtain ⟨f, rfl⟩ : ∃ g, f = g + 2 := ⟨f - 2, by omega⟩
              obtain ⟨nu', -, m2⟩ := hB0 row nu
              have g24 : (24 : Int32) ≤ nI (i + 1) := nI_le (a := 24) (by omega) (by omega)
              refine ⟨nI (tE tx L p'), nI (clB b k v0), nI (i + 1), nu', ?_⟩
              unfold mGo
              rw [m2, obd_s, lpX7_reads_34, if_neg z10, if_neg gl, if_pos g24, obd_s, if_pos z00, lpX7_reads_34, if_pos z00]
          · have mgo : ∀ (d : Int32) (f : Nat) (row nu row1 nu1 : Nat → Int32), fX7_readsClause ml (nI (tS tx L p)) (nI (tE tx L p)) (nI b) d row te nu pw aw dw fw = some (1, nI (tS tx L p'), nI (tE tx L p'), nI (clB b k v0), row1, nu1) → mGo ml d te pw aw dw fw L tx (f + 1) p b (i + 1) row nu = mGo ml d te pw aw dw fw L tx f (tE tx L p') (clB b k v0) (i + 1 + 1) row1 nu1 := fun d f row nu row1 nu1 m2 => by
              have g24 : ¬ (24 : Int32) ≤ nI (i + 1) := nI_ge (b := 24) (by omega) (by omega)
              unfold mGo
              rw [m2, obd_s, lpX7_reads_34, if_neg z10, if_neg gl, if_neg g24, oin_in (by omega) (by omega), nI_clamp (by omega), (h2.2.2 _ hlt).1, c59, if_pos (show nI 59 = (59 : Int32) from rfl), obd_s, if_neg z10, next_m h2 x4, obd_s, nI_1]
            rcases ih (i + 1) (tE tx L p') (clB b k v0) (by omega) (by omega) x4 hb' with ⟨q, hq, C, D⟩ | ⟨cs, V, hl, C, D, E⟩
            · refine Or.inl ⟨q, hq, fun f cnt ts tk ki nu hf => ?_, fun f row nu hf => ?_⟩
              · obtain ⟨f, rfl⟩ : ∃ g, f = g + 1 := ⟨f - 1, by omega⟩
                obtain ⟨ts', tk', nu', -, a⟩ := cls f cnt ts tk ki nu
                rw [a]
                exact C f _ _ _ _ _ (by omega)
              · obtain ⟨f, rfl⟩ : ∃ g, f = g + 1 := ⟨f - 1, by omega⟩
                obtain ⟨nu', -, m2⟩ := hB0 row nu
                rw [mgo 0 f row nu row nu' m2]
                exact D f row nu' (by omega)
            · have hlen : ∀ z : Nat, z + ((k, v0, v1, v2) :: cs).length = z + 1 + cs.length := fun z => by show z + (cs.length + 1) = _; omega
              refine Or.inr ⟨(k, v0, v1, v2) :: cs, ⟨hv, V⟩, by rw [hlen]; exact hl, fun f kk ts tk ki nu hf => ?_, fun f row nu hf => ?_, fun f row nu a hf ho hab hr => ?_⟩
              · obtain ⟨f, rfl⟩ : ∃ g, f = g + 1 := ⟨f - 1, by omega⟩
                obtain ⟨ts', tk', nu1, ⟨n0, n1, n2, n3⟩, a⟩ := cls f (nI kk) ts tk ki nu
                obtain ⟨bi, pl, ts2, tk2, ki', nu', e1, e2, e3, e4⟩ := C f (kk + 1) (nI (tS tx L p')) tk' (upd ki i (nI k)) nu1 (by omega)
                refine ⟨bi, pl, ts2, tk2, ki', nu', ?_, ⟨⟨?_, ?_, fun z => ?_, fun z => ?_⟩, e2⟩, fun j hj => ?_, fun j hj => ?_⟩
                · rw [a, nI_1, e1, hlen]
                · rw [e3 i (by omega), upd_at]
                · rw [e4 _ (by omega)]; exact n0
                · rw [e4 _ (by omega)]; exact n1 z
                · rw [e4 _ (by omega)]; exact n2 z
                · rw [e3 j (by omega), upd_ne (by omega)]
                · rw [e4 j (by omega)]; exact n3 j (Or.inl hj)
              · obtain ⟨f, rfl⟩ : ∃ g, f = g + 1 := ⟨f - 1, by omega⟩
                obtain ⟨nu', -, m2⟩ := hB0 row nu
                rw [mgo 0 f row nu row nu' m2, hlen]
                exact D f row nu' (by omega)
              · obtain ⟨f, rfl⟩ : ∃ g, f = g + 1 := ⟨f - 1, by omega⟩
                obtain ⟨nu', row', m2, m3, m4⟩ := hB1 row nu a ho hab hr
                obtain ⟨o1, o2⟩ := do_ok (c := (k, v0, v1, v2)) ho (by rw [hab]; exact hv)
                obtain ⟨fi, be, bi, nu2, row2, r1, r2, r3⟩ := E f row' nu' (ixDo a (k, v0, v1, v2)) (by omega) o1 (by rw [o2, hab]) m3
                rw [mgo 1 f row nu row' nu' m2, hlen]
                exact ⟨fi, be, bi, nu2, row2, r1, r2, m4.tr r3⟩
        · refine Or.inl ⟨tS tx L p', by omega, fun f cnt ts tk ki nu hf => ?_, fun f row nu hf => ?_⟩
          · obtain ⟨f, rfl⟩ : ∃ g, f = g + 1 := ⟨f - 1, by omega⟩
            obtain ⟨ts', tk', nu', a1, a2⟩ := A i ts tk ki nu (by omega)
            rw [lpX5_faultPlace_17, if_neg n24, a1, obd_s]
            dsimp only
            rw [if_neg z10, next_c h1 hp', obd_s, hK]
            dsimp only
            rw [if_neg (nI_ne0 (by omega) (by omega))]
            by_cases c4 : nI (kd (tx (tS tx L p'))) = (4 : Int32)
            · rw [if_pos c4, let_in h1 hlt, obd_s, if_neg (show ¬ nI (tx (tS tx L p')) = (59 : Int32) from nI_nq (b := 59) c59 (by omega) (by omega))]
              exact Or.inr ⟨_, rfl, rfl⟩
            · rw [if_neg c4]
              exact Or.inr ⟨_, rfl, rfl⟩
          · obtain ⟨f, rfl⟩ : ∃ g, f = g + 2 := ⟨f - 2, by omega⟩
            obtain ⟨nu', -, m2⟩ := hB0 row nu
            refine ⟨nI (tE tx L p'), nI (clB b k v0), nI (i + 1), nu', ?_⟩
            unfold mGo
            have ew : (if (24 : Int32) ≤ nI (i + 1) then (some (0 : Int32)) else (oin (nI (tS tx L p')) 200 (if (te (nI (tS tx L p')).toNatClampNeg) = (59 : Int32) then (some (1 : Int32)) else (some (0 : Int32))))) = some 0 := by
              by_cases g24 : (24 : Int32) ≤ nI (i + 1)
              · rw [if_pos g24]
              · rw [if_neg g24, oin_in (by omega) (by omega), nI_clamp (by omega), (h2.2.2 _ hlt).1, if_neg (show ¬ nI (tx (tS tx L p')) = (59 : Int32) from nI_nq (b := 59) c59 (by omega) (by omega))]
            rw [m2, obd_s, lpX7_reads_34, if_neg z10, if_neg gl, ew, obd_s, if_pos z00, lpX7_reads_34, if_pos z00]
end
