/-! fault and read -/
theorem obd_obd {α β γ : Type} (x : Option α) (k : α → Option β) (g : β → Option γ) : obd (obd x k) g = obd x fun u => obd (k u) g := by cases x <;> rfl
section
variable {cl ml : Int32} {le te : Nat → Int32} {L : Nat} {tx : Nat → Nat} {pw aw dw fw : Nat → Int32}
theorem reads_e (h2 : TxI ml te L tx) {row : Nat → Int32} {b : Nat} (hr : row 0 = nI b) (x0 fi be rb cc dg : Int32) (nu : Nat → Int32) (hx : x0 = 0 ∨ x0 = 1) : fX7_reads ml fi be rb cc dg row te nu pw aw dw fw x0 = obd (mGo ml x0 te pw aw dw fw L tx 100000 0 b 1 row nu) fun w_32 => obl w_32.1 (some (w_32.1, w_32.2.1, w_32.2.2.1, w_32.2.2.2.1, w_32.2.2.2.2.1, x0, w_32.2.2.2.2.2.1, w_32.2.2.2.2.2.2)) := by
  have o0 : ∀ {α : Type} (X : Option α), oin (0 : Int32) 1824 X = X := fun X => oin_in (a := 0) (by omega) (by omega)
  have ol : ∀ {α : Type} (X : Option α), obl x0 X = X := fun X => by
    rcases hx with rfl | rfl
    · exact obl_0 X
    · exact obl_1 X
  have hn : fX7_nextToken ml fi 0 te = some (nI (tS tx L 0), nI (tE tx L 0)) := next_m (p := 0) h2 (by omega) fi
  have e0 : row (0 : Int32).toNatClampNeg = nI b := hr
  unfold fX7_reads mGo
  rw [ol, o0, hn, obd_s, e0, obd_obd]
  rfl
theorem eq_fault {now : BC} {row : Nat → Int32} (hN : NowI now row) (hT : TextI cl le ml te) (hW : WordsI pw aw dw fw) (sc sb spl sts stk : Int32) (ki nu : Nat → Int32) (fi be rb cc dg : Int32) (mnu : Nat → Int32) :
    ∃ (r : Int32) (u : Int32 × Int32 × Int32 × Int32 × Int32 × (Nat → Int32) × (Nat → Int32)) (g1 g2 g3 g4 g5 : Int32) (mnu' : Nat → Int32), fX6_fault now.1 cl sc sb spl sts stk le ki nu = some (r, u) ∧ fX7_fault ml fi be rb cc dg row te mnu pw aw dw fw = some (r, g1, g2, g3, g4, g5, row, mnu') := by
  obtain ⟨a, hO, hC, hr⟩ := hN
  obtain ⟨L, tx, h1, h2⟩ := hT
  have hb := Ok_b16 hO
  have hr0 : row 0 = nI a.1 := hr.1
  have hbits : now.1 = nI a.1 := hC.1
  have ol0 : ∀ {α : Type} (X : Option α), obl (0 : Int32) X = X := fun X => obl_0 X
  have ol : ∀ {α : Type} (X : Option α), obl (1 : Int32) X = X := fun X => obl_1 X
  unfold fX6_fault fX5_faultPlace fX7_fault
  rw [reads_e h2 hr0 0 fi be rb cc dg mnu (Or.inl rfl), hbits]
  rcases script_sim h1 h2 hW 24 0 0 a.1 (by omega) (by omega) (by omega) hb with ⟨q, hq, A, B⟩ | ⟨cs, V, hl, A, B, E⟩
  · obtain ⟨be', bi', cc', nu', m⟩ := B 100000 row mnu (by omega)
    have m' : mGo ml 0 te pw aw dw fw L tx 100000 0 a.1 1 row mnu = some (0, nI q, be', bi', cc', row, nu') := m
    rw [m', obd_s]
    dsimp only
    rw [ol0, obd_s]
    rcases A 100000 0 sts stk ki nu (by omega) with ⟨u, c1, c2⟩ | ⟨u, c1, c2⟩
    · have c1' : lpX5_faultPlace_17 cl le 100000 0 0 (nI a.1) 0 sts stk ki nu = some (.inl u) := c1
      rw [c1']
      refine ⟨nI q, (u.2.1, u.2.2.1, u.2.2.2.1, u.2.2.2.2.1, u.2.2.2.2.2.1, u.2.2.2.2.2.2.1, u.2.2.2.2.2.2.2), nI q, be', bi', cc', 0, nu', ?_, rfl⟩
      rw [← c2]
      rfl
    · have c1' : lpX5_faultPlace_17 cl le 100000 0 0 (nI a.1) 0 sts stk ki nu = some (.inr u) := c1
      rw [c1']
      refine ⟨nI q, u.2, nI q, be', bi', cc', 0, nu', ?_, rfl⟩
      rw [← c2]
      rfl
  · obtain ⟨fi', be', bi', nu', m⟩ := B 100000 row mnu (by omega)
    have m' : mGo ml 0 te pw aw dw fw L tx 100000 0 a.1 1 row mnu = some (1, fi', be', bi', nI (0 + cs.length), row, nu') := m
    obtain ⟨bi, pl, ts', tk', ki', nu2, c1, -⟩ := A 100000 0 sts stk ki nu (by omega)
    have c1' : lpX5_faultPlace_17 cl le 100000 0 0 (nI a.1) 0 sts stk ki nu = some (.inr (-1, nI (0 + cs.length), bi, pl, ts', tk', ki', nu2)) := c1
    rw [m', obd_s, c1']
    dsimp only
    rw [ol, obd_s]
    exact ⟨_, _, _, _, _, _, _, _, rfl, rfl⟩
theorem forget_e (full : Nat → Int32) : fX2_forget full = some (upd (upd full 0 0) 1 0) := by
  have o0 : ∀ {α : Type} (X : Option α), oin (0 : Int32) 2 X = X := fun X => oin_in (a := 0) (by omega) (by omega)
  have o1 : ∀ {α : Type} (X : Option α), oin (0 + 1 : Int32) 2 X = X := fun X => oin_in (a := 1) (by omega) (by omega)
  have ol0 : ∀ {α : Type} (X : Option α), obl (0 : Int32) X = X := fun X => obl_0 X
  unfold fX2_forget
  rw [show (100000 : Nat) = 99997 + 1 + 1 + 1 from rfl, lpX2_forget_2, if_neg (show ¬ (2 : Int32) ≤ 0 by decide), o0, ol0, lpX2_forget_2, if_neg (show ¬ (2 : Int32) ≤ 0 + 1 by decide), o1, ol0, lpX2_forget_2, if_pos (show (2 : Int32) ≤ 0 + 1 + 1 by decide), obd_s]
  rfl
theorem eq_read {now : BC} {next held undos : Int32} {ring cop : Nat → BC} {full isKept row : Nat → Int32} (hN : NowI now row) (hP : PastI next held ring undos row) (hK : KeptI full isKept cop row) (hT : TextI cl le ml te) (hW : WordsI pw aw dw fw) (sc sb spl sts stk : Int32) (ki nu : Nat → Int32) (fi be rb cc dg : Int32) (mnu : Nat → Int32) :
    ∃ (r : Int32) (now' : BC) (held' : Int32) (full' : Nat → Int32) (cl' c1 c2 c3 c4 c5 : Int32) (ki' nu' : Nat → Int32) (undos' ml' g1 g2 g3 g4 g5 : Int32) (row' isKept' mnu' : Nat → Int32), fX6_read now.1 now.2.1 now.2.2.1 now.2.2.2.1 now.2.2.2.2.1 now.2.2.2.2.2.1 now.2.2.2.2.2.2.1 now.2.2.2.2.2.2.2 held full cl sc sb spl sts stk le ki nu = some (r, now'.1, now'.2.1, now'.2.2.1, now'.2.2.2.1, now'.2.2.2.2.1, now'.2.2.2.2.2.1, now'.2.2.2.2.2.2.1, now'.2.2.2.2.2.2.2, held', full', cl', c1, c2, c3, c4, c5, ki', nu') ∧ fX7_read undos ml fi be rb cc dg row isKept te mnu pw aw dw fw = some (r, undos', ml', g1, g2, g3, g4, g5, row', isKept', mnu') ∧ NowI now' row' ∧ PastI next held' ring undos' row' ∧ KeptI full' isKept' cop row' ∧ TextI cl' le ml' te := by
  have hN0 := hN
  have hT0 := hT
  obtain ⟨a, hO, hC, hr⟩ := hN
  obtain ⟨L, tx, h1, h2⟩ := hT
  have hL := h1.1
  have hb := Ok_b16 hO
  have hr0 : row 0 = nI a.1 := hr.1
  have hbits : now.1 = nI a.1 := hC.1
  have ol0 : ∀ {α : Type} (X : Option α), obl (0 : Int32) X = X := fun X => obl_0 X
  have ol : ∀ {α : Type} (X : Option α), obl (1 : Int32) X = X := fun X => obl_1 X
  unfold fX6_read fX5_faultPlace fX7_read
  rw [reads_e h2 hr0 0 fi be rb cc dg mnu (Or.inl rfl)]
  rcases script_sim h1 h2 hW 24 0 0 a.1 (by omega) (by omega) (by omega) hb with ⟨q, hq, A, B⟩ | ⟨cs, V, hl, A, B, E⟩
  · obtain ⟨be', bi', cc', nu', m⟩ := B 100000 row mnu (by omega)
    have m' : mGo ml 0 te pw aw dw fw L tx 100000 0 a.1 1 row mnu = some (0, nI q, be', bi', cc', row, nu') := m
    rw [m', obd_s]
    dsimp only
    rw [ol0, obd_s]
    dsimp only
    rw [if_pos z00]
    rcases A 100000 0 sts stk ki nu (by omega) with ⟨u, c1, c2⟩ | ⟨u, c1, c2⟩
    · have c1' : lpX5_faultPlace_17 cl le 100000 0 0 now.1 0 sts stk ki nu = some (.inl u) := hbits ▸ c1
      rw [c1']
      have e : ∀ X Y : Option (Int32 × Int32 × Int32 × Int32 × Int32 × Int32 × Int32 × (Nat → Int32) × (Nat → Int32) × Int32 × (Nat → Int32) × Int32 × Int32 × Int32 × Int32 × Int32 × Int32 × (Nat → Int32) × (Nat → Int32)), (if u.2.2.2.2.1 = (-1 : Int32) then X else Y) = Y := fun X Y => if_neg (by rw [c2]; exact nI_neg1 (by omega))
      refine ⟨-4, now, held, full, cl, u.2.1, u.2.2.1, u.2.2.2.1, u.2.2.2.2.1, u.2.2.2.2.2.1, u.2.2.2.2.2.2.1, u.2.2.2.2.2.2.2, _, _, _, _, _, _, _, _, _, _, ?_, rfl, hN0, hP, hK, hT0⟩
      exact e _ _
    · have c1' : lpX5_faultPlace_17 cl le 100000 0 0 now.1 0 sts stk ki nu = some (.inr u) := hbits ▸ c1
      rw [c1']
      have e : ∀ X Y : Option (Int32 × Int32 × Int32 × Int32 × Int32 × Int32 × Int32 × (Nat → Int32) × (Nat → Int32) × Int32 × (Nat → Int32) × Int32 × Int32 × Int32 × Int32 × Int32 × Int32 × (Nat → Int32) × (Nat → Int32)), (if u.1 = (-1 : Int32) then X else Y) = Y := fun X Y => if_neg (by rw [c2]; exact nI_neg1 (by omega))
      refine ⟨-4, now, held, full, cl, u.2.1, u.2.2.1, u.2.2.2.1, u.2.2.2.2.1, u.2.2.2.2.2.1, u.2.2.2.2.2.2.1, u.2.2.2.2.2.2.2, _, _, _, _, _, _, _, _, _, _, ?_, rfl, hN0, hP, hK, hT0⟩
      exact e _ _
  · obtain ⟨fi', be', bi', nu', m⟩ := B 100000 row mnu (by omega)
    have m' : mGo ml 0 te pw aw dw fw L tx 100000 0 a.1 1 row mnu = some (1, fi', be', bi', nI (0 + cs.length), row, nu') := m
    obtain ⟨bi, pl, ts', tk', ki', nu2, c1, hH, -⟩ := A 100000 0 sts stk ki nu (by omega)
    have c1' : lpX5_faultPlace_17 cl le 100000 0 0 now.1 0 sts stk ki nu = some (.inr (-1, nI (0 + cs.length), bi, pl, ts', tk', ki', nu2)) := hbits ▸ c1
    rw [m', obd_s]
    dsimp only
    rw [ol, obd_s]
    dsimp only
    rw [if_neg z10, reads_e h2 hr0 1 fi' be' bi' (nI (0 + cs.length)) 0 nu' (Or.inr rfl)]
    obtain ⟨fi2, be2, bi2, nu3, row', d1, d2, d3⟩ := E 100000 row nu' a (by omega) hO rfl hr
    have d1' : mGo ml 1 te pw aw dw fw L tx 100000 0 a.1 1 row nu' = some (1, fi2, be2, bi2, nI (0 + cs.length), row', nu3) := d1
    have o0 : ∀ {α : Type} (X : Option α), oin (0 : Int32) 2 X = X := fun X => oin_in (a := 0) (by omega) (by omega)
    have o1 : ∀ {α : Type} (X : Option α), oin (1 : Int32) 2 X = X := fun X => oin_in (a := 1) (by omega) (by omega)
    rw [d1', obd_s]
    dsimp only
    rw [ol, obd_s, o0, ol0, o1, ol0, c1']
    obtain ⟨w, t', p1, p2⟩ := perform_loop (ki := ki') (nu := nu2) (N := 0 + cs.length) (by omega) cs 0 100000 now a hO hC V hH rfl (by omega)
    have p1' : fX5_perform (nI (0 + cs.length)) ki' nu2 now.1 now.2.1 now.2.2.1 now.2.2.2.1 now.2.2.2.2.1 now.2.2.2.2.2.1 now.2.2.2.2.2.2.1 now.2.2.2.2.2.2.2 = some t' := by
      have p1'' : lpX5_perform_2 (nI (0 + cs.length)) ki' nu2 100000 0 now.1 now.2.1 now.2.2.1 now.2.2.2.1 now.2.2.2.2.1 now.2.2.2.2.2.1 now.2.2.2.2.2.2.1 now.2.2.2.2.2.2.2 = some (w, t') := p1
      unfold fX5_perform
      rw [p1'', obd_s]
    have cC : obe (some (Sum.inr (-1, nI (0 + cs.length), bi, pl, ts', tk', ki', nu2)) : Option ((Int32 × Int32 × Int32 × Int32 × Int32 × Int32 × (Nat → Int32) × (Nat → Int32)) ⊕ (Int32 × Int32 × Int32 × Int32 × Int32 × Int32 × (Nat → Int32) × (Nat → Int32)))) (fun u_w_24 => some (u_w_24.2.2.2.2.1, u_w_24.2.1, u_w_24.2.2.1, u_w_24.2.2.2.1, u_w_24.2.2.2.2.1, u_w_24.2.2.2.2.2.1, u_w_24.2.2.2.2.2.2.1, u_w_24.2.2.2.2.2.2.2)) = some (-1, nI (0 + cs.length), bi, pl, ts', tk', ki', nu2) := rfl
    obtain ⟨h, e, P, g1, g2, g3, g4, g5, g6⟩ := hP
    rw [cC, obd_s]
    dsimp only
    rw [if_pos rfl, p1', obd_s]
    unfold fX5_clear fX3_forget
    rw [obd_s, obd_s, forget_e, obd_s]
    refine ⟨_, t', 0, upd (upd full 0 0) 1 0, 0, _, _, _, _, _, _, _, 0, 0, _, _, _, _, _, row', _, _, rfl, rfl, ⟨_, all_ok cs hO V, p2, d2⟩, ⟨0, e, P, by omega, g2, rfl, g4, rfl, fun t ht => by omega⟩, fun k hk => Or.inl ?_, 0, tx, ⟨by omega, rfl, fun i hi => by omega⟩, ⟨by omega, rfl, fun i hi => by omega⟩⟩
    have : k = 0 ∨ k = 1 := by omega
    rcases this with rfl | rfl
    · exact ⟨rfl, rfl⟩
    · exact ⟨rfl, rfl⟩
end
