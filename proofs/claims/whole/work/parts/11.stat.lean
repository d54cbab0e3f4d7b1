def lpX6_firstNotBelow_19 (n_a0 : Nat) (q2 : Int32) (a0 : (Nat → Int32)) : Nat → Int32 → Int32 → Int32 → Option (Int32 × Int32 × Int32)
  | 0, _, _, _ => none
  | n + 1, m3, m4, m5 => if m4 ≤ m3 then (some (m3, m4, m5)) else (if (32 : Int32) ≤ m5 then (some (m3, m4, m5)) else (oin ((m3 + m4) / (2 : Int32)) n_a0 (olet (if q2 ≤ (a0 ((m3 + m4) / (2 : Int32)).toNatClampNeg) then (m3) else (((m3 + m4) / (2 : Int32)) + (1 : Int32))) fun y_9 => olet (if q2 ≤ (a0 ((m3 + m4) / (2 : Int32)).toNatClampNeg) then ((m3 + m4) / (2 : Int32)) else (m4)) fun y_10 => lpX6_firstNotBelow_19 n_a0 q2 a0 n y_9 y_10 (m5 + (1 : Int32)))))

def fX6_firstNotBelow (n_a0 : Nat) (a0 : (Nat → Int32)) (x1 : Int32) (x2 : Int32) : Option (Int32) := olet (if (nI n_a0) ≤ x1 then ((nI n_a0)) else (x1)) fun y_2 => obd (lpX6_firstNotBelow_19 n_a0 x2 a0 100000 (0 : Int32) y_2 (0 : Int32)) fun w_18 => some w_18.1

set_option maxHeartbeats 4000000 in
set_option maxRecDepth 100000 in
theorem tX6_firstNotBelow (l : Launch) (dC : Nat → ClassId) (dI : Nat → Nat → Nat) (cyI cyJ cyZ cyO : ClassId) (sz : Nat) (h_a0 : Nat) (n_a0 : Nat) (a0 : (Nat → Int32)) (x1 : Int32) (x2 : Int32) (u : Int32) (hf : fX6_firstNotBelow n_a0 a0 x1 x2 = some u) : Met l yX6_firstNotBelow wsX6_firstNotBelow ({ frames := 0, cells := 0, slots := 0, locals := 0 }) (va_Pc [.ref h_a0, .int x1, .int x2] (GP (dC, dI) (T4 cyI cyJ cyZ cyO) sz [(h_a0, .inl (cyI, n_a0, .inl a0))])) (va_Qi (fun (r : Int32) (_ : Unit) => r = u) (GB (dC, dI) [(h_a0, .inl (cyI, n_a0, .inl a0))] (va_A [(h_a0, .inl (cyI, n_a0, .inl a0))] sz)) (va_A [(h_a0, .inl (cyI, n_a0, .inl a0))] sz)) 0 0 (va_A [(h_a0, .inl (cyI, n_a0, .inl a0))] sz) := by
  refine GMetI (by decide) rfl (Nat.le_of_ble_eq_true rfl) ?_
  intro p e s m args below meth c A Q ls hx hb hml hts hown hN hK hA hret hP hD hS hl
  have h := hf
  clear hf
  unfold fX6_firstNotBelow at h
  have hown : s.vm.findClass RX6 = some m.cls := hown
  have hl : lv_has ls 7 [(0, .ref h_a0), (1, .int x1), (2, .int x2)] := hl
  refine lv_iconst (v := 0) hx hb dX6_firstNotBelow_0 (by decide) ?_
  refine lv_istore_n (lv' := [(3, .int (0 : Int32)), (0, .ref h_a0), (1, .int x1), (2, .int x2)]) hx hb dX6_firstNotBelow_1 rfl hl (by decide) rfl (fun ls hl => ?_)
  refine lv_iload_n hx hb dX6_firstNotBelow_2 rfl (lv_at hl 2 rfl) ?_
  refine lv_aload_n hx hb dX6_firstNotBelow_3 rfl (lv_at hl 1 rfl) ?_
  refine va_alen (v := nI n_a0) hx hb hK hP 0 0 rfl rfl rfl dX6_firstNotBelow_4 ?_
  obtain ⟨y_2, ey_2, h⟩ := olet_e h
  have J : ∀ (H : Heap) (locs : List Loc) (ls : Array Slot), va_P (dC, dI) vwCl [(h_a0, .inl (cyI, n_a0, .inl a0))] H → va_D A [(h_a0, .inl (cyI, n_a0, .inl a0))] → va_S A s.heap H locs → lv_has ls 7 [(0, .ref h_a0), (2, .int x2), (3, .int (0 : Int32))] → W p l e ({ frames := 0, cells := 0, slots := 0, locals := 0 }) s m args below meth c H locs 0 0 Q (F0 m 14 ls [.int y_2]) := by
    intro H locs ls hP hD hS hl
    refine lv_istore (lv' := [(4, .int y_2), (0, .ref h_a0), (2, .int x2), (3, .int (0 : Int32))]) hx hb dX6_firstNotBelow_14 hl (by decide) rfl (fun ls hl => ?_)
    refine lv_iconst (v := 0) hx hb dX6_firstNotBelow_16 (by decide) ?_
    refine lv_istore (lv' := [(5, .int (0 : Int32)), (4, .int y_2), (0, .ref h_a0), (2, .int x2), (3, .int (0 : Int32))]) hx hb dX6_firstNotBelow_17 hl (by decide) rfl (fun ls hl => ?_)
    obtain ⟨w_18, hw_19, h⟩ := obd_e h
    have J : ∀ (H : Heap) (locs : List Loc) (ls : Array Slot), va_P (dC, dI) vwCl [(h_a0, .inl (cyI, n_a0, .inl a0))] H → va_D A [(h_a0, .inl (cyI, n_a0, .inl a0))] → va_S A s.heap H locs → lv_has ls 7 [(3, .int w_18.1)] → W p l e ({ frames := 0, cells := 0, slots := 0, locals := 0 }) s m args below meth c H locs 0 0 Q (F0 m 66 ls []) := by
      intro H locs ls hP hD hS hl
      refine lv_iload_n hx hb dX6_firstNotBelow_66 rfl (lv_at hl 0 rfl) ?_
      obtain rfl := Option.some.inj h
      exact hret _ _ _ _ dX6_firstNotBelow_67 hP hD hS
    have LL : ∀ (n : Nat) (m3 : Int32) (m4 : Int32) (m5 : Int32) (H : Heap) (locs : List Loc) (ls : Array Slot), lpX6_firstNotBelow_19 n_a0 x2 a0 n m3 m4 m5 = some w_18 → va_P (dC, dI) vwCl [(h_a0, .inl (cyI, n_a0, .inl a0))] H → va_D A [(h_a0, .inl (cyI, n_a0, .inl a0))] → va_S A s.heap H locs → lv_has ls 7 [(0, .ref h_a0), (2, .int x2), (3, .int m3), (4, .int m4), (5, .int m5)] → W p l e ({ frames := 0, cells := 0, slots := 0, locals := 0 }) s m args below meth c H locs 0 0 Q (F0 m 19 ls []) := by
      intro n
      induction n with
      | zero =>
        intro m3 m4 m5 H locs ls h
        exact absurd h (by rw [lpX6_firstNotBelow_19]; exact fun q => by cases q)
      | succ n ih =>
        intro m3 m4 m5 H locs ls h hP hD hS hl
        rw [lpX6_firstNotBelow_19] at h
        refine lv_iload_n hx hb dX6_firstNotBelow_19 rfl (lv_at hl 2 rfl) ?_
        refine lv_iload hx hb dX6_firstNotBelow_20 (lv_at hl 3 rfl) ?_
        refine lv_icmp_ge (tgt := 66) hx hb dX6_firstNotBelow_22 (by decide) (fun c_11 => ?_) (fun c_11 => ?_)
        · have h := og_ite_t c_11 h
          obtain rfl := Option.some.inj h
          exact J _ _ _ hP hD hS (lv_sub hl [2] rfl)
        · have h := og_ite_f c_11 h
          refine lv_iload hx hb dX6_firstNotBelow_25 (lv_at hl 4 rfl) ?_
          refine lv_bipush (v := 32) hx hb dX6_firstNotBelow_27 (by decide) ?_
          refine lv_icmp_ge (tgt := 66) hx hb dX6_firstNotBelow_29 (by decide) (fun c_12 => ?_) (fun c_12 => ?_)
          · have h := og_ite_t c_12 h
            obtain rfl := Option.some.inj h
            exact J _ _ _ hP hD hS (lv_sub hl [2] rfl)
          · have h := og_ite_f c_12 h
            refine lv_iload_n hx hb dX6_firstNotBelow_32 rfl (lv_at hl 2 rfl) ?_
            refine lv_iload hx hb dX6_firstNotBelow_33 (lv_at hl 3 rfl) ?_
            refine lv_iadd hx hb dX6_firstNotBelow_35 ?_
            refine lv_iconst (v := 2) hx hb dX6_firstNotBelow_36 (by decide) ?_
            refine lv_idiv hx hb dX6_firstNotBelow_37 (by decide) ?_
            refine lv_istore (lv' := [(6, .int ((m3 + m4) / (2 : Int32))), (0, .ref h_a0), (2, .int x2), (3, .int m3), (4, .int m4), (5, .int m5)]) hx hb dX6_firstNotBelow_38 hl (by decide) rfl (fun ls hl => ?_)
            refine lv_aload_n hx hb dX6_firstNotBelow_40 rfl (lv_at hl 1 rfl) ?_
            refine lv_iload hx hb dX6_firstNotBelow_41 (lv_at hl 0 rfl) ?_
            obtain ⟨hi_14, h⟩ := oin_e h
            refine va_iald hx hb hK hP 0 0 rfl rfl hi_14 dX6_firstNotBelow_43 ?_
            refine lv_iload_n hx hb dX6_firstNotBelow_44 rfl (lv_at hl 2 rfl) ?_
            obtain ⟨y_16, ey_16, h⟩ := olet_e h
            obtain ⟨y_17, ey_17, h⟩ := olet_e h
            have J : ∀ (H : Heap) (locs : List Loc) (ls : Array Slot), va_P (dC, dI) vwCl [(h_a0, .inl (cyI, n_a0, .inl a0))] H → va_D A [(h_a0, .inl (cyI, n_a0, .inl a0))] → va_S A s.heap H locs → lv_has ls 7 [(0, .ref h_a0), (2, .int x2), (3, .int y_16), (4, .int y_17), (5, .int m5)] → W p l e ({ frames := 0, cells := 0, slots := 0, locals := 0 }) s m args below meth c H locs 0 0 Q (F0 m 60 ls []) := by
              intro H locs ls hP hD hS hl
              refine lv_iinc (v := m5 + (1 : Int32)) (lv' := [(5, .int (m5 + (1 : Int32))), (0, .ref h_a0), (2, .int x2), (3, .int y_16), (4, .int y_17)]) hx hb dX6_firstNotBelow_60 hl (k := 4) rfl rfl (by decide) rfl (fun ls hl => ?_)
              refine lv_goto (tgt := 19) hx hb dX6_firstNotBelow_63 (by decide) ?_
              exact ih y_16 y_17 (m5 + (1 : Int32)) _ _ _ h hP hD hS (lv_sub hl [1, 2, 3, 4, 0] rfl)
            clear h
            refine lv_icmp_ge (tgt := 56) hx hb dX6_firstNotBelow_45 (by decide) (fun c_15 => ?_) (fun c_15 => ?_)
            · refine lv_iload hx hb dX6_firstNotBelow_56 (lv_at hl 0 rfl) ?_
              refine lv_istore (lv' := [(4, .int ((m3 + m4) / (2 : Int32))), (6, .int ((m3 + m4) / (2 : Int32))), (0, .ref h_a0), (2, .int x2), (3, .int m3), (5, .int m5)]) hx hb dX6_firstNotBelow_58 hl (by decide) rfl (fun ls hl => ?_)
              rw [if_pos c_15] at ey_16
              rw [if_pos c_15] at ey_17
              subst ey_16
              subst ey_17
              exact J H locs _ hP hD hS (lv_sub hl [2, 3, 4, 0, 5] rfl)
            · refine lv_iload hx hb dX6_firstNotBelow_48 (lv_at hl 0 rfl) ?_
              refine lv_iconst (v := 1) hx hb dX6_firstNotBelow_50 (by decide) ?_
              refine lv_iadd hx hb dX6_firstNotBelow_51 ?_
              refine lv_istore_n (lv' := [(3, .int (((m3 + m4) / (2 : Int32)) + (1 : Int32))), (6, .int ((m3 + m4) / (2 : Int32))), (0, .ref h_a0), (2, .int x2), (4, .int m4), (5, .int m5)]) hx hb dX6_firstNotBelow_52 rfl hl (by decide) rfl (fun ls hl => ?_)
              refine lv_goto (tgt := 60) hx hb dX6_firstNotBelow_53 (by decide) ?_
              rw [if_neg c_15] at ey_16
              rw [if_neg c_15] at ey_17
              subst ey_16
              subst ey_17
              exact J H locs _ hP hD hS (lv_sub hl [2, 3, 0, 4, 5] rfl)
    exact LL _ (0 : Int32) y_2 (0 : Int32) _ _ _ hw_19 hP hD hS (lv_sub hl [2, 3, 4, 1, 0] rfl)
  clear h
  refine lv_icmp_ge (tgt := 12) hx hb dX6_firstNotBelow_5 (by decide) (fun c_1 => ?_) (fun c_1 => ?_)
  · refine lv_aload_n hx hb dX6_firstNotBelow_12 rfl (lv_at hl 1 rfl) ?_
    refine va_alen (v := nI n_a0) hx hb hK hP 0 0 rfl rfl rfl dX6_firstNotBelow_13 ?_
    rw [if_pos c_1] at ey_2
    subst ey_2
    exact J _ _ _ hP hD hS (lv_sub hl [1, 3, 0] rfl)
  · refine lv_iload_n hx hb dX6_firstNotBelow_8 rfl (lv_at hl 2 rfl) ?_
    refine lv_goto (tgt := 14) hx hb dX6_firstNotBelow_9 (by decide) ?_
    rw [if_neg c_1] at ey_2
    subst ey_2
    exact J _ _ _ hP hD hS (lv_sub hl [1, 3, 0] rfl)

def lpX6_insertAt_24 (n_a0 : Nat) (q2 : Int32) (q3 : Int32) : Nat → Int32 → (Nat → Int32) → Option (Int32 × (Nat → Int32))
  | 0, _, _ => none
  | n + 1, m4, za0 => if m4 ≤ q2 then (some (m4, za0)) else (oin (m4 - (1 : Int32)) n_a0 (oin m4 n_a0 (lpX6_insertAt_24 n_a0 q2 q3 n (m4 + (-1 : Int32)) (upd za0 m4.toNatClampNeg (za0 (m4 - (1 : Int32)).toNatClampNeg)))))

def fX6_insertAt (n_a0 : Nat) (a0 : (Nat → Int32)) (x1 : Int32) (x2 : Int32) (x3 : Int32) : Option (Int32 × (Nat → Int32)) := if x1 < 0 then (obl (0 : Int32) (some ((0 : Int32), a0))) else (if (nI n_a0) ≤ x1 then (obl (0 : Int32) (some ((0 : Int32), a0))) else (if x2 < 0 then (obl (0 : Int32) (some ((0 : Int32), a0))) else (if x2 ≤ x1 then (obd (lpX6_insertAt_24 n_a0 x2 x3 100000 x1 a0) fun w_12 => oin x2 n_a0 (obl (1 : Int32) (some ((1 : Int32), upd w_12.2 x2.toNatClampNeg x3)))) else (obl (0 : Int32) (some ((0 : Int32), a0))))))

set_option maxHeartbeats 4000000 in
set_option maxRecDepth 100000 in
theorem tX6_insertAt (l : Launch) (dC : Nat → ClassId) (dI : Nat → Nat → Nat) (cyI cyJ cyZ cyO : ClassId) (sz : Nat) (h_a0 : Nat) (n_a0 : Nat) (a0 : (Nat → Int32)) (x1 : Int32) (x2 : Int32) (x3 : Int32) (u : Int32 × (Nat → Int32)) (hf : fX6_insertAt n_a0 a0 x1 x2 x3 = some u) : Met l yX6_insertAt wsX6_insertAt ({ frames := 0, cells := 0, slots := 0, locals := 0 }) (va_Pc [.ref h_a0, .int x1, .int x2, .int x3] (GP (dC, dI) (T4 cyI cyJ cyZ cyO) sz [(h_a0, .inl (cyI, n_a0, .inl a0))])) (va_Qi (fun (r : Int32) (_ : Unit) => r = u.1) (GB (dC, dI) [(h_a0, .inl (cyI, n_a0, .inl u.2))] (va_A [(h_a0, .inl (cyI, n_a0, .inl a0))] sz)) (va_A [(h_a0, .inl (cyI, n_a0, .inl a0))] sz)) 0 0 (va_A [(h_a0, .inl (cyI, n_a0, .inl a0))] sz) := by
  refine GMetZ (by decide) rfl (Nat.le_of_ble_eq_true rfl) ?_
  intro p e s m args below meth c A Q ls hx hb hml hts hown hN hK hA hret hP hD hS hl
  have h := hf
  clear hf
  unfold fX6_insertAt at h
  have hown : s.vm.findClass RX6 = some m.cls := hown
  have hl : lv_has ls 5 [(0, .ref h_a0), (1, .int x1), (2, .int x2), (3, .int x3)] := hl
  refine lv_iload_n hx hb dX6_insertAt_0 rfl (lv_at hl 1 rfl) ?_
  refine lv_if_lt (tgt := 19) hx hb dX6_insertAt_1 (by decide) (fun c_1 => ?_) (fun c_1 => ?_)
  · have h := og_ite_t c_1 h
    refine lv_iconst (v := 0) hx hb dX6_insertAt_19 (by decide) ?_
    obtain ⟨hz, h⟩ := obl_e h
    obtain rfl := Option.some.inj h
    exact hret _ _ _ _ dX6_insertAt_20 hz hP hD hS
  · have h := og_ite_f c_1 h
    refine lv_iload_n hx hb dX6_insertAt_4 rfl (lv_at hl 1 rfl) ?_
    refine lv_aload_n hx hb dX6_insertAt_5 rfl (lv_at hl 0 rfl) ?_
    refine va_alen (v := nI n_a0) hx hb hK hP 0 0 rfl rfl rfl dX6_insertAt_6 ?_
    refine lv_icmp_ge (tgt := 19) hx hb dX6_insertAt_7 (by decide) (fun c_2 => ?_) (fun c_2 => ?_)
    · have h := og_ite_t c_2 h
      refine lv_iconst (v := 0) hx hb dX6_insertAt_19 (by decide) ?_
      obtain ⟨hz, h⟩ := obl_e h
      obtain rfl := Option.some.inj h
      exact hret _ _ _ _ dX6_insertAt_20 hz hP hD hS
    · have h := og_ite_f c_2 h
      refine lv_iload_n hx hb dX6_insertAt_10 rfl (lv_at hl 2 rfl) ?_
      refine lv_if_lt (tgt := 19) hx hb dX6_insertAt_11 (by decide) (fun c_3 => ?_) (fun c_3 => ?_)
      · have h := og_ite_t c_3 h
        refine lv_iconst (v := 0) hx hb dX6_insertAt_19 (by decide) ?_
        obtain ⟨hz, h⟩ := obl_e h
        obtain rfl := Option.some.inj h
        exact hret _ _ _ _ dX6_insertAt_20 hz hP hD hS
      · have h := og_ite_f c_3 h
        refine lv_iload_n hx hb dX6_insertAt_14 rfl (lv_at hl 2 rfl) ?_
        refine lv_iload_n hx hb dX6_insertAt_15 rfl (lv_at hl 1 rfl) ?_
        refine lv_icmp_le (tgt := 21) hx hb dX6_insertAt_16 (by decide) (fun c_4 => ?_) (fun c_4 => ?_)
        · have h := og_ite_t c_4 h
          refine lv_iload_n hx hb dX6_insertAt_21 rfl (lv_at hl 1 rfl) ?_
          refine lv_istore (lv' := [(4, .int x1), (0, .ref h_a0), (1, .int x1), (2, .int x2), (3, .int x3)]) hx hb dX6_insertAt_22 hl (by decide) rfl (fun ls hl => ?_)
          obtain ⟨w_12, hw_13, h⟩ := obd_e h
          have J : ∀ (H : Heap) (locs : List Loc) (ls : Array Slot), va_P (dC, dI) vwCl [(h_a0, .inl (cyI, n_a0, .inl w_12.2))] H → va_D A [(h_a0, .inl (cyI, n_a0, .inl w_12.2))] → va_S A s.heap H locs → lv_has ls 5 [(0, .ref h_a0), (2, .int x2), (3, .int x3)] → W p l e ({ frames := 0, cells := 0, slots := 0, locals := 0 }) s m args below meth c H locs 0 0 Q (F0 m 46 ls []) := by
            intro H locs ls hP hD hS hl
            refine lv_aload_n hx hb dX6_insertAt_46 rfl (lv_at hl 0 rfl) ?_
            refine lv_iload_n hx hb dX6_insertAt_47 rfl (lv_at hl 1 rfl) ?_
            refine lv_iload_n hx hb dX6_insertAt_48 rfl (lv_at hl 2 rfl) ?_
            obtain ⟨hi_14, h⟩ := oin_e h
            refine va_iast hx hb hK hP hD hS 0 0 rfl rfl hi_14 dX6_insertAt_49 (fun H locs hP hD hS => ?_)
            have hP : va_P (dC, dI) vwCl [(h_a0, .inl (cyI, n_a0, .inl (upd w_12.2 x2.toNatClampNeg x3)))] H := hP
            have hD : va_D A [(h_a0, .inl (cyI, n_a0, .inl (upd w_12.2 x2.toNatClampNeg x3)))] := hD
            refine lv_iconst (v := 1) hx hb dX6_insertAt_50 (by decide) ?_
            obtain ⟨hz, h⟩ := obl_e h
            obtain rfl := Option.some.inj h
            exact hret _ _ _ _ dX6_insertAt_51 hz hP hD hS
          have LL : ∀ (n : Nat) (m4 : Int32) (za0 : (Nat → Int32)) (H : Heap) (locs : List Loc) (ls : Array Slot), lpX6_insertAt_24 n_a0 x2 x3 n m4 za0 = some w_12 → va_P (dC, dI) vwCl [(h_a0, .inl (cyI, n_a0, .inl za0))] H → va_D A [(h_a0, .inl (cyI, n_a0, .inl za0))] → va_S A s.heap H locs → lv_has ls 5 [(0, .ref h_a0), (2, .int x2), (3, .int x3), (4, .int m4)] → W p l e ({ frames := 0, cells := 0, slots := 0, locals := 0 }) s m args below meth c H locs 0 0 Q (F0 m 24 ls []) := by
            intro n
            induction n with
            | zero =>
              intro m4 za0 H locs ls h
              exact absurd h (by rw [lpX6_insertAt_24]; exact fun q => by cases q)
            | succ n ih =>
              intro m4 za0 H locs ls h hP hD hS hl
              rw [lpX6_insertAt_24] at h
              refine lv_iload hx hb dX6_insertAt_24 (lv_at hl 3 rfl) ?_
              refine lv_iload_n hx hb dX6_insertAt_26 rfl (lv_at hl 1 rfl) ?_
              refine lv_icmp_le (tgt := 46) hx hb dX6_insertAt_27 (by decide) (fun c_9 => ?_) (fun c_9 => ?_)
              · have h := og_ite_t c_9 h
                obtain rfl := Option.some.inj h
                exact J _ _ _ hP hD hS (lv_sub hl [0, 1, 2] rfl)
              · have h := og_ite_f c_9 h
                refine lv_aload_n hx hb dX6_insertAt_30 rfl (lv_at hl 0 rfl) ?_
                refine lv_iload hx hb dX6_insertAt_31 (lv_at hl 3 rfl) ?_
                refine lv_aload_n hx hb dX6_insertAt_33 rfl (lv_at hl 0 rfl) ?_
                refine lv_iload hx hb dX6_insertAt_34 (lv_at hl 3 rfl) ?_
                refine lv_iconst (v := 1) hx hb dX6_insertAt_36 (by decide) ?_
                refine lv_isub hx hb dX6_insertAt_37 ?_
                obtain ⟨hi_10, h⟩ := oin_e h
                refine va_iald hx hb hK hP 0 0 rfl rfl hi_10 dX6_insertAt_38 ?_
                obtain ⟨hi_11, h⟩ := oin_e h
                refine va_iast hx hb hK hP hD hS 0 0 rfl rfl hi_11 dX6_insertAt_39 (fun H locs hP hD hS => ?_)
                have hP : va_P (dC, dI) vwCl [(h_a0, .inl (cyI, n_a0, .inl (upd za0 m4.toNatClampNeg (za0 (m4 - (1 : Int32)).toNatClampNeg))))] H := hP
                have hD : va_D A [(h_a0, .inl (cyI, n_a0, .inl (upd za0 m4.toNatClampNeg (za0 (m4 - (1 : Int32)).toNatClampNeg))))] := hD
                refine lv_iinc (v := m4 + (-1 : Int32)) (lv' := [(4, .int (m4 + (-1 : Int32))), (0, .ref h_a0), (2, .int x2), (3, .int x3)]) hx hb dX6_insertAt_40 hl (k := 3) rfl rfl (by decide) rfl (fun ls hl => ?_)
                refine lv_goto (tgt := 24) hx hb dX6_insertAt_43 (by decide) ?_
                exact ih (m4 + (-1 : Int32)) (upd za0 m4.toNatClampNeg (za0 (m4 - (1 : Int32)).toNatClampNeg)) _ _ _ h hP hD hS (lv_sub hl [1, 2, 3, 0] rfl)
          exact LL _ x1 a0 _ _ _ hw_13 hP hD hS (lv_sub hl [1, 3, 4, 0] rfl)
        · have h := og_ite_f c_4 h
          refine lv_iconst (v := 0) hx hb dX6_insertAt_19 (by decide) ?_
          obtain ⟨hz, h⟩ := obl_e h
          obtain rfl := Option.some.inj h
          exact hret _ _ _ _ dX6_insertAt_20 hz hP hD hS

def lpX6_deleteAt_23 (n_a0 : Nat) (q1 : Int32) : Nat → Int32 → (Nat → Int32) → Option (Int32 × (Nat → Int32))
  | 0, _, _ => none
  | n + 1, m3, za0 => if (q1 - (1 : Int32)) ≤ m3 then (some (m3, za0)) else (oin (m3 + (1 : Int32)) n_a0 (oin m3 n_a0 (lpX6_deleteAt_23 n_a0 q1 n (m3 + (1 : Int32)) (upd za0 m3.toNatClampNeg (za0 (m3 + (1 : Int32)).toNatClampNeg)))))

def fX6_deleteAt (n_a0 : Nat) (a0 : (Nat → Int32)) (x1 : Int32) (x2 : Int32) : Option (Int32 × (Nat → Int32)) := if x1 < 0 then (obl (0 : Int32) (some ((0 : Int32), a0))) else (if (nI n_a0) < x1 then (obl (0 : Int32) (some ((0 : Int32), a0))) else (if x2 < 0 then (obl (0 : Int32) (some ((0 : Int32), a0))) else (if x2 < x1 then (obd (lpX6_deleteAt_23 n_a0 x1 100000 x2 a0) fun w_12 => obl (1 : Int32) (some ((1 : Int32), w_12.2))) else (obl (0 : Int32) (some ((0 : Int32), a0))))))

set_option maxHeartbeats 4000000 in
set_option maxRecDepth 100000 in
theorem tX6_deleteAt (l : Launch) (dC : Nat → ClassId) (dI : Nat → Nat → Nat) (cyI cyJ cyZ cyO : ClassId) (sz : Nat) (h_a0 : Nat) (n_a0 : Nat) (a0 : (Nat → Int32)) (x1 : Int32) (x2 : Int32) (u : Int32 × (Nat → Int32)) (hf : fX6_deleteAt n_a0 a0 x1 x2 = some u) : Met l yX6_deleteAt wsX6_deleteAt ({ frames := 0, cells := 0, slots := 0, locals := 0 }) (va_Pc [.ref h_a0, .int x1, .int x2] (GP (dC, dI) (T4 cyI cyJ cyZ cyO) sz [(h_a0, .inl (cyI, n_a0, .inl a0))])) (va_Qi (fun (r : Int32) (_ : Unit) => r = u.1) (GB (dC, dI) [(h_a0, .inl (cyI, n_a0, .inl u.2))] (va_A [(h_a0, .inl (cyI, n_a0, .inl a0))] sz)) (va_A [(h_a0, .inl (cyI, n_a0, .inl a0))] sz)) 0 0 (va_A [(h_a0, .inl (cyI, n_a0, .inl a0))] sz) := by
  refine GMetZ (by decide) rfl (Nat.le_of_ble_eq_true rfl) ?_
  intro p e s m args below meth c A Q ls hx hb hml hts hown hN hK hA hret hP hD hS hl
  have h := hf
  clear hf
  unfold fX6_deleteAt at h
  have hown : s.vm.findClass RX6 = some m.cls := hown
  have hl : lv_has ls 4 [(0, .ref h_a0), (1, .int x1), (2, .int x2)] := hl
  refine lv_iload_n hx hb dX6_deleteAt_0 rfl (lv_at hl 1 rfl) ?_
  refine lv_if_lt (tgt := 19) hx hb dX6_deleteAt_1 (by decide) (fun c_1 => ?_) (fun c_1 => ?_)
  · have h := og_ite_t c_1 h
    refine lv_iconst (v := 0) hx hb dX6_deleteAt_19 (by decide) ?_
    obtain ⟨hz, h⟩ := obl_e h
    obtain rfl := Option.some.inj h
    exact hret _ _ _ _ dX6_deleteAt_20 hz hP hD hS
  · have h := og_ite_f c_1 h
    refine lv_iload_n hx hb dX6_deleteAt_4 rfl (lv_at hl 1 rfl) ?_
    refine lv_aload_n hx hb dX6_deleteAt_5 rfl (lv_at hl 0 rfl) ?_
    refine va_alen (v := nI n_a0) hx hb hK hP 0 0 rfl rfl rfl dX6_deleteAt_6 ?_
    refine lv_icmp_gt (tgt := 19) hx hb dX6_deleteAt_7 (by decide) (fun c_2 => ?_) (fun c_2 => ?_)
    · have h := og_ite_t c_2 h
      refine lv_iconst (v := 0) hx hb dX6_deleteAt_19 (by decide) ?_
      obtain ⟨hz, h⟩ := obl_e h
      obtain rfl := Option.some.inj h
      exact hret _ _ _ _ dX6_deleteAt_20 hz hP hD hS
    · have h := og_ite_f c_2 h
      refine lv_iload_n hx hb dX6_deleteAt_10 rfl (lv_at hl 2 rfl) ?_
      refine lv_if_lt (tgt := 19) hx hb dX6_deleteAt_11 (by decide) (fun c_3 => ?_) (fun c_3 => ?_)
      · have h := og_ite_t c_3 h
        refine lv_iconst (v := 0) hx hb dX6_deleteAt_19 (by decide) ?_
        obtain ⟨hz, h⟩ := obl_e h
        obtain rfl := Option.some.inj h
        exact hret _ _ _ _ dX6_deleteAt_20 hz hP hD hS
      · have h := og_ite_f c_3 h
        refine lv_iload_n hx hb dX6_deleteAt_14 rfl (lv_at hl 2 rfl) ?_
        refine lv_iload_n hx hb dX6_deleteAt_15 rfl (lv_at hl 1 rfl) ?_
        refine lv_icmp_lt (tgt := 21) hx hb dX6_deleteAt_16 (by decide) (fun c_4 => ?_) (fun c_4 => ?_)
        · have h := og_ite_t c_4 h
          refine lv_iload_n hx hb dX6_deleteAt_21 rfl (lv_at hl 2 rfl) ?_
          refine lv_istore_n (lv' := [(3, .int x2), (0, .ref h_a0), (1, .int x1), (2, .int x2)]) hx hb dX6_deleteAt_22 rfl hl (by decide) rfl (fun ls hl => ?_)
          obtain ⟨w_12, hw_13, h⟩ := obd_e h
          have J : ∀ (H : Heap) (locs : List Loc) (ls : Array Slot), va_P (dC, dI) vwCl [(h_a0, .inl (cyI, n_a0, .inl w_12.2))] H → va_D A [(h_a0, .inl (cyI, n_a0, .inl w_12.2))] → va_S A s.heap H locs → lv_has ls 4 [] → W p l e ({ frames := 0, cells := 0, slots := 0, locals := 0 }) s m args below meth c H locs 0 0 Q (F0 m 44 ls []) := by
            intro H locs ls hP hD hS hl
            refine lv_iconst (v := 1) hx hb dX6_deleteAt_44 (by decide) ?_
            obtain ⟨hz, h⟩ := obl_e h
            obtain rfl := Option.some.inj h
            exact hret _ _ _ _ dX6_deleteAt_45 hz hP hD hS
          have LL : ∀ (n : Nat) (m3 : Int32) (za0 : (Nat → Int32)) (H : Heap) (locs : List Loc) (ls : Array Slot), lpX6_deleteAt_23 n_a0 x1 n m3 za0 = some w_12 → va_P (dC, dI) vwCl [(h_a0, .inl (cyI, n_a0, .inl za0))] H → va_D A [(h_a0, .inl (cyI, n_a0, .inl za0))] → va_S A s.heap H locs → lv_has ls 4 [(0, .ref h_a0), (1, .int x1), (3, .int m3)] → W p l e ({ frames := 0, cells := 0, slots := 0, locals := 0 }) s m args below meth c H locs 0 0 Q (F0 m 23 ls []) := by
            intro n
            induction n with
            | zero =>
              intro m3 za0 H locs ls h
              exact absurd h (by rw [lpX6_deleteAt_23]; exact fun q => by cases q)
            | succ n ih =>
              intro m3 za0 H locs ls h hP hD hS hl
              rw [lpX6_deleteAt_23] at h
              refine lv_iload_n hx hb dX6_deleteAt_23 rfl (lv_at hl 2 rfl) ?_
              refine lv_iload_n hx hb dX6_deleteAt_24 rfl (lv_at hl 1 rfl) ?_
              refine lv_iconst (v := 1) hx hb dX6_deleteAt_25 (by decide) ?_
              refine lv_isub hx hb dX6_deleteAt_26 ?_
              refine lv_icmp_ge (tgt := 44) hx hb dX6_deleteAt_27 (by decide) (fun c_9 => ?_) (fun c_9 => ?_)
              · have h := og_ite_t c_9 h
                obtain rfl := Option.some.inj h
                exact J _ _ _ hP hD hS (lv_sub hl [] rfl)
              · have h := og_ite_f c_9 h
                refine lv_aload_n hx hb dX6_deleteAt_30 rfl (lv_at hl 0 rfl) ?_
                refine lv_iload_n hx hb dX6_deleteAt_31 rfl (lv_at hl 2 rfl) ?_
                refine lv_aload_n hx hb dX6_deleteAt_32 rfl (lv_at hl 0 rfl) ?_
                refine lv_iload_n hx hb dX6_deleteAt_33 rfl (lv_at hl 2 rfl) ?_
                refine lv_iconst (v := 1) hx hb dX6_deleteAt_34 (by decide) ?_
                refine lv_iadd hx hb dX6_deleteAt_35 ?_
                obtain ⟨hi_10, h⟩ := oin_e h
                refine va_iald hx hb hK hP 0 0 rfl rfl hi_10 dX6_deleteAt_36 ?_
                obtain ⟨hi_11, h⟩ := oin_e h
                refine va_iast hx hb hK hP hD hS 0 0 rfl rfl hi_11 dX6_deleteAt_37 (fun H locs hP hD hS => ?_)
                have hP : va_P (dC, dI) vwCl [(h_a0, .inl (cyI, n_a0, .inl (upd za0 m3.toNatClampNeg (za0 (m3 + (1 : Int32)).toNatClampNeg))))] H := hP
                have hD : va_D A [(h_a0, .inl (cyI, n_a0, .inl (upd za0 m3.toNatClampNeg (za0 (m3 + (1 : Int32)).toNatClampNeg))))] := hD
                refine lv_iinc (v := m3 + (1 : Int32)) (lv' := [(3, .int (m3 + (1 : Int32))), (0, .ref h_a0), (1, .int x1)]) hx hb dX6_deleteAt_38 hl (k := 2) rfl rfl (by decide) rfl (fun ls hl => ?_)
                refine lv_goto (tgt := 23) hx hb dX6_deleteAt_41 (by decide) ?_
                exact ih (m3 + (1 : Int32)) (upd za0 m3.toNatClampNeg (za0 (m3 + (1 : Int32)).toNatClampNeg)) _ _ _ h hP hD hS (lv_sub hl [1, 2, 0] rfl)
          exact LL _ x2 a0 _ _ _ hw_13 hP hD hS (lv_sub hl [1, 2, 0] rfl)
        · have h := og_ite_f c_4 h
          refine lv_iconst (v := 0) hx hb dX6_deleteAt_19 (by decide) ?_
          obtain ⟨hz, h⟩ := obl_e h
          obtain rfl := Option.some.inj h
          exact hret _ _ _ _ dX6_deleteAt_20 hz hP hD hS

def lpX6_commonDivisor_7 : Nat → Int32 → Int32 → Int32 → Option (Int32 × Int32 × Int32)
  | 0, _, _, _ => none
  | n + 1, m2, m3, m4 => if m3 = 0 then (some (m2, m3, m4)) else (if (64 : Int32) ≤ m4 then (some (m2, m3, m4)) else (onz m3 (lpX6_commonDivisor_7 n m3 (m2 - m2 / m3 * m3) (m4 + (1 : Int32)))))

def fX6_commonDivisor (x0 : Int32) (x1 : Int32) : Option (Int32) := obd (lpX6_commonDivisor_7 100000 x0 x1 (0 : Int32)) fun w_8 => some w_8.1

set_option maxHeartbeats 4000000 in
set_option maxRecDepth 100000 in
theorem tX6_commonDivisor (l : Launch) (dC : Nat → ClassId) (dI : Nat → Nat → Nat) (cyI cyJ cyZ cyO : ClassId) (sz : Nat) (x0 : Int32) (x1 : Int32) (u : Int32) (hf : fX6_commonDivisor x0 x1 = some u) : Met l yX6_commonDivisor wsX6_commonDivisor ({ frames := 0, cells := 0, slots := 0, locals := 0 }) (va_Pc [.int x0, .int x1] (GP (dC, dI) (T4 cyI cyJ cyZ cyO) sz [])) (va_Qi (fun (r : Int32) (_ : Unit) => r = u) (GB (dC, dI) [] (va_A [] sz)) (va_A [] sz)) 0 0 (va_A [] sz) := by
  refine GMetI (by decide) rfl (Nat.le_of_ble_eq_true rfl) ?_
  intro p e s m args below meth c A Q ls hx hb hml hts hown hN hK hA hret hP hD hS hl
  have h := hf
  clear hf
  unfold fX6_commonDivisor at h
  have hown : s.vm.findClass RX6 = some m.cls := hown
  have hl : lv_has ls 6 [(0, .int x0), (1, .int x1)] := hl
  refine lv_iload_n hx hb dX6_commonDivisor_0 rfl (lv_at hl 0 rfl) ?_
  refine lv_istore_n (lv' := [(2, .int x0), (0, .int x0), (1, .int x1)]) hx hb dX6_commonDivisor_1 rfl hl (by decide) rfl (fun ls hl => ?_)
  refine lv_iload_n hx hb dX6_commonDivisor_2 rfl (lv_at hl 2 rfl) ?_
  refine lv_istore_n (lv' := [(3, .int x1), (2, .int x0), (0, .int x0), (1, .int x1)]) hx hb dX6_commonDivisor_3 rfl hl (by decide) rfl (fun ls hl => ?_)
  refine lv_iconst (v := 0) hx hb dX6_commonDivisor_4 (by decide) ?_
  refine lv_istore (lv' := [(4, .int (0 : Int32)), (3, .int x1), (2, .int x0), (0, .int x0), (1, .int x1)]) hx hb dX6_commonDivisor_5 hl (by decide) rfl (fun ls hl => ?_)
  obtain ⟨w_8, hw_9, h⟩ := obd_e h
  have J : ∀ (H : Heap) (locs : List Loc) (ls : Array Slot), va_P (dC, dI) vwCl [] H → va_D A [] → va_S A s.heap H locs → lv_has ls 6 [(2, .int w_8.1)] → W p l e ({ frames := 0, cells := 0, slots := 0, locals := 0 }) s m args below meth c H locs 0 0 Q (F0 m 34 ls []) := by
    intro H locs ls hP hD hS hl
    refine lv_iload_n hx hb dX6_commonDivisor_34 rfl (lv_at hl 0 rfl) ?_
    obtain rfl := Option.some.inj h
    exact hret _ _ _ _ dX6_commonDivisor_35 hP hD hS
  have LL : ∀ (n : Nat) (m2 : Int32) (m3 : Int32) (m4 : Int32) (H : Heap) (locs : List Loc) (ls : Array Slot), lpX6_commonDivisor_7 n m2 m3 m4 = some w_8 → va_P (dC, dI) vwCl [] H → va_D A [] → va_S A s.heap H locs → lv_has ls 6 [(2, .int m2), (3, .int m3), (4, .int m4)] → W p l e ({ frames := 0, cells := 0, slots := 0, locals := 0 }) s m args below meth c H locs 0 0 Q (F0 m 7 ls []) := by
    intro n
    induction n with
    | zero =>
      intro m2 m3 m4 H locs ls h
      exact absurd h (by rw [lpX6_commonDivisor_7]; exact fun q => by cases q)
    | succ n ih =>
      intro m2 m3 m4 H locs ls h hP hD hS hl
      rw [lpX6_commonDivisor_7] at h
      refine lv_iload_n hx hb dX6_commonDivisor_7 rfl (lv_at hl 1 rfl) ?_
      refine lv_if_eq (tgt := 34) hx hb dX6_commonDivisor_8 (by decide) (fun c_5 => ?_) (fun c_5 => ?_)
      · have h := og_ite_t c_5 h
        obtain rfl := Option.some.inj h
        exact J _ _ _ hP hD hS (lv_sub hl [0] rfl)
      · have h := og_ite_f c_5 h
        refine lv_iload hx hb dX6_commonDivisor_11 (lv_at hl 2 rfl) ?_
        refine lv_bipush (v := 64) hx hb dX6_commonDivisor_13 (by decide) ?_
        refine lv_icmp_ge (tgt := 34) hx hb dX6_commonDivisor_15 (by decide) (fun c_6 => ?_) (fun c_6 => ?_)
        · have h := og_ite_t c_6 h
          obtain rfl := Option.some.inj h
          exact J _ _ _ hP hD hS (lv_sub hl [0] rfl)
        · have h := og_ite_f c_6 h
          refine lv_iload_n hx hb dX6_commonDivisor_18 rfl (lv_at hl 0 rfl) ?_
          refine lv_iload_n hx hb dX6_commonDivisor_19 rfl (lv_at hl 1 rfl) ?_
          obtain ⟨hz_7, h⟩ := onz_e h
          refine lv_irem hx hb dX6_commonDivisor_20 hz_7 ?_
          refine lv_istore (lv' := [(5, .int (m2 - m2 / m3 * m3)), (2, .int m2), (3, .int m3), (4, .int m4)]) hx hb dX6_commonDivisor_21 hl (by decide) rfl (fun ls hl => ?_)
          refine lv_iload_n hx hb dX6_commonDivisor_23 rfl (lv_at hl 2 rfl) ?_
          refine lv_istore_n (lv' := [(2, .int m3), (5, .int (m2 - m2 / m3 * m3)), (3, .int m3), (4, .int m4)]) hx hb dX6_commonDivisor_24 rfl hl (by decide) rfl (fun ls hl => ?_)
          refine lv_iload hx hb dX6_commonDivisor_25 (lv_at hl 1 rfl) ?_
          refine lv_istore_n (lv' := [(3, .int (m2 - m2 / m3 * m3)), (2, .int m3), (5, .int (m2 - m2 / m3 * m3)), (4, .int m4)]) hx hb dX6_commonDivisor_27 rfl hl (by decide) rfl (fun ls hl => ?_)
          refine lv_iinc (v := m4 + (1 : Int32)) (lv' := [(4, .int (m4 + (1 : Int32))), (3, .int (m2 - m2 / m3 * m3)), (2, .int m3), (5, .int (m2 - m2 / m3 * m3))]) hx hb dX6_commonDivisor_28 hl (k := 3) rfl rfl (by decide) rfl (fun ls hl => ?_)
          refine lv_goto (tgt := 7) hx hb dX6_commonDivisor_31 (by decide) ?_
          exact ih m3 (m2 - m2 / m3 * m3) (m4 + (1 : Int32)) _ _ _ h hP hD hS (lv_sub hl [2, 1, 0] rfl)
  exact LL _ x0 x1 (0 : Int32) _ _ _ hw_9 hP hD hS (lv_sub hl [2, 1, 0] rfl)

def fX6_worked (x0 : Int64) (x1 : Int32) (x2 : Int64) : Option (Int64) := if x1 = 0 then (some (x0 + x2)) else (olet (if x1 = (1 : Int32) then ((x0 - x2)) else ((x0 * x2))) fun y_3 => some y_3)

set_option maxHeartbeats 4000000 in
set_option maxRecDepth 100000 in
theorem tX6_worked (l : Launch) (dC : Nat → ClassId) (dI : Nat → Nat → Nat) (cyI cyJ cyZ cyO : ClassId) (sz : Nat) (x0 : Int64) (x1 : Int32) (x2 : Int64) (u : Int64) (hf : fX6_worked x0 x1 x2 = some u) : Met l yX6_worked wsX6_worked ({ frames := 0, cells := 0, slots := 0, locals := 0 }) (va_Pc [.long x0, .int x1, .long x2] (GP (dC, dI) (T4 cyI cyJ cyZ cyO) sz [])) (va_Ql (fun (r : Int64) (_ : Unit) => r = u) (GB (dC, dI) [] (va_A [] sz)) (va_A [] sz)) 0 0 (va_A [] sz) := by
  refine GMetL (by decide) rfl (Nat.le_of_ble_eq_true rfl) ?_
  intro p e s m args below meth c A Q ls hx hb hml hts hown hN hK hA hret hP hD hS hl
  have h := hf
  clear hf
  unfold fX6_worked at h
  have hown : s.vm.findClass RX6 = some m.cls := hown
  have hl : lv_has ls 5 [(0, .long x0), (2, .int x1), (3, .long x2)] := hl
  refine lv_iload_n hx hb dX6_worked_0 rfl (lv_at hl 1 rfl) ?_
  refine lv_if_ne (tgt := 8) hx hb dX6_worked_1 (by decide) (fun c_1 => ?_) (fun c_1 => ?_)
  · have h := og_ite_f c_1 h
    refine lv_iload_n hx hb dX6_worked_8 rfl (lv_at hl 1 rfl) ?_
    refine lv_iconst (v := 1) hx hb dX6_worked_9 (by decide) ?_
    obtain ⟨y_3, ey_3, h⟩ := olet_e h
    have J : ∀ (H : Heap) (locs : List Loc) (ls : Array Slot), va_P (dC, dI) vwCl [] H → va_D A [] → va_S A s.heap H locs → lv_has ls 5 [] → W p l e ({ frames := 0, cells := 0, slots := 0, locals := 0 }) s m args below meth c H locs 0 0 Q (F0 m 22 ls [.long y_3]) := by
      intro H locs ls hP hD hS hl
      obtain rfl := Option.some.inj h
      exact hret _ _ _ _ dX6_worked_22 hP hD hS
    clear h
    refine lv_icmp_ne (tgt := 19) hx hb dX6_worked_10 (by decide) (fun c_2 => ?_) (fun c_2 => ?_)
    · refine lv_lload_n hx hb dX6_worked_19 rfl (lv_at hl 0 rfl) ?_
      refine lv_lload_n hx hb dX6_worked_20 rfl (lv_at hl 2 rfl) ?_
      refine lv_lmul hx hb dX6_worked_21 ?_
      rw [if_neg c_2] at ey_3
      subst ey_3
      exact J _ _ _ hP hD hS (lv_sub hl [] rfl)
    · refine lv_lload_n hx hb dX6_worked_13 rfl (lv_at hl 0 rfl) ?_
      refine lv_lload_n hx hb dX6_worked_14 rfl (lv_at hl 2 rfl) ?_
      refine lv_lsub hx hb dX6_worked_15 ?_
      refine lv_goto (tgt := 22) hx hb dX6_worked_16 (by decide) ?_
      rw [if_pos c_2] at ey_3
      subst ey_3
      exact J _ _ _ hP hD hS (lv_sub hl [] rfl)
  · have h := og_ite_t c_1 h
    refine lv_lload_n hx hb dX6_worked_4 rfl (lv_at hl 0 rfl) ?_
    refine lv_lload_n hx hb dX6_worked_5 rfl (lv_at hl 2 rfl) ?_
    refine lv_ladd hx hb dX6_worked_6 ?_
    obtain rfl := Option.some.inj h
    exact hret _ _ _ _ dX6_worked_7 hP hD hS

def fX6_isOver (x0 : Int64) (x1 : Int32) (x2 : Int64) : Option (Int32) := obd (fX6_worked x0 x1 x2) fun u_1 => if x1 = 0 then (olet (if 0 ≤ (lg_cmp ((x0 ^^^ u_1) &&& (x2 ^^^ u_1)) (0 : Int64)) then ((0 : Int32)) else ((1 : Int32))) fun y_16 => obl y_16 (some y_16)) else (if x1 = (1 : Int32) then (olet (if 0 ≤ (lg_cmp ((x0 ^^^ x2) &&& (x0 ^^^ u_1)) (0 : Int64)) then ((0 : Int32)) else ((1 : Int32))) fun y_14 => obl y_14 (some y_14)) else (if (lg_cmp x2 (-1 : Int64)) = 0 then (olet (if (lg_cmp x0 (-9223372036854775808 : Int64)) = 0 then ((1 : Int32)) else ((0 : Int32))) fun y_12 => obl y_12 (some y_12)) else (obd (if (lg_cmp x2 (0 : Int64)) = 0 then (some (0 : Int32)) else (onzl x2 (if (lg_cmp (u_1 / x2) x0) = 0 then (some (0 : Int32)) else (some (1 : Int32))))) fun w_7 => obl w_7 (some w_7))))

set_option maxHeartbeats 4000000 in
set_option maxRecDepth 100000 in
theorem tX6_isOver (l : Launch) (dC : Nat → ClassId) (dI : Nat → Nat → Nat) (cyI cyJ cyZ cyO : ClassId) (sz : Nat) (x0 : Int64) (x1 : Int32) (x2 : Int64) (u : Int32) (hf : fX6_isOver x0 x1 x2 = some u) : Met l yX6_isOver wsX6_isOver ({ frames := 1, cells := 0, slots := 0, locals := 24 }) (va_Pc [.long x0, .int x1, .long x2] (GP (dC, dI) (T4 cyI cyJ cyZ cyO) sz [])) (va_Qi (fun (r : Int32) (_ : Unit) => r = u) (GB (dC, dI) [] (va_A [] sz)) (va_A [] sz)) 0 0 (va_A [] sz) := by
  refine GMetZ (by decide) rfl (Nat.le_of_ble_eq_true rfl) ?_
  intro p e s m args below meth c A Q ls hx hb hml hts hown hN hK hA hret hP hD hS hl
  have h := hf
  clear hf
  unfold fX6_isOver at h
  have hown : s.vm.findClass RX6 = some m.cls := hown
  have hl : lv_has ls 7 [(0, .long x0), (2, .int x1), (3, .long x2)] := hl
  refine lv_lload_n hx hb dX6_isOver_0 rfl (lv_at hl 0 rfl) ?_
  refine lv_iload_n hx hb dX6_isOver_1 rfl (lv_at hl 1 rfl) ?_
  refine lv_lload_n hx hb dX6_isOver_2 rfl (lv_at hl 2 rfl) ?_
  obtain ⟨u_1, hc_2, h⟩ := obd_e h
  refine Gcl (wr := []) (va_runS (As := [.long x0, .int x1, .long x2]) (rest := []) ⟨hx, hb, hml, hown, hts⟩ (tX6_worked l dC dI cyI cyJ cyZ cyO s.heap.size x0 x1 x2 u_1 hc_2) (cwS 3 hts gX6_isOver_X6_worked rfl rfl rfl (by decide +kernel) ⟨Nat.le_of_ble_eq_true rfl, Nat.le_of_ble_eq_true rfl⟩) (GpreS hP hD hK hN [] rfl (by decide)) rfl rfl hl.1 rfl (lv_room (Nat.le_of_ble_eq_true rfl)) dX6_isOver_3 ⟨Nat.zero_le _, Nat.zero_le _⟩) hP hD hS hA [] [] rfl rfl (by decide) (by decide) (fun H locs hP hD hS => ?_)
  have hP : va_P (dC, dI) vwCl [] H := hP
  have hD : va_D A [] := hD
  refine lv_lstore (lv' := [(5, .long u_1), (0, .long x0), (2, .int x1), (3, .long x2)]) hx hb dX6_isOver_6 hl (by decide) rfl (fun ls hl => ?_)
  refine lv_iload_n hx hb dX6_isOver_8 rfl (lv_at hl 2 rfl) ?_
  refine lv_if_ne (tgt := 32) hx hb dX6_isOver_9 (by decide) (fun c_3 => ?_) (fun c_3 => ?_)
  · have h := og_ite_f c_3 h
    refine lv_iload_n hx hb dX6_isOver_32 rfl (lv_at hl 2 rfl) ?_
    refine lv_iconst (v := 1) hx hb dX6_isOver_33 (by decide) ?_
    refine lv_icmp_ne (tgt := 56) hx hb dX6_isOver_34 (by decide) (fun c_4 => ?_) (fun c_4 => ?_)
    · have h := og_ite_f c_4 h
      refine lv_lload_n hx hb dX6_isOver_56 rfl (lv_at hl 3 rfl) ?_
      refine lv_ldc2 hx hb hown (hts (.constantLong RX6 261 (-1)) (List.mem_of_getElem? (i := 1) rfl)) dX6_isOver_57 ?_
      refine W.lcmp hx hb dX6_isOver_60 ?_
      refine lv_if_ne (tgt := 78) hx hb dX6_isOver_61 (by decide) (fun c_5 => ?_) (fun c_5 => ?_)
      · have h := og_ite_f c_5 h
        refine lv_lload_n hx hb dX6_isOver_78 rfl (lv_at hl 3 rfl) ?_
        refine lv_lconst (v := 0) hx hb dX6_isOver_79 (by decide) ?_
        refine W.lcmp hx hb dX6_isOver_80 ?_
        obtain ⟨w_7, hm_10, h⟩ := obd_e h
        have J : ∀ (H : Heap) (locs : List Loc) (ls : Array Slot), va_P (dC, dI) vwCl [] H → va_D A [] → va_S A s.heap H locs → lv_has ls 7 [] → W p l e ({ frames := 1, cells := 0, slots := 0, locals := 24 }) s m args below meth c H locs 0 0 Q (F0 m 98 ls [.int w_7]) := by
          intro H locs ls hP hD hS hl
          obtain ⟨hz, h⟩ := obl_e h
          obtain rfl := Option.some.inj h
          exact hret _ _ _ _ dX6_isOver_98 hz hP hD hS
        replace h := hm_10
        refine lv_if_eq (tgt := 97) hx hb dX6_isOver_81 (by decide) (fun c_6 => ?_) (fun c_6 => ?_)
        · have h := og_ite_t c_6 h
          refine lv_iconst (v := 0) hx hb dX6_isOver_97 (by decide) ?_
          obtain rfl := Option.some.inj h
          exact J _ _ _ hP hD hS (lv_sub hl [] rfl)
        · have h := og_ite_f c_6 h
          refine lv_lload hx hb dX6_isOver_84 (lv_at hl 0 rfl) ?_
          refine lv_lload_n hx hb dX6_isOver_86 rfl (lv_at hl 3 rfl) ?_
          obtain ⟨hz_8, h⟩ := onzl_e h
          refine lv_ldiv hx hb dX6_isOver_87 hz_8 ?_
          refine lv_lload_n hx hb dX6_isOver_88 rfl (lv_at hl 1 rfl) ?_
          refine W.lcmp hx hb dX6_isOver_89 ?_
          refine lv_if_eq (tgt := 97) hx hb dX6_isOver_90 (by decide) (fun c_9 => ?_) (fun c_9 => ?_)
          · have h := og_ite_t c_9 h
            refine lv_iconst (v := 0) hx hb dX6_isOver_97 (by decide) ?_
            obtain rfl := Option.some.inj h
            exact J _ _ _ hP hD hS (lv_sub hl [] rfl)
          · have h := og_ite_f c_9 h
            refine lv_iconst (v := 1) hx hb dX6_isOver_93 (by decide) ?_
            refine lv_goto (tgt := 98) hx hb dX6_isOver_94 (by decide) ?_
            obtain rfl := Option.some.inj h
            exact J _ _ _ hP hD hS (lv_sub hl [] rfl)
      · have h := og_ite_t c_5 h
        refine lv_lload_n hx hb dX6_isOver_64 rfl (lv_at hl 1 rfl) ?_
        refine lv_ldc2 hx hb hown (hts (.constantLong RX6 263 (-9223372036854775808)) (List.mem_of_getElem? (i := 2) rfl)) dX6_isOver_65 ?_
        refine W.lcmp hx hb dX6_isOver_68 ?_
        obtain ⟨y_12, ey_12, h⟩ := olet_e h
        have J : ∀ (H : Heap) (locs : List Loc) (ls : Array Slot), va_P (dC, dI) vwCl [] H → va_D A [] → va_S A s.heap H locs → lv_has ls 7 [] → W p l e ({ frames := 1, cells := 0, slots := 0, locals := 24 }) s m args below meth c H locs 0 0 Q (F0 m 77 ls [.int y_12]) := by
          intro H locs ls hP hD hS hl
          obtain ⟨hz, h⟩ := obl_e h
          obtain rfl := Option.some.inj h
          exact hret _ _ _ _ dX6_isOver_77 hz hP hD hS
        clear h
        refine lv_if_ne (tgt := 76) hx hb dX6_isOver_69 (by decide) (fun c_11 => ?_) (fun c_11 => ?_)
        · refine lv_iconst (v := 0) hx hb dX6_isOver_76 (by decide) ?_
          rw [if_neg c_11] at ey_12
          subst ey_12
          exact J H locs _ hP hD hS (lv_sub hl [] rfl)
        · refine lv_iconst (v := 1) hx hb dX6_isOver_72 (by decide) ?_
          refine lv_goto (tgt := 77) hx hb dX6_isOver_73 (by decide) ?_
          rw [if_pos c_11] at ey_12
          subst ey_12
          exact J H locs _ hP hD hS (lv_sub hl [] rfl)
    · have h := og_ite_t c_4 h
      refine lv_lload_n hx hb dX6_isOver_37 rfl (lv_at hl 1 rfl) ?_
      refine lv_lload_n hx hb dX6_isOver_38 rfl (lv_at hl 3 rfl) ?_
      refine lv_lxor hx hb dX6_isOver_39 ?_
      refine lv_lload_n hx hb dX6_isOver_40 rfl (lv_at hl 1 rfl) ?_
      refine lv_lload hx hb dX6_isOver_41 (lv_at hl 0 rfl) ?_
      refine lv_lxor hx hb dX6_isOver_43 ?_
      refine lv_land hx hb dX6_isOver_44 ?_
      refine lv_lconst (v := 0) hx hb dX6_isOver_45 (by decide) ?_
      refine W.lcmp hx hb dX6_isOver_46 ?_
      obtain ⟨y_14, ey_14, h⟩ := olet_e h
      have J : ∀ (H : Heap) (locs : List Loc) (ls : Array Slot), va_P (dC, dI) vwCl [] H → va_D A [] → va_S A s.heap H locs → lv_has ls 7 [] → W p l e ({ frames := 1, cells := 0, slots := 0, locals := 24 }) s m args below meth c H locs 0 0 Q (F0 m 55 ls [.int y_14]) := by
        intro H locs ls hP hD hS hl
        obtain ⟨hz, h⟩ := obl_e h
        obtain rfl := Option.some.inj h
        exact hret _ _ _ _ dX6_isOver_55 hz hP hD hS
      clear h
      refine lv_if_ge (tgt := 54) hx hb dX6_isOver_47 (by decide) (fun c_13 => ?_) (fun c_13 => ?_)
      · refine lv_iconst (v := 0) hx hb dX6_isOver_54 (by decide) ?_
        rw [if_pos c_13] at ey_14
        subst ey_14
        exact J H locs _ hP hD hS (lv_sub hl [] rfl)
      · refine lv_iconst (v := 1) hx hb dX6_isOver_50 (by decide) ?_
        refine lv_goto (tgt := 55) hx hb dX6_isOver_51 (by decide) ?_
        rw [if_neg c_13] at ey_14
        subst ey_14
        exact J H locs _ hP hD hS (lv_sub hl [] rfl)
  · have h := og_ite_t c_3 h
    refine lv_lload_n hx hb dX6_isOver_12 rfl (lv_at hl 1 rfl) ?_
    refine lv_lload hx hb dX6_isOver_13 (lv_at hl 0 rfl) ?_
    refine lv_lxor hx hb dX6_isOver_15 ?_
    refine lv_lload_n hx hb dX6_isOver_16 rfl (lv_at hl 3 rfl) ?_
    refine lv_lload hx hb dX6_isOver_17 (lv_at hl 0 rfl) ?_
    refine lv_lxor hx hb dX6_isOver_19 ?_
    refine lv_land hx hb dX6_isOver_20 ?_
    refine lv_lconst (v := 0) hx hb dX6_isOver_21 (by decide) ?_
    refine W.lcmp hx hb dX6_isOver_22 ?_
    obtain ⟨y_16, ey_16, h⟩ := olet_e h
    have J : ∀ (H : Heap) (locs : List Loc) (ls : Array Slot), va_P (dC, dI) vwCl [] H → va_D A [] → va_S A s.heap H locs → lv_has ls 7 [] → W p l e ({ frames := 1, cells := 0, slots := 0, locals := 24 }) s m args below meth c H locs 0 0 Q (F0 m 31 ls [.int y_16]) := by
      intro H locs ls hP hD hS hl
      obtain ⟨hz, h⟩ := obl_e h
      obtain rfl := Option.some.inj h
      exact hret _ _ _ _ dX6_isOver_31 hz hP hD hS
    clear h
    refine lv_if_ge (tgt := 30) hx hb dX6_isOver_23 (by decide) (fun c_15 => ?_) (fun c_15 => ?_)
    · refine lv_iconst (v := 0) hx hb dX6_isOver_30 (by decide) ?_
      rw [if_pos c_15] at ey_16
      subst ey_16
      exact J H locs _ hP hD hS (lv_sub hl [] rfl)
    · refine lv_iconst (v := 1) hx hb dX6_isOver_26 (by decide) ?_
      refine lv_goto (tgt := 31) hx hb dX6_isOver_27 (by decide) ?_
      rw [if_neg c_15] at ey_16
      subst ey_16
      exact J H locs _ hP hD hS (lv_sub hl [] rfl)
