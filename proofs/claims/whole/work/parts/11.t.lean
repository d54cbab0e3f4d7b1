def lpX6_firstNotBelow_19 (n_a0 : Nat) (q2 : Int32) (a0 : (Nat → Int32)) : Nat → Int32 → Int32 → Int32 → Option (Int32 × Int32 × Int32)
  | 0, _, _, _ => none
  | n + 1, m3, m4, m5 => if m4 ≤ m3 then (some (m3, m4, m5)) else (if (32 : Int32) ≤ m5 then (some (m3, m4, m5)) else (oin ((m3 + m4) / (2 : Int32)) n_a0 (olet (if q2 ≤ (a0 ((m3 + m4) / (2 : Int32)).toNatClampNeg) then (m3) else (((m3 + m4) / (2 : Int32)) + (1 : Int32))) fun y_9 => olet (if q2 ≤ (a0 ((m3 + m4) / (2 : Int32)).toNatClampNeg) then ((m3 + m4) / (2 : Int32)) else (m4)) fun y_10 => lpX6_firstNotBelow_19 n_a0 q2 a0 n y_9 y_10 (m5 + (1 : Int32)))))

def fX6_firstNotBelow (n_a0 : Nat) (a0 : (Nat → Int32)) (x1 : Int32) (x2 : Int32) : Option (Int32) := olet (if (nI n_a0) ≤ x1 then (nI n_a0) else (x1)) fun y_2 => obd (lpX6_firstNotBelow_19 n_a0 x2 a0 100000 (0 : Int32) y_2 (0 : Int32)) fun w_18 => some w_18.1

set_option maxHeartbeats 4000000 in
set_option maxRecDepth 100000 in
theorem cX6_firstNotBelow (l : Launch) (dC : Nat → ClassId) (dI : Nat → Nat → Nat) (cyI cyJ cyZ cyO : ClassId) (sz : Nat) (h_a0 : Nat) (n_a0 : Nat) (a0 : (Nat → Int32)) (x1 : Int32) (x2 : Int32) (u : Int32) (hf : fX6_firstNotBelow n_a0 a0 x1 x2 = some u) : Met l yX6_firstNotBelow wsX6_firstNotBelow ({ frames := 0, cells := 0, slots := 0, locals := 0 }) (va_Pc [.ref h_a0, .int x1, .int x2] (GP (dC, dI) (T4 cyI cyJ cyZ cyO) sz [(h_a0, .inl (cyI, n_a0, .inl a0))])) (va_Qi (fun (r : Int32) (_ : Unit) => r = u) (GB (dC, dI) [(h_a0, .inl (cyI, n_a0, .inl a0))] (va_A [(h_a0, .inl (cyI, n_a0, .inl a0))] sz)) (va_A [(h_a0, .inl (cyI, n_a0, .inl a0))] sz)) 0 0 (va_A [(h_a0, .inl (cyI, n_a0, .inl a0))] sz) := by
  refine GMetI (by decide) rfl (Nat.le_of_ble_eq_true rfl) ?_
  intro p e s m args below meth c A Q ls hx hb hml hts hown hN hK hA hret hP hD hS hl
  have h := hf
  clear hf
  unfold fX6_firstNotBelow at h
  have hown : s.vm.findClass RX6 = some m.cls := hown
  have hl : lv_has ls 7 [(0, .ref h_a0), (1, .int x1), (2, .int x2)] := hl
  refine lv_iconst (v := 0) hx hb dX6_firstNotBelow_0 (by decide) ?_
  refine lv_istore_n (lv' := [(3, .int (0 : Int32)), (0, .ref h_a0), (1, .int x1), (2, .int x2)]) hx hb dX6_firstNotBelow_1 rfl hl (by decide) rfl (fun ls hl => ?_)
  refine lv_iload_n hx hb dX6_firstNotBelow_2 rfl (lv_at hl 2 rfl) ?_
  refine lv_aload_n hx hb dX6_firstNotBelow_3 rfl (lv_at hl 1 rfl) ?_
  refine va_alen (v := nI n_a0) hx hb hK hP 0 0 rfl rfl rfl dX6_firstNotBelow_4 ?_
  obtain ⟨y_2, ey_2, h⟩ := olet_e h
  have J : ∀ (H : Heap) (locs : List Loc) (ls : Array Slot), va_P (dC, dI) vwCl [(h_a0, .inl (cyI, n_a0, .inl a0))] H → va_D A [(h_a0, .inl (cyI, n_a0, .inl a0))] → va_S A s.heap H locs → lv_has ls 7 [(0, .ref h_a0), (2, .int x2), (3, .int (0 : Int32))] → W p l e ({ frames := 0, cells := 0, slots := 0, locals := 0 }) s m args below meth c H locs 0 0 Q (F0 m 14 ls [.int y_2]) := by
    intro H locs ls hP hD hS hl
    refine lv_istore (lv' := [(4, .int y_2), (0, .ref h_a0), (2, .int x2), (3, .int (0 : Int32))]) hx hb dX6_firstNotBelow_14 hl (by decide) rfl (fun ls hl => ?_)
    refine lv_iconst (v := 0) hx hb dX6_firstNotBelow_16 (by decide) ?_
    refine lv_istore (lv' := [(5, .int (0 : Int32)), (4, .int y_2), (0, .ref h_a0), (2, .int x2), (3, .int (0 : Int32))]) hx hb dX6_firstNotBelow_17 hl (by decide) rfl (fun ls hl => ?_)
    obtain ⟨w_18, hw_19, h⟩ := obd_e h
    have J : ∀ (H : Heap) (locs : List Loc) (ls : Array Slot), va_P (dC, dI) vwCl [(h_a0, .inl (cyI, n_a0, .inl a0))] H → va_D A [(h_a0, .inl (cyI, n_a0, .inl a0))] → va_S A s.heap H locs → lv_has ls 7 [(3, .int w_18.1)] → W p l e ({ frames := 0, cells := 0, slots := 0, locals := 0 }) s m args below meth c H locs 0 0 Q (F0 m 66 ls []) := by
      intro H locs ls hP hD hS hl
      refine lv_iload_n hx hb dX6_firstNotBelow_66 rfl (lv_at hl 0 rfl) ?_
      obtain rfl := Option.some.inj h
      exact hret _ _ _ _ dX6_firstNotBelow_67 hP hD hS
    have LL : ∀ (n : Nat) (m3 : Int32) (m4 : Int32) (m5 : Int32) (H : Heap) (locs : List Loc) (ls : Array Slot), lpX6_firstNotBelow_19 n_a0 x2 a0 n m3 m4 m5 = some w_18 → va_P (dC, dI) vwCl [(h_a0, .inl (cyI, n_a0, .inl a0))] H → va_D A [(h_a0, .inl (cyI, n_a0, .inl a0))] → va_S A s.heap H locs → lv_has ls 7 [(0, .ref h_a0), (2, .int x2), (3, .int m3), (4, .int m4), (5, .int m5)] → W p l e ({ frames := 0, cells := 0, slots := 0, locals := 0 }) s m args below meth c H locs 0 0 Q (F0 m 19 ls []) := by
      intro n
      induction n with
      | zero =>
        intro m3 m4 m5 H locs ls h
        exact absurd h (by rw [lpX6_firstNotBelow_19]; exact fun q => by cases q)
      | succ n ih =>
        intro m3 m4 m5 H locs ls h hP hD hS hl
        rw [lpX6_firstNotBelow_19] at h
        refine lv_iload_n hx hb dX6_firstNotBelow_19 rfl (lv_at hl 2 rfl) ?_
        refine lv_iload hx hb dX6_firstNotBelow_20 (lv_at hl 3 rfl) ?_
        refine lv_icmp_ge (tgt := 66) hx hb dX6_firstNotBelow_22 (by decide) (fun c_11 => ?_) (fun c_11 => ?_)
        · have h := og_ite_t c_11 h
          obtain rfl := Option.some.inj h
          exact J _ _ _ hP hD hS (lv_sub hl [2] rfl)
        · have h := og_ite_f c_11 h
          refine lv_iload hx hb dX6_firstNotBelow_25 (lv_at hl 4 rfl) ?_
          refine lv_bipush (v := 32) hx hb dX6_firstNotBelow_27 (by decide) ?_
          refine lv_icmp_ge (tgt := 66) hx hb dX6_firstNotBelow_29 (by decide) (fun c_12 => ?_) (fun c_12 => ?_)
          · have h := og_ite_t c_12 h
            obtain rfl := Option.some.inj h
            exact J _ _ _ hP hD hS (lv_sub hl [2] rfl)
          · have h := og_ite_f c_12 h
            refine lv_iload_n hx hb dX6_firstNotBelow_32 rfl (lv_at hl 2 rfl) ?_
            refine lv_iload hx hb dX6_firstNotBelow_33 (lv_at hl 3 rfl) ?_
            refine lv_iadd hx hb dX6_firstNotBelow_35 ?_
            refine lv_iconst (v := 2) hx hb dX6_firstNotBelow_36 (by decide) ?_
            refine lv_idiv hx hb dX6_firstNotBelow_37 (by decide) ?_
            refine lv_istore (lv' := [(6, .int ((m3 + m4) / (2 : Int32))), (0, .ref h_a0), (2, .int x2), (3, .int m3), (4, .int m4), (5, .int m5)]) hx hb dX6_firstNotBelow_38 hl (by decide) rfl (fun ls hl => ?_)
            refine lv_aload_n hx hb dX6_firstNotBelow_40 rfl (lv_at hl 1 rfl) ?_
            refine lv_iload hx hb dX6_firstNotBelow_41 (lv_at hl 0 rfl) ?_
            obtain ⟨hi_14, h⟩ := oin_e h
            refine va_iald hx hb hK hP 0 0 rfl rfl hi_14 dX6_firstNotBelow_43 ?_
            refine lv_iload_n hx hb dX6_firstNotBelow_44 rfl (lv_at hl 2 rfl) ?_
            obtain ⟨y_16, ey_16, h⟩ := olet_e h
            obtain ⟨y_17, ey_17, h⟩ := olet_e h
            have J : ∀ (H : Heap) (locs : List Loc) (ls : Array Slot), va_P (dC, dI) vwCl [(h_a0, .inl (cyI, n_a0, .inl a0))] H → va_D A [(h_a0, .inl (cyI, n_a0, .inl a0))] → va_S A s.heap H locs → lv_has ls 7 [(0, .ref h_a0), (2, .int x2), (3, .int y_16), (4, .int y_17), (5, .int m5)] → W p l e ({ frames := 0, cells := 0, slots := 0, locals := 0 }) s m args below meth c H locs 0 0 Q (F0 m 60 ls []) := by
              intro H locs ls hP hD hS hl
              refine lv_iinc (v := m5 + (1 : Int32)) (lv' := [(5, .int (m5 + (1 : Int32))), (0, .ref h_a0), (2, .int x2), (3, .int y_16), (4, .int y_17)]) hx hb dX6_firstNotBelow_60 hl (k := 4) rfl rfl (by decide) rfl (fun ls hl => ?_)
              refine lv_goto (tgt := 19) hx hb dX6_firstNotBelow_63 (by decide) ?_
              exact ih y_16 y_17 (m5 + (1 : Int32)) _ _ _ h hP hD hS (lv_sub hl [1, 2, 3, 4, 0] rfl)
            clear h
            refine lv_icmp_ge (tgt := 56) hx hb dX6_firstNotBelow_45 (by decide) (fun c_15 => ?_) (fun c_15 => ?_)
            · refine lv_iload hx hb dX6_firstNotBelow_56 (lv_at hl 0 rfl) ?_
              refine lv_istore (lv' := [(4, .int ((m3 + m4) / (2 : Int32))), (6, .int ((m3 + m4) / (2 : Int32))), (0, .ref h_a0), (2, .int x2), (3, .int m3), (5, .int m5)]) hx hb dX6_firstNotBelow_58 hl (by decide) rfl (fun ls hl => ?_)
              rw [if_pos c_15] at ey_16
              rw [if_pos c_15] at ey_17
              subst ey_16
              subst ey_17
              exact J H locs _ hP hD hS (lv_sub hl [2, 3, 4, 0, 5] rfl)
            · refine lv_iload hx hb dX6_firstNotBelow_48 (lv_at hl 0 rfl) ?_
              refine lv_iconst (v := 1) hx hb dX6_firstNotBelow_50 (by decide) ?_
              refine lv_iadd hx hb dX6_firstNotBelow_51 ?_
              refine lv_istore_n (lv' := [(3, .int (((m3 + m4) / (2 : Int32)) + (1 : Int32))), (6, .int ((m3 + m4) / (2 : Int32))), (0, .ref h_a0), (2, .int x2), (4, .int m4), (5, .int m5)]) hx hb dX6_firstNotBelow_52 rfl hl (by decide) rfl (fun ls hl => ?_)
              refine lv_goto (tgt := 60) hx hb dX6_firstNotBelow_53 (by decide) ?_
              rw [if_neg c_15] at ey_16
              rw [if_neg c_15] at ey_17
              subst ey_16
              subst ey_17
              exact J H locs _ hP hD hS (lv_sub hl [2, 3, 0, 4, 5] rfl)
    exact LL _ (0 : Int32) y_2 (0 : Int32) _ _ _ hw_19 hP hD hS (lv_sub hl [2, 3, 4, 1, 0] rfl)
  clear h
  refine lv_icmp_ge (tgt := 12) hx hb dX6_firstNotBelow_5 (by decide) (fun c_1 => ?_) (fun c_1 => ?_)
  · refine lv_aload_n hx hb dX6_firstNotBelow_12 rfl (lv_at hl 1 rfl) ?_
    refine va_alen (v := nI n_a0) hx hb hK hP 0 0 rfl rfl rfl dX6_firstNotBelow_13 ?_
    rw [if_pos c_1] at ey_2
    subst ey_2
    exact J _ _ _ hP hD hS (lv_sub hl [1, 3, 0] rfl)
  · refine lv_iload_n hx hb dX6_firstNotBelow_8 rfl (lv_at hl 2 rfl) ?_
    refine lv_goto (tgt := 14) hx hb dX6_firstNotBelow_9 (by decide) ?_
    rw [if_neg c_1] at ey_2
    subst ey_2
    exact J _ _ _ hP hD hS (lv_sub hl [1, 3, 0] rfl)

def lpX6_insertAt_24 (n_a0 : Nat) (q2 : Int32) (q3 : Int32) : Nat → Int32 → (Nat → Int32) → Option (Int32 × (Nat → Int32))
  | 0, _, _ => none
  | n + 1, m4, za0 => if m4 ≤ q2 then (some (m4, za0)) else (oin (m4 - (1 : Int32)) n_a0 (oin m4 n_a0 (lpX6_insertAt_24 n_a0 q2 q3 n (m4 + (-1 : Int32)) (upd za0 m4.toNatClampNeg (za0 (m4 - (1 : Int32)).toNatClampNeg)))))

def fX6_insertAt (n_a0 : Nat) (a0 : (Nat → Int32)) (x1 : Int32) (x2 : Int32) (x3 : Int32) : Option (Int32 × (Nat → Int32)) := if x1 < 0 then (obl (0 : Int32) (some ((0 : Int32), a0))) else (if (nI n_a0) ≤ x1 then (obl (0 : Int32) (some ((0 : Int32), a0))) else (if x2 < 0 then (obl (0 : Int32) (some ((0 : Int32), a0))) else (if x2 ≤ x1 then (obd (lpX6_insertAt_24 n_a0 x2 x3 100000 x1 a0) fun w_12 => oin x2 n_a0 (obl (1 : Int32) (some ((1 : Int32), upd w_12.2 x2.toNatClampNeg x3)))) else (obl (0 : Int32) (some ((0 : Int32), a0))))))

set_option maxHeartbeats 4000000 in
set_option maxRecDepth 100000 in
theorem cX6_insertAt (l : Launch) (dC : Nat → ClassId) (dI : Nat → Nat → Nat) (cyI cyJ cyZ cyO : ClassId) (sz : Nat) (h_a0 : Nat) (n_a0 : Nat) (a0 : (Nat → Int32)) (x1 : Int32) (x2 : Int32) (x3 : Int32) (u : Int32 × (Nat → Int32)) (hf : fX6_insertAt n_a0 a0 x1 x2 x3 = some u) : Met l yX6_insertAt wsX6_insertAt ({ frames := 0, cells := 0, slots := 0, locals := 0 }) (va_Pc [.ref h_a0, .int x1, .int x2, .int x3] (GP (dC, dI) (T4 cyI cyJ cyZ cyO) sz [(h_a0, .inl (cyI, n_a0, .inl a0))])) (va_Qi (fun (r : Int32) (_ : Unit) => r = u.1) (GB (dC, dI) [(h_a0, .inl (cyI, n_a0, .inl u.2))] (va_A [(h_a0, .inl (cyI, n_a0, .inl a0))] sz)) (va_A [(h_a0, .inl (cyI, n_a0, .inl a0))] sz)) 0 0 (va_A [(h_a0, .inl (cyI, n_a0, .inl a0))] sz) := by
  refine GMetZ (by decide) rfl (Nat.le_of_ble_eq_true rfl) ?_
  intro p e s m args below meth c A Q ls hx hb hml hts hown hN hK hA hret hP hD hS hl
  have h := hf
  clear hf
  unfold fX6_insertAt at h
  have hown : s.vm.findClass RX6 = some m.cls := hown
  have hl : lv_has ls 5 [(0, .ref h_a0), (1, .int x1), (2, .int x2), (3, .int x3)] := hl
  refine lv_iload_n hx hb dX6_insertAt_0 rfl (lv_at hl 1 rfl) ?_
  refine lv_if_lt (tgt := 19) hx hb dX6_insertAt_1 (by decide) (fun c_1 => ?_) (fun c_1 => ?_)
  · have h := og_ite_t c_1 h
    refine lv_iconst (v := 0) hx hb dX6_insertAt_19 (by decide) ?_
    obtain ⟨hz, h⟩ := obl_e h
    obtain rfl := Option.some.inj h
    exact hret _ _ _ _ dX6_insertAt_20 hz hP hD hS
  · have h := og_ite_f c_1 h
    refine lv_iload_n hx hb dX6_insertAt_4 rfl (lv_at hl 1 rfl) ?_
    refine lv_aload_n hx hb dX6_insertAt_5 rfl (lv_at hl 0 rfl) ?_
    refine va_alen (v := nI n_a0) hx hb hK hP 0 0 rfl rfl rfl dX6_insertAt_6 ?_
    refine lv_icmp_ge (tgt := 19) hx hb dX6_insertAt_7 (by decide) (fun c_2 => ?_) (fun c_2 => ?_)
    · have h := og_ite_t c_2 h
      refine lv_iconst (v := 0) hx hb dX6_insertAt_19 (by decide) ?_
      obtain ⟨hz, h⟩ := obl_e h
      obtain rfl := Option.some.inj h
      exact hret _ _ _ _ dX6_insertAt_20 hz hP hD hS
    · have h := og_ite_f c_2 h
      refine lv_iload_n hx hb dX6_insertAt_10 rfl (lv_at hl 2 rfl) ?_
      refine lv_if_lt (tgt := 19) hx hb dX6_insertAt_11 (by decide) (fun c_3 => ?_) (fun c_3 => ?_)
      · have h := og_ite_t c_3 h
        refine lv_iconst (v := 0) hx hb dX6_insertAt_19 (by decide) ?_
        obtain ⟨hz, h⟩ := obl_e h
        obtain rfl := Option.some.inj h
        exact hret _ _ _ _ dX6_insertAt_20 hz hP hD hS
      · have h := og_ite_f c_3 h
        refine lv_iload_n hx hb dX6_insertAt_14 rfl (lv_at hl 2 rfl) ?_
        refine lv_iload_n hx hb dX6_insertAt_15 rfl (lv_at hl 1 rfl) ?_
        refine lv_icmp_le (tgt := 21) hx hb dX6_insertAt_16 (by decide) (fun c_4 => ?_) (fun c_4 => ?_)
        · have h := og_ite_t c_4 h
          refine lv_iload_n hx hb dX6_insertAt_21 rfl (lv_at hl 1 rfl) ?_
          refine lv_istore (lv' := [(4, .int x1), (0, .ref h_a0), (1, .int x1), (2, .int x2), (3, .int x3)]) hx hb dX6_insertAt_22 hl (by decide) rfl (fun ls hl => ?_)
          obtain ⟨w_12, hw_13, h⟩ := obd_e h
          have J : ∀ (H : Heap) (locs : List Loc) (ls : Array Slot), va_P (dC, dI) vwCl [(h_a0, .inl (cyI, n_a0, .inl w_12.2))] H → va_D A [(h_a0, .inl (cyI, n_a0, .inl w_12.2))] → va_S A s.heap H locs → lv_has ls 5 [(0, .ref h_a0), (2, .int x2), (3, .int x3)] → W p l e ({ frames := 0, cells := 0, slots := 0, locals := 0 }) s m args below meth c H locs 0 0 Q (F0 m 46 ls []) := by
            intro H locs ls hP hD hS hl
            refine lv_aload_n hx hb dX6_insertAt_46 rfl (lv_at hl 0 rfl) ?_
            refine lv_iload_n hx hb dX6_insertAt_47 rfl (lv_at hl 1 rfl) ?_
            refine lv_iload_n hx hb dX6_insertAt_48 rfl (lv_at hl 2 rfl) ?_
            obtain ⟨hi_14, h⟩ := oin_e h
            refine va_iast hx hb hK hP hD hS 0 0 rfl rfl hi_14 dX6_insertAt_49 (fun H locs hP hD hS => ?_)
            have hP : va_P (dC, dI) vwCl [(h_a0, .inl (cyI, n_a0, .inl (upd w_12.2 x2.toNatClampNeg x3)))] H := hP
            have hD : va_D A [(h_a0, .inl (cyI, n_a0, .inl (upd w_12.2 x2.toNatClampNeg x3)))] := hD
            refine lv_iconst (v := 1) hx hb dX6_insertAt_50 (by decide) ?_
            obtain ⟨hz, h⟩ := obl_e h
            obtain rfl := Option.some.inj h
            exact hret _ _ _ _ dX6_insertAt_51 hz hP hD hS
          have LL : ∀ (n : Nat) (m4 : Int32) (za0 : (Nat → Int32)) (H : Heap) (locs : List Loc) (ls : Array Slot), lpX6_insertAt_24 n_a0 x2 x3 n m4 za0 = some w_12 → va_P (dC, dI) vwCl [(h_a0, .inl (cyI, n_a0, .inl za0))] H → va_D A [(h_a0, .inl (cyI, n_a0, .inl za0))] → va_S A s.heap H locs → lv_has ls 5 [(0, .ref h_a0), (2, .int x2), (3, .int x3), (4, .int m4)] → W p l e ({ frames := 0, cells := 0, slots := 0, locals := 0 }) s m args below meth c H locs 0 0 Q (F0 m 24 ls []) := by
            intro n
            induction n with
            | zero =>
              intro m4 za0 H locs ls h
              exact absurd h (by rw [lpX6_insertAt_24]; exact fun q => by cases q)
            | succ n ih =>
              intro m4 za0 H locs ls h hP hD hS hl
              rw [lpX6_insertAt_24] at h
              refine lv_iload hx hb dX6_insertAt_24 (lv_at hl 3 rfl) ?_
              refine lv_iload_n hx hb dX6_insertAt_26 rfl (lv_at hl 1 rfl) ?_
              refine lv_icmp_le (tgt := 46) hx hb dX6_insertAt_27 (by decide) (fun c_9 => ?_) (fun c_9 => ?_)
              · have h := og_ite_t c_9 h
                obtain rfl := Option.some.inj h
                exact J _ _ _ hP hD hS (lv_sub hl [0, 1, 2] rfl)
              · have h := og_ite_f c_9 h
                refine lv_aload_n hx hb dX6_insertAt_30 rfl (lv_at hl 0 rfl) ?_
                refine lv_iload hx hb dX6_insertAt_31 (lv_at hl 3 rfl) ?_
                refine lv_aload_n hx hb dX6_insertAt_33 rfl (lv_at hl 0 rfl) ?_
                refine lv_iload hx hb dX6_insertAt_34 (lv_at hl 3 rfl) ?_
                refine lv_iconst (v := 1) hx hb dX6_insertAt_36 (by decide) ?_
                refine lv_isub hx hb dX6_insertAt_37 ?_
                obtain ⟨hi_10, h⟩ := oin_e h
                refine va_iald hx hb hK hP 0 0 rfl rfl hi_10 dX6_insertAt_38 ?_
                obtain ⟨hi_11, h⟩ := oin_e h
                refine va_iast hx hb hK hP hD hS 0 0 rfl rfl hi_11 dX6_insertAt_39 (fun H locs hP hD hS => ?_)
                have hP : va_P (dC, dI) vwCl [(h_a0, .inl (cyI, n_a0, .inl (upd za0 m4.toNatClampNeg (za0 (m4 - (1 : Int32)).toNatClampNeg))))] H := hP
                have hD : va_D A [(h_a0, .inl (cyI, n_a0, .inl (upd za0 m4.toNatClampNeg (za0 (m4 - (1 : Int32)).toNatClampNeg))))] := hD
                refine lv_iinc (v := m4 + (-1 : Int32)) (lv' := [(4, .int (m4 + (-1 : Int32))), (0, .ref h_a0), (2, .int x2), (3, .int x3)]) hx hb dX6_insertAt_40 hl (k := 3) rfl rfl (by decide) rfl (fun ls hl => ?_)
                refine lv_goto (tgt := 24) hx hb dX6_insertAt_43 (by decide) ?_
                exact ih (m4 + (-1 : Int32)) (upd za0 m4.toNatClampNeg (za0 (m4 - (1 : Int32)).toNatClampNeg)) _ _ _ h hP hD hS (lv_sub hl [1, 2, 3, 0] rfl)
          exact LL _ x1 a0 _ _ _ hw_13 hP hD hS (lv_sub hl [1, 3, 4, 0] rfl)
        · have h := og_ite_f c_4 h
          refine lv_iconst (v := 0) hx hb dX6_insertAt_19 (by decide) ?_
          obtain ⟨hz, h⟩ := obl_e h
          obtain rfl := Option.some.inj h
          exact hret _ _ _ _ dX6_insertAt_20 hz hP hD hS

def fX7_in (x0 : Int64) (x1 : Int64) (x2 : Int64) : Option (Int32) := olet (if (lg_cmp x0 x1) < 0 then ((0 : Int32)) else (if 0 < (lg_cmp x0 x2) then ((0 : Int32)) else ((1 : Int32)))) fun y_2 => obl y_2 (some y_2)

set_option maxHeartbeats 4000000 in
set_option maxRecDepth 100000 in
theorem cX7_in (l : Launch) (dC : Nat → ClassId) (dI : Nat → Nat → Nat) (cyI cyJ cyZ cyO : ClassId) (sz : Nat) (x0 : Int64) (x1 : Int64) (x2 : Int64) (u : Int32) (hf : fX7_in x0 x1 x2 = some u) : Met l yX7_in wsX7_in ({ frames := 0, cells := 0, slots := 0, locals := 0 }) (va_Pc [.long x0, .long x1, .long x2] (GP (dC, dI) (T4 cyI cyJ cyZ cyO) sz [])) (va_Qi (fun (r : Int32) (_ : Unit) => r = u) (GB (dC, dI) [] (va_A [] sz)) (va_A [] sz)) 0 0 (va_A [] sz) := by
  refine GMetZ (by decide) rfl (Nat.le_of_ble_eq_true rfl) ?_
  intro p e s m args below meth c A Q ls hx hb hml hts hown hN hK hA hret hP hD hS hl
  have h := hf
  clear hf
  unfold fX7_in at h
  have hown : s.vm.findClass RX7 = some m.cls := hown
  have hl : lv_has ls 6 [(0, .long x0), (2, .long x1), (4, .long x2)] := hl
  refine lv_lload_n hx hb dX7_in_0 rfl (lv_at hl 0 rfl) ?_
  refine lv_lload_n hx hb dX7_in_1 rfl (lv_at hl 1 rfl) ?_
  refine W.lcmp hx hb dX7_in_2 ?_
  obtain ⟨y_2, ey_2, h⟩ := olet_e h
  have J : ∀ (H : Heap) (locs : List Loc) (ls : Array Slot), va_P (dC, dI) vwCl [] H → va_D A [] → va_S A s.heap H locs → lv_has ls 6 [] → W p l e ({ frames := 0, cells := 0, slots := 0, locals := 0 }) s m args below meth c H locs 0 0 Q (F0 m 18 ls [.int y_2]) := by
    intro H locs ls hP hD hS hl
    obtain ⟨hz, h⟩ := obl_e h
    obtain rfl := Option.some.inj h
    exact hret _ _ _ _ dX7_in_18 hz hP hD hS
  clear h
  refine lv_if_lt (tgt := 17) hx hb dX7_in_3 (by decide) (fun c_1 => ?_) (fun c_1 => ?_)
  · refine lv_iconst (v := 0) hx hb dX7_in_17 (by decide) ?_
    rw [if_pos c_1] at ey_2
    subst ey_2
    exact J _ _ _ hP hD hS (lv_sub hl [] rfl)
  · refine lv_lload_n hx hb dX7_in_6 rfl (lv_at hl 0 rfl) ?_
    refine lv_lload hx hb dX7_in_7 (lv_at hl 2 rfl) ?_
    refine W.lcmp hx hb dX7_in_9 ?_
    refine lv_if_gt (tgt := 17) hx hb dX7_in_10 (by decide) (fun c_3 => ?_) (fun c_3 => ?_)
    · refine lv_iconst (v := 0) hx hb dX7_in_17 (by decide) ?_
      rw [if_neg c_1, if_pos c_3] at ey_2
      subst ey_2
      exact J _ _ _ hP hD hS (lv_sub hl [] rfl)
    · refine lv_iconst (v := 1) hx hb dX7_in_13 (by decide) ?_
      refine lv_goto (tgt := 18) hx hb dX7_in_14 (by decide) ?_
      rw [if_neg c_1, if_neg c_3] at ey_2
      subst ey_2
      exact J _ _ _ hP hD hS (lv_sub hl [] rfl)

def lpX7_below_2 (q1 : Int32) (q2 : Int32) (row : (Nat → Int32)) : Nat → Int32 → Option (Int32)
  | 0, _ => none
  | n + 1, m3 => oin (q1 + (2 : Int32)) 1824 (if (row (q1 + (2 : Int32)).toNatClampNeg) ≤ m3 then (some m3) else (oin ((q1 + (6 : Int32)) + m3) 1824 (if q2 ≤ (row ((q1 + (6 : Int32)) + m3).toNatClampNeg) then (some m3) else (lpX7_below_2 q1 q2 row n (m3 + (1 : Int32))))))

def fX7_below (row : (Nat → Int32)) (x0 : Int32) (x1 : Int32) : Option (Int32) := obd (lpX7_below_2 x0 x1 row 100000 (0 : Int32)) fun w_10 => some w_10

set_option maxHeartbeats 4000000 in
set_option maxRecDepth 100000 in
theorem cX7_below (l : Launch) (dC : Nat → ClassId) (dI : Nat → Nat → Nat) (cyI cyJ cyZ cyO : ClassId) (sz : Nat) (h_th h_row : Nat) (v_th_undos : Value) (v_th_isKept : Value) (v_th_text : Value) (v_th_length : Value) (v_th_sizes : Value) (v_th_values : Value) (v_th_asked : Value) (v_th_first : Value) (v_th_behind : Value) (v_th_readBits : Value) (v_th_clauses : Value) (v_th_doing : Value) (v_th_numbers : Value) (v_th_planWord : Value) (v_th_addWord : Value) (v_th_delWord : Value) (v_th_fillWord : Value) (v_th_probes : Value) (v_th_links : Value) (v_th_looks : Value) (v_th_found : Value) (v_th_isOver : Value) (row : (Nat → Int32)) (x0 : Int32) (x1 : Int32) (u : Int32) (hf : fX7_below row x0 x1 = some u) : Met l yX7_below wsX7_below ({ frames := 0, cells := 0, slots := 0, locals := 0 }) (va_Pc [.ref h_th, .int x0, .int x1] (GP (dC, dI) (T4 cyI cyJ cyZ cyO) sz [(h_th, .inr (7, [.ref h_row, v_th_undos, v_th_isKept, v_th_text, v_th_length, v_th_sizes, v_th_values, v_th_asked, v_th_first, v_th_behind, v_th_readBits, v_th_clauses, v_th_doing, v_th_numbers, v_th_planWord, v_th_addWord, v_th_delWord, v_th_fillWord, v_th_probes, v_th_links, v_th_looks, v_th_found, v_th_isOver])), (h_row, .inl (cyI, 1824, .inl row))])) (va_Qi (fun (r : Int32) (_ : Unit) => r = u) (GB (dC, dI) [(h_th, .inr (7, [.ref h_row, v_th_undos, v_th_isKept, v_th_text, v_th_length, v_th_sizes, v_th_values, v_th_asked, v_th_first, v_th_behind, v_th_readBits, v_th_clauses, v_th_doing, v_th_numbers, v_th_planWord, v_th_addWord, v_th_delWord, v_th_fillWord, v_th_probes, v_th_links, v_th_looks, v_th_found, v_th_isOver])), (h_row, .inl (cyI, 1824, .inl row))] (va_A [(h_th, .inr (7, [.ref h_row, v_th_undos, v_th_isKept, v_th_text, v_th_length, v_th_sizes, v_th_values, v_th_asked, v_th_first, v_th_behind, v_th_readBits, v_th_clauses, v_th_doing, v_th_numbers, v_th_planWord, v_th_addWord, v_th_delWord, v_th_fillWord, v_th_probes, v_th_links, v_th_looks, v_th_found, v_th_isOver])), (h_row, .inl (cyI, 1824, .inl row))] sz)) (va_A [(h_th, .inr (7, [.ref h_row, v_th_undos, v_th_isKept, v_th_text, v_th_length, v_th_sizes, v_th_values, v_th_asked, v_th_first, v_th_behind, v_th_readBits, v_th_clauses, v_th_doing, v_th_numbers, v_th_planWord, v_th_addWord, v_th_delWord, v_th_fillWord, v_th_probes, v_th_links, v_th_looks, v_th_found, v_th_isOver])), (h_row, .inl (cyI, 1824, .inl row))] sz)) 0 0 (va_A [(h_th, .inr (7, [.ref h_row, v_th_undos, v_th_isKept, v_th_text, v_th_length, v_th_sizes, v_th_values, v_th_asked, v_th_first, v_th_behind, v_th_readBits, v_th_clauses, v_th_doing, v_th_numbers, v_th_planWord, v_th_addWord, v_th_delWord, v_th_fillWord, v_th_probes, v_th_links, v_th_looks, v_th_found, v_th_isOver])), (h_row, .inl (cyI, 1824, .inl row))] sz) := by
  refine GMetI (by decide) rfl (Nat.le_of_ble_eq_true rfl) ?_
  intro p e s m args below meth c A Q ls hx hb hml hts hown hN hK hA hret hP hD hS hl
  have h := hf
  clear hf
  unfold fX7_below at h
  have hown : s.vm.findClass RX7 = some m.cls := hown
  have hl : lv_has ls 4 [(0, .ref h_th), (1, .int x0), (2, .int x1)] := hl
  refine lv_iconst (v := 0) hx hb dX7_below_0 (by decide) ?_
  refine lv_istore_n (lv' := [(3, .int (0 : Int32)), (0, .ref h_th), (1, .int x0), (2, .int x1)]) hx hb dX7_below_1 rfl hl (by decide) rfl (fun ls hl => ?_)
  obtain ⟨w_10, hw_11, h⟩ := obd_e h
  have J : ∀ (H : Heap) (locs : List Loc) (ls : Array Slot), va_P (dC, dI) vwCl [(h_th, .inr (7, [.ref h_row, v_th_undos, v_th_isKept, v_th_text, v_th_length, v_th_sizes, v_th_values, v_th_asked, v_th_first, v_th_behind, v_th_readBits, v_th_clauses, v_th_doing, v_th_numbers, v_th_planWord, v_th_addWord, v_th_delWord, v_th_fillWord, v_th_probes, v_th_links, v_th_looks, v_th_found, v_th_isOver])), (h_row, .inl (cyI, 1824, .inl row))] H → va_D A [(h_th, .inr (7, [.ref h_row, v_th_undos, v_th_isKept, v_th_text, v_th_length, v_th_sizes, v_th_values, v_th_asked, v_th_first, v_th_behind, v_th_readBits, v_th_clauses, v_th_doing, v_th_numbers, v_th_planWord, v_th_addWord, v_th_delWord, v_th_fillWord, v_th_probes, v_th_links, v_th_looks, v_th_found, v_th_isOver])), (h_row, .inl (cyI, 1824, .inl row))] → va_S A s.heap H locs → lv_has ls 4 [(3, .int w_10)] → W p l e ({ frames := 0, cells := 0, slots := 0, locals := 0 }) s m args below meth c H locs 0 0 Q (F0 m 35 ls []) := by
    intro H locs ls hP hD hS hl
    refine lv_iload_n hx hb dX7_below_35 rfl (lv_at hl 0 rfl) ?_
    obtain rfl := Option.some.inj h
    exact hret _ _ _ _ dX7_below_36 hP hD hS
  have LL : ∀ (n : Nat) (m3 : Int32) (H : Heap) (locs : List Loc) (ls : Array Slot), lpX7_below_2 x0 x1 row n m3 = some w_10 → va_P (dC, dI) vwCl [(h_th, .inr (7, [.ref h_row, v_th_undos, v_th_isKept, v_th_text, v_th_length, v_th_sizes, v_th_values, v_th_asked, v_th_first, v_th_behind, v_th_readBits, v_th_clauses, v_th_doing, v_th_numbers, v_th_planWord, v_th_addWord, v_th_delWord, v_th_fillWord, v_th_probes, v_th_links, v_th_looks, v_th_found, v_th_isOver])), (h_row, .inl (cyI, 1824, .inl row))] H → va_D A [(h_th, .inr (7, [.ref h_row, v_th_undos, v_th_isKept, v_th_text, v_th_length, v_th_sizes, v_th_values, v_th_asked, v_th_first, v_th_behind, v_th_readBits, v_th_clauses, v_th_doing, v_th_numbers, v_th_planWord, v_th_addWord, v_th_delWord, v_th_fillWord, v_th_probes, v_th_links, v_th_looks, v_th_found, v_th_isOver])), (h_row, .inl (cyI, 1824, .inl row))] → va_S A s.heap H locs → lv_has ls 4 [(0, .ref h_th), (1, .int x0), (2, .int x1), (3, .int m3)] → W p l e ({ frames := 0, cells := 0, slots := 0, locals := 0 }) s m args below meth c H locs 0 0 Q (F0 m 2 ls []) := by
    intro n
    induction n with
    | zero =>
      intro m3 H locs ls h
      exact absurd h (by rw [lpX7_below_2]; exact fun q => by cases q)
    | succ n ih =>
      intro m3 H locs ls h hP hD hS hl
      rw [lpX7_below_2] at h
      refine lv_iload_n hx hb dX7_below_2 rfl (lv_at hl 3 rfl) ?_
      refine lv_aload_n hx hb dX7_below_3 rfl (lv_at hl 0 rfl) ?_
      refine va_get (D := (dC, dI)) (ci := 7) (v := .ref h_row) (C := RX7) (T := TX7) (N := 23) hx hb hts (fun _ hw => List.mem_cons_of_mem _ (List.mem_append_right _ hw)) hown hK hP 0 rfl rfl 0 (by decide) (hts (.fieldLink RX7 7 "PrefixIndexModel" "row" "[I") (List.mem_of_getElem? (i := 1) rfl)) (fun _ h9 => h9) rfl dX7_below_4 ?_
      refine lv_iload_n hx hb dX7_below_7 rfl (lv_at hl 1 rfl) ?_
      refine lv_iconst (v := 2) hx hb dX7_below_8 (by decide) ?_
      refine lv_iadd hx hb dX7_below_9 ?_
      obtain ⟨hi_6, h⟩ := oin_e h
      refine va_iald hx hb hK hP 1 0 rfl rfl hi_6 dX7_below_10 ?_
      refine lv_icmp_ge (tgt := 35) hx hb dX7_below_11 (by decide) (fun c_7 => ?_) (fun c_7 => ?_)
      · have h := og_ite_t c_7 h
        obtain rfl := Option.some.inj h
        exact J _ _ _ hP hD hS (lv_sub hl [3] rfl)
      · have h := og_ite_f c_7 h
        refine lv_aload_n hx hb dX7_below_14 rfl (lv_at hl 0 rfl) ?_
        refine va_get (D := (dC, dI)) (ci := 7) (v := .ref h_row) (C := RX7) (T := TX7) (N := 23) hx hb hts (fun _ hw => List.mem_cons_of_mem _ (List.mem_append_right _ hw)) hown hK hP 0 rfl rfl 0 (by decide) (hts (.fieldLink RX7 7 "PrefixIndexModel" "row" "[I") (List.mem_of_getElem? (i := 1) rfl)) (fun _ h9 => h9) rfl dX7_below_15 ?_
        refine lv_iload_n hx hb dX7_below_18 rfl (lv_at hl 1 rfl) ?_
        refine lv_bipush (v := 6) hx hb dX7_below_19 (by decide) ?_
        refine lv_iadd hx hb dX7_below_21 ?_
        refine lv_iload_n hx hb dX7_below_22 rfl (lv_at hl 3 rfl) ?_
        refine lv_iadd hx hb dX7_below_23 ?_
        obtain ⟨hi_8, h⟩ := oin_e h
        refine va_iald hx hb hK hP 1 0 rfl rfl hi_8 dX7_below_24 ?_
        refine lv_iload_n hx hb dX7_below_25 rfl (lv_at hl 2 rfl) ?_
        refine lv_icmp_ge (tgt := 35) hx hb dX7_below_26 (by decide) (fun c_9 => ?_) (fun c_9 => ?_)
        · have h := og_ite_t c_9 h
          obtain rfl := Option.some.inj h
          exact J _ _ _ hP hD hS (lv_sub hl [3] rfl)
        · have h := og_ite_f c_9 h
          refine lv_iinc (v := m3 + (1 : Int32)) (lv' := [(3, .int (m3 + (1 : Int32))), (0, .ref h_th), (1, .int x0), (2, .int x1)]) hx hb dX7_below_29 hl (k := 3) rfl rfl (by decide) rfl (fun ls hl => ?_)
          refine lv_goto (tgt := 2) hx hb dX7_below_32 (by decide) ?_
          exact ih (m3 + (1 : Int32)) _ _ _ h hP hD hS (lv_sub hl [1, 2, 3, 0] rfl)
  exact LL _ (0 : Int32) _ _ _ hw_11 hP hD hS (lv_sub hl [1, 2, 3, 0] rfl)

def fX7_isKey (row : (Nat → Int32)) (x0 : Int32) (x1 : Int32) : Option (Int32) := obd (fX7_below row x0 x1) fun u_1 => oin (x0 + (2 : Int32)) 1824 (obd (if (row (x0 + (2 : Int32)).toNatClampNeg) ≤ u_1 then (some (0 : Int32)) else (oin ((x0 + (6 : Int32)) + u_1) 1824 (if (row ((x0 + (6 : Int32)) + u_1).toNatClampNeg) = x1 then (some (1 : Int32)) else (some (0 : Int32))))) fun w_5 => obl w_5 (some w_5))

set_option maxHeartbeats 4000000 in
set_option maxRecDepth 100000 in
theorem cX7_isKey (l : Launch) (dC : Nat → ClassId) (dI : Nat → Nat → Nat) (cyI cyJ cyZ cyO : ClassId) (sz : Nat) (h_th h_row : Nat) (v_th_undos : Value) (v_th_isKept : Value) (v_th_text : Value) (v_th_length : Value) (v_th_sizes : Value) (v_th_values : Value) (v_th_asked : Value) (v_th_first : Value) (v_th_behind : Value) (v_th_readBits : Value) (v_th_clauses : Value) (v_th_doing : Value) (v_th_numbers : Value) (v_th_planWord : Value) (v_th_addWord : Value) (v_th_delWord : Value) (v_th_fillWord : Value) (v_th_probes : Value) (v_th_links : Value) (v_th_looks : Value) (v_th_found : Value) (v_th_isOver : Value) (row : (Nat → Int32)) (x0 : Int32) (x1 : Int32) (u : Int32) (hf : fX7_isKey row x0 x1 = some u) : Met l yX7_isKey wsX7_isKey ({ frames := 1, cells := 0, slots := 0, locals := 23 }) (va_Pc [.ref h_th, .int x0, .int x1] (GP (dC, dI) (T4 cyI cyJ cyZ cyO) sz [(h_th, .inr (7, [.ref h_row, v_th_undos, v_th_isKept, v_th_text, v_th_length, v_th_sizes, v_th_values, v_th_asked, v_th_first, v_th_behind, v_th_readBits, v_th_clauses, v_th_doing, v_th_numbers, v_th_planWord, v_th_addWord, v_th_delWord, v_th_fillWord, v_th_probes, v_th_links, v_th_looks, v_th_found, v_th_isOver])), (h_row, .inl (cyI, 1824, .inl row))])) (va_Qi (fun (r : Int32) (_ : Unit) => r = u) (GB (dC, dI) [(h_th, .inr (7, [.ref h_row, v_th_undos, v_th_isKept, v_th_text, v_th_length, v_th_sizes, v_th_values, v_th_asked, v_th_first, v_th_behind, v_th_readBits, v_th_clauses, v_th_doing, v_th_numbers, v_th_planWord, v_th_addWord, v_th_delWord, v_th_fillWord, v_th_probes, v_th_links, v_th_looks, v_th_found, v_th_isOver])), (h_row, .inl (cyI, 1824, .inl row))] (va_A [(h_th, .inr (7, [.ref h_row, v_th_undos, v_th_isKept, v_th_text, v_th_length, v_th_sizes, v_th_values, v_th_asked, v_th_first, v_th_behind, v_th_readBits, v_th_clauses, v_th_doing, v_th_numbers, v_th_planWord, v_th_addWord, v_th_delWord, v_th_fillWord, v_th_probes, v_th_links, v_th_looks, v_th_found, v_th_isOver])), (h_row, .inl (cyI, 1824, .inl row))] sz)) (va_A [(h_th, .inr (7, [.ref h_row, v_th_undos, v_th_isKept, v_th_text, v_th_length, v_th_sizes, v_th_values, v_th_asked, v_th_first, v_th_behind, v_th_readBits, v_th_clauses, v_th_doing, v_th_numbers, v_th_planWord, v_th_addWord, v_th_delWord, v_th_fillWord, v_th_probes, v_th_links, v_th_looks, v_th_found, v_th_isOver])), (h_row, .inl (cyI, 1824, .inl row))] sz)) 0 0 (va_A [(h_th, .inr (7, [.ref h_row, v_th_undos, v_th_isKept, v_th_text, v_th_length, v_th_sizes, v_th_values, v_th_asked, v_th_first, v_th_behind, v_th_readBits, v_th_clauses, v_th_doing, v_th_numbers, v_th_planWord, v_th_addWord, v_th_delWord, v_th_fillWord, v_th_probes, v_th_links, v_th_looks, v_th_found, v_th_isOver])), (h_row, .inl (cyI, 1824, .inl row))] sz) := by
  refine GMetZ (by decide) rfl (Nat.le_of_ble_eq_true rfl) ?_
  intro p e s m args below meth c A Q ls hx hb hml hts hown hN hK hA hret hP hD hS hl
  have h := hf
  clear hf
  unfold fX7_isKey at h
  have hown : s.vm.findClass RX7 = some m.cls := hown
  have hl : lv_has ls 4 [(0, .ref h_th), (1, .int x0), (2, .int x1)] := hl
  refine lv_aload_n hx hb dX7_isKey_0 rfl (lv_at hl 0 rfl) ?_
  refine lv_iload_n hx hb dX7_isKey_1 rfl (lv_at hl 1 rfl) ?_
  refine lv_iload_n hx hb dX7_isKey_2 rfl (lv_at hl 2 rfl) ?_
  obtain ⟨u_1, hc_2, h⟩ := obd_e h
  refine Gci (wr := []) (va_runV (As := [.int x0, .int x1]) (rest := []) ⟨hx, hb, hml, hown, hts⟩ (cX7_below l dC dI cyI cyJ cyZ cyO s.heap.size h_th h_row v_th_undos v_th_isKept v_th_text v_th_length v_th_sizes v_th_values v_th_asked v_th_first v_th_behind v_th_readBits v_th_clauses v_th_doing v_th_numbers v_th_planWord v_th_addWord v_th_delWord v_th_fillWord v_th_probes v_th_links v_th_looks v_th_found v_th_isOver row x0 x1 u_1 hc_2) (cwV 2 hts gX7_isKey_X7_below rfl rfl rfl (by decide +kernel) ⟨Nat.le_of_ble_eq_true rfl, Nat.le_of_ble_eq_true rfl⟩) (GpreV hP hD hK hN [0, 1] rfl (by decide) 7 0 rfl rfl rfl) rfl rfl hl.1 rfl (lv_room (Nat.le_of_ble_eq_true rfl)) dX7_isKey_3 ⟨Nat.zero_le _, Nat.zero_le _⟩) hP hD hS hA [0, 1] [] rfl rfl (by decide) (by decide) (fun H locs hP hD hS => ?_)
  have hP : va_P (dC, dI) vwCl [(h_th, .inr (7, [.ref h_row, v_th_undos, v_th_isKept, v_th_text, v_th_length, v_th_sizes, v_th_values, v_th_asked, v_th_first, v_th_behind, v_th_readBits, v_th_clauses, v_th_doing, v_th_numbers, v_th_planWord, v_th_addWord, v_th_delWord, v_th_fillWord, v_th_probes, v_th_links, v_th_looks, v_th_found, v_th_isOver])), (h_row, .inl (cyI, 1824, .inl row))] H := hP
  have hD : va_D A [(h_th, .inr (7, [.ref h_row, v_th_undos, v_th_isKept, v_th_text, v_th_length, v_th_sizes, v_th_values, v_th_asked, v_th_first, v_th_behind, v_th_readBits, v_th_clauses, v_th_doing, v_th_numbers, v_th_planWord, v_th_addWord, v_th_delWord, v_th_fillWord, v_th_probes, v_th_links, v_th_looks, v_th_found, v_th_isOver])), (h_row, .inl (cyI, 1824, .inl row))] := hD
  refine lv_istore_n (lv' := [(3, .int u_1), (0, .ref h_th), (1, .int x0), (2, .int x1)]) hx hb dX7_isKey_6 rfl hl (by decide) rfl (fun ls hl => ?_)
  refine lv_iload_n hx hb dX7_isKey_7 rfl (lv_at hl 0 rfl) ?_
  refine lv_aload_n hx hb dX7_isKey_8 rfl (lv_at hl 1 rfl) ?_
  refine va_get (D := (dC, dI)) (ci := 7) (v := .ref h_row) (C := RX7) (T := TX7) (N := 23) hx hb hts (fun _ hw => List.mem_cons_of_mem _ (List.mem_append_right _ hw)) hown hK hP 0 rfl rfl 0 (by decide) (hts (.fieldLink RX7 7 "PrefixIndexModel" "row" "[I") (List.mem_of_getElem? (i := 1) rfl)) (fun _ h9 => h9) rfl dX7_isKey_9 ?_
  refine lv_iload_n hx hb dX7_isKey_12 rfl (lv_at hl 2 rfl) ?_
  refine lv_iconst (v := 2) hx hb dX7_isKey_13 (by decide) ?_
  refine lv_iadd hx hb dX7_isKey_14 ?_
  obtain ⟨hi_3, h⟩ := oin_e h
  refine va_iald hx hb hK hP 1 0 rfl rfl hi_3 dX7_isKey_15 ?_
  obtain ⟨w_5, hm_8, h⟩ := obd_e h
  have J : ∀ (H : Heap) (locs : List Loc) (ls : Array Slot), va_P (dC, dI) vwCl [(h_th, .inr (7, [.ref h_row, v_th_undos, v_th_isKept, v_th_text, v_th_length, v_th_sizes, v_th_values, v_th_asked, v_th_first, v_th_behind, v_th_readBits, v_th_clauses, v_th_doing, v_th_numbers, v_th_planWord, v_th_addWord, v_th_delWord, v_th_fillWord, v_th_probes, v_th_links, v_th_looks, v_th_found, v_th_isOver])), (h_row, .inl (cyI, 1824, .inl row))] H → va_D A [(h_th, .inr (7, [.ref h_row, v_th_undos, v_th_isKept, v_th_text, v_th_length, v_th_sizes, v_th_values, v_th_asked, v_th_first, v_th_behind, v_th_readBits, v_th_clauses, v_th_doing, v_th_numbers, v_th_planWord, v_th_addWord, v_th_delWord, v_th_fillWord, v_th_probes, v_th_links, v_th_looks, v_th_found, v_th_isOver])), (h_row, .inl (cyI, 1824, .inl row))] → va_S A s.heap H locs → lv_has ls 4 [] → W p l e ({ frames := 1, cells := 0, slots := 0, locals := 23 }) s m args below meth c H locs 0 0 Q (F0 m 39 ls [.int w_5]) := by
    intro H locs ls hP hD hS hl
    obtain ⟨hz, h⟩ := obl_e h
    obtain rfl := Option.some.inj h
    exact hret _ _ _ _ dX7_isKey_39 hz hP hD hS
  replace h := hm_8
  refine lv_icmp_ge (tgt := 38) hx hb dX7_isKey_16 (by decide) (fun c_4 => ?_) (fun c_4 => ?_)
  · have h := og_ite_t c_4 h
    refine lv_iconst (v := 0) hx hb dX7_isKey_38 (by decide) ?_
    obtain rfl := Option.some.inj h
    exact J _ _ _ hP hD hS (lv_sub hl [] rfl)
  · have h := og_ite_f c_4 h
    refine lv_aload_n hx hb dX7_isKey_19 rfl (lv_at hl 1 rfl) ?_
    refine va_get (D := (dC, dI)) (ci := 7) (v := .ref h_row) (C := RX7) (T := TX7) (N := 23) hx hb hts (fun _ hw => List.mem_cons_of_mem _ (List.mem_append_right _ hw)) hown hK hP 0 rfl rfl 0 (by decide) (hts (.fieldLink RX7 7 "PrefixIndexModel" "row" "[I") (List.mem_of_getElem? (i := 1) rfl)) (fun _ h9 => h9) rfl dX7_isKey_20 ?_
    refine lv_iload_n hx hb dX7_isKey_23 rfl (lv_at hl 2 rfl) ?_
    refine lv_bipush (v := 6) hx hb dX7_isKey_24 (by decide) ?_
    refine lv_iadd hx hb dX7_isKey_26 ?_
    refine lv_iload_n hx hb dX7_isKey_27 rfl (lv_at hl 0 rfl) ?_
    refine lv_iadd hx hb dX7_isKey_28 ?_
    obtain ⟨hi_6, h⟩ := oin_e h
    refine va_iald hx hb hK hP 1 0 rfl rfl hi_6 dX7_isKey_29 ?_
    refine lv_iload_n hx hb dX7_isKey_30 rfl (lv_at hl 3 rfl) ?_
    refine lv_icmp_ne (tgt := 38) hx hb dX7_isKey_31 (by decide) (fun c_7 => ?_) (fun c_7 => ?_)
    · have h := og_ite_f c_7 h
      refine lv_iconst (v := 0) hx hb dX7_isKey_38 (by decide) ?_
      obtain rfl := Option.some.inj h
      exact J _ _ _ hP hD hS (lv_sub hl [] rfl)
    · have h := og_ite_t c_7 h
      refine lv_iconst (v := 1) hx hb dX7_isKey_34 (by decide) ?_
      refine lv_goto (tgt := 39) hx hb dX7_isKey_35 (by decide) ?_
      obtain rfl := Option.some.inj h
      exact J _ _ _ hP hD hS (lv_sub hl [] rfl)

def fX0_top (bits : Int32) : Option (Int32) := some (((1 : Int32) <<< (bits &&& 31)) - (1 : Int32))

set_option maxHeartbeats 4000000 in
set_option maxRecDepth 100000 in
theorem cX0_top (l : Launch) (dC : Nat → ClassId) (dI : Nat → Nat → Nat) (cyI cyJ cyZ cyO : ClassId) (sz : Nat) (h_th : Nat) (v_th_keys : Value) (v_th_marks : Value) (v_th_size : Value) (v_th_keyCount : Value) (v_th_markCount : Value) (v_th_splits : Value) (v_th_joins : Value) (bits : Int32) (u : Int32) (hf : fX0_top bits = some u) : Met l yX0_top wsX0_top ({ frames := 0, cells := 0, slots := 0, locals := 0 }) (va_Pc [.ref h_th] (GP (dC, dI) (T4 cyI cyJ cyZ cyO) sz [(h_th, .inr (0, [v_th_keys, v_th_marks, .int bits, v_th_size, v_th_keyCount, v_th_markCount, v_th_splits, v_th_joins]))])) (va_Qi (fun (r : Int32) (_ : Unit) => r = u) (GB (dC, dI) [(h_th, .inr (0, [v_th_keys, v_th_marks, .int bits, v_th_size, v_th_keyCount, v_th_markCount, v_th_splits, v_th_joins]))] (va_A [(h_th, .inr (0, [v_th_keys, v_th_marks, .int bits, v_th_size, v_th_keyCount, v_th_markCount, v_th_splits, v_th_joins]))] sz)) (va_A [(h_th, .inr (0, [v_th_keys, v_th_marks, .int bits, v_th_size, v_th_keyCount, v_th_markCount, v_th_splits, v_th_joins]))] sz)) 0 0 (va_A [(h_th, .inr (0, [v_th_keys, v_th_marks, .int bits, v_th_size, v_th_keyCount, v_th_markCount, v_th_splits, v_th_joins]))] sz) := by
  refine GMetI (by decide) rfl (Nat.le_of_ble_eq_true rfl) ?_
  intro p e s m args below meth c A Q ls hx hb hml hts hown hN hK hA hret hP hD hS hl
  have h := hf
  clear hf
  unfold fX0_top at h
  have hown : s.vm.findClass RX0 = some m.cls := hown
  have hl : lv_has ls 1 [(0, .ref h_th)] := hl
  refine lv_iconst (v := 1) hx hb dX0_top_0 (by decide) ?_
  refine lv_aload_n hx hb dX0_top_1 rfl (lv_at hl 0 rfl) ?_
  refine va_get (D := (dC, dI)) (ci := 0) (v := .int bits) (C := RX0) (T := TX0) (N := 8) hx hb hts (fun _ hw => List.mem_cons_of_mem _ (List.mem_append_right _ hw)) hown hK hP 0 rfl rfl 2 (by decide) (hts (.fieldLink RX0 22 "PrefixIndex$Buckets" "bits" "I") (List.mem_of_getElem? (i := 1) rfl)) (fun _ h9 => h9) rfl dX0_top_2 ?_
  refine lv_ishl hx hb dX0_top_5 ?_
  refine lv_iconst (v := 1) hx hb dX0_top_6 (by decide) ?_
  refine lv_isub hx hb dX0_top_7 ?_
  obtain rfl := Option.some.inj h
  exact hret _ _ _ _ dX0_top_8 hP hD hS

def fX0_rankOf (keyCount : Int32) (keys : (Nat → Int32)) (x0 : Int32) : Option (Int32) := obd (fX6_firstNotBelow 96 keys keyCount x0) fun u_1 => some u_1

set_option maxHeartbeats 4000000 in
set_option maxRecDepth 100000 in
theorem cX0_rankOf (l : Launch) (dC : Nat → ClassId) (dI : Nat → Nat → Nat) (cyI cyJ cyZ cyO : ClassId) (sz : Nat) (h_th h_keys : Nat) (v_th_marks : Value) (v_th_bits : Value) (v_th_size : Value) (v_th_markCount : Value) (v_th_splits : Value) (v_th_joins : Value) (keyCount : Int32) (keys : (Nat → Int32)) (x0 : Int32) (u : Int32) (hf : fX0_rankOf keyCount keys x0 = some u) : Met l yX0_rankOf wsX0_rankOf ({ frames := 1, cells := 0, slots := 0, locals := 26 }) (va_Pc [.ref h_th, .int x0] (GP (dC, dI) (T4 cyI cyJ cyZ cyO) sz [(h_th, .inr (0, [.ref h_keys, v_th_marks, v_th_bits, v_th_size, .int keyCount, v_th_markCount, v_th_splits, v_th_joins])), (h_keys, .inl (cyI, 96, .inl keys))])) (va_Qi (fun (r : Int32) (_ : Unit) => r = u) (GB (dC, dI) [(h_th, .inr (0, [.ref h_keys, v_th_marks, v_th_bits, v_th_size, .int keyCount, v_th_markCount, v_th_splits, v_th_joins])), (h_keys, .inl (cyI, 96, .inl keys))] (va_A [(h_th, .inr (0, [.ref h_keys, v_th_marks, v_th_bits, v_th_size, .int keyCount, v_th_markCount, v_th_splits, v_th_joins])), (h_keys, .inl (cyI, 96, .inl keys))] sz)) (va_A [(h_th, .inr (0, [.ref h_keys, v_th_marks, v_th_bits, v_th_size, .int keyCount, v_th_markCount, v_th_splits, v_th_joins])), (h_keys, .inl (cyI, 96, .inl keys))] sz)) 0 0 (va_A [(h_th, .inr (0, [.ref h_keys, v_th_marks, v_th_bits, v_th_size, .int keyCount, v_th_markCount, v_th_splits, v_th_joins])), (h_keys, .inl (cyI, 96, .inl keys))] sz) := by
  refine GMetI (by decide) rfl (Nat.le_of_ble_eq_true rfl) ?_
  intro p e s m args below meth c A Q ls hx hb hml hts hown hN hK hA hret hP hD hS hl
  have h := hf
  clear hf
  unfold fX0_rankOf at h
  have hown : s.vm.findClass RX0 = some m.cls := hown
  have hl : lv_has ls 2 [(0, .ref h_th), (1, .int x0)] := hl
  refine lv_aload_n hx hb dX0_rankOf_0 rfl (lv_at hl 0 rfl) ?_
  refine va_get (D := (dC, dI)) (ci := 0) (v := .ref h_keys) (C := RX0) (T := TX0) (N := 8) hx hb hts (fun _ hw => List.mem_cons_of_mem _ (List.mem_append_right _ hw)) hown hK hP 0 rfl rfl 0 (by decide) (hts (.fieldLink RX0 9 "PrefixIndex$Buckets" "keys" "[I") (List.mem_of_getElem? (i := 1) rfl)) (fun _ h9 => h9) rfl dX0_rankOf_1 ?_
  refine lv_aload_n hx hb dX0_rankOf_4 rfl (lv_at hl 0 rfl) ?_
  refine va_get (D := (dC, dI)) (ci := 0) (v := .int keyCount) (C := RX0) (T := TX0) (N := 8) hx hb hts (fun _ hw => List.mem_cons_of_mem _ (List.mem_append_right _ hw)) hown hK hP 0 rfl rfl 4 (by decide) (hts (.fieldLink RX0 29 "PrefixIndex$Buckets" "keyCount" "I") (List.mem_of_getElem? (i := 2) rfl)) (fun _ h9 => h9) rfl dX0_rankOf_5 ?_
  refine lv_iload_n hx hb dX0_rankOf_8 rfl (lv_at hl 1 rfl) ?_
  obtain ⟨u_1, hc_2, h⟩ := obd_e h
  refine Gci (wr := [(h_th, .inr (0, [.ref h_keys, v_th_marks, v_th_bits, v_th_size, .int keyCount, v_th_markCount, v_th_splits, v_th_joins]))]) (va_runSN (As := [.ref h_keys, .int keyCount, .int x0]) (rest := []) ⟨hx, hb, hml, hown, hts⟩ (cX6_firstNotBelow l dC dI cyI cyJ cyZ cyO s.heap.size h_keys 96 keys keyCount x0 u_1 hc_2) ⟨va_cnB 3 hts gX0_rankOf_X6_firstNotBelow_n49 rfl rfl rfl (hN.m 2 rfl) (hts (.initialized RX6) (List.mem_of_getElem? (i := 4) rfl)) (by decide +kernel) ⟨Nat.le_of_ble_eq_true rfl, Nat.le_of_ble_eq_true rfl⟩, (hts (.static yX6_firstNotBelow) (List.mem_of_getElem? (i := 3) rfl)), trivial⟩ (GpreS hP hD hK hN [1] rfl (by decide)) rfl rfl hl.1 rfl (lv_room (Nat.le_of_ble_eq_true rfl)) dX0_rankOf_9 ⟨Nat.zero_le _, Nat.zero_le _⟩) hP hD hS hA [1] [0] rfl rfl (by decide) (by decide) (fun H locs hP hD hS => ?_)
  have hP : va_P (dC, dI) vwCl [(h_th, .inr (0, [.ref h_keys, v_th_marks, v_th_bits, v_th_size, .int keyCount, v_th_markCount, v_th_splits, v_th_joins])), (h_keys, .inl (cyI, 96, .inl keys))] H := hP
  have hD : va_D A [(h_th, .inr (0, [.ref h_keys, v_th_marks, v_th_bits, v_th_size, .int keyCount, v_th_markCount, v_th_splits, v_th_joins])), (h_keys, .inl (cyI, 96, .inl keys))] := hD
  obtain rfl := Option.some.inj h
  exact hret _ _ _ _ dX0_rankOf_12 hP hD hS

def lpX7_plan_3 (q1 : Int32) (q2 : Int32) (q3 : Int32) : Nat → Int32 → (Nat → Int32) → Option (Int32 × (Nat → Int32))
  | 0, _, _ => none
  | n + 1, m4, zrow => if (152 : Int32) ≤ m4 then (some (m4, zrow)) else (oin (q1 + m4) 1824 (lpX7_plan_3 q1 q2 q3 n (m4 + (1 : Int32)) (upd zrow (q1 + m4).toNatClampNeg (0 : Int32))))

def fX7_plan (row : (Nat → Int32)) (x0 : Int32) (x1 : Int32) (x2 : Int32) : Option ((Nat → Int32)) := obd (lpX7_plan_3 x0 x1 x2 100000 (0 : Int32) row) fun w_6 => oin (x0 + (0 : Int32)) 1824 (oin (x0 + (1 : Int32)) 1824 (oin (x0 + (3 : Int32)) 1824 (oin (x0 + (102 : Int32)) 1824 (some upd (upd (upd (upd w_6.2 (x0 + (0 : Int32)).toNatClampNeg x1) (x0 + (1 : Int32)).toNatClampNeg x2) (x0 + (3 : Int32)).toNatClampNeg (1 : Int32)) (x0 + (102 : Int32)).toNatClampNeg (((1 : Int32) <<< (x1 &&& 31)) - (1 : Int32))))))

set_option maxHeartbeats 4000000 in
set_option maxRecDepth 100000 in
theorem cX7_plan (l : Launch) (dC : Nat → ClassId) (dI : Nat → Nat → Nat) (cyI cyJ cyZ cyO : ClassId) (sz : Nat) (h_th h_row : Nat) (v_th_undos : Value) (v_th_isKept : Value) (v_th_text : Value) (v_th_length : Value) (v_th_sizes : Value) (v_th_values : Value) (v_th_asked : Value) (v_th_first : Value) (v_th_behind : Value) (v_th_readBits : Value) (v_th_clauses : Value) (v_th_doing : Value) (v_th_numbers : Value) (v_th_planWord : Value) (v_th_addWord : Value) (v_th_delWord : Value) (v_th_fillWord : Value) (v_th_probes : Value) (v_th_links : Value) (v_th_looks : Value) (v_th_found : Value) (v_th_isOver : Value) (row : (Nat → Int32)) (x0 : Int32) (x1 : Int32) (x2 : Int32) (u : (Nat → Int32)) (hf : fX7_plan row x0 x1 x2 = some u) : Met l yX7_plan wsX7_plan ({ frames := 0, cells := 0, slots := 0, locals := 0 }) (va_Pc [.ref h_th, .int x0, .int x1, .int x2] (GP (dC, dI) (T4 cyI cyJ cyZ cyO) sz [(h_th, .inr (7, [.ref h_row, v_th_undos, v_th_isKept, v_th_text, v_th_length, v_th_sizes, v_th_values, v_th_asked, v_th_first, v_th_behind, v_th_readBits, v_th_clauses, v_th_doing, v_th_numbers, v_th_planWord, v_th_addWord, v_th_delWord, v_th_fillWord, v_th_probes, v_th_links, v_th_looks, v_th_found, v_th_isOver])), (h_row, .inl (cyI, 1824, .inl row))])) (va_Qv (fun (_ : Unit) => True) (GB (dC, dI) [(h_th, .inr (7, [.ref h_row, v_th_undos, v_th_isKept, v_th_text, v_th_length, v_th_sizes, v_th_values, v_th_asked, v_th_first, v_th_behind, v_th_readBits, v_th_clauses, v_th_doing, v_th_numbers, v_th_planWord, v_th_addWord, v_th_delWord, v_th_fillWord, v_th_probes, v_th_links, v_th_looks, v_th_found, v_th_isOver])), (h_row, .inl (cyI, 1824, .inl u))] (va_A [(h_th, .inr (7, [.ref h_row, v_th_undos, v_th_isKept, v_th_text, v_th_length, v_th_sizes, v_th_values, v_th_asked, v_th_first, v_th_behind, v_th_readBits, v_th_clauses, v_th_doing, v_th_numbers, v_th_planWord, v_th_addWord, v_th_delWord, v_th_fillWord, v_th_probes, v_th_links, v_th_looks, v_th_found, v_th_isOver])), (h_row, .inl (cyI, 1824, .inl row))] sz)) (va_A [(h_th, .inr (7, [.ref h_row, v_th_undos, v_th_isKept, v_th_text, v_th_length, v_th_sizes, v_th_values, v_th_asked, v_th_first, v_th_behind, v_th_readBits, v_th_clauses, v_th_doing, v_th_numbers, v_th_planWord, v_th_addWord, v_th_delWord, v_th_fillWord, v_th_probes, v_th_links, v_th_looks, v_th_found, v_th_isOver])), (h_row, .inl (cyI, 1824, .inl row))] sz)) 0 0 (va_A [(h_th, .inr (7, [.ref h_row, v_th_undos, v_th_isKept, v_th_text, v_th_length, v_th_sizes, v_th_values, v_th_asked, v_th_first, v_th_behind, v_th_readBits, v_th_clauses, v_th_doing, v_th_numbers, v_th_planWord, v_th_addWord, v_th_delWord, v_th_fillWord, v_th_probes, v_th_links, v_th_looks, v_th_found, v_th_isOver])), (h_row, .inl (cyI, 1824, .inl row))] sz) := by
  refine GMetV (by decide) rfl (Nat.le_of_ble_eq_true rfl) ?_
  intro p e s m args below meth c A Q ls hx hb hml hts hown hN hK hA hret hP hD hS hl
  have h := hf
  clear hf
  unfold fX7_plan at h
  have hown : s.vm.findClass RX7 = some m.cls := hown
  have hl : lv_has ls 5 [(0, .ref h_th), (1, .int x0), (2, .int x1), (3, .int x2)] := hl
  refine lv_iconst (v := 0) hx hb dX7_plan_0 (by decide) ?_
  refine lv_istore (lv' := [(4, .int (0 : Int32)), (0, .ref h_th), (1, .int x0), (2, .int x1), (3, .int x2)]) hx hb dX7_plan_1 hl (by decide) rfl (fun ls hl => ?_)
  obtain ⟨w_6, hw_7, h⟩ := obd_e h
  have J : ∀ (H : Heap) (locs : List Loc) (ls : Array Slot), va_P (dC, dI) vwCl [(h_th, .inr (7, [.ref h_row, v_th_undos, v_th_isKept, v_th_text, v_th_length, v_th_sizes, v_th_values, v_th_asked, v_th_first, v_th_behind, v_th_readBits, v_th_clauses, v_th_doing, v_th_numbers, v_th_planWord, v_th_addWord, v_th_delWord, v_th_fillWord, v_th_probes, v_th_links, v_th_looks, v_th_found, v_th_isOver])), (h_row, .inl (cyI, 1824, .inl w_6.2))] H → va_D A [(h_th, .inr (7, [.ref h_row, v_th_undos, v_th_isKept, v_th_text, v_th_length, v_th_sizes, v_th_values, v_th_asked, v_th_first, v_th_behind, v_th_readBits, v_th_clauses, v_th_doing, v_th_numbers, v_th_planWord, v_th_addWord, v_th_delWord, v_th_fillWord, v_th_probes, v_th_links, v_th_looks, v_th_found, v_th_isOver])), (h_row, .inl (cyI, 1824, .inl w_6.2))] → va_S A s.heap H locs → lv_has ls 5 [(0, .ref h_th), (1, .int x0), (2, .int x1), (3, .int x2)] → W p l e ({ frames := 0, cells := 0, slots := 0, locals := 0 }) s m args below meth c H locs 0 0 Q (F0 m 27 ls []) := by
    intro H locs ls hP hD hS hl
    refine lv_aload_n hx hb dX7_plan_27 rfl (lv_at hl 0 rfl) ?_
    refine va_get (D := (dC, dI)) (ci := 7) (v := .ref h_row) (C := RX7) (T := TX7) (N := 23) hx hb hts (fun _ hw => List.mem_cons_of_mem _ (List.mem_append_right _ hw)) hown hK hP 0 rfl rfl 0 (by decide) (hts (.fieldLink RX7 7 "PrefixIndexModel" "row" "[I") (List.mem_of_getElem? (i := 1) rfl)) (fun _ h9 => h9) rfl dX7_plan_28 ?_
    refine lv_iload_n hx hb dX7_plan_31 rfl (lv_at hl 1 rfl) ?_
    refine lv_iconst (v := 0) hx hb dX7_plan_32 (by decide) ?_
    refine lv_iadd hx hb dX7_plan_33 ?_
    refine lv_iload_n hx hb dX7_plan_34 rfl (lv_at hl 2 rfl) ?_
    obtain ⟨hi_8, h⟩ := oin_e h
    refine va_iast hx hb hK hP hD hS 1 0 rfl rfl hi_8 dX7_plan_35 (fun H locs hP hD hS => ?_)
    have hP : va_P (dC, dI) vwCl [(h_th, .inr (7, [.ref h_row, v_th_undos, v_th_isKept, v_th_text, v_th_length, v_th_sizes, v_th_values, v_th_asked, v_th_first, v_th_behind, v_th_readBits, v_th_clauses, v_th_doing, v_th_numbers, v_th_planWord, v_th_addWord, v_th_delWord, v_th_fillWord, v_th_probes, v_th_links, v_th_looks, v_th_found, v_th_isOver])), (h_row, .inl (cyI, 1824, .inl (upd w_6.2 (x0 + (0 : Int32)).toNatClampNeg x1)))] H := hP
    have hD : va_D A [(h_th, .inr (7, [.ref h_row, v_th_undos, v_th_isKept, v_th_text, v_th_length, v_th_sizes, v_th_values, v_th_asked, v_th_first, v_th_behind, v_th_readBits, v_th_clauses, v_th_doing, v_th_numbers, v_th_planWord, v_th_addWord, v_th_delWord, v_th_fillWord, v_th_probes, v_th_links, v_th_looks, v_th_found, v_th_isOver])), (h_row, .inl (cyI, 1824, .inl (upd w_6.2 (x0 + (0 : Int32)).toNatClampNeg x1)))] := hD
    refine lv_aload_n hx hb dX7_plan_36 rfl (lv_at hl 0 rfl) ?_
    refine va_get (D := (dC, dI)) (ci := 7) (v := .ref h_row) (C := RX7) (T := TX7) (N := 23) hx hb hts (fun _ hw => List.mem_cons_of_mem _ (List.mem_append_right _ hw)) hown hK hP 0 rfl rfl 0 (by decide) (hts (.fieldLink RX7 7 "PrefixIndexModel" "row" "[I") (List.mem_of_getElem? (i := 1) rfl)) (fun _ h9 => h9) rfl dX7_plan_37 ?_
    refine lv_iload_n hx hb dX7_plan_40 rfl (lv_at hl 1 rfl) ?_
    refine lv_iconst (v := 1) hx hb dX7_plan_41 (by decide) ?_
    refine lv_iadd hx hb dX7_plan_42 ?_
    refine lv_iload_n hx hb dX7_plan_43 rfl (lv_at hl 3 rfl) ?_
    obtain ⟨hi_9, h⟩ := oin_e h
    refine va_iast hx hb hK hP hD hS 1 0 rfl rfl hi_9 dX7_plan_44 (fun H locs hP hD hS => ?_)
    have hP : va_P (dC, dI) vwCl [(h_th, .inr (7, [.ref h_row, v_th_undos, v_th_isKept, v_th_text, v_th_length, v_th_sizes, v_th_values, v_th_asked, v_th_first, v_th_behind, v_th_readBits, v_th_clauses, v_th_doing, v_th_numbers, v_th_planWord, v_th_addWord, v_th_delWord, v_th_fillWord, v_th_probes, v_th_links, v_th_looks, v_th_found, v_th_isOver])), (h_row, .inl (cyI, 1824, .inl (upd (upd w_6.2 (x0 + (0 : Int32)).toNatClampNeg x1) (x0 + (1 : Int32)).toNatClampNeg x2)))] H := hP
    have hD : va_D A [(h_th, .inr (7, [.ref h_row, v_th_undos, v_th_isKept, v_th_text, v_th_length, v_th_sizes, v_th_values, v_th_asked, v_th_first, v_th_behind, v_th_readBits, v_th_clauses, v_th_doing, v_th_numbers, v_th_planWord, v_th_addWord, v_th_delWord, v_th_fillWord, v_th_probes, v_th_links, v_th_looks, v_th_found, v_th_isOver])), (h_row, .inl (cyI, 1824, .inl (upd (upd w_6.2 (x0 + (0 : Int32)).toNatClampNeg x1) (x0 + (1 : Int32)).toNatClampNeg x2)))] := hD
    refine lv_aload_n hx hb dX7_plan_45 rfl (lv_at hl 0 rfl) ?_
    refine va_get (D := (dC, dI)) (ci := 7) (v := .ref h_row) (C := RX7) (T := TX7) (N := 23) hx hb hts (fun _ hw => List.mem_cons_of_mem _ (List.mem_append_right _ hw)) hown hK hP 0 rfl rfl 0 (by decide) (hts (.fieldLink RX7 7 "PrefixIndexModel" "row" "[I") (List.mem_of_getElem? (i := 1) rfl)) (fun _ h9 => h9) rfl dX7_plan_46 ?_
    refine lv_iload_n hx hb dX7_plan_49 rfl (lv_at hl 1 rfl) ?_
    refine lv_iconst (v := 3) hx hb dX7_plan_50 (by decide) ?_
    refine lv_iadd hx hb dX7_plan_51 ?_
    refine lv_iconst (v := 1) hx hb dX7_plan_52 (by decide) ?_
    obtain ⟨hi_10, h⟩ := oin_e h
    refine va_iast hx hb hK hP hD hS 1 0 rfl rfl hi_10 dX7_plan_53 (fun H locs hP hD hS => ?_)
    have hP : va_P (dC, dI) vwCl [(h_th, .inr (7, [.ref h_row, v_th_undos, v_th_isKept, v_th_text, v_th_length, v_th_sizes, v_th_values, v_th_asked, v_th_first, v_th_behind, v_th_readBits, v_th_clauses, v_th_doing, v_th_numbers, v_th_planWord, v_th_addWord, v_th_delWord, v_th_fillWord, v_th_probes, v_th_links, v_th_looks, v_th_found, v_th_isOver])), (h_row, .inl (cyI, 1824, .inl (upd (upd (upd w_6.2 (x0 + (0 : Int32)).toNatClampNeg x1) (x0 + (1 : Int32)).toNatClampNeg x2) (x0 + (3 : Int32)).toNatClampNeg (1 : Int32))))] H := hP
    have hD : va_D A [(h_th, .inr (7, [.ref h_row, v_th_undos, v_th_isKept, v_th_text, v_th_length, v_th_sizes, v_th_values, v_th_asked, v_th_first, v_th_behind, v_th_readBits, v_th_clauses, v_th_doing, v_th_numbers, v_th_planWord, v_th_addWord, v_th_delWord, v_th_fillWord, v_th_probes, v_th_links, v_th_looks, v_th_found, v_th_isOver])), (h_row, .inl (cyI, 1824, .inl (upd (upd (upd w_6.2 (x0 + (0 : Int32)).toNatClampNeg x1) (x0 + (1 : Int32)).toNatClampNeg x2) (x0 + (3 : Int32)).toNatClampNeg (1 : Int32))))] := hD
    refine lv_aload_n hx hb dX7_plan_54 rfl (lv_at hl 0 rfl) ?_
    refine va_get (D := (dC, dI)) (ci := 7) (v := .ref h_row) (C := RX7) (T := TX7) (N := 23) hx hb hts (fun _ hw => List.mem_cons_of_mem _ (List.mem_append_right _ hw)) hown hK hP 0 rfl rfl 0 (by decide) (hts (.fieldLink RX7 7 "PrefixIndexModel" "row" "[I") (List.mem_of_getElem? (i := 1) rfl)) (fun _ h9 => h9) rfl dX7_plan_55 ?_
    refine lv_iload_n hx hb dX7_plan_58 rfl (lv_at hl 1 rfl) ?_
    refine lv_bipush (v := 102) hx hb dX7_plan_59 (by decide) ?_
    refine lv_iadd hx hb dX7_plan_61 ?_
    refine lv_iconst (v := 1) hx hb dX7_plan_62 (by decide) ?_
    refine lv_iload_n hx hb dX7_plan_63 rfl (lv_at hl 2 rfl) ?_
    refine lv_ishl hx hb dX7_plan_64 ?_
    refine lv_iconst (v := 1) hx hb dX7_plan_65 (by decide) ?_
    refine lv_isub hx hb dX7_plan_66 ?_
    obtain ⟨hi_11, h⟩ := oin_e h
    refine va_iast hx hb hK hP hD hS 1 0 rfl rfl hi_11 dX7_plan_67 (fun H locs hP hD hS => ?_)
    have hP : va_P (dC, dI) vwCl [(h_th, .inr (7, [.ref h_row, v_th_undos, v_th_isKept, v_th_text, v_th_length, v_th_sizes, v_th_values, v_th_asked, v_th_first, v_th_behind, v_th_readBits, v_th_clauses, v_th_doing, v_th_numbers, v_th_planWord, v_th_addWord, v_th_delWord, v_th_fillWord, v_th_probes, v_th_links, v_th_looks, v_th_found, v_th_isOver])), (h_row, .inl (cyI, 1824, .inl (upd (upd (upd (upd w_6.2 (x0 + (0 : Int32)).toNatClampNeg x1) (x0 + (1 : Int32)).toNatClampNeg x2) (x0 + (3 : Int32)).toNatClampNeg (1 : Int32)) (x0 + (102 : Int32)).toNatClampNeg (((1 : Int32) <<< (x1 &&& 31)) - (1 : Int32)))))] H := hP
    have hD : va_D A [(h_th, .inr (7, [.ref h_row, v_th_undos, v_th_isKept, v_th_text, v_th_length, v_th_sizes, v_th_values, v_th_asked, v_th_first, v_th_behind, v_th_readBits, v_th_clauses, v_th_doing, v_th_numbers, v_th_planWord, v_th_addWord, v_th_delWord, v_th_fillWord, v_th_probes, v_th_links, v_th_looks, v_th_found, v_th_isOver])), (h_row, .inl (cyI, 1824, .inl (upd (upd (upd (upd w_6.2 (x0 + (0 : Int32)).toNatClampNeg x1) (x0 + (1 : Int32)).toNatClampNeg x2) (x0 + (3 : Int32)).toNatClampNeg (1 : Int32)) (x0 + (102 : Int32)).toNatClampNeg (((1 : Int32) <<< (x1 &&& 31)) - (1 : Int32)))))] := hD
    obtain rfl := Option.some.inj h
    exact hret _ _ _ _ dX7_plan_68 hP hD hS
  have LL : ∀ (n : Nat) (m4 : Int32) (zrow : (Nat → Int32)) (H : Heap) (locs : List Loc) (ls : Array Slot), lpX7_plan_3 x0 x1 x2 n m4 zrow = some w_6 → va_P (dC, dI) vwCl [(h_th, .inr (7, [.ref h_row, v_th_undos, v_th_isKept, v_th_text, v_th_length, v_th_sizes, v_th_values, v_th_asked, v_th_first, v_th_behind, v_th_readBits, v_th_clauses, v_th_doing, v_th_numbers, v_th_planWord, v_th_addWord, v_th_delWord, v_th_fillWord, v_th_probes, v_th_links, v_th_looks, v_th_found, v_th_isOver])), (h_row, .inl (cyI, 1824, .inl zrow))] H → va_D A [(h_th, .inr (7, [.ref h_row, v_th_undos, v_th_isKept, v_th_text, v_th_length, v_th_sizes, v_th_values, v_th_asked, v_th_first, v_th_behind, v_th_readBits, v_th_clauses, v_th_doing, v_th_numbers, v_th_planWord, v_th_addWord, v_th_delWord, v_th_fillWord, v_th_probes, v_th_links, v_th_looks, v_th_found, v_th_isOver])), (h_row, .inl (cyI, 1824, .inl zrow))] → va_S A s.heap H locs → lv_has ls 5 [(0, .ref h_th), (1, .int x0), (2, .int x1), (3, .int x2), (4, .int m4)] → W p l e ({ frames := 0, cells := 0, slots := 0, locals := 0 }) s m args below meth c H locs 0 0 Q (F0 m 3 ls []) := by
    intro n
    induction n with
    | zero =>
      intro m4 zrow H locs ls h
      exact absurd h (by rw [lpX7_plan_3]; exact fun q => by cases q)
    | succ n ih =>
      intro m4 zrow H locs ls h hP hD hS hl
      rw [lpX7_plan_3] at h
      refine lv_iload hx hb dX7_plan_3 (lv_at hl 4 rfl) ?_
      refine lv_sipush (v := 152) hx hb dX7_plan_5 (by decide) ?_
      refine lv_icmp_ge (tgt := 27) hx hb dX7_plan_8 (by decide) (fun c_4 => ?_) (fun c_4 => ?_)
      · have h := og_ite_t c_4 h
        obtain rfl := Option.some.inj h
        exact J _ _ _ hP hD hS (lv_sub hl [0, 1, 2, 3] rfl)
      · have h := og_ite_f c_4 h
        refine lv_aload_n hx hb dX7_plan_11 rfl (lv_at hl 0 rfl) ?_
        refine va_get (D := (dC, dI)) (ci := 7) (v := .ref h_row) (C := RX7) (T := TX7) (N := 23) hx hb hts (fun _ hw => List.mem_cons_of_mem _ (List.mem_append_right _ hw)) hown hK hP 0 rfl rfl 0 (by decide) (hts (.fieldLink RX7 7 "PrefixIndexModel" "row" "[I") (List.mem_of_getElem? (i := 1) rfl)) (fun _ h9 => h9) rfl dX7_plan_12 ?_
        refine lv_iload_n hx hb dX7_plan_15 rfl (lv_at hl 1 rfl) ?_
        refine lv_iload hx hb dX7_plan_16 (lv_at hl 4 rfl) ?_
        refine lv_iadd hx hb dX7_plan_18 ?_
        refine lv_iconst (v := 0) hx hb dX7_plan_19 (by decide) ?_
        obtain ⟨hi_5, h⟩ := oin_e h
        refine va_iast hx hb hK hP hD hS 1 0 rfl rfl hi_5 dX7_plan_20 (fun H locs hP hD hS => ?_)
        have hP : va_P (dC, dI) vwCl [(h_th, .inr (7, [.ref h_row, v_th_undos, v_th_isKept, v_th_text, v_th_length, v_th_sizes, v_th_values, v_th_asked, v_th_first, v_th_behind, v_th_readBits, v_th_clauses, v_th_doing, v_th_numbers, v_th_planWord, v_th_addWord, v_th_delWord, v_th_fillWord, v_th_probes, v_th_links, v_th_looks, v_th_found, v_th_isOver])), (h_row, .inl (cyI, 1824, .inl (upd zrow (x0 + m4).toNatClampNeg (0 : Int32))))] H := hP
        have hD : va_D A [(h_th, .inr (7, [.ref h_row, v_th_undos, v_th_isKept, v_th_text, v_th_length, v_th_sizes, v_th_values, v_th_asked, v_th_first, v_th_behind, v_th_readBits, v_th_clauses, v_th_doing, v_th_numbers, v_th_planWord, v_th_addWord, v_th_delWord, v_th_fillWord, v_th_probes, v_th_links, v_th_looks, v_th_found, v_th_isOver])), (h_row, .inl (cyI, 1824, .inl (upd zrow (x0 + m4).toNatClampNeg (0 : Int32))))] := hD
        refine lv_iinc (v := m4 + (1 : Int32)) (lv' := [(4, .int (m4 + (1 : Int32))), (0, .ref h_th), (1, .int x0), (2, .int x1), (3, .int x2)]) hx hb dX7_plan_21 hl (k := 4) rfl rfl (by decide) rfl (fun ls hl => ?_)
        refine lv_goto (tgt := 3) hx hb dX7_plan_24 (by decide) ?_
        exact ih (m4 + (1 : Int32)) (upd zrow (x0 + m4).toNatClampNeg (0 : Int32)) _ _ _ h hP hD hS (lv_sub hl [1, 2, 3, 4, 0] rfl)
  exact LL _ (0 : Int32) row _ _ _ hw_7 hP hD hS (lv_sub hl [1, 2, 3, 4, 0] rfl)

