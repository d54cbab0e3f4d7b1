def lpX1_probe_11 (q2 : Int32) (o0_bits : Int32) (o0_markCount : Int32) (o0_marks : (Nat → Int32)) : Nat → Int32 → Int32 → Int32 → Option (Int32 × Int32 × Int32)
  | 0, _, _, _ => none
  | n + 1, m3, m4, m5 => if m4 ≤ m3 then (some (m3, m4, m5)) else (if (32 : Int32) ≤ m5 then (some (m3, m4, m5)) else (obd (fX0_beginningOf o0_bits q2 (((m3 + m4) + (1 : Int32)) / (2 : Int32))) fun u_5 => obd (fX0_isBeginning o0_bits o0_markCount o0_marks (((m3 + m4) + (1 : Int32)) / (2 : Int32)) u_5) fun u_7 => olet (if u_7 = 0 then (m3) else (((m3 + m4) + (1 : Int32)) / (2 : Int32))) fun y_10 => olet (if u_7 = 0 then ((((m3 + m4) + (1 : Int32)) / (2 : Int32)) - (1 : Int32)) else (m4)) fun y_11 => lpX1_probe_11 q2 o0_bits o0_markCount o0_marks n y_10 y_11 (m5 + (1 : Int32))))

def fX1_probe (probes : Int32) (length : Int32) (o0_bits : Int32) (o0_markCount : Int32) (o0_marks : (Nat → Int32)) (x1 : Int32) : Option (Int32 × Int32) := obd (lpX1_probe_11 x1 o0_bits o0_markCount o0_marks 100000 (0 : Int32) o0_bits (0 : Int32)) fun w_22 => some (w_22.2.2, w_22.1)

set_option maxHeartbeats 4000000 in
set_option maxRecDepth 100000 in
theorem tX1_probe (l : Launch) (dC : Nat → ClassId) (dI : Nat → Nat → Nat) (cyI cyJ cyZ cyO : ClassId) (sz : Nat) (h_th h_o0 h_o0_marks : Nat) (v_th_links : Value) (v_th_looks : Value) (v_th_bucket : Value) (v_o0_keys : Value) (v_o0_size : Value) (v_o0_keyCount : Value) (v_o0_splits : Value) (v_o0_joins : Value) (probes : Int32) (length : Int32) (o0_bits : Int32) (o0_markCount : Int32) (o0_marks : (Nat → Int32)) (x1 : Int32) (u : Int32 × Int32) (hf : fX1_probe probes length o0_bits o0_markCount o0_marks x1 = some u) : Met l yX1_probe wsX1_probe ({ frames := 3, cells := 0, slots := 0, locals := 70 }) (va_Pc [.ref h_th, .ref h_o0, .int x1] (GP (dC, dI) (T4 cyI cyJ cyZ cyO) sz [(h_th, .inr (1, [.int probes, v_th_links, v_th_looks, .int length, v_th_bucket])), (h_o0, .inr (0, [v_o0_keys, .ref h_o0_marks, .int o0_bits, v_o0_size, v_o0_keyCount, .int o0_markCount, v_o0_splits, v_o0_joins])), (h_o0_marks, .inl (cyI, 48, .inl o0_marks))])) (va_Qv (fun (_ : Unit) => True) (GB (dC, dI) [(h_th, .inr (1, [.int u.1, v_th_links, v_th_looks, .int u.2, v_th_bucket])), (h_o0, .inr (0, [v_o0_keys, .ref h_o0_marks, .int o0_bits, v_o0_size, v_o0_keyCount, .int o0_markCount, v_o0_splits, v_o0_joins])), (h_o0_marks, .inl (cyI, 48, .inl o0_marks))] (va_A [(h_th, .inr (1, [.int probes, v_th_links, v_th_looks, .int length, v_th_bucket])), (h_o0, .inr (0, [v_o0_keys, .ref h_o0_marks, .int o0_bits, v_o0_size, v_o0_keyCount, .int o0_markCount, v_o0_splits, v_o0_joins])), (h_o0_marks, .inl (cyI, 48, .inl o0_marks))] sz)) (va_A [(h_th, .inr (1, [.int probes, v_th_links, v_th_looks, .int length, v_th_bucket])), (h_o0, .inr (0, [v_o0_keys, .ref h_o0_marks, .int o0_bits, v_o0_size, v_o0_keyCount, .int o0_markCount, v_o0_splits, v_o0_joins])), (h_o0_marks, .inl (cyI, 48, .inl o0_marks))] sz)) 0 0 (va_A [(h_th, .inr (1, [.int probes, v_th_links, v_th_looks, .int length, v_th_bucket])), (h_o0, .inr (0, [v_o0_keys, .ref h_o0_marks, .int o0_bits, v_o0_size, v_o0_keyCount, .int o0_markCount, v_o0_splits, v_o0_joins])), (h_o0_marks, .inl (cyI, 48, .inl o0_marks))] sz) := by
  refine GMetV (by decide) rfl (Nat.le_of_ble_eq_true rfl) ?_
  intro p e s m args below meth c A Q ls hx hb hml hts hown hN hK hA hret hP hD hS hl
  have h := hf
  clear hf
  unfold fX1_probe at h
  have hown : s.vm.findClass RX1 = some m.cls := hown
  have hl : lv_has ls 7 [(0, .ref h_th), (1, .ref h_o0), (2, .int x1)] := hl
  refine lv_iconst (v := 0) hx hb dX1_probe_0 (by decide) ?_
  refine lv_istore_n (lv' := [(3, .int (0 : Int32)), (0, .ref h_th), (1, .ref h_o0), (2, .int x1)]) hx hb dX1_probe_1 rfl hl (by decide) rfl (fun ls hl => ?_)
  refine lv_aload_n hx hb dX1_probe_2 rfl (lv_at hl 2 rfl) ?_
  refine va_getN (D := (dC, dI)) (ci := 0) (v := .int o0_bits) (C := RX0) (T := TX0) (N := 8) hx hb hts (fun _ hw => List.mem_cons_of_mem _ (List.mem_append_left _ (List.mem_append_right _ hw))) hown hK hP 1 rfl rfl 2 (by decide) (hN.f 0 rfl) (fun _ h9 => h9) rfl dX1_probe_3 ?_
  refine lv_istore (lv' := [(4, .int o0_bits), (3, .int (0 : Int32)), (0, .ref h_th), (1, .ref h_o0), (2, .int x1)]) hx hb dX1_probe_6 hl (by decide) rfl (fun ls hl => ?_)
  refine lv_iconst (v := 0) hx hb dX1_probe_8 (by decide) ?_
  refine lv_istore (lv' := [(5, .int (0 : Int32)), (4, .int o0_bits), (3, .int (0 : Int32)), (0, .ref h_th), (1, .ref h_o0), (2, .int x1)]) hx hb dX1_probe_9 hl (by decide) rfl (fun ls hl => ?_)
  obtain ⟨w_22, hw_23, h⟩ := obd_e h
  have J : ∀ (H : Heap) (locs : List Loc) (ls : Array Slot), va_P (dC, dI) vwCl [(h_th, .inr (1, [.int probes, v_th_links, v_th_looks, .int length, v_th_bucket])), (h_o0, .inr (0, [v_o0_keys, .ref h_o0_marks, .int o0_bits, v_o0_size, v_o0_keyCount, .int o0_markCount, v_o0_splits, v_o0_joins])), (h_o0_marks, .inl (cyI, 48, .inl o0_marks))] H → va_D A [(h_th, .inr (1, [.int probes, v_th_links, v_th_looks, .int length, v_th_bucket])), (h_o0, .inr (0, [v_o0_keys, .ref h_o0_marks, .int o0_bits, v_o0_size, v_o0_keyCount, .int o0_markCount, v_o0_splits, v_o0_joins])), (h_o0_marks, .inl (cyI, 48, .inl o0_marks))] → va_S A s.heap H locs → lv_has ls 7 [(0, .ref h_th), (3, .int w_22.1), (5, .int w_22.2.2)] → W p l e ({ frames := 3, cells := 0, slots := 0, locals := 70 }) s m args below meth c H locs 0 0 Q (F0 m 68 ls []) := by
    intro H locs ls hP hD hS hl
    refine lv_aload_n hx hb dX1_probe_68 rfl (lv_at hl 0 rfl) ?_
    refine lv_iload hx hb dX1_probe_69 (lv_at hl 2 rfl) ?_
    refine va_put (D := (dC, dI)) (ci := 1) (v := .int w_22.2.2) (ty := .int) (C := RX1) (T := TX1) (N := 5) hx hb hts (fun _ hw => List.mem_cons_of_mem _ (List.mem_append_right _ hw)) tyX1 tyX1_ok nmX1 hown hK hP hD hS 0 rfl rfl 0 (by decide) (hts (.fieldLink RX1 45 "PrefixIndex$Finding" "probes" "I") (List.mem_of_getElem? (i := 1) rfl)) (fun _ h9 => h9) rfl (by decide +kernel) rfl rfl (Nat.le_of_ble_eq_true rfl) dX1_probe_71 (fun H locs hP hD hS => ?_)
    have hP : va_P (dC, dI) vwCl [(h_th, .inr (1, [.int w_22.2.2, v_th_links, v_th_looks, .int length, v_th_bucket])), (h_o0, .inr (0, [v_o0_keys, .ref h_o0_marks, .int o0_bits, v_o0_size, v_o0_keyCount, .int o0_markCount, v_o0_splits, v_o0_joins])), (h_o0_marks, .inl (cyI, 48, .inl o0_marks))] H := hP
    have hD : va_D A [(h_th, .inr (1, [.int w_22.2.2, v_th_links, v_th_looks, .int length, v_th_bucket])), (h_o0, .inr (0, [v_o0_keys, .ref h_o0_marks, .int o0_bits, v_o0_size, v_o0_keyCount, .int o0_markCount, v_o0_splits, v_o0_joins])), (h_o0_marks, .inl (cyI, 48, .inl o0_marks))] := hD
    refine lv_aload_n hx hb dX1_probe_74 rfl (lv_at hl 0 rfl) ?_
    refine lv_iload_n hx hb dX1_probe_75 rfl (lv_at hl 1 rfl) ?_
    refine va_put (D := (dC, dI)) (ci := 1) (v := .int w_22.1) (ty := .int) (C := RX1) (T := TX1) (N := 5) hx hb hts (fun _ hw => List.mem_cons_of_mem _ (List.mem_append_right _ hw)) tyX1 tyX1_ok nmX1 hown hK hP hD hS 0 rfl rfl 3 (by decide) (hts (.fieldLink RX1 15 "PrefixIndex$Finding" "length" "I") (List.mem_of_getElem? (i := 2) rfl)) (fun _ h9 => h9) rfl (by decide +kernel) rfl rfl (Nat.le_of_ble_eq_true rfl) dX1_probe_76 (fun H locs hP hD hS => ?_)
    have hP : va_P (dC, dI) vwCl [(h_th, .inr (1, [.int w_22.2.2, v_th_links, v_th_looks, .int w_22.1, v_th_bucket])), (h_o0, .inr (0, [v_o0_keys, .ref h_o0_marks, .int o0_bits, v_o0_size, v_o0_keyCount, .int o0_markCount, v_o0_splits, v_o0_joins])), (h_o0_marks, .inl (cyI, 48, .inl o0_marks))] H := hP
    have hD : va_D A [(h_th, .inr (1, [.int w_22.2.2, v_th_links, v_th_looks, .int w_22.1, v_th_bucket])), (h_o0, .inr (0, [v_o0_keys, .ref h_o0_marks, .int o0_bits, v_o0_size, v_o0_keyCount, .int o0_markCount, v_o0_splits, v_o0_joins])), (h_o0_marks, .inl (cyI, 48, .inl o0_marks))] := hD
    obtain rfl := Option.some.inj h
    exact hret _ _ _ _ dX1_probe_79 hP hD hS
  have LL : ∀ (n : Nat) (m3 : Int32) (m4 : Int32) (m5 : Int32) (H : Heap) (locs : List Loc) (ls : Array Slot), lpX1_probe_11 x1 o0_bits o0_markCount o0_marks n m3 m4 m5 = some w_22 → va_P (dC, dI) vwCl [(h_th, .inr (1, [.int probes, v_th_links, v_th_looks, .int length, v_th_bucket])), (h_o0, .inr (0, [v_o0_keys, .ref h_o0_marks, .int o0_bits, v_o0_size, v_o0_keyCount, .int o0_markCount, v_o0_splits, v_o0_joins])), (h_o0_marks, .inl (cyI, 48, .inl o0_marks))] H → va_D A [(h_th, .inr (1, [.int probes, v_th_links, v_th_looks, .int length, v_th_bucket])), (h_o0, .inr (0, [v_o0_keys, .ref h_o0_marks, .int o0_bits, v_o0_size, v_o0_keyCount, .int o0_markCount, v_o0_splits, v_o0_joins])), (h_o0_marks, .inl (cyI, 48, .inl o0_marks))] → va_S A s.heap H locs → lv_has ls 7 [(0, .ref h_th), (1, .ref h_o0), (2, .int x1), (3, .int m3), (4, .int m4), (5, .int m5)] → W p l e ({ frames := 3, cells := 0, slots := 0, locals := 70 }) s m args below meth c H locs 0 0 Q (F0 m 11 ls []) := by
    intro n
    induction n with
    | zero =>
      intro m3 m4 m5 H locs ls h
      exact absurd h (by rw [lpX1_probe_11]; exact fun q => by cases q)
    | succ n ih =>
      intro m3 m4 m5 H locs ls h hP hD hS hl
      rw [lpX1_probe_11] at h
      refine lv_iload_n hx hb dX1_probe_11 rfl (lv_at hl 3 rfl) ?_
      refine lv_iload hx hb dX1_probe_12 (lv_at hl 4 rfl) ?_
      refine lv_icmp_ge (tgt := 68) hx hb dX1_probe_14 (by decide) (fun c_12 => ?_) (fun c_12 => ?_)
      · have h := og_ite_t c_12 h
        obtain rfl := Option.some.inj h
        exact J _ _ _ hP hD hS (lv_sub hl [0, 3, 5] rfl)
      · have h := og_ite_f c_12 h
        refine lv_iload hx hb dX1_probe_17 (lv_at hl 5 rfl) ?_
        refine lv_bipush (v := 32) hx hb dX1_probe_19 (by decide) ?_
        refine lv_icmp_ge (tgt := 68) hx hb dX1_probe_21 (by decide) (fun c_13 => ?_) (fun c_13 => ?_)
        · have h := og_ite_t c_13 h
          obtain rfl := Option.some.inj h
          exact J _ _ _ hP hD hS (lv_sub hl [0, 3, 5] rfl)
        · have h := og_ite_f c_13 h
          refine lv_iload_n hx hb dX1_probe_24 rfl (lv_at hl 3 rfl) ?_
          refine lv_iload hx hb dX1_probe_25 (lv_at hl 4 rfl) ?_
          refine lv_iadd hx hb dX1_probe_27 ?_
          refine lv_iconst (v := 1) hx hb dX1_probe_28 (by decide) ?_
          refine lv_iadd hx hb dX1_probe_29 ?_
          refine lv_iconst (v := 2) hx hb dX1_probe_30 (by decide) ?_
          refine lv_idiv hx hb dX1_probe_31 (by decide) ?_
          refine lv_istore (lv' := [(6, .int (((m3 + m4) + (1 : Int32)) / (2 : Int32))), (0, .ref h_th), (1, .ref h_o0), (2, .int x1), (3, .int m3), (4, .int m4), (5, .int m5)]) hx hb dX1_probe_32 hl (by decide) rfl (fun ls hl => ?_)
          refine lv_aload_n hx hb dX1_probe_34 rfl (lv_at hl 2 rfl) ?_
          refine lv_iload hx hb dX1_probe_35 (lv_at hl 0 rfl) ?_
          refine lv_aload_n hx hb dX1_probe_37 rfl (lv_at hl 2 rfl) ?_
          refine lv_iload_n hx hb dX1_probe_38 rfl (lv_at hl 3 rfl) ?_
          refine lv_iload hx hb dX1_probe_39 (lv_at hl 0 rfl) ?_
          obtain ⟨u_15, hc_16, h⟩ := obd_e h
          refine Gci (wr := [(h_th, .inr (1, [.int probes, v_th_links, v_th_looks, .int length, v_th_bucket])), (h_o0_marks, .inl (cyI, 48, .inl o0_marks))]) (va_runV (As := [.int x1, .int (((m3 + m4) + (1 : Int32)) / (2 : Int32))]) (rest := [.int (((m3 + m4) + (1 : Int32)) / (2 : Int32)), .ref h_o0]) ⟨hx, hb, hml, hown, hts⟩ (tX0_beginningOf l dC dI cyI cyJ cyZ cyO H.size h_o0 v_o0_keys (.ref h_o0_marks) v_o0_size v_o0_keyCount (.int o0_markCount) v_o0_splits v_o0_joins o0_bits x1 (((m3 + m4) + (1 : Int32)) / (2 : Int32)) u_15 hc_16) (cwV 2 hts gX1_probe_X0_beginningOf rfl rfl rfl (by decide +kernel) ⟨Nat.le_of_ble_eq_true rfl, Nat.le_of_ble_eq_true rfl⟩) (GpreV hP hD hK hN [1] rfl (by decide) 0 0 rfl rfl rfl) rfl rfl hl.1 rfl (lv_room (Nat.le_of_ble_eq_true rfl)) dX1_probe_41 ⟨Nat.zero_le _, Nat.zero_le _⟩) hP hD hS hA [1] [0, 2] rfl rfl (by decide) (by decide) (fun H locs hP hD hS => ?_)
          have hP : va_P (dC, dI) vwCl [(h_th, .inr (1, [.int probes, v_th_links, v_th_looks, .int length, v_th_bucket])), (h_o0_marks, .inl (cyI, 48, .inl o0_marks)), (h_o0, .inr (0, [v_o0_keys, .ref h_o0_marks, .int o0_bits, v_o0_size, v_o0_keyCount, .int o0_markCount, v_o0_splits, v_o0_joins]))] H := hP
          have hD : va_D A [(h_th, .inr (1, [.int probes, v_th_links, v_th_looks, .int length, v_th_bucket])), (h_o0_marks, .inl (cyI, 48, .inl o0_marks)), (h_o0, .inr (0, [v_o0_keys, .ref h_o0_marks, .int o0_bits, v_o0_size, v_o0_keyCount, .int o0_markCount, v_o0_splits, v_o0_joins]))] := hD
          obtain ⟨u_17, hc_18, h⟩ := obd_e h
          refine Gci (wr := [(h_th, .inr (1, [.int probes, v_th_links, v_th_looks, .int length, v_th_bucket]))]) (va_runV (As := [.int (((m3 + m4) + (1 : Int32)) / (2 : Int32)), .int u_15]) (rest := []) ⟨hx, hb, hml, hown, hts⟩ (tX0_isBeginning l dC dI cyI cyJ cyZ cyO H.size h_o0 h_o0_marks v_o0_keys v_o0_size v_o0_keyCount v_o0_splits v_o0_joins o0_bits o0_markCount o0_marks (((m3 + m4) + (1 : Int32)) / (2 : Int32)) u_15 u_17 hc_18) (cwV 2 hts gX1_probe_X0_isBeginning rfl rfl rfl (by decide +kernel) ⟨Nat.le_of_ble_eq_true rfl, Nat.le_of_ble_eq_true rfl⟩) (GpreV hP hD hK hN [2, 1] rfl (by decide) 0 0 rfl rfl rfl) rfl rfl hl.1 rfl (lv_room (Nat.le_of_ble_eq_true rfl)) dX1_probe_44 ⟨Nat.zero_le _, Nat.zero_le _⟩) hP hD hS hA [2, 1] [0] rfl rfl (by decide) (by decide) (fun H locs hP hD hS => ?_)
          have hP : va_P (dC, dI) vwCl [(h_th, .inr (1, [.int probes, v_th_links, v_th_looks, .int length, v_th_bucket])), (h_o0, .inr (0, [v_o0_keys, .ref h_o0_marks, .int o0_bits, v_o0_size, v_o0_keyCount, .int o0_markCount, v_o0_splits, v_o0_joins])), (h_o0_marks, .inl (cyI, 48, .inl o0_marks))] H := hP
          have hD : va_D A [(h_th, .inr (1, [.int probes, v_th_links, v_th_looks, .int length, v_th_bucket])), (h_o0, .inr (0, [v_o0_keys, .ref h_o0_marks, .int o0_bits, v_o0_size, v_o0_keyCount, .int o0_markCount, v_o0_splits, v_o0_joins])), (h_o0_marks, .inl (cyI, 48, .inl o0_marks))] := hD
          obtain ⟨y_20, ey_20, h⟩ := olet_e h
          obtain ⟨y_21, ey_21, h⟩ := olet_e h
          have J : ∀ (H : Heap) (locs : List Loc) (ls : Array Slot), va_P (dC, dI) vwCl [(h_th, .inr (1, [.int probes, v_th_links, v_th_looks, .int length, v_th_bucket])), (h_o0, .inr (0, [v_o0_keys, .ref h_o0_marks, .int o0_bits, v_o0_size, v_o0_keyCount, .int o0_markCount, v_o0_splits, v_o0_joins])), (h_o0_marks, .inl (cyI, 48, .inl o0_marks))] H → va_D A [(h_th, .inr (1, [.int probes, v_th_links, v_th_looks, .int length, v_th_bucket])), (h_o0, .inr (0, [v_o0_keys, .ref h_o0_marks, .int o0_bits, v_o0_size, v_o0_keyCount, .int o0_markCount, v_o0_splits, v_o0_joins])), (h_o0_marks, .inl (cyI, 48, .inl o0_marks))] → va_S A s.heap H locs → lv_has ls 7 [(0, .ref h_th), (1, .ref h_o0), (2, .int x1), (3, .int y_20), (4, .int y_21), (5, .int m5)] → W p l e ({ frames := 3, cells := 0, slots := 0, locals := 70 }) s m args below meth c H locs 0 0 Q (F0 m 62 ls []) := by
            intro H locs ls hP hD hS hl
            refine lv_iinc (v := m5 + (1 : Int32)) (lv' := [(5, .int (m5 + (1 : Int32))), (0, .ref h_th), (1, .ref h_o0), (2, .int x1), (3, .int y_20), (4, .int y_21)]) hx hb dX1_probe_62 hl (k := 5) rfl rfl (by decide) rfl (fun ls hl => ?_)
            refine lv_goto (tgt := 11) hx hb dX1_probe_65 (by decide) ?_
            exact ih y_20 y_21 (m5 + (1 : Int32)) _ _ _ h hP hD hS (lv_sub hl [1, 2, 3, 4, 5, 0] rfl)
          clear h
          refine lv_if_eq (tgt := 56) hx hb dX1_probe_47 (by decide) (fun c_19 => ?_) (fun c_19 => ?_)
          · refine lv_iload hx hb dX1_probe_56 (lv_at hl 0 rfl) ?_
            refine lv_iconst (v := 1) hx hb dX1_probe_58 (by decide) ?_
            refine lv_isub hx hb dX1_probe_59 ?_
            refine lv_istore (lv' := [(4, .int ((((m3 + m4) + (1 : Int32)) / (2 : Int32)) - (1 : Int32))), (6, .int (((m3 + m4) + (1 : Int32)) / (2 : Int32))), (0, .ref h_th), (1, .ref h_o0), (2, .int x1), (3, .int m3), (5, .int m5)]) hx hb dX1_probe_60 hl (by decide) rfl (fun ls hl => ?_)
            rw [if_pos c_19] at ey_20
            rw [if_pos c_19] at ey_21
            subst ey_20
            subst ey_21
            exact J H locs _ hP hD hS (lv_sub hl [2, 3, 4, 5, 0, 6] rfl)
          · refine lv_iload hx hb dX1_probe_50 (lv_at hl 0 rfl) ?_
            refine lv_istore_n (lv' := [(3, .int (((m3 + m4) + (1 : Int32)) / (2 : Int32))), (6, .int (((m3 + m4) + (1 : Int32)) / (2 : Int32))), (0, .ref h_th), (1, .ref h_o0), (2, .int x1), (4, .int m4), (5, .int m5)]) hx hb dX1_probe_52 rfl hl (by decide) rfl (fun ls hl => ?_)
            refine lv_goto (tgt := 62) hx hb dX1_probe_53 (by decide) ?_
            rw [if_neg c_19] at ey_20
            rw [if_neg c_19] at ey_21
            subst ey_20
            subst ey_21
            exact J H locs _ hP hD hS (lv_sub hl [2, 3, 4, 0, 5, 6] rfl)
  exact LL _ (0 : Int32) o0_bits (0 : Int32) _ _ _ hw_23 hP hD hS (lv_sub hl [3, 4, 5, 2, 1, 0] rfl)

def lpX1_look_25 (q2 : Int32) (q3 : Int32) (o0_keyCount : Int32) (o0_keys : (Nat → Int32)) : Nat → Int32 → Int32 → Int32 → Option (Int32 × Int32 × Int32)
  | 0, _, _, _ => none
  | n + 1, m4, m5, m6 => if m5 ≤ m4 then (some (m4, m5, m6)) else (if (32 : Int32) ≤ m6 then (some (m4, m5, m6)) else (obd (fX0_keyAt o0_keyCount o0_keys (q3 + ((m4 + m5) / (2 : Int32)))) fun u_9 => olet (if q2 ≤ u_9 then (m4) else (((m4 + m5) / (2 : Int32)) + (1 : Int32))) fun y_12 => olet (if q2 ≤ u_9 then ((m4 + m5) / (2 : Int32)) else (m5)) fun y_13 => lpX1_look_25 q2 q3 o0_keyCount o0_keys n y_12 y_13 (m6 + (1 : Int32))))

def fX1_look (looks : Int32) (bucket : Int32) (o0_keyCount : Int32) (o0_markCount : Int32) (o0_keys : (Nat → Int32)) (o0_marks : (Nat → Int32)) (x1 : Int32) : Option (Int32) := obd (fX0_startOf o0_keyCount o0_markCount o0_keys o0_marks bucket) fun u_1 => obd (fX0_keysIn o0_keyCount o0_markCount o0_keys o0_marks bucket) fun u_3 => obd (lpX1_look_25 x1 u_1 o0_keyCount o0_keys 100000 (0 : Int32) u_3 (0 : Int32)) fun w_22 => some w_22.2.2

set_option maxHeartbeats 4000000 in
set_option maxRecDepth 100000 in
theorem tX1_look (l : Launch) (dC : Nat → ClassId) (dI : Nat → Nat → Nat) (cyI cyJ cyZ cyO : ClassId) (sz : Nat) (h_th h_o0 h_o0_keys h_o0_marks : Nat) (v_th_probes : Value) (v_th_links : Value) (v_th_length : Value) (v_o0_bits : Value) (v_o0_size : Value) (v_o0_splits : Value) (v_o0_joins : Value) (looks : Int32) (bucket : Int32) (o0_keyCount : Int32) (o0_markCount : Int32) (o0_keys : (Nat → Int32)) (o0_marks : (Nat → Int32)) (x1 : Int32) (u : Int32) (hf : fX1_look looks bucket o0_keyCount o0_markCount o0_keys o0_marks x1 = some u) : Met l yX1_look wsX1_look ({ frames := 3, cells := 0, slots := 0, locals := 68 }) (va_Pc [.ref h_th, .ref h_o0, .int x1] (GP (dC, dI) (T4 cyI cyJ cyZ cyO) sz [(h_th, .inr (1, [v_th_probes, v_th_links, .int looks, v_th_length, .int bucket])), (h_o0, .inr (0, [.ref h_o0_keys, .ref h_o0_marks, v_o0_bits, v_o0_size, .int o0_keyCount, .int o0_markCount, v_o0_splits, v_o0_joins])), (h_o0_keys, .inl (cyI, 96, .inl o0_keys)), (h_o0_marks, .inl (cyI, 48, .inl o0_marks))])) (va_Qv (fun (_ : Unit) => True) (GB (dC, dI) [(h_th, .inr (1, [v_th_probes, v_th_links, .int u, v_th_length, .int bucket])), (h_o0, .inr (0, [.ref h_o0_keys, .ref h_o0_marks, v_o0_bits, v_o0_size, .int o0_keyCount, .int o0_markCount, v_o0_splits, v_o0_joins])), (h_o0_keys, .inl (cyI, 96, .inl o0_keys)), (h_o0_marks, .inl (cyI, 48, .inl o0_marks))] (va_A [(h_th, .inr (1, [v_th_probes, v_th_links, .int looks, v_th_length, .int bucket])), (h_o0, .inr (0, [.ref h_o0_keys, .ref h_o0_marks, v_o0_bits, v_o0_size, .int o0_keyCount, .int o0_markCount, v_o0_splits, v_o0_joins])), (h_o0_keys, .inl (cyI, 96, .inl o0_keys)), (h_o0_marks, .inl (cyI, 48, .inl o0_marks))] sz)) (va_A [(h_th, .inr (1, [v_th_probes, v_th_links, .int looks, v_th_length, .int bucket])), (h_o0, .inr (0, [.ref h_o0_keys, .ref h_o0_marks, v_o0_bits, v_o0_size, .int o0_keyCount, .int o0_markCount, v_o0_splits, v_o0_joins])), (h_o0_keys, .inl (cyI, 96, .inl o0_keys)), (h_o0_marks, .inl (cyI, 48, .inl o0_marks))] sz)) 0 0 (va_A [(h_th, .inr (1, [v_th_probes, v_th_links, .int looks, v_th_length, .int bucket])), (h_o0, .inr (0, [.ref h_o0_keys, .ref h_o0_marks, v_o0_bits, v_o0_size, .int o0_keyCount, .int o0_markCount, v_o0_splits, v_o0_joins])), (h_o0_keys, .inl (cyI, 96, .inl o0_keys)), (h_o0_marks, .inl (cyI, 48, .inl o0_marks))] sz) := by
  refine GMetV (by decide) rfl (Nat.le_of_ble_eq_true rfl) ?_
  intro p e s m args below meth c A Q ls hx hb hml hts hown hN hK hA hret hP hD hS hl
  have h := hf
  clear hf
  unfold fX1_look at h
  have hown : s.vm.findClass RX1 = some m.cls := hown
  have hl : lv_has ls 8 [(0, .ref h_th), (1, .ref h_o0), (2, .int x1)] := hl
  refine lv_aload_n hx hb dX1_look_0 rfl (lv_at hl 1 rfl) ?_
  refine lv_aload_n hx hb dX1_look_1 rfl (lv_at hl 0 rfl) ?_
  refine va_get (D := (dC, dI)) (ci := 1) (v := .int bucket) (C := RX1) (T := TX1) (N := 5) hx hb hts (fun _ hw => List.mem_cons_of_mem _ (List.mem_append_left _ (List.mem_append_right _ hw))) hown hK hP 0 rfl rfl 4 (by decide) (hts (.fieldLink RX1 35 "PrefixIndex$Finding" "bucket" "I") (List.mem_of_getElem? (i := 1) rfl)) (fun _ h9 => h9) rfl dX1_look_2 ?_
  obtain ⟨u_1, hc_2, h⟩ := obd_e h
  refine Gci (wr := [(h_th, .inr (1, [v_th_probes, v_th_links, .int looks, v_th_length, .int bucket]))]) (va_runV (As := [.int bucket]) (rest := []) ⟨hx, hb, hml, hown, hts⟩ (tX0_startOf l dC dI cyI cyJ cyZ cyO s.heap.size h_o0 h_o0_keys h_o0_marks v_o0_bits v_o0_size v_o0_splits v_o0_joins o0_keyCount o0_markCount o0_keys o0_marks bucket u_1 hc_2) (cwV 1 hts gX1_look_X0_startOf rfl rfl rfl (by decide +kernel) ⟨Nat.le_of_ble_eq_true rfl, Nat.le_of_ble_eq_true rfl⟩) (GpreV hP hD hK hN [1, 2, 3] rfl (by decide) 0 0 rfl rfl rfl) rfl rfl hl.1 rfl (lv_room (Nat.le_of_ble_eq_true rfl)) dX1_look_5 ⟨Nat.zero_le _, Nat.zero_le _⟩) hP hD hS hA [1, 2, 3] [0] rfl rfl (by decide) (by decide) (fun H locs hP hD hS => ?_)
  have hP : va_P (dC, dI) vwCl [(h_th, .inr (1, [v_th_probes, v_th_links, .int looks, v_th_length, .int bucket])), (h_o0, .inr (0, [.ref h_o0_keys, .ref h_o0_marks, v_o0_bits, v_o0_size, .int o0_keyCount, .int o0_markCount, v_o0_splits, v_o0_joins])), (h_o0_keys, .inl (cyI, 96, .inl o0_keys)), (h_o0_marks, .inl (cyI, 48, .inl o0_marks))] H := hP
  have hD : va_D A [(h_th, .inr (1, [v_th_probes, v_th_links, .int looks, v_th_length, .int bucket])), (h_o0, .inr (0, [.ref h_o0_keys, .ref h_o0_marks, v_o0_bits, v_o0_size, .int o0_keyCount, .int o0_markCount, v_o0_splits, v_o0_joins])), (h_o0_keys, .inl (cyI, 96, .inl o0_keys)), (h_o0_marks, .inl (cyI, 48, .inl o0_marks))] := hD
  refine lv_istore_n (lv' := [(3, .int u_1), (0, .ref h_th), (1, .ref h_o0), (2, .int x1)]) hx hb dX1_look_8 rfl hl (by decide) rfl (fun ls hl => ?_)
  refine lv_iconst (v := 0) hx hb dX1_look_9 (by decide) ?_
  refine lv_istore (lv' := [(4, .int (0 : Int32)), (3, .int u_1), (0, .ref h_th), (1, .ref h_o0), (2, .int x1)]) hx hb dX1_look_10 hl (by decide) rfl (fun ls hl => ?_)
  refine lv_aload_n hx hb dX1_look_12 rfl (lv_at hl 3 rfl) ?_
  refine lv_aload_n hx hb dX1_look_13 rfl (lv_at hl 2 rfl) ?_
  refine va_get (D := (dC, dI)) (ci := 1) (v := .int bucket) (C := RX1) (T := TX1) (N := 5) hx hb hts (fun _ hw => List.mem_cons_of_mem _ (List.mem_append_left _ (List.mem_append_right _ hw))) hown hK hP 0 rfl rfl 4 (by decide) (hts (.fieldLink RX1 35 "PrefixIndex$Finding" "bucket" "I") (List.mem_of_getElem? (i := 1) rfl)) (fun _ h9 => h9) rfl dX1_look_14 ?_
  obtain ⟨u_3, hc_4, h⟩ := obd_e h
  refine Gci (wr := [(h_th, .inr (1, [v_th_probes, v_th_links, .int looks, v_th_length, .int bucket]))]) (va_runV (As := [.int bucket]) (rest := []) ⟨hx, hb, hml, hown, hts⟩ (tX0_keysIn l dC dI cyI cyJ cyZ cyO H.size h_o0 h_o0_keys h_o0_marks v_o0_bits v_o0_size v_o0_splits v_o0_joins o0_keyCount o0_markCount o0_keys o0_marks bucket u_3 hc_4) (cwV 1 hts gX1_look_X0_keysIn rfl rfl rfl (by decide +kernel) ⟨Nat.le_of_ble_eq_true rfl, Nat.le_of_ble_eq_true rfl⟩) (GpreV hP hD hK hN [1, 2, 3] rfl (by decide) 0 0 rfl rfl rfl) rfl rfl hl.1 rfl (lv_room (Nat.le_of_ble_eq_true rfl)) dX1_look_17 ⟨Nat.zero_le _, Nat.zero_le _⟩) hP hD hS hA [1, 2, 3] [0] rfl rfl (by decide) (by decide) (fun H locs hP hD hS => ?_)
  have hP : va_P (dC, dI) vwCl [(h_th, .inr (1, [v_th_probes, v_th_links, .int looks, v_th_length, .int bucket])), (h_o0, .inr (0, [.ref h_o0_keys, .ref h_o0_marks, v_o0_bits, v_o0_size, .int o0_keyCount, .int o0_markCount, v_o0_splits, v_o0_joins])), (h_o0_keys, .inl (cyI, 96, .inl o0_keys)), (h_o0_marks, .inl (cyI, 48, .inl o0_marks))] H := hP
  have hD : va_D A [(h_th, .inr (1, [v_th_probes, v_th_links, .int looks, v_th_length, .int bucket])), (h_o0, .inr (0, [.ref h_o0_keys, .ref h_o0_marks, v_o0_bits, v_o0_size, .int o0_keyCount, .int o0_markCount, v_o0_splits, v_o0_joins])), (h_o0_keys, .inl (cyI, 96, .inl o0_keys)), (h_o0_marks, .inl (cyI, 48, .inl o0_marks))] := hD
  refine lv_istore (lv' := [(5, .int u_3), (4, .int (0 : Int32)), (3, .int u_1), (0, .ref h_th), (1, .ref h_o0), (2, .int x1)]) hx hb dX1_look_20 hl (by decide) rfl (fun ls hl => ?_)
  refine lv_iconst (v := 0) hx hb dX1_look_22 (by decide) ?_
  refine lv_istore (lv' := [(6, .int (0 : Int32)), (5, .int u_3), (4, .int (0 : Int32)), (3, .int u_1), (0, .ref h_th), (1, .ref h_o0), (2, .int x1)]) hx hb dX1_look_23 hl (by decide) rfl (fun ls hl => ?_)
  obtain ⟨w_22, hw_23, h⟩ := obd_e h
  have J : ∀ (H : Heap) (locs : List Loc) (ls : Array Slot), va_P (dC, dI) vwCl [(h_th, .inr (1, [v_th_probes, v_th_links, .int looks, v_th_length, .int bucket])), (h_o0, .inr (0, [.ref h_o0_keys, .ref h_o0_marks, v_o0_bits, v_o0_size, .int o0_keyCount, .int o0_markCount, v_o0_splits, v_o0_joins])), (h_o0_keys, .inl (cyI, 96, .inl o0_keys)), (h_o0_marks, .inl (cyI, 48, .inl o0_marks))] H → va_D A [(h_th, .inr (1, [v_th_probes, v_th_links, .int looks, v_th_length, .int bucket])), (h_o0, .inr (0, [.ref h_o0_keys, .ref h_o0_marks, v_o0_bits, v_o0_size, .int o0_keyCount, .int o0_markCount, v_o0_splits, v_o0_joins])), (h_o0_keys, .inl (cyI, 96, .inl o0_keys)), (h_o0_marks, .inl (cyI, 48, .inl o0_marks))] → va_S A s.heap H locs → lv_has ls 8 [(0, .ref h_th), (6, .int w_22.2.2)] → W p l e ({ frames := 3, cells := 0, slots := 0, locals := 68 }) s m args below meth c H locs 0 0 Q (F0 m 79 ls []) := by
    intro H locs ls hP hD hS hl
    refine lv_aload_n hx hb dX1_look_79 rfl (lv_at hl 0 rfl) ?_
    refine lv_iload hx hb dX1_look_80 (lv_at hl 1 rfl) ?_
    refine va_put (D := (dC, dI)) (ci := 1) (v := .int w_22.2.2) (ty := .int) (C := RX1) (T := TX1) (N := 5) hx hb hts (fun _ hw => List.mem_cons_of_mem _ (List.mem_append_left _ (List.mem_append_right _ hw))) tyX1 tyX1_ok nmX1 hown hK hP hD hS 0 rfl rfl 2 (by decide) (hts (.fieldLink RX1 57 "PrefixIndex$Finding" "looks" "I") (List.mem_of_getElem? (i := 2) rfl)) (fun _ h9 => h9) rfl (by decide +kernel) rfl rfl (Nat.le_of_ble_eq_true rfl) dX1_look_82 (fun H locs hP hD hS => ?_)
    have hP : va_P (dC, dI) vwCl [(h_th, .inr (1, [v_th_probes, v_th_links, .int w_22.2.2, v_th_length, .int bucket])), (h_o0, .inr (0, [.ref h_o0_keys, .ref h_o0_marks, v_o0_bits, v_o0_size, .int o0_keyCount, .int o0_markCount, v_o0_splits, v_o0_joins])), (h_o0_keys, .inl (cyI, 96, .inl o0_keys)), (h_o0_marks, .inl (cyI, 48, .inl o0_marks))] H := hP
    have hD : va_D A [(h_th, .inr (1, [v_th_probes, v_th_links, .int w_22.2.2, v_th_length, .int bucket])), (h_o0, .inr (0, [.ref h_o0_keys, .ref h_o0_marks, v_o0_bits, v_o0_size, .int o0_keyCount, .int o0_markCount, v_o0_splits, v_o0_joins])), (h_o0_keys, .inl (cyI, 96, .inl o0_keys)), (h_o0_marks, .inl (cyI, 48, .inl o0_marks))] := hD
    obtain rfl := Option.some.inj h
    exact hret _ _ _ _ dX1_look_85 hP hD hS
  have LL : ∀ (n : Nat) (m4 : Int32) (m5 : Int32) (m6 : Int32) (H : Heap) (locs : List Loc) (ls : Array Slot), lpX1_look_25 x1 u_1 o0_keyCount o0_keys n m4 m5 m6 = some w_22 → va_P (dC, dI) vwCl [(h_th, .inr (1, [v_th_probes, v_th_links, .int looks, v_th_length, .int bucket])), (h_o0, .inr (0, [.ref h_o0_keys, .ref h_o0_marks, v_o0_bits, v_o0_size, .int o0_keyCount, .int o0_markCount, v_o0_splits, v_o0_joins])), (h_o0_keys, .inl (cyI, 96, .inl o0_keys)), (h_o0_marks, .inl (cyI, 48, .inl o0_marks))] H → va_D A [(h_th, .inr (1, [v_th_probes, v_th_links, .int looks, v_th_length, .int bucket])), (h_o0, .inr (0, [.ref h_o0_keys, .ref h_o0_marks, v_o0_bits, v_o0_size, .int o0_keyCount, .int o0_markCount, v_o0_splits, v_o0_joins])), (h_o0_keys, .inl (cyI, 96, .inl o0_keys)), (h_o0_marks, .inl (cyI, 48, .inl o0_marks))] → va_S A s.heap H locs → lv_has ls 8 [(0, .ref h_th), (1, .ref h_o0), (2, .int x1), (3, .int u_1), (4, .int m4), (5, .int m5), (6, .int m6)] → W p l e ({ frames := 3, cells := 0, slots := 0, locals := 68 }) s m args below meth c H locs 0 0 Q (F0 m 25 ls []) := by
    intro n
    induction n with
    | zero =>
      intro m4 m5 m6 H locs ls h
      exact absurd h (by rw [lpX1_look_25]; exact fun q => by cases q)
    | succ n ih =>
      intro m4 m5 m6 H locs ls h hP hD hS hl
      rw [lpX1_look_25] at h
      refine lv_iload hx hb dX1_look_25 (lv_at hl 4 rfl) ?_
      refine lv_iload hx hb dX1_look_27 (lv_at hl 5 rfl) ?_
      refine lv_icmp_ge (tgt := 79) hx hb dX1_look_29 (by decide) (fun c_14 => ?_) (fun c_14 => ?_)
      · have h := og_ite_t c_14 h
        obtain rfl := Option.some.inj h
        exact J _ _ _ hP hD hS (lv_sub hl [0, 6] rfl)
      · have h := og_ite_f c_14 h
        refine lv_iload hx hb dX1_look_32 (lv_at hl 6 rfl) ?_
        refine lv_bipush (v := 32) hx hb dX1_look_34 (by decide) ?_
        refine lv_icmp_ge (tgt := 79) hx hb dX1_look_36 (by decide) (fun c_15 => ?_) (fun c_15 => ?_)
        · have h := og_ite_t c_15 h
          obtain rfl := Option.some.inj h
          exact J _ _ _ hP hD hS (lv_sub hl [0, 6] rfl)
        · have h := og_ite_f c_15 h
          refine lv_iload hx hb dX1_look_39 (lv_at hl 4 rfl) ?_
          refine lv_iload hx hb dX1_look_41 (lv_at hl 5 rfl) ?_
          refine lv_iadd hx hb dX1_look_43 ?_
          refine lv_iconst (v := 2) hx hb dX1_look_44 (by decide) ?_
          refine lv_idiv hx hb dX1_look_45 (by decide) ?_
          refine lv_istore (lv' := [(7, .int ((m4 + m5) / (2 : Int32))), (0, .ref h_th), (1, .ref h_o0), (2, .int x1), (3, .int u_1), (4, .int m4), (5, .int m5), (6, .int m6)]) hx hb dX1_look_46 hl (by decide) rfl (fun ls hl => ?_)
          refine lv_aload_n hx hb dX1_look_48 rfl (lv_at hl 2 rfl) ?_
          refine lv_iload_n hx hb dX1_look_49 rfl (lv_at hl 4 rfl) ?_
          refine lv_iload hx hb dX1_look_50 (lv_at hl 0 rfl) ?_
          refine lv_iadd hx hb dX1_look_52 ?_
          obtain ⟨u_17, hc_18, h⟩ := obd_e h
          refine Gci (wr := [(h_th, .inr (1, [v_th_probes, v_th_links, .int looks, v_th_length, .int bucket])), (h_o0_marks, .inl (cyI, 48, .inl o0_marks))]) (va_runV (As := [.int (u_1 + ((m4 + m5) / (2 : Int32)))]) (rest := []) ⟨hx, hb, hml, hown, hts⟩ (tX0_keyAt l dC dI cyI cyJ cyZ cyO H.size h_o0 h_o0_keys (.ref h_o0_marks) v_o0_bits v_o0_size (.int o0_markCount) v_o0_splits v_o0_joins o0_keyCount o0_keys (u_1 + ((m4 + m5) / (2 : Int32))) u_17 hc_18) (cwV 1 hts gX1_look_X0_keyAt rfl rfl rfl (by decide +kernel) ⟨Nat.le_of_ble_eq_true rfl, Nat.le_of_ble_eq_true rfl⟩) (GpreV hP hD hK hN [1, 2] rfl (by decide) 0 0 rfl rfl rfl) rfl rfl hl.1 rfl (lv_room (Nat.le_of_ble_eq_true rfl)) dX1_look_53 ⟨Nat.zero_le _, Nat.zero_le _⟩) hP hD hS hA [1, 2] [0, 3] rfl rfl (by decide) (by decide) (fun H locs hP hD hS => ?_)
          have hP : va_P (dC, dI) vwCl [(h_th, .inr (1, [v_th_probes, v_th_links, .int looks, v_th_length, .int bucket])), (h_o0_marks, .inl (cyI, 48, .inl o0_marks)), (h_o0, .inr (0, [.ref h_o0_keys, .ref h_o0_marks, v_o0_bits, v_o0_size, .int o0_keyCount, .int o0_markCount, v_o0_splits, v_o0_joins])), (h_o0_keys, .inl (cyI, 96, .inl o0_keys))] H := hP
          have hD : va_D A [(h_th, .inr (1, [v_th_probes, v_th_links, .int looks, v_th_length, .int bucket])), (h_o0_marks, .inl (cyI, 48, .inl o0_marks)), (h_o0, .inr (0, [.ref h_o0_keys, .ref h_o0_marks, v_o0_bits, v_o0_size, .int o0_keyCount, .int o0_markCount, v_o0_splits, v_o0_joins])), (h_o0_keys, .inl (cyI, 96, .inl o0_keys))] := hD
          refine lv_iload_n hx hb dX1_look_56 rfl (lv_at hl 3 rfl) ?_
          obtain ⟨y_20, ey_20, h⟩ := olet_e h
          obtain ⟨y_21, ey_21, h⟩ := olet_e h
          have J : ∀ (H : Heap) (locs : List Loc) (ls : Array Slot), va_P (dC, dI) vwCl [(h_th, .inr (1, [v_th_probes, v_th_links, .int looks, v_th_length, .int bucket])), (h_o0_marks, .inl (cyI, 48, .inl o0_marks)), (h_o0, .inr (0, [.ref h_o0_keys, .ref h_o0_marks, v_o0_bits, v_o0_size, .int o0_keyCount, .int o0_markCount, v_o0_splits, v_o0_joins])), (h_o0_keys, .inl (cyI, 96, .inl o0_keys))] H → va_D A [(h_th, .inr (1, [v_th_probes, v_th_links, .int looks, v_th_length, .int bucket])), (h_o0_marks, .inl (cyI, 48, .inl o0_marks)), (h_o0, .inr (0, [.ref h_o0_keys, .ref h_o0_marks, v_o0_bits, v_o0_size, .int o0_keyCount, .int o0_markCount, v_o0_splits, v_o0_joins])), (h_o0_keys, .inl (cyI, 96, .inl o0_keys))] → va_S A s.heap H locs → lv_has ls 8 [(0, .ref h_th), (1, .ref h_o0), (2, .int x1), (3, .int u_1), (4, .int y_20), (5, .int y_21), (6, .int m6)] → W p l e ({ frames := 3, cells := 0, slots := 0, locals := 68 }) s m args below meth c H locs 0 0 Q (F0 m 73 ls []) := by
            intro H locs ls hP hD hS hl
            refine lv_iinc (v := m6 + (1 : Int32)) (lv' := [(6, .int (m6 + (1 : Int32))), (0, .ref h_th), (1, .ref h_o0), (2, .int x1), (3, .int u_1), (4, .int y_20), (5, .int y_21)]) hx hb dX1_look_73 hl (k := 6) rfl rfl (by decide) rfl (fun ls hl => ?_)
            refine lv_goto (tgt := 25) hx hb dX1_look_76 (by decide) ?_
            have hP := hP.sub (ws' := [(h_th, .inr (1, [v_th_probes, v_th_links, .int looks, v_th_length, .int bucket])), (h_o0, .inr (0, [.ref h_o0_keys, .ref h_o0_marks, v_o0_bits, v_o0_size, .int o0_keyCount, .int o0_markCount, v_o0_splits, v_o0_joins])), (h_o0_keys, .inl (cyI, 96, .inl o0_keys)), (h_o0_marks, .inl (cyI, 48, .inl o0_marks))]) [0, 2, 3, 1] rfl
            have hD := hD.sub (ws' := [(h_th, .inr (1, [v_th_probes, v_th_links, .int looks, v_th_length, .int bucket])), (h_o0, .inr (0, [.ref h_o0_keys, .ref h_o0_marks, v_o0_bits, v_o0_size, .int o0_keyCount, .int o0_markCount, v_o0_splits, v_o0_joins])), (h_o0_keys, .inl (cyI, 96, .inl o0_keys)), (h_o0_marks, .inl (cyI, 48, .inl o0_marks))]) [0, 2, 3, 1] (by decide) rfl
            exact ih y_20 y_21 (m6 + (1 : Int32)) _ _ _ h hP hD hS (lv_sub hl [1, 2, 3, 4, 5, 6, 0] rfl)
          clear h
          refine lv_icmp_ge (tgt := 69) hx hb dX1_look_57 (by decide) (fun c_19 => ?_) (fun c_19 => ?_)
          · refine lv_iload hx hb dX1_look_69 (lv_at hl 0 rfl) ?_
            refine lv_istore (lv' := [(5, .int ((m4 + m5) / (2 : Int32))), (7, .int ((m4 + m5) / (2 : Int32))), (0, .ref h_th), (1, .ref h_o0), (2, .int x1), (3, .int u_1), (4, .int m4), (6, .int m6)]) hx hb dX1_look_71 hl (by decide) rfl (fun ls hl => ?_)
            rw [if_pos c_19] at ey_20
            rw [if_pos c_19] at ey_21
            subst ey_20
            subst ey_21
            exact J H locs _ hP hD hS (lv_sub hl [2, 3, 4, 5, 6, 0, 7] rfl)
          · refine lv_iload hx hb dX1_look_60 (lv_at hl 0 rfl) ?_
            refine lv_iconst (v := 1) hx hb dX1_look_62 (by decide) ?_
            refine lv_iadd hx hb dX1_look_63 ?_
            refine lv_istore (lv' := [(4, .int (((m4 + m5) / (2 : Int32)) + (1 : Int32))), (7, .int ((m4 + m5) / (2 : Int32))), (0, .ref h_th), (1, .ref h_o0), (2, .int x1), (3, .int u_1), (5, .int m5), (6, .int m6)]) hx hb dX1_look_64 hl (by decide) rfl (fun ls hl => ?_)
            refine lv_goto (tgt := 73) hx hb dX1_look_66 (by decide) ?_
            rw [if_neg c_19] at ey_20
            rw [if_neg c_19] at ey_21
            subst ey_20
            subst ey_21
            exact J H locs _ hP hD hS (lv_sub hl [2, 3, 4, 5, 0, 6, 7] rfl)
  exact LL _ (0 : Int32) u_3 (0 : Int32) _ _ _ hw_23 hP hD hS (lv_sub hl [4, 5, 6, 3, 2, 1, 0] rfl)

def fX1_seek (probes : Int32) (links : Int32) (looks : Int32) (length : Int32) (bucket : Int32) (o0_bits : Int32) (o0_keyCount : Int32) (o0_markCount : Int32) (o0_keys : (Nat → Int32)) (o0_marks : (Nat → Int32)) (x1 : Int32) : Option (Int32 × Int32 × Int32 × Int32 × Int32) := obd (fX1_probe probes length o0_bits o0_markCount o0_marks x1) fun u_1 => obd (if o0_bits ≤ u_1.2 then (some (0 : Int32)) else (obd (fX0_beginningOf o0_bits x1 (u_1.2 + (1 : Int32))) fun u_11 => if (u_11 &&& (1 : Int32)) = (1 : Int32) then (some (1 : Int32)) else (some (0 : Int32)))) fun w_4 => olet (if w_4 = 0 then ((0 : Int32)) else ((1 : Int32))) fun y_6 => obd (fX0_bucketOf o0_markCount o0_marks x1) fun u_7 => obd (fX1_look looks u_7 o0_keyCount o0_markCount o0_keys o0_marks x1) fun u_9 => some (u_1.1, y_6, u_9, u_1.2, u_7)

set_option maxHeartbeats 4000000 in
set_option maxRecDepth 100000 in
theorem tX1_seek (l : Launch) (dC : Nat → ClassId) (dI : Nat → Nat → Nat) (cyI cyJ cyZ cyO : ClassId) (sz : Nat) (h_th h_o0 h_o0_keys h_o0_marks : Nat) (v_o0_size : Value) (v_o0_splits : Value) (v_o0_joins : Value) (probes : Int32) (links : Int32) (looks : Int32) (length : Int32) (bucket : Int32) (o0_bits : Int32) (o0_keyCount : Int32) (o0_markCount : Int32) (o0_keys : (Nat → Int32)) (o0_marks : (Nat → Int32)) (x1 : Int32) (u : Int32 × Int32 × Int32 × Int32 × Int32) (hf : fX1_seek probes links looks length bucket o0_bits o0_keyCount o0_markCount o0_keys o0_marks x1 = some u) : Met l yX1_seek wsX1_seek ({ frames := 4, cells := 0, slots := 0, locals := 96 }) (va_Pc [.ref h_th, .ref h_o0, .int x1] (GP (dC, dI) (T4 cyI cyJ cyZ cyO) sz [(h_th, .inr (1, [.int probes, .int links, .int looks, .int length, .int bucket])), (h_o0, .inr (0, [.ref h_o0_keys, .ref h_o0_marks, .int o0_bits, v_o0_size, .int o0_keyCount, .int o0_markCount, v_o0_splits, v_o0_joins])), (h_o0_keys, .inl (cyI, 96, .inl o0_keys)), (h_o0_marks, .inl (cyI, 48, .inl o0_marks))])) (va_Qv (fun (_ : Unit) => True) (GB (dC, dI) [(h_th, .inr (1, [.int u.1, .int u.2.1, .int u.2.2.1, .int u.2.2.2.1, .int u.2.2.2.2])), (h_o0, .inr (0, [.ref h_o0_keys, .ref h_o0_marks, .int o0_bits, v_o0_size, .int o0_keyCount, .int o0_markCount, v_o0_splits, v_o0_joins])), (h_o0_keys, .inl (cyI, 96, .inl o0_keys)), (h_o0_marks, .inl (cyI, 48, .inl o0_marks))] (va_A [(h_th, .inr (1, [.int probes, .int links, .int looks, .int length, .int bucket])), (h_o0, .inr (0, [.ref h_o0_keys, .ref h_o0_marks, .int o0_bits, v_o0_size, .int o0_keyCount, .int o0_markCount, v_o0_splits, v_o0_joins])), (h_o0_keys, .inl (cyI, 96, .inl o0_keys)), (h_o0_marks, .inl (cyI, 48, .inl o0_marks))] sz)) (va_A [(h_th, .inr (1, [.int probes, .int links, .int looks, .int length, .int bucket])), (h_o0, .inr (0, [.ref h_o0_keys, .ref h_o0_marks, .int o0_bits, v_o0_size, .int o0_keyCount, .int o0_markCount, v_o0_splits, v_o0_joins])), (h_o0_keys, .inl (cyI, 96, .inl o0_keys)), (h_o0_marks, .inl (cyI, 48, .inl o0_marks))] sz)) 0 0 (va_A [(h_th, .inr (1, [.int probes, .int links, .int looks, .int length, .int bucket])), (h_o0, .inr (0, [.ref h_o0_keys, .ref h_o0_marks, .int o0_bits, v_o0_size, .int o0_keyCount, .int o0_markCount, v_o0_splits, v_o0_joins])), (h_o0_keys, .inl (cyI, 96, .inl o0_keys)), (h_o0_marks, .inl (cyI, 48, .inl o0_marks))] sz) := by
  refine GMetV (by decide) rfl (Nat.le_of_ble_eq_true rfl) ?_
  intro p e s m args below meth c A Q ls hx hb hml hts hown hN hK hA hret hP hD hS hl
  have h := hf
  clear hf
  unfold fX1_seek at h
  have hown : s.vm.findClass RX1 = some m.cls := hown
  have hl : lv_has ls 4 [(0, .ref h_th), (1, .ref h_o0), (2, .int x1)] := hl
  refine lv_aload_n hx hb dX1_seek_0 rfl (lv_at hl 0 rfl) ?_
  refine lv_aload_n hx hb dX1_seek_1 rfl (lv_at hl 1 rfl) ?_
  refine lv_iload_n hx hb dX1_seek_2 rfl (lv_at hl 2 rfl) ?_
  obtain ⟨u_1, hc_2, h⟩ := obd_e h
  refine Gcv (wr := [(h_o0_keys, .inl (cyI, 96, .inl o0_keys))]) (va_runV (As := [.ref h_o0, .int x1]) (rest := []) ⟨hx, hb, hml, hown, hts⟩ (tX1_probe l dC dI cyI cyJ cyZ cyO s.heap.size h_th h_o0 h_o0_marks (.int links) (.int looks) (.int bucket) (.ref h_o0_keys) v_o0_size (.int o0_keyCount) v_o0_splits v_o0_joins probes length o0_bits o0_markCount o0_marks x1 u_1 hc_2) (cwV 2 hts gX1_seek_X1_probe rfl rfl rfl (by decide +kernel) ⟨Nat.le_of_ble_eq_true rfl, Nat.le_of_ble_eq_true rfl⟩) (GpreV hP hD hK hN [0, 1, 3] rfl (by decide) 1 0 rfl rfl rfl) rfl rfl hl.1 rfl (lv_room (Nat.le_of_ble_eq_true rfl)) dX1_seek_3 ⟨Nat.zero_le _, Nat.zero_le _⟩) hP hD hS hA [0, 1, 3] [2] rfl rfl (by decide) (by decide) (fun H locs hP hD hS => ?_)
  have hP : va_P (dC, dI) vwCl [(h_o0_keys, .inl (cyI, 96, .inl o0_keys)), (h_th, .inr (1, [.int u_1.1, .int links, .int looks, .int u_1.2, .int bucket])), (h_o0, .inr (0, [.ref h_o0_keys, .ref h_o0_marks, .int o0_bits, v_o0_size, .int o0_keyCount, .int o0_markCount, v_o0_splits, v_o0_joins])), (h_o0_marks, .inl (cyI, 48, .inl o0_marks))] H := hP
  have hD : va_D A [(h_o0_keys, .inl (cyI, 96, .inl o0_keys)), (h_th, .inr (1, [.int u_1.1, .int links, .int looks, .int u_1.2, .int bucket])), (h_o0, .inr (0, [.ref h_o0_keys, .ref h_o0_marks, .int o0_bits, v_o0_size, .int o0_keyCount, .int o0_markCount, v_o0_splits, v_o0_joins])), (h_o0_marks, .inl (cyI, 48, .inl o0_marks))] := hD
  refine lv_aload_n hx hb dX1_seek_6 rfl (lv_at hl 0 rfl) ?_
  refine va_get (D := (dC, dI)) (ci := 1) (v := .int u_1.2) (C := RX1) (T := TX1) (N := 5) hx hb hts (fun _ hw => List.mem_cons_of_mem _ (List.mem_append_left _ (List.mem_append_right _ hw))) hown hK hP 1 rfl rfl 3 (by decide) (hts (.fieldLink RX1 15 "PrefixIndex$Finding" "length" "I") (List.mem_of_getElem? (i := 1) rfl)) (fun _ h9 => h9) rfl dX1_seek_7 ?_
  refine lv_aload_n hx hb dX1_seek_10 rfl (lv_at hl 1 rfl) ?_
  refine va_getN (D := (dC, dI)) (ci := 0) (v := .int o0_bits) (C := RX0) (T := TX0) (N := 8) hx hb hts (fun _ hw => List.mem_cons_of_mem _ (List.mem_append_right _ hw)) hown hK hP 2 rfl rfl 2 (by decide) (hN.f 0 rfl) (fun _ h9 => h9) rfl dX1_seek_11 ?_
  obtain ⟨w_4, hm_14, h⟩ := obd_e h
  have J : ∀ (H : Heap) (locs : List Loc) (ls : Array Slot), va_P (dC, dI) vwCl [(h_o0_keys, .inl (cyI, 96, .inl o0_keys)), (h_th, .inr (1, [.int u_1.1, .int links, .int looks, .int u_1.2, .int bucket])), (h_o0, .inr (0, [.ref h_o0_keys, .ref h_o0_marks, .int o0_bits, v_o0_size, .int o0_keyCount, .int o0_markCount, v_o0_splits, v_o0_joins])), (h_o0_marks, .inl (cyI, 48, .inl o0_marks))] H → va_D A [(h_o0_keys, .inl (cyI, 96, .inl o0_keys)), (h_th, .inr (1, [.int u_1.1, .int links, .int looks, .int u_1.2, .int bucket])), (h_o0, .inr (0, [.ref h_o0_keys, .ref h_o0_marks, .int o0_bits, v_o0_size, .int o0_keyCount, .int o0_markCount, v_o0_splits, v_o0_joins])), (h_o0_marks, .inl (cyI, 48, .inl o0_marks))] → va_S A s.heap H locs → lv_has ls 4 [(0, .ref h_th), (1, .ref h_o0), (2, .int x1)] → W p l e ({ frames := 4, cells := 0, slots := 0, locals := 96 }) s m args below meth c H locs 0 0 Q (F0 m 39 ls [.int w_4]) := by
    intro H locs ls hP hD hS hl
    refine lv_istore_n (lv' := [(3, .int w_4), (0, .ref h_th), (1, .ref h_o0), (2, .int x1)]) hx hb dX1_seek_39 rfl hl (by decide) rfl (fun ls hl => ?_)
    refine lv_aload_n hx hb dX1_seek_40 rfl (lv_at hl 1 rfl) ?_
    refine lv_iload_n hx hb dX1_seek_41 rfl (lv_at hl 0 rfl) ?_
    obtain ⟨y_6, ey_6, h⟩ := olet_e h
    have J : ∀ (H : Heap) (locs : List Loc) (ls : Array Slot), va_P (dC, dI) vwCl [(h_o0_keys, .inl (cyI, 96, .inl o0_keys)), (h_th, .inr (1, [.int u_1.1, .int links, .int looks, .int u_1.2, .int bucket])), (h_o0, .inr (0, [.ref h_o0_keys, .ref h_o0_marks, .int o0_bits, v_o0_size, .int o0_keyCount, .int o0_markCount, v_o0_splits, v_o0_joins])), (h_o0_marks, .inl (cyI, 48, .inl o0_marks))] H → va_D A [(h_o0_keys, .inl (cyI, 96, .inl o0_keys)), (h_th, .inr (1, [.int u_1.1, .int links, .int looks, .int u_1.2, .int bucket])), (h_o0, .inr (0, [.ref h_o0_keys, .ref h_o0_marks, .int o0_bits, v_o0_size, .int o0_keyCount, .int o0_markCount, v_o0_splits, v_o0_joins])), (h_o0_marks, .inl (cyI, 48, .inl o0_marks))] → va_S A s.heap H locs → lv_has ls 4 [(0, .ref h_th), (1, .ref h_o0), (2, .int x1)] → W p l e ({ frames := 4, cells := 0, slots := 0, locals := 96 }) s m args below meth c H locs 0 0 Q (F0 m 50 ls [.int y_6, .ref h_th]) := by
      intro H locs ls hP hD hS hl
      refine va_put (D := (dC, dI)) (ci := 1) (v := .int y_6) (ty := .int) (C := RX1) (T := TX1) (N := 5) hx hb hts (fun _ hw => List.mem_cons_of_mem _ (List.mem_append_left _ (List.mem_append_right _ hw))) tyX1 tyX1_ok nmX1 hown hK hP hD hS 1 rfl rfl 1 (by decide) (hts (.fieldLink RX1 28 "PrefixIndex$Finding" "links" "I") (List.mem_of_getElem? (i := 2) rfl)) (fun _ h9 => h9) rfl (by decide +kernel) rfl rfl (Nat.le_of_ble_eq_true rfl) dX1_seek_50 (fun H locs hP hD hS => ?_)
      have hP : va_P (dC, dI) vwCl [(h_o0_keys, .inl (cyI, 96, .inl o0_keys)), (h_th, .inr (1, [.int u_1.1, .int y_6, .int looks, .int u_1.2, .int bucket])), (h_o0, .inr (0, [.ref h_o0_keys, .ref h_o0_marks, .int o0_bits, v_o0_size, .int o0_keyCount, .int o0_markCount, v_o0_splits, v_o0_joins])), (h_o0_marks, .inl (cyI, 48, .inl o0_marks))] H := hP
      have hD : va_D A [(h_o0_keys, .inl (cyI, 96, .inl o0_keys)), (h_th, .inr (1, [.int u_1.1, .int y_6, .int looks, .int u_1.2, .int bucket])), (h_o0, .inr (0, [.ref h_o0_keys, .ref h_o0_marks, .int o0_bits, v_o0_size, .int o0_keyCount, .int o0_markCount, v_o0_splits, v_o0_joins])), (h_o0_marks, .inl (cyI, 48, .inl o0_marks))] := hD
      refine lv_aload_n hx hb dX1_seek_53 rfl (lv_at hl 0 rfl) ?_
      refine lv_aload_n hx hb dX1_seek_54 rfl (lv_at hl 1 rfl) ?_
      refine lv_iload_n hx hb dX1_seek_55 rfl (lv_at hl 2 rfl) ?_
      obtain ⟨u_7, hc_8, h⟩ := obd_e h
      refine Gci (wr := [(h_o0_keys, .inl (cyI, 96, .inl o0_keys)), (h_th, .inr (1, [.int u_1.1, .int y_6, .int looks, .int u_1.2, .int bucket]))]) (va_runV (As := [.int x1]) (rest := [.ref h_th]) ⟨hx, hb, hml, hown, hts⟩ (tX0_bucketOf l dC dI cyI cyJ cyZ cyO H.size h_o0 h_o0_marks (.ref h_o0_keys) (.int o0_bits) v_o0_size (.int o0_keyCount) v_o0_splits v_o0_joins o0_markCount o0_marks x1 u_7 hc_8) (cwV 1 hts gX1_seek_X0_bucketOf rfl rfl rfl (by decide +kernel) ⟨Nat.le_of_ble_eq_true rfl, Nat.le_of_ble_eq_true rfl⟩) (GpreV hP hD hK hN [2, 3] rfl (by decide) 0 0 rfl rfl rfl) rfl rfl hl.1 rfl (lv_room (Nat.le_of_ble_eq_true rfl)) dX1_seek_56 ⟨Nat.zero_le _, Nat.zero_le _⟩) hP hD hS hA [2, 3] [0, 1] rfl rfl (by decide) (by decide) (fun H locs hP hD hS => ?_)
      have hP : va_P (dC, dI) vwCl [(h_o0_keys, .inl (cyI, 96, .inl o0_keys)), (h_th, .inr (1, [.int u_1.1, .int y_6, .int looks, .int u_1.2, .int bucket])), (h_o0, .inr (0, [.ref h_o0_keys, .ref h_o0_marks, .int o0_bits, v_o0_size, .int o0_keyCount, .int o0_markCount, v_o0_splits, v_o0_joins])), (h_o0_marks, .inl (cyI, 48, .inl o0_marks))] H := hP
      have hD : va_D A [(h_o0_keys, .inl (cyI, 96, .inl o0_keys)), (h_th, .inr (1, [.int u_1.1, .int y_6, .int looks, .int u_1.2, .int bucket])), (h_o0, .inr (0, [.ref h_o0_keys, .ref h_o0_marks, .int o0_bits, v_o0_size, .int o0_keyCount, .int o0_markCount, v_o0_splits, v_o0_joins])), (h_o0_marks, .inl (cyI, 48, .inl o0_marks))] := hD
      refine va_put (D := (dC, dI)) (ci := 1) (v := .int u_7) (ty := .int) (C := RX1) (T := TX1) (N := 5) hx hb hts (fun _ hw => List.mem_cons_of_mem _ (List.mem_append_left _ (List.mem_append_right _ hw))) tyX1 tyX1_ok nmX1 hown hK hP hD hS 1 rfl rfl 4 (by decide) (hts (.fieldLink RX1 35 "PrefixIndex$Finding" "bucket" "I") (List.mem_of_getElem? (i := 3) rfl)) (fun _ h9 => h9) rfl (by decide +kernel) rfl rfl (Nat.le_of_ble_eq_true rfl) dX1_seek_59 (fun H locs hP hD hS => ?_)
      have hP : va_P (dC, dI) vwCl [(h_o0_keys, .inl (cyI, 96, .inl o0_keys)), (h_th, .inr (1, [.int u_1.1, .int y_6, .int looks, .int u_1.2, .int u_7])), (h_o0, .inr (0, [.ref h_o0_keys, .ref h_o0_marks, .int o0_bits, v_o0_size, .int o0_keyCount, .int o0_markCount, v_o0_splits, v_o0_joins])), (h_o0_marks, .inl (cyI, 48, .inl o0_marks))] H := hP
      have hD : va_D A [(h_o0_keys, .inl (cyI, 96, .inl o0_keys)), (h_th, .inr (1, [.int u_1.1, .int y_6, .int looks, .int u_1.2, .int u_7])), (h_o0, .inr (0, [.ref h_o0_keys, .ref h_o0_marks, .int o0_bits, v_o0_size, .int o0_keyCount, .int o0_markCount, v_o0_splits, v_o0_joins])), (h_o0_marks, .inl (cyI, 48, .inl o0_marks))] := hD
      refine lv_aload_n hx hb dX1_seek_62 rfl (lv_at hl 0 rfl) ?_
      refine lv_aload_n hx hb dX1_seek_63 rfl (lv_at hl 1 rfl) ?_
      refine lv_iload_n hx hb dX1_seek_64 rfl (lv_at hl 2 rfl) ?_
      obtain ⟨u_9, hc_10, h⟩ := obd_e h
      refine Gcv (wr := []) (va_runV (As := [.ref h_o0, .int x1]) (rest := []) ⟨hx, hb, hml, hown, hts⟩ (tX1_look l dC dI cyI cyJ cyZ cyO H.size h_th h_o0 h_o0_keys h_o0_marks (.int u_1.1) (.int y_6) (.int u_1.2) (.int o0_bits) v_o0_size v_o0_splits v_o0_joins looks u_7 o0_keyCount o0_markCount o0_keys o0_marks x1 u_9 hc_10) (cwV 2 hts gX1_seek_X1_look rfl rfl rfl (by decide +kernel) ⟨Nat.le_of_ble_eq_true rfl, Nat.le_of_ble_eq_true rfl⟩) (GpreV hP hD hK hN [1, 2, 0, 3] rfl (by decide) 1 0 rfl rfl rfl) rfl rfl hl.1 rfl (lv_room (Nat.le_of_ble_eq_true rfl)) dX1_seek_65 ⟨Nat.zero_le _, Nat.zero_le _⟩) hP hD hS hA [1, 2, 0, 3] [] rfl rfl (by decide) (by decide) (fun H locs hP hD hS => ?_)
      have hP : va_P (dC, dI) vwCl [(h_th, .inr (1, [.int u_1.1, .int y_6, .int u_9, .int u_1.2, .int u_7])), (h_o0, .inr (0, [.ref h_o0_keys, .ref h_o0_marks, .int o0_bits, v_o0_size, .int o0_keyCount, .int o0_markCount, v_o0_splits, v_o0_joins])), (h_o0_keys, .inl (cyI, 96, .inl o0_keys)), (h_o0_marks, .inl (cyI, 48, .inl o0_marks))] H := hP
      have hD : va_D A [(h_th, .inr (1, [.int u_1.1, .int y_6, .int u_9, .int u_1.2, .int u_7])), (h_o0, .inr (0, [.ref h_o0_keys, .ref h_o0_marks, .int o0_bits, v_o0_size, .int o0_keyCount, .int o0_markCount, v_o0_splits, v_o0_joins])), (h_o0_keys, .inl (cyI, 96, .inl o0_keys)), (h_o0_marks, .inl (cyI, 48, .inl o0_marks))] := hD
      obtain rfl := Option.some.inj h
      exact hret _ _ _ _ dX1_seek_68 hP hD hS
    clear h
    refine lv_if_eq (tgt := 49) hx hb dX1_seek_42 (by decide) (fun c_5 => ?_) (fun c_5 => ?_)
    · refine lv_iconst (v := 0) hx hb dX1_seek_49 (by decide) ?_
      rw [if_pos c_5] at ey_6
      subst ey_6
      exact J H locs _ hP hD hS (lv_sub hl [1, 2, 3] rfl)
    · refine lv_iconst (v := 1) hx hb dX1_seek_45 (by decide) ?_
      refine lv_goto (tgt := 50) hx hb dX1_seek_46 (by decide) ?_
      rw [if_neg c_5] at ey_6
      subst ey_6
      exact J H locs _ hP hD hS (lv_sub hl [1, 2, 3] rfl)
  replace h := hm_14
  refine lv_icmp_ge (tgt := 38) hx hb dX1_seek_14 (by decide) (fun c_3 => ?_) (fun c_3 => ?_)
  · have h := og_ite_t c_3 h
    refine lv_iconst (v := 0) hx hb dX1_seek_38 (by decide) ?_
    obtain rfl := Option.some.inj h
    exact J _ _ _ hP hD hS hl
  · have h := og_ite_f c_3 h
    refine lv_aload_n hx hb dX1_seek_17 rfl (lv_at hl 1 rfl) ?_
    refine lv_iload_n hx hb dX1_seek_18 rfl (lv_at hl 2 rfl) ?_
    refine lv_aload_n hx hb dX1_seek_19 rfl (lv_at hl 0 rfl) ?_
    refine va_get (D := (dC, dI)) (ci := 1) (v := .int u_1.2) (C := RX1) (T := TX1) (N := 5) hx hb hts (fun _ hw => List.mem_cons_of_mem _ (List.mem_append_left _ (List.mem_append_right _ hw))) hown hK hP 1 rfl rfl 3 (by decide) (hts (.fieldLink RX1 15 "PrefixIndex$Finding" "length" "I") (List.mem_of_getElem? (i := 1) rfl)) (fun _ h9 => h9) rfl dX1_seek_20 ?_
    refine lv_iconst (v := 1) hx hb dX1_seek_23 (by decide) ?_
    refine lv_iadd hx hb dX1_seek_24 ?_
    obtain ⟨u_11, hc_12, h⟩ := obd_e h
    refine Gci (wr := [(h_o0_keys, .inl (cyI, 96, .inl o0_keys)), (h_th, .inr (1, [.int u_1.1, .int links, .int looks, .int u_1.2, .int bucket])), (h_o0_marks, .inl (cyI, 48, .inl o0_marks))]) (va_runV (As := [.int x1, .int (u_1.2 + (1 : Int32))]) (rest := []) ⟨hx, hb, hml, hown, hts⟩ (tX0_beginningOf l dC dI cyI cyJ cyZ cyO H.size h_o0 (.ref h_o0_keys) (.ref h_o0_marks) v_o0_size (.int o0_keyCount) (.int o0_markCount) v_o0_splits v_o0_joins o0_bits x1 (u_1.2 + (1 : Int32)) u_11 hc_12) (cwV 2 hts gX1_seek_X0_beginningOf rfl rfl rfl (by decide +kernel) ⟨Nat.le_of_ble_eq_true rfl, Nat.le_of_ble_eq_true rfl⟩) (GpreV hP hD hK hN [2] rfl (by decide) 0 0 rfl rfl rfl) rfl rfl hl.1 rfl (lv_room (Nat.le_of_ble_eq_true rfl)) dX1_seek_25 ⟨Nat.zero_le _, Nat.zero_le _⟩) hP hD hS hA [2] [0, 1, 3] rfl rfl (by decide) (by decide) (fun H locs hP hD hS => ?_)
    have hP : va_P (dC, dI) vwCl [(h_o0_keys, .inl (cyI, 96, .inl o0_keys)), (h_th, .inr (1, [.int u_1.1, .int links, .int looks, .int u_1.2, .int bucket])), (h_o0_marks, .inl (cyI, 48, .inl o0_marks)), (h_o0, .inr (0, [.ref h_o0_keys, .ref h_o0_marks, .int o0_bits, v_o0_size, .int o0_keyCount, .int o0_markCount, v_o0_splits, v_o0_joins]))] H := hP
    have hD : va_D A [(h_o0_keys, .inl (cyI, 96, .inl o0_keys)), (h_th, .inr (1, [.int u_1.1, .int links, .int looks, .int u_1.2, .int bucket])), (h_o0_marks, .inl (cyI, 48, .inl o0_marks)), (h_o0, .inr (0, [.ref h_o0_keys, .ref h_o0_marks, .int o0_bits, v_o0_size, .int o0_keyCount, .int o0_markCount, v_o0_splits, v_o0_joins]))] := hD
    refine lv_iconst (v := 1) hx hb dX1_seek_28 (by decide) ?_
    refine lv_iand hx hb dX1_seek_29 ?_
    refine lv_iconst (v := 1) hx hb dX1_seek_30 (by decide) ?_
    refine lv_icmp_ne (tgt := 38) hx hb dX1_seek_31 (by decide) (fun c_13 => ?_) (fun c_13 => ?_)
    · have h := og_ite_f c_13 h
      refine lv_iconst (v := 0) hx hb dX1_seek_38 (by decide) ?_
      obtain rfl := Option.some.inj h
      have hP := hP.sub (ws' := [(h_o0_keys, .inl (cyI, 96, .inl o0_keys)), (h_th, .inr (1, [.int u_1.1, .int links, .int looks, .int u_1.2, .int bucket])), (h_o0, .inr (0, [.ref h_o0_keys, .ref h_o0_marks, .int o0_bits, v_o0_size, .int o0_keyCount, .int o0_markCount, v_o0_splits, v_o0_joins])), (h_o0_marks, .inl (cyI, 48, .inl o0_marks))]) [0, 1, 3, 2] rfl
      have hD := hD.sub (ws' := [(h_o0_keys, .inl (cyI, 96, .inl o0_keys)), (h_th, .inr (1, [.int u_1.1, .int links, .int looks, .int u_1.2, .int bucket])), (h_o0, .inr (0, [.ref h_o0_keys, .ref h_o0_marks, .int o0_bits, v_o0_size, .int o0_keyCount, .int o0_markCount, v_o0_splits, v_o0_joins])), (h_o0_marks, .inl (cyI, 48, .inl o0_marks))]) [0, 1, 3, 2] (by decide) rfl
      exact J _ _ _ hP hD hS hl
    · have h := og_ite_t c_13 h
      refine lv_iconst (v := 1) hx hb dX1_seek_34 (by decide) ?_
      refine lv_goto (tgt := 39) hx hb dX1_seek_35 (by decide) ?_
      obtain rfl := Option.some.inj h
      have hP := hP.sub (ws' := [(h_o0_keys, .inl (cyI, 96, .inl o0_keys)), (h_th, .inr (1, [.int u_1.1, .int links, .int looks, .int u_1.2, .int bucket])), (h_o0, .inr (0, [.ref h_o0_keys, .ref h_o0_marks, .int o0_bits, v_o0_size, .int o0_keyCount, .int o0_markCount, v_o0_splits, v_o0_joins])), (h_o0_marks, .inl (cyI, 48, .inl o0_marks))]) [0, 1, 3, 2] rfl
      have hD := hD.sub (ws' := [(h_o0_keys, .inl (cyI, 96, .inl o0_keys)), (h_th, .inr (1, [.int u_1.1, .int links, .int looks, .int u_1.2, .int bucket])), (h_o0, .inr (0, [.ref h_o0_keys, .ref h_o0_marks, .int o0_bits, v_o0_size, .int o0_keyCount, .int o0_markCount, v_o0_splits, v_o0_joins])), (h_o0_marks, .inl (cyI, 48, .inl o0_marks))]) [0, 1, 3, 2] (by decide) rfl
      exact J _ _ _ hP hD hS hl

def lpX2_forget_2 : Nat → Int32 → (Nat → Int32) → Option (Int32 × (Nat → Int32))
  | 0, _, _ => none
  | n + 1, m1, zfull => if (2 : Int32) ≤ m1 then (some (m1, zfull)) else (oin m1 2 (obl (0 : Int32) (lpX2_forget_2 n (m1 + (1 : Int32)) (upd zfull m1.toNatClampNeg (0 : Int32)))))

def fX2_forget (full : (Nat → Int32)) : Option ((Nat → Int32)) := obd (lpX2_forget_2 100000 (0 : Int32) full) fun w_8 => some w_8.2

set_option maxHeartbeats 4000000 in
set_option maxRecDepth 100000 in
theorem tX2_forget (l : Launch) (dC : Nat → ClassId) (dI : Nat → Nat → Nat) (cyI cyJ cyZ cyO : ClassId) (sz : Nat) (h_th h_full : Nat) (v_th_copies : Value) (full : (Nat → Int32)) (u : (Nat → Int32)) (hf : fX2_forget full = some u) : Met l yX2_forget wsX2_forget ({ frames := 0, cells := 0, slots := 0, locals := 0 }) (va_Pc [.ref h_th] (GP (dC, dI) (T4 cyI cyJ cyZ cyO) sz [(h_th, .inr (2, [v_th_copies, .ref h_full])), (h_full, .inl (cyZ, 2, .inl full))])) (va_Qv (fun (_ : Unit) => True) (GB (dC, dI) [(h_th, .inr (2, [v_th_copies, .ref h_full])), (h_full, .inl (cyZ, 2, .inl u))] (va_A [(h_th, .inr (2, [v_th_copies, .ref h_full])), (h_full, .inl (cyZ, 2, .inl full))] sz)) (va_A [(h_th, .inr (2, [v_th_copies, .ref h_full])), (h_full, .inl (cyZ, 2, .inl full))] sz)) 0 0 (va_A [(h_th, .inr (2, [v_th_copies, .ref h_full])), (h_full, .inl (cyZ, 2, .inl full))] sz) := by
  refine GMetV (by decide) rfl (Nat.le_of_ble_eq_true rfl) ?_
  intro p e s m args below meth c A Q ls hx hb hml hts hown hN hK hA hret hP hD hS hl
  have h := hf
  clear hf
  unfold fX2_forget at h
  have hown : s.vm.findClass RX2 = some m.cls := hown
  have hl : lv_has ls 2 [(0, .ref h_th)] := hl
  refine lv_iconst (v := 0) hx hb dX2_forget_0 (by decide) ?_
  refine lv_istore_n (lv' := [(1, .int (0 : Int32)), (0, .ref h_th)]) hx hb dX2_forget_1 rfl hl (by decide) rfl (fun ls hl => ?_)
  obtain ⟨w_8, hw_9, h⟩ := obd_e h
  have J : ∀ (H : Heap) (locs : List Loc) (ls : Array Slot), va_P (dC, dI) vwCl [(h_th, .inr (2, [v_th_copies, .ref h_full])), (h_full, .inl (cyZ, 2, .inl w_8.2))] H → va_D A [(h_th, .inr (2, [v_th_copies, .ref h_full])), (h_full, .inl (cyZ, 2, .inl w_8.2))] → va_S A s.heap H locs → lv_has ls 2 [] → W p l e ({ frames := 0, cells := 0, slots := 0, locals := 0 }) s m args below meth c H locs 0 0 Q (F0 m 24 ls []) := by
    intro H locs ls hP hD hS hl
    obtain rfl := Option.some.inj h
    exact hret _ _ _ _ dX2_forget_24 hP hD hS
  have LL : ∀ (n : Nat) (m1 : Int32) (zfull : (Nat → Int32)) (H : Heap) (locs : List Loc) (ls : Array Slot), lpX2_forget_2 n m1 zfull = some w_8 → va_P (dC, dI) vwCl [(h_th, .inr (2, [v_th_copies, .ref h_full])), (h_full, .inl (cyZ, 2, .inl zfull))] H → va_D A [(h_th, .inr (2, [v_th_copies, .ref h_full])), (h_full, .inl (cyZ, 2, .inl zfull))] → va_S A s.heap H locs → lv_has ls 2 [(0, .ref h_th), (1, .int m1)] → W p l e ({ frames := 0, cells := 0, slots := 0, locals := 0 }) s m args below meth c H locs 0 0 Q (F0 m 2 ls []) := by
    intro n
    induction n with
    | zero =>
      intro m1 zfull H locs ls h
      exact absurd h (by rw [lpX2_forget_2]; exact fun q => by cases q)
    | succ n ih =>
      intro m1 zfull H locs ls h hP hD hS hl
      rw [lpX2_forget_2] at h
      refine lv_iload_n hx hb dX2_forget_2 rfl (lv_at hl 1 rfl) ?_
      refine lv_aload_n hx hb dX2_forget_3 rfl (lv_at hl 0 rfl) ?_
      refine va_get (D := (dC, dI)) (ci := 2) (v := .ref h_full) (C := RX2) (T := TX2) (N := 2) hx hb hts (fun _ hw => List.mem_cons_of_mem _ (List.mem_append_right _ hw)) hown hK hP 0 rfl rfl 1 (by decide) (hts (.fieldLink RX2 17 "PrefixIndex$Kept" "full" "[Z") (List.mem_of_getElem? (i := 1) rfl)) (fun _ h9 => h9) rfl dX2_forget_4 ?_
      refine va_alen (v := (2 : Int32)) hx hb hK hP 1 2 rfl rfl rfl dX2_forget_7 ?_
      refine lv_icmp_ge (tgt := 24) hx hb dX2_forget_8 (by decide) (fun c_5 => ?_) (fun c_5 => ?_)
      · have h := og_ite_t c_5 h
        obtain rfl := Option.some.inj h
        exact J _ _ _ hP hD hS (lv_sub hl [] rfl)
      · have h := og_ite_f c_5 h
        refine lv_aload_n hx hb dX2_forget_11 rfl (lv_at hl 0 rfl) ?_
        refine va_get (D := (dC, dI)) (ci := 2) (v := .ref h_full) (C := RX2) (T := TX2) (N := 2) hx hb hts (fun _ hw => List.mem_cons_of_mem _ (List.mem_append_right _ hw)) hown hK hP 0 rfl rfl 1 (by decide) (hts (.fieldLink RX2 17 "PrefixIndex$Kept" "full" "[Z") (List.mem_of_getElem? (i := 1) rfl)) (fun _ h9 => h9) rfl dX2_forget_12 ?_
        refine lv_iload_n hx hb dX2_forget_15 rfl (lv_at hl 1 rfl) ?_
        refine lv_iconst (v := 0) hx hb dX2_forget_16 (by decide) ?_
        obtain ⟨hi_6, h⟩ := oin_e h
        obtain ⟨hz_7, h⟩ := obl_e h
        refine va_zast hx hb hK hP hD hS 1 2 rfl rfl hi_6 dX2_forget_17 (fun H locs hP hD hS => ?_)
        rw [obl_v hz_7] at hP hD
        have hP : va_P (dC, dI) vwCl [(h_th, .inr (2, [v_th_copies, .ref h_full])), (h_full, .inl (cyZ, 2, .inl (upd zfull m1.toNatClampNeg (0 : Int32))))] H := hP
        have hD : va_D A [(h_th, .inr (2, [v_th_copies, .ref h_full])), (h_full, .inl (cyZ, 2, .inl (upd zfull m1.toNatClampNeg (0 : Int32))))] := hD
        refine lv_iinc (v := m1 + (1 : Int32)) (lv' := [(1, .int (m1 + (1 : Int32))), (0, .ref h_th)]) hx hb dX2_forget_18 hl (k := 1) rfl rfl (by decide) rfl (fun ls hl => ?_)
        refine lv_goto (tgt := 2) hx hb dX2_forget_21 (by decide) ?_
        exact ih (m1 + (1 : Int32)) (upd zfull m1.toNatClampNeg (0 : Int32)) _ _ _ h hP hD hS (lv_sub hl [1, 0] rfl)
  exact LL _ (0 : Int32) full _ _ _ hw_9 hP hD hS (lv_sub hl [1, 0] rfl)

def fX3_forget (held : Int32) : Option (Int32) := some (0 : Int32)

set_option maxHeartbeats 4000000 in
set_option maxRecDepth 100000 in
theorem tX3_forget (l : Launch) (dC : Nat → ClassId) (dI : Nat → Nat → Nat) (cyI cyJ cyZ cyO : ClassId) (sz : Nat) (h_th : Nat) (v_th_ring : Value) (v_th_next : Value) (held : Int32) (u : Int32) (hf : fX3_forget held = some u) : Met l yX3_forget wsX3_forget ({ frames := 0, cells := 0, slots := 0, locals := 0 }) (va_Pc [.ref h_th] (GP (dC, dI) (T4 cyI cyJ cyZ cyO) sz [(h_th, .inr (3, [v_th_ring, v_th_next, .int held]))])) (va_Qv (fun (_ : Unit) => True) (GB (dC, dI) [(h_th, .inr (3, [v_th_ring, v_th_next, .int u]))] (va_A [(h_th, .inr (3, [v_th_ring, v_th_next, .int held]))] sz)) (va_A [(h_th, .inr (3, [v_th_ring, v_th_next, .int held]))] sz)) 0 0 (va_A [(h_th, .inr (3, [v_th_ring, v_th_next, .int held]))] sz) := by
  refine GMetV (by decide) rfl (Nat.le_of_ble_eq_true rfl) ?_
  intro p e s m args below meth c A Q ls hx hb hml hts hown hN hK hA hret hP hD hS hl
  have h := hf
  clear hf
  unfold fX3_forget at h
  have hown : s.vm.findClass RX3 = some m.cls := hown
  have hl : lv_has ls 1 [(0, .ref h_th)] := hl
  refine lv_aload_n hx hb dX3_forget_0 rfl (lv_at hl 0 rfl) ?_
  refine lv_iconst (v := 0) hx hb dX3_forget_1 (by decide) ?_
  refine va_put (D := (dC, dI)) (ci := 3) (v := .int (0 : Int32)) (ty := .int) (C := RX3) (T := TX3) (N := 3) hx hb hts (fun _ hw => List.mem_cons_of_mem _ (List.mem_append_right _ hw)) tyX3 tyX3_ok nmX3 hown hK hP hD hS 0 rfl rfl 2 (by decide) (hts (.fieldLink RX3 30 "PrefixIndex$Past" "held" "I") (List.mem_of_getElem? (i := 1) rfl)) (fun _ h9 => h9) rfl (by decide +kernel) rfl rfl (Nat.le_of_ble_eq_true rfl) dX3_forget_2 (fun H locs hP hD hS => ?_)
  have hP : va_P (dC, dI) vwCl [(h_th, .inr (3, [v_th_ring, v_th_next, .int (0 : Int32)]))] H := hP
  have hD : va_D A [(h_th, .inr (3, [v_th_ring, v_th_next, .int (0 : Int32)]))] := hD
  obtain rfl := Option.some.inj h
  exact hret _ _ _ _ dX3_forget_5 hP hD hS

def fX4_known (x0 : Int32) : Option (Int32) := olet (if x0 < 0 then ((0 : Int32)) else (if (3 : Int32) ≤ x0 then ((0 : Int32)) else ((1 : Int32)))) fun y_2 => obl y_2 (some y_2)

set_option maxHeartbeats 4000000 in
set_option maxRecDepth 100000 in
theorem tX4_known (l : Launch) (dC : Nat → ClassId) (dI : Nat → Nat → Nat) (cyI cyJ cyZ cyO : ClassId) (sz : Nat) (h_th h_lengths : Nat) (v_th_places : Value) (f_lengths : (Nat → Int32)) (x0 : Int32) (u : Int32) (hf : fX4_known x0 = some u) : Met l yX4_known wsX4_known ({ frames := 0, cells := 0, slots := 0, locals := 0 }) (va_Pc [.ref h_th, .int x0] (GP (dC, dI) (T4 cyI cyJ cyZ cyO) sz [(h_th, .inr (4, [v_th_places, .ref h_lengths])), (h_lengths, .inl (cyI, 3, .inl f_lengths))])) (va_Qi (fun (r : Int32) (_ : Unit) => r = u) (GB (dC, dI) [(h_th, .inr (4, [v_th_places, .ref h_lengths])), (h_lengths, .inl (cyI, 3, .inl f_lengths))] (va_A [(h_th, .inr (4, [v_th_places, .ref h_lengths])), (h_lengths, .inl (cyI, 3, .inl f_lengths))] sz)) (va_A [(h_th, .inr (4, [v_th_places, .ref h_lengths])), (h_lengths, .inl (cyI, 3, .inl f_lengths))] sz)) 0 0 (va_A [(h_th, .inr (4, [v_th_places, .ref h_lengths])), (h_lengths, .inl (cyI, 3, .inl f_lengths))] sz) := by
  refine GMetZ (by decide) rfl (Nat.le_of_ble_eq_true rfl) ?_
  intro p e s m args below meth c A Q ls hx hb hml hts hown hN hK hA hret hP hD hS hl
  have h := hf
  clear hf
  unfold fX4_known at h
  have hown : s.vm.findClass RX4 = some m.cls := hown
  have hl : lv_has ls 2 [(0, .ref h_th), (1, .int x0)] := hl
  refine lv_iload_n hx hb dX4_known_0 rfl (lv_at hl 1 rfl) ?_
  obtain ⟨y_2, ey_2, h⟩ := olet_e h
  have J : ∀ (H : Heap) (locs : List Loc) (ls : Array Slot), va_P (dC, dI) vwCl [(h_th, .inr (4, [v_th_places, .ref h_lengths])), (h_lengths, .inl (cyI, 3, .inl f_lengths))] H → va_D A [(h_th, .inr (4, [v_th_places, .ref h_lengths])), (h_lengths, .inl (cyI, 3, .inl f_lengths))] → va_S A s.heap H locs → lv_has ls 2 [] → W p l e ({ frames := 0, cells := 0, slots := 0, locals := 0 }) s m args below meth c H locs 0 0 Q (F0 m 18 ls [.int y_2]) := by
    intro H locs ls hP hD hS hl
    obtain ⟨hz, h⟩ := obl_e h
    obtain rfl := Option.some.inj h
    exact hret _ _ _ _ dX4_known_18 hz hP hD hS
  clear h
  refine lv_if_lt (tgt := 17) hx hb dX4_known_1 (by decide) (fun c_1 => ?_) (fun c_1 => ?_)
  · refine lv_iconst (v := 0) hx hb dX4_known_17 (by decide) ?_
    rw [if_pos c_1] at ey_2
    subst ey_2
    exact J _ _ _ hP hD hS (lv_sub hl [] rfl)
  · refine lv_iload_n hx hb dX4_known_4 rfl (lv_at hl 1 rfl) ?_
    refine lv_aload_n hx hb dX4_known_5 rfl (lv_at hl 0 rfl) ?_
    refine va_get (D := (dC, dI)) (ci := 4) (v := .ref h_lengths) (C := RX4) (T := TX4) (N := 2) hx hb hts (fun _ hw => List.mem_cons_of_mem _ (List.mem_append_right _ hw)) hown hK hP 0 rfl rfl 1 (by decide) (hts (.fieldLink RX4 15 "PrefixIndex$Rows" "lengths" "[I") (List.mem_of_getElem? (i := 1) rfl)) (fun _ h9 => h9) rfl dX4_known_6 ?_
    refine va_alen (v := (3 : Int32)) hx hb hK hP 1 0 rfl rfl rfl dX4_known_9 ?_
    refine lv_icmp_ge (tgt := 17) hx hb dX4_known_10 (by decide) (fun c_3 => ?_) (fun c_3 => ?_)
    · refine lv_iconst (v := 0) hx hb dX4_known_17 (by decide) ?_
      rw [if_neg c_1, if_pos c_3] at ey_2
      subst ey_2
      exact J _ _ _ hP hD hS (lv_sub hl [] rfl)
    · refine lv_iconst (v := 1) hx hb dX4_known_13 (by decide) ?_
      refine lv_goto (tgt := 18) hx hb dX4_known_14 (by decide) ?_
      rw [if_neg c_1, if_neg c_3] at ey_2
      subst ey_2
      exact J _ _ _ hP hD hS (lv_sub hl [] rfl)

def fX4_lengthOf (lengths : (Nat → Int32)) (x0 : Int32) : Option (Int32) := obd (fX4_known x0) fun u_1 => obd (if u_1 = 0 then (some (-1 : Int32)) else (oin x0 3 (some (lengths x0.toNatClampNeg)))) fun w_4 => some w_4

set_option maxHeartbeats 4000000 in
set_option maxRecDepth 100000 in
theorem tX4_lengthOf (l : Launch) (dC : Nat → ClassId) (dI : Nat → Nat → Nat) (cyI cyJ cyZ cyO : ClassId) (sz : Nat) (h_th h_lengths : Nat) (v_th_places : Value) (lengths : (Nat → Int32)) (x0 : Int32) (u : Int32) (hf : fX4_lengthOf lengths x0 = some u) : Met l yX4_lengthOf wsX4_lengthOf ({ frames := 1, cells := 0, slots := 0, locals := 21 }) (va_Pc [.ref h_th, .int x0] (GP (dC, dI) (T4 cyI cyJ cyZ cyO) sz [(h_th, .inr (4, [v_th_places, .ref h_lengths])), (h_lengths, .inl (cyI, 3, .inl lengths))])) (va_Qi (fun (r : Int32) (_ : Unit) => r = u) (GB (dC, dI) [(h_th, .inr (4, [v_th_places, .ref h_lengths])), (h_lengths, .inl (cyI, 3, .inl lengths))] (va_A [(h_th, .inr (4, [v_th_places, .ref h_lengths])), (h_lengths, .inl (cyI, 3, .inl lengths))] sz)) (va_A [(h_th, .inr (4, [v_th_places, .ref h_lengths])), (h_lengths, .inl (cyI, 3, .inl lengths))] sz)) 0 0 (va_A [(h_th, .inr (4, [v_th_places, .ref h_lengths])), (h_lengths, .inl (cyI, 3, .inl lengths))] sz) := by
  refine GMetI (by decide) rfl (Nat.le_of_ble_eq_true rfl) ?_
  intro p e s m args below meth c A Q ls hx hb hml hts hown hN hK hA hret hP hD hS hl
  have h := hf
  clear hf
  unfold fX4_lengthOf at h
  have hown : s.vm.findClass RX4 = some m.cls := hown
  have hl : lv_has ls 2 [(0, .ref h_th), (1, .int x0)] := hl
  refine lv_aload_n hx hb dX4_lengthOf_0 rfl (lv_at hl 0 rfl) ?_
  refine lv_iload_n hx hb dX4_lengthOf_1 rfl (lv_at hl 1 rfl) ?_
  obtain ⟨u_1, hc_2, h⟩ := obd_e h
  refine Gci (wr := []) (va_runV (As := [.int x0]) (rest := []) ⟨hx, hb, hml, hown, hts⟩ (tX4_known l dC dI cyI cyJ cyZ cyO s.heap.size h_th h_lengths v_th_places lengths x0 u_1 hc_2) (cwV 1 hts gX4_lengthOf_X4_known rfl rfl rfl (by decide +kernel) ⟨Nat.le_of_ble_eq_true rfl, Nat.le_of_ble_eq_true rfl⟩) (GpreV hP hD hK hN [0, 1] rfl (by decide) 4 0 rfl rfl rfl) rfl rfl hl.1 rfl (lv_room (Nat.le_of_ble_eq_true rfl)) dX4_lengthOf_2 ⟨Nat.zero_le _, Nat.zero_le _⟩) hP hD hS hA [0, 1] [] rfl rfl (by decide) (by decide) (fun H locs hP hD hS => ?_)
  have hP : va_P (dC, dI) vwCl [(h_th, .inr (4, [v_th_places, .ref h_lengths])), (h_lengths, .inl (cyI, 3, .inl lengths))] H := hP
  have hD : va_D A [(h_th, .inr (4, [v_th_places, .ref h_lengths])), (h_lengths, .inl (cyI, 3, .inl lengths))] := hD
  obtain ⟨w_4, hm_6, h⟩ := obd_e h
  have J : ∀ (H : Heap) (locs : List Loc) (ls : Array Slot), va_P (dC, dI) vwCl [(h_th, .inr (4, [v_th_places, .ref h_lengths])), (h_lengths, .inl (cyI, 3, .inl lengths))] H → va_D A [(h_th, .inr (4, [v_th_places, .ref h_lengths])), (h_lengths, .inl (cyI, 3, .inl lengths))] → va_S A s.heap H locs → lv_has ls 2 [] → W p l e ({ frames := 1, cells := 0, slots := 0, locals := 21 }) s m args below meth c H locs 0 0 Q (F0 m 18 ls [.int w_4]) := by
    intro H locs ls hP hD hS hl
    obtain rfl := Option.some.inj h
    exact hret _ _ _ _ dX4_lengthOf_18 hP hD hS
  replace h := hm_6
  refine lv_if_eq (tgt := 17) hx hb dX4_lengthOf_5 (by decide) (fun c_3 => ?_) (fun c_3 => ?_)
  · have h := og_ite_t c_3 h
    refine lv_iconst (v := (-1)) hx hb dX4_lengthOf_17 (by decide) ?_
    obtain rfl := Option.some.inj h
    exact J _ _ _ hP hD hS (lv_sub hl [] rfl)
  · have h := og_ite_f c_3 h
    refine lv_aload_n hx hb dX4_lengthOf_8 rfl (lv_at hl 0 rfl) ?_
    refine va_get (D := (dC, dI)) (ci := 4) (v := .ref h_lengths) (C := RX4) (T := TX4) (N := 2) hx hb hts (fun _ hw => List.mem_cons_of_mem _ (List.mem_append_right _ hw)) hown hK hP 0 rfl rfl 1 (by decide) (hts (.fieldLink RX4 15 "PrefixIndex$Rows" "lengths" "[I") (List.mem_of_getElem? (i := 1) rfl)) (fun _ h9 => h9) rfl dX4_lengthOf_9 ?_
    refine lv_iload_n hx hb dX4_lengthOf_12 rfl (lv_at hl 1 rfl) ?_
    obtain ⟨hi_5, h⟩ := oin_e h
    refine va_iald hx hb hK hP 1 0 rfl rfl hi_5 dX4_lengthOf_13 ?_
    refine lv_goto (tgt := 18) hx hb dX4_lengthOf_14 (by decide) ?_
    obtain rfl := Option.some.inj h
    exact J _ _ _ hP hD hS (lv_sub hl [] rfl)

def fX4_refusalOf (lengths : (Nat → Int32)) (x0 : Int32) : Option (Int32) := obd (fX4_known x0) fun u_1 => if u_1 = 0 then (some (-2 : Int32)) else (obd (fX4_lengthOf lengths x0) fun u_4 => olet (if u_4 = (-1 : Int32) then ((-11 : Int32)) else ((0 : Int32))) fun y_7 => some y_7)

set_option maxHeartbeats 4000000 in
set_option maxRecDepth 100000 in
theorem tX4_refusalOf (l : Launch) (dC : Nat → ClassId) (dI : Nat → Nat → Nat) (cyI cyJ cyZ cyO : ClassId) (sz : Nat) (h_th h_lengths : Nat) (v_th_places : Value) (lengths : (Nat → Int32)) (x0 : Int32) (u : Int32) (hf : fX4_refusalOf lengths x0 = some u) : Met l yX4_refusalOf wsX4_refusalOf ({ frames := 2, cells := 0, slots := 0, locals := 42 }) (va_Pc [.ref h_th, .int x0] (GP (dC, dI) (T4 cyI cyJ cyZ cyO) sz [(h_th, .inr (4, [v_th_places, .ref h_lengths])), (h_lengths, .inl (cyI, 3, .inl lengths))])) (va_Qi (fun (r : Int32) (_ : Unit) => r = u) (GB (dC, dI) [(h_th, .inr (4, [v_th_places, .ref h_lengths])), (h_lengths, .inl (cyI, 3, .inl lengths))] (va_A [(h_th, .inr (4, [v_th_places, .ref h_lengths])), (h_lengths, .inl (cyI, 3, .inl lengths))] sz)) (va_A [(h_th, .inr (4, [v_th_places, .ref h_lengths])), (h_lengths, .inl (cyI, 3, .inl lengths))] sz)) 0 0 (va_A [(h_th, .inr (4, [v_th_places, .ref h_lengths])), (h_lengths, .inl (cyI, 3, .inl lengths))] sz) := by
  refine GMetI (by decide) rfl (Nat.le_of_ble_eq_true rfl) ?_
  intro p e s m args below meth c A Q ls hx hb hml hts hown hN hK hA hret hP hD hS hl
  have h := hf
  clear hf
  unfold fX4_refusalOf at h
  have hown : s.vm.findClass RX4 = some m.cls := hown
  have hl : lv_has ls 2 [(0, .ref h_th), (1, .int x0)] := hl
  refine lv_aload_n hx hb dX4_refusalOf_0 rfl (lv_at hl 0 rfl) ?_
  refine lv_iload_n hx hb dX4_refusalOf_1 rfl (lv_at hl 1 rfl) ?_
  obtain ⟨u_1, hc_2, h⟩ := obd_e h
  refine Gci (wr := []) (va_runV (As := [.int x0]) (rest := []) ⟨hx, hb, hml, hown, hts⟩ (tX4_known l dC dI cyI cyJ cyZ cyO s.heap.size h_th h_lengths v_th_places lengths x0 u_1 hc_2) (cwV 1 hts gX4_refusalOf_X4_known rfl rfl rfl (by decide +kernel) ⟨Nat.le_of_ble_eq_true rfl, Nat.le_of_ble_eq_true rfl⟩) (GpreV hP hD hK hN [0, 1] rfl (by decide) 4 0 rfl rfl rfl) rfl rfl hl.1 rfl (lv_room (Nat.le_of_ble_eq_true rfl)) dX4_refusalOf_2 ⟨Nat.zero_le _, Nat.zero_le _⟩) hP hD hS hA [0, 1] [] rfl rfl (by decide) (by decide) (fun H locs hP hD hS => ?_)
  have hP : va_P (dC, dI) vwCl [(h_th, .inr (4, [v_th_places, .ref h_lengths])), (h_lengths, .inl (cyI, 3, .inl lengths))] H := hP
  have hD : va_D A [(h_th, .inr (4, [v_th_places, .ref h_lengths])), (h_lengths, .inl (cyI, 3, .inl lengths))] := hD
  refine lv_if_ne (tgt := 11) hx hb dX4_refusalOf_5 (by decide) (fun c_3 => ?_) (fun c_3 => ?_)
  · have h := og_ite_f c_3 h
    refine lv_aload_n hx hb dX4_refusalOf_11 rfl (lv_at hl 0 rfl) ?_
    refine lv_iload_n hx hb dX4_refusalOf_12 rfl (lv_at hl 1 rfl) ?_
    obtain ⟨u_4, hc_5, h⟩ := obd_e h
    refine Gci (wr := []) (va_runV (As := [.int x0]) (rest := []) ⟨hx, hb, hml, hown, hts⟩ (tX4_lengthOf l dC dI cyI cyJ cyZ cyO H.size h_th h_lengths v_th_places lengths x0 u_4 hc_5) (cwV 1 hts gX4_refusalOf_X4_lengthOf rfl rfl rfl (by decide +kernel) ⟨Nat.le_of_ble_eq_true rfl, Nat.le_of_ble_eq_true rfl⟩) (GpreV hP hD hK hN [0, 1] rfl (by decide) 4 0 rfl rfl rfl) rfl rfl hl.1 rfl (lv_room (Nat.le_of_ble_eq_true rfl)) dX4_refusalOf_13 ⟨Nat.zero_le _, Nat.zero_le _⟩) hP hD hS hA [0, 1] [] rfl rfl (by decide) (by decide) (fun H locs hP hD hS => ?_)
    have hP : va_P (dC, dI) vwCl [(h_th, .inr (4, [v_th_places, .ref h_lengths])), (h_lengths, .inl (cyI, 3, .inl lengths))] H := hP
    have hD : va_D A [(h_th, .inr (4, [v_th_places, .ref h_lengths])), (h_lengths, .inl (cyI, 3, .inl lengths))] := hD
    refine lv_iconst (v := (-1)) hx hb dX4_refusalOf_16 (by decide) ?_
    obtain ⟨y_7, ey_7, h⟩ := olet_e h
    have J : ∀ (H : Heap) (locs : List Loc) (ls : Array Slot), va_P (dC, dI) vwCl [(h_th, .inr (4, [v_th_places, .ref h_lengths])), (h_lengths, .inl (cyI, 3, .inl lengths))] H → va_D A [(h_th, .inr (4, [v_th_places, .ref h_lengths])), (h_lengths, .inl (cyI, 3, .inl lengths))] → va_S A s.heap H locs → lv_has ls 2 [] → W p l e ({ frames := 2, cells := 0, slots := 0, locals := 42 }) s m args below meth c H locs 0 0 Q (F0 m 26 ls [.int y_7]) := by
      intro H locs ls hP hD hS hl
      obtain rfl := Option.some.inj h
      exact hret _ _ _ _ dX4_refusalOf_26 hP hD hS
    clear h
    refine lv_icmp_ne (tgt := 25) hx hb dX4_refusalOf_17 (by decide) (fun c_6 => ?_) (fun c_6 => ?_)
    · refine lv_iconst (v := 0) hx hb dX4_refusalOf_25 (by decide) ?_
      rw [if_neg c_6] at ey_7
      subst ey_7
      exact J H locs _ hP hD hS (lv_sub hl [] rfl)
    · refine lv_bipush (v := (-11)) hx hb dX4_refusalOf_20 (by decide) ?_
      refine lv_goto (tgt := 26) hx hb dX4_refusalOf_22 (by decide) ?_
      rw [if_pos c_6] at ey_7
      subst ey_7
      exact J H locs _ hP hD hS (lv_sub hl [] rfl)
  · have h := og_ite_t c_3 h
    refine lv_bipush (v := (-2)) hx hb dX4_refusalOf_8 (by decide) ?_
    obtain rfl := Option.some.inj h
    exact hret _ _ _ _ dX4_refusalOf_10 hP hD hS

def fX4_refusalAt (lengths : (Nat → Int32)) (x0 : Int32) (x1 : Int32) : Option (Int32) := obd (fX4_refusalOf lengths x0) fun u_1 => if u_1 = 0 then (obd (if x1 < 0 then (some (-12 : Int32)) else (obd (fX4_lengthOf lengths x0) fun u_6 => if x1 < u_6 then (some (0 : Int32)) else (some (-12 : Int32)))) fun w_5 => some w_5) else (some u_1)

set_option maxHeartbeats 4000000 in
set_option maxRecDepth 100000 in
theorem tX4_refusalAt (l : Launch) (dC : Nat → ClassId) (dI : Nat → Nat → Nat) (cyI cyJ cyZ cyO : ClassId) (sz : Nat) (h_th h_lengths : Nat) (v_th_places : Value) (lengths : (Nat → Int32)) (x0 : Int32) (x1 : Int32) (u : Int32) (hf : fX4_refusalAt lengths x0 x1 = some u) : Met l yX4_refusalAt wsX4_refusalAt ({ frames := 3, cells := 0, slots := 0, locals := 63 }) (va_Pc [.ref h_th, .int x0, .int x1] (GP (dC, dI) (T4 cyI cyJ cyZ cyO) sz [(h_th, .inr (4, [v_th_places, .ref h_lengths])), (h_lengths, .inl (cyI, 3, .inl lengths))])) (va_Qi (fun (r : Int32) (_ : Unit) => r = u) (GB (dC, dI) [(h_th, .inr (4, [v_th_places, .ref h_lengths])), (h_lengths, .inl (cyI, 3, .inl lengths))] (va_A [(h_th, .inr (4, [v_th_places, .ref h_lengths])), (h_lengths, .inl (cyI, 3, .inl lengths))] sz)) (va_A [(h_th, .inr (4, [v_th_places, .ref h_lengths])), (h_lengths, .inl (cyI, 3, .inl lengths))] sz)) 0 0 (va_A [(h_th, .inr (4, [v_th_places, .ref h_lengths])), (h_lengths, .inl (cyI, 3, .inl lengths))] sz) := by
  refine GMetI (by decide) rfl (Nat.le_of_ble_eq_true rfl) ?_
  intro p e s m args below meth c A Q ls hx hb hml hts hown hN hK hA hret hP hD hS hl
  have h := hf
  clear hf
  unfold fX4_refusalAt at h
  have hown : s.vm.findClass RX4 = some m.cls := hown
  have hl : lv_has ls 4 [(0, .ref h_th), (1, .int x0), (2, .int x1)] := hl
  refine lv_aload_n hx hb dX4_refusalAt_0 rfl (lv_at hl 0 rfl) ?_
  refine lv_iload_n hx hb dX4_refusalAt_1 rfl (lv_at hl 1 rfl) ?_
  obtain ⟨u_1, hc_2, h⟩ := obd_e h
  refine Gci (wr := []) (va_runV (As := [.int x0]) (rest := []) ⟨hx, hb, hml, hown, hts⟩ (tX4_refusalOf l dC dI cyI cyJ cyZ cyO s.heap.size h_th h_lengths v_th_places lengths x0 u_1 hc_2) (cwV 1 hts gX4_refusalAt_X4_refusalOf rfl rfl rfl (by decide +kernel) ⟨Nat.le_of_ble_eq_true rfl, Nat.le_of_ble_eq_true rfl⟩) (GpreV hP hD hK hN [0, 1] rfl (by decide) 4 0 rfl rfl rfl) rfl rfl hl.1 rfl (lv_room (Nat.le_of_ble_eq_true rfl)) dX4_refusalAt_2 ⟨Nat.zero_le _, Nat.zero_le _⟩) hP hD hS hA [0, 1] [] rfl rfl (by decide) (by decide) (fun H locs hP hD hS => ?_)
  have hP : va_P (dC, dI) vwCl [(h_th, .inr (4, [v_th_places, .ref h_lengths])), (h_lengths, .inl (cyI, 3, .inl lengths))] H := hP
  have hD : va_D A [(h_th, .inr (4, [v_th_places, .ref h_lengths])), (h_lengths, .inl (cyI, 3, .inl lengths))] := hD
  refine lv_istore_n (lv' := [(3, .int u_1), (0, .ref h_th), (1, .int x0), (2, .int x1)]) hx hb dX4_refusalAt_5 rfl hl (by decide) rfl (fun ls hl => ?_)
  refine lv_iload_n hx hb dX4_refusalAt_6 rfl (lv_at hl 0 rfl) ?_
  refine lv_if_eq (tgt := 12) hx hb dX4_refusalAt_7 (by decide) (fun c_3 => ?_) (fun c_3 => ?_)
  · have h := og_ite_t c_3 h
    refine lv_iload_n hx hb dX4_refusalAt_12 rfl (lv_at hl 3 rfl) ?_
    obtain ⟨w_5, hm_9, h⟩ := obd_e h
    have J : ∀ (H : Heap) (locs : List Loc) (ls : Array Slot), va_P (dC, dI) vwCl [(h_th, .inr (4, [v_th_places, .ref h_lengths])), (h_lengths, .inl (cyI, 3, .inl lengths))] H → va_D A [(h_th, .inr (4, [v_th_places, .ref h_lengths])), (h_lengths, .inl (cyI, 3, .inl lengths))] → va_S A s.heap H locs → lv_has ls 4 [] → W p l e ({ frames := 3, cells := 0, slots := 0, locals := 63 }) s m args below meth c H locs 0 0 Q (F0 m 31 ls [.int w_5]) := by
      intro H locs ls hP hD hS hl
      obtain rfl := Option.some.inj h
      exact hret _ _ _ _ dX4_refusalAt_31 hP hD hS
    replace h := hm_9
    refine lv_if_lt (tgt := 25) hx hb dX4_refusalAt_13 (by decide) (fun c_4 => ?_) (fun c_4 => ?_)
    · have h := og_ite_t c_4 h
      refine lv_bipush (v := (-12)) hx hb dX4_refusalAt_25 (by decide) ?_
      refine lv_goto (tgt := 31) hx hb dX4_refusalAt_27 (by decide) ?_
      obtain rfl := Option.some.inj h
      exact J _ _ _ hP hD hS (lv_sub hl [] rfl)
    · have h := og_ite_f c_4 h
      refine lv_iload_n hx hb dX4_refusalAt_16 rfl (lv_at hl 3 rfl) ?_
      refine lv_aload_n hx hb dX4_refusalAt_17 rfl (lv_at hl 1 rfl) ?_
      refine lv_iload_n hx hb dX4_refusalAt_18 rfl (lv_at hl 2 rfl) ?_
      obtain ⟨u_6, hc_7, h⟩ := obd_e h
      refine Gci (wr := []) (va_runV (As := [.int x0]) (rest := [.int x1]) ⟨hx, hb, hml, hown, hts⟩ (tX4_lengthOf l dC dI cyI cyJ cyZ cyO H.size h_th h_lengths v_th_places lengths x0 u_6 hc_7) (cwV 1 hts gX4_refusalAt_X4_lengthOf rfl rfl rfl (by decide +kernel) ⟨Nat.le_of_ble_eq_true rfl, Nat.le_of_ble_eq_true rfl⟩) (GpreV hP hD hK hN [0, 1] rfl (by decide) 4 0 rfl rfl rfl) rfl rfl hl.1 rfl (lv_room (Nat.le_of_ble_eq_true rfl)) dX4_refusalAt_19 ⟨Nat.zero_le _, Nat.zero_le _⟩) hP hD hS hA [0, 1] [] rfl rfl (by decide) (by decide) (fun H locs hP hD hS => ?_)
      have hP : va_P (dC, dI) vwCl [(h_th, .inr (4, [v_th_places, .ref h_lengths])), (h_lengths, .inl (cyI, 3, .inl lengths))] H := hP
      have hD : va_D A [(h_th, .inr (4, [v_th_places, .ref h_lengths])), (h_lengths, .inl (cyI, 3, .inl lengths))] := hD
      refine lv_icmp_lt (tgt := 30) hx hb dX4_refusalAt_22 (by decide) (fun c_8 => ?_) (fun c_8 => ?_)
      · have h := og_ite_t c_8 h
        refine lv_iconst (v := 0) hx hb dX4_refusalAt_30 (by decide) ?_
        obtain rfl := Option.some.inj h
        exact J _ _ _ hP hD hS (lv_sub hl [] rfl)
      · have h := og_ite_f c_8 h
        refine lv_bipush (v := (-12)) hx hb dX4_refusalAt_25 (by decide) ?_
        refine lv_goto (tgt := 31) hx hb dX4_refusalAt_27 (by decide) ?_
        obtain rfl := Option.some.inj h
        exact J _ _ _ hP hD hS (lv_sub hl [] rfl)
  · have h := og_ite_f c_3 h
    refine lv_iload_n hx hb dX4_refusalAt_10 rfl (lv_at hl 0 rfl) ?_
    obtain rfl := Option.some.inj h
    exact hret _ _ _ _ dX4_refusalAt_11 hP hD hS

def fX4_slotOf (lengths : (Nat → Int32)) (x0 : Int32) (x1 : Int32) : Option (Int32) := obd (fX4_refusalAt lengths x0 x1) fun u_1 => olet (if u_1 = 0 then (((x0 * (12 : Int32)) + x1)) else ((-1 : Int32))) fun y_4 => some y_4

set_option maxHeartbeats 4000000 in
set_option maxRecDepth 100000 in
theorem tX4_slotOf (l : Launch) (dC : Nat → ClassId) (dI : Nat → Nat → Nat) (cyI cyJ cyZ cyO : ClassId) (sz : Nat) (h_th h_lengths : Nat) (v_th_places : Value) (lengths : (Nat → Int32)) (x0 : Int32) (x1 : Int32) (u : Int32) (hf : fX4_slotOf lengths x0 x1 = some u) : Met l yX4_slotOf wsX4_slotOf ({ frames := 4, cells := 0, slots := 0, locals := 86 }) (va_Pc [.ref h_th, .int x0, .int x1] (GP (dC, dI) (T4 cyI cyJ cyZ cyO) sz [(h_th, .inr (4, [v_th_places, .ref h_lengths])), (h_lengths, .inl (cyI, 3, .inl lengths))])) (va_Qi (fun (r : Int32) (_ : Unit) => r = u) (GB (dC, dI) [(h_th, .inr (4, [v_th_places, .ref h_lengths])), (h_lengths, .inl (cyI, 3, .inl lengths))] (va_A [(h_th, .inr (4, [v_th_places, .ref h_lengths])), (h_lengths, .inl (cyI, 3, .inl lengths))] sz)) (va_A [(h_th, .inr (4, [v_th_places, .ref h_lengths])), (h_lengths, .inl (cyI, 3, .inl lengths))] sz)) 0 0 (va_A [(h_th, .inr (4, [v_th_places, .ref h_lengths])), (h_lengths, .inl (cyI, 3, .inl lengths))] sz) := by
  refine GMetI (by decide) rfl (Nat.le_of_ble_eq_true rfl) ?_
  intro p e s m args below meth c A Q ls hx hb hml hts hown hN hK hA hret hP hD hS hl
  have h := hf
  clear hf
  unfold fX4_slotOf at h
  have hown : s.vm.findClass RX4 = some m.cls := hown
  have hl : lv_has ls 3 [(0, .ref h_th), (1, .int x0), (2, .int x1)] := hl
  refine lv_aload_n hx hb dX4_slotOf_0 rfl (lv_at hl 0 rfl) ?_
  refine lv_iload_n hx hb dX4_slotOf_1 rfl (lv_at hl 1 rfl) ?_
  refine lv_iload_n hx hb dX4_slotOf_2 rfl (lv_at hl 2 rfl) ?_
  obtain ⟨u_1, hc_2, h⟩ := obd_e h
  refine Gci (wr := []) (va_runV (As := [.int x0, .int x1]) (rest := []) ⟨hx, hb, hml, hown, hts⟩ (tX4_refusalAt l dC dI cyI cyJ cyZ cyO s.heap.size h_th h_lengths v_th_places lengths x0 x1 u_1 hc_2) (cwV 2 hts gX4_slotOf_X4_refusalAt rfl rfl rfl (by decide +kernel) ⟨Nat.le_of_ble_eq_true rfl, Nat.le_of_ble_eq_true rfl⟩) (GpreV hP hD hK hN [0, 1] rfl (by decide) 4 0 rfl rfl rfl) rfl rfl hl.1 rfl (lv_room (Nat.le_of_ble_eq_true rfl)) dX4_slotOf_3 ⟨Nat.zero_le _, Nat.zero_le _⟩) hP hD hS hA [0, 1] [] rfl rfl (by decide) (by decide) (fun H locs hP hD hS => ?_)
  have hP : va_P (dC, dI) vwCl [(h_th, .inr (4, [v_th_places, .ref h_lengths])), (h_lengths, .inl (cyI, 3, .inl lengths))] H := hP
  have hD : va_D A [(h_th, .inr (4, [v_th_places, .ref h_lengths])), (h_lengths, .inl (cyI, 3, .inl lengths))] := hD
  obtain ⟨y_4, ey_4, h⟩ := olet_e h
  have J : ∀ (H : Heap) (locs : List Loc) (ls : Array Slot), va_P (dC, dI) vwCl [(h_th, .inr (4, [v_th_places, .ref h_lengths])), (h_lengths, .inl (cyI, 3, .inl lengths))] H → va_D A [(h_th, .inr (4, [v_th_places, .ref h_lengths])), (h_lengths, .inl (cyI, 3, .inl lengths))] → va_S A s.heap H locs → lv_has ls 3 [] → W p l e ({ frames := 4, cells := 0, slots := 0, locals := 86 }) s m args below meth c H locs 0 0 Q (F0 m 19 ls [.int y_4]) := by
    intro H locs ls hP hD hS hl
    obtain rfl := Option.some.inj h
    exact hret _ _ _ _ dX4_slotOf_19 hP hD hS
  clear h
  refine lv_if_ne (tgt := 18) hx hb dX4_slotOf_6 (by decide) (fun c_3 => ?_) (fun c_3 => ?_)
  · refine lv_iconst (v := (-1)) hx hb dX4_slotOf_18 (by decide) ?_
    rw [if_neg c_3] at ey_4
    subst ey_4
    exact J H locs _ hP hD hS (lv_sub hl [] rfl)
  · refine lv_iload_n hx hb dX4_slotOf_9 rfl (lv_at hl 1 rfl) ?_
    refine lv_bipush (v := 12) hx hb dX4_slotOf_10 (by decide) ?_
    refine lv_imul hx hb dX4_slotOf_12 ?_
    refine lv_iload_n hx hb dX4_slotOf_13 rfl (lv_at hl 2 rfl) ?_
    refine lv_iadd hx hb dX4_slotOf_14 ?_
    refine lv_goto (tgt := 19) hx hb dX4_slotOf_15 (by decide) ?_
    rw [if_pos c_3] at ey_4
    subst ey_4
    exact J H locs _ hP hD hS (lv_sub hl [] rfl)

def fX4_put (places : (Nat → Int64)) (lengths : (Nat → Int32)) (x0 : Int32) (x1 : Int32) (x2 : Int64) : Option ((Nat → Int64)) := obd (fX4_slotOf lengths x0 x1) fun u_1 => obd (if u_1 < 0 then (some places) else (if (36 : Int32) ≤ u_1 then (some places) else (oin u_1 36 (some (vp_updL places u_1.toNatClampNeg x2))))) fun w_4 => some w_4

set_option maxHeartbeats 4000000 in
set_option maxRecDepth 100000 in
theorem tX4_put (l : Launch) (dC : Nat → ClassId) (dI : Nat → Nat → Nat) (cyI cyJ cyZ cyO : ClassId) (sz : Nat) (h_th h_places h_lengths : Nat) (places : (Nat → Int64)) (lengths : (Nat → Int32)) (x0 : Int32) (x1 : Int32) (x2 : Int64) (u : (Nat → Int64)) (hf : fX4_put places lengths x0 x1 x2 = some u) : Met l yX4_put wsX4_put ({ frames := 5, cells := 0, slots := 0, locals := 108 }) (va_Pc [.ref h_th, .int x0, .int x1, .long x2] (GP (dC, dI) (T4 cyI cyJ cyZ cyO) sz [(h_th, .inr (4, [.ref h_places, .ref h_lengths])), (h_places, .inl (cyJ, 36, .inr (.inl places))), (h_lengths, .inl (cyI, 3, .inl lengths))])) (va_Qv (fun (_ : Unit) => True) (GB (dC, dI) [(h_th, .inr (4, [.ref h_places, .ref h_lengths])), (h_places, .inl (cyJ, 36, .inr (.inl u))), (h_lengths, .inl (cyI, 3, .inl lengths))] (va_A [(h_th, .inr (4, [.ref h_places, .ref h_lengths])), (h_places, .inl (cyJ, 36, .inr (.inl places))), (h_lengths, .inl (cyI, 3, .inl lengths))] sz)) (va_A [(h_th, .inr (4, [.ref h_places, .ref h_lengths])), (h_places, .inl (cyJ, 36, .inr (.inl places))), (h_lengths, .inl (cyI, 3, .inl lengths))] sz)) 0 0 (va_A [(h_th, .inr (4, [.ref h_places, .ref h_lengths])), (h_places, .inl (cyJ, 36, .inr (.inl places))), (h_lengths, .inl (cyI, 3, .inl lengths))] sz) := by
  refine GMetV (by decide) rfl (Nat.le_of_ble_eq_true rfl) ?_
  intro p e s m args below meth c A Q ls hx hb hml hts hown hN hK hA hret hP hD hS hl
  have h := hf
  clear hf
  unfold fX4_put at h
  have hown : s.vm.findClass RX4 = some m.cls := hown
  have hl : lv_has ls 6 [(0, .ref h_th), (1, .int x0), (2, .int x1), (3, .long x2)] := hl
  refine lv_aload_n hx hb dX4_put_0 rfl (lv_at hl 0 rfl) ?_
  refine lv_iload_n hx hb dX4_put_1 rfl (lv_at hl 1 rfl) ?_
  refine lv_iload_n hx hb dX4_put_2 rfl (lv_at hl 2 rfl) ?_
  obtain ⟨u_1, hc_2, h⟩ := obd_e h
  refine Gci (wr := [(h_places, .inl (cyJ, 36, .inr (.inl places)))]) (va_runV (As := [.int x0, .int x1]) (rest := []) ⟨hx, hb, hml, hown, hts⟩ (tX4_slotOf l dC dI cyI cyJ cyZ cyO s.heap.size h_th h_lengths (.ref h_places) lengths x0 x1 u_1 hc_2) (cwV 2 hts gX4_put_X4_slotOf rfl rfl rfl (by decide +kernel) ⟨Nat.le_of_ble_eq_true rfl, Nat.le_of_ble_eq_true rfl⟩) (GpreV hP hD hK hN [0, 2] rfl (by decide) 4 0 rfl rfl rfl) rfl rfl hl.1 rfl (lv_room (Nat.le_of_ble_eq_true rfl)) dX4_put_3 ⟨Nat.zero_le _, Nat.zero_le _⟩) hP hD hS hA [0, 2] [1] rfl rfl (by decide) (by decide) (fun H locs hP hD hS => ?_)
  have hP : va_P (dC, dI) vwCl [(h_places, .inl (cyJ, 36, .inr (.inl places))), (h_th, .inr (4, [.ref h_places, .ref h_lengths])), (h_lengths, .inl (cyI, 3, .inl lengths))] H := hP
  have hD : va_D A [(h_places, .inl (cyJ, 36, .inr (.inl places))), (h_th, .inr (4, [.ref h_places, .ref h_lengths])), (h_lengths, .inl (cyI, 3, .inl lengths))] := hD
  refine lv_istore (lv' := [(5, .int u_1), (0, .ref h_th), (1, .int x0), (2, .int x1), (3, .long x2)]) hx hb dX4_put_6 hl (by decide) rfl (fun ls hl => ?_)
  refine lv_iload hx hb dX4_put_8 (lv_at hl 0 rfl) ?_
  obtain ⟨w_4, hm_7, h⟩ := obd_e h
  have J : ∀ (H : Heap) (locs : List Loc) (ls : Array Slot), va_P (dC, dI) vwCl [(h_places, .inl (cyJ, 36, .inr (.inl w_4))), (h_th, .inr (4, [.ref h_places, .ref h_lengths])), (h_lengths, .inl (cyI, 3, .inl lengths))] H → va_D A [(h_places, .inl (cyJ, 36, .inr (.inl w_4))), (h_th, .inr (4, [.ref h_places, .ref h_lengths])), (h_lengths, .inl (cyI, 3, .inl lengths))] → va_S A s.heap H locs → lv_has ls 6 [] → W p l e ({ frames := 5, cells := 0, slots := 0, locals := 108 }) s m args below meth c H locs 0 0 Q (F0 m 31 ls []) := by
    intro H locs ls hP hD hS hl
    obtain rfl := Option.some.inj h
    have hP := hP.sub (ws' := [(h_th, .inr (4, [.ref h_places, .ref h_lengths])), (h_places, .inl (cyJ, 36, .inr (.inl w_4))), (h_lengths, .inl (cyI, 3, .inl lengths))]) [1, 0, 2] rfl
    have hD := hD.sub (ws' := [(h_th, .inr (4, [.ref h_places, .ref h_lengths])), (h_places, .inl (cyJ, 36, .inr (.inl w_4))), (h_lengths, .inl (cyI, 3, .inl lengths))]) [1, 0, 2] (by decide) rfl
    exact hret _ _ _ _ dX4_put_31 hP hD hS
  replace h := hm_7
  refine lv_if_lt (tgt := 31) hx hb dX4_put_10 (by decide) (fun c_3 => ?_) (fun c_3 => ?_)
  · have h := og_ite_t c_3 h
    obtain rfl := Option.some.inj h
    exact J _ _ _ hP hD hS (lv_sub hl [] rfl)
  · have h := og_ite_f c_3 h
    refine lv_iload hx hb dX4_put_13 (lv_at hl 0 rfl) ?_
    refine lv_aload_n hx hb dX4_put_15 rfl (lv_at hl 1 rfl) ?_
    refine va_get (D := (dC, dI)) (ci := 4) (v := .ref h_places) (C := RX4) (T := TX4) (N := 2) hx hb hts (fun _ hw => List.mem_cons_of_mem _ (List.mem_append_right _ hw)) hown hK hP 1 rfl rfl 0 (by decide) (hts (.fieldLink RX4 9 "PrefixIndex$Rows" "places" "[J") (List.mem_of_getElem? (i := 1) rfl)) (fun _ h9 => h9) rfl dX4_put_16 ?_
    refine va_alen (v := (36 : Int32)) hx hb hK hP 0 1 rfl rfl rfl dX4_put_19 ?_
    refine lv_icmp_ge (tgt := 31) hx hb dX4_put_20 (by decide) (fun c_5 => ?_) (fun c_5 => ?_)
    · have h := og_ite_t c_5 h
      obtain rfl := Option.some.inj h
      exact J _ _ _ hP hD hS (lv_sub hl [] rfl)
    · have h := og_ite_f c_5 h
      refine lv_aload_n hx hb dX4_put_23 rfl (lv_at hl 1 rfl) ?_
      refine va_get (D := (dC, dI)) (ci := 4) (v := .ref h_places) (C := RX4) (T := TX4) (N := 2) hx hb hts (fun _ hw => List.mem_cons_of_mem _ (List.mem_append_right _ hw)) hown hK hP 1 rfl rfl 0 (by decide) (hts (.fieldLink RX4 9 "PrefixIndex$Rows" "places" "[J") (List.mem_of_getElem? (i := 1) rfl)) (fun _ h9 => h9) rfl dX4_put_24 ?_
      refine lv_iload hx hb dX4_put_27 (lv_at hl 0 rfl) ?_
      refine lv_lload_n hx hb dX4_put_29 rfl (lv_at hl 4 rfl) ?_
      obtain ⟨hi_6, h⟩ := oin_e h
      refine va_last hx hb hK hP hD hS 0 1 rfl rfl hi_6 dX4_put_30 (fun H locs hP hD hS => ?_)
      have hP : va_P (dC, dI) vwCl [(h_places, .inl (cyJ, 36, .inr (.inl (vp_updL places u_1.toNatClampNeg x2)))), (h_th, .inr (4, [.ref h_places, .ref h_lengths])), (h_lengths, .inl (cyI, 3, .inl lengths))] H := hP
      have hD : va_D A [(h_places, .inl (cyJ, 36, .inr (.inl (vp_updL places u_1.toNatClampNeg x2)))), (h_th, .inr (4, [.ref h_places, .ref h_lengths])), (h_lengths, .inl (cyI, 3, .inl lengths))] := hD
      obtain rfl := Option.some.inj h
      exact J _ _ _ hP hD hS (lv_sub hl [] rfl)

def lpX4_renew_18 (q1 : Int32) (q2 : Int32) (lengths : (Nat → Int32)) : Nat → Int32 → (Nat → Int64) → Option (Int32 × (Nat → Int64))
  | 0, _, _ => none
  | n + 1, m3, zplaces => if q2 ≤ m3 then (some (m3, zplaces)) else (obd (fX4_put zplaces lengths q1 m3 (0 : Int64)) fun u_7 => lpX4_renew_18 q1 q2 lengths n (m3 + (1 : Int32)) u_7)

def fX4_renew (places : (Nat → Int64)) (lengths : (Nat → Int32)) (x0 : Int32) (x1 : Int32) : Option ((Nat → Int64) × (Nat → Int32)) := obd (fX4_known x0) fun u_1 => if u_1 = 0 then (some (places, lengths)) else (oin x0 3 (obd (lpX4_renew_18 x0 x1 (upd lengths x0.toNatClampNeg x1) 100000 (0 : Int32) places) fun w_12 => some (w_12.2, upd lengths x0.toNatClampNeg x1)))

set_option maxHeartbeats 4000000 in
set_option maxRecDepth 100000 in
theorem tX4_renew (l : Launch) (dC : Nat → ClassId) (dI : Nat → Nat → Nat) (cyI cyJ cyZ cyO : ClassId) (sz : Nat) (h_th h_places h_lengths : Nat) (places : (Nat → Int64)) (lengths : (Nat → Int32)) (x0 : Int32) (x1 : Int32) (u : (Nat → Int64) × (Nat → Int32)) (hf : fX4_renew places lengths x0 x1 = some u) : Met l yX4_renew wsX4_renew ({ frames := 6, cells := 0, slots := 0, locals := 133 }) (va_Pc [.ref h_th, .int x0, .int x1] (GP (dC, dI) (T4 cyI cyJ cyZ cyO) sz [(h_th, .inr (4, [.ref h_places, .ref h_lengths])), (h_places, .inl (cyJ, 36, .inr (.inl places))), (h_lengths, .inl (cyI, 3, .inl lengths))])) (va_Qv (fun (_ : Unit) => True) (GB (dC, dI) [(h_th, .inr (4, [.ref h_places, .ref h_lengths])), (h_places, .inl (cyJ, 36, .inr (.inl u.1))), (h_lengths, .inl (cyI, 3, .inl u.2))] (va_A [(h_th, .inr (4, [.ref h_places, .ref h_lengths])), (h_places, .inl (cyJ, 36, .inr (.inl places))), (h_lengths, .inl (cyI, 3, .inl lengths))] sz)) (va_A [(h_th, .inr (4, [.ref h_places, .ref h_lengths])), (h_places, .inl (cyJ, 36, .inr (.inl places))), (h_lengths, .inl (cyI, 3, .inl lengths))] sz)) 0 0 (va_A [(h_th, .inr (4, [.ref h_places, .ref h_lengths])), (h_places, .inl (cyJ, 36, .inr (.inl places))), (h_lengths, .inl (cyI, 3, .inl lengths))] sz) := by
  refine GMetV (by decide) rfl (Nat.le_of_ble_eq_true rfl) ?_
  intro p e s m args below meth c A Q ls hx hb hml hts hown hN hK hA hret hP hD hS hl
  have h := hf
  clear hf
  unfold fX4_renew at h
  have hown : s.vm.findClass RX4 = some m.cls := hown
  have hl : lv_has ls 4 [(0, .ref h_th), (1, .int x0), (2, .int x1)] := hl
  refine lv_aload_n hx hb dX4_renew_0 rfl (lv_at hl 0 rfl) ?_
  refine lv_iload_n hx hb dX4_renew_1 rfl (lv_at hl 1 rfl) ?_
  obtain ⟨u_1, hc_2, h⟩ := obd_e h
  refine Gci (wr := [(h_places, .inl (cyJ, 36, .inr (.inl places)))]) (va_runV (As := [.int x0]) (rest := []) ⟨hx, hb, hml, hown, hts⟩ (tX4_known l dC dI cyI cyJ cyZ cyO s.heap.size h_th h_lengths (.ref h_places) lengths x0 u_1 hc_2) (cwV 1 hts gX4_renew_X4_known rfl rfl rfl (by decide +kernel) ⟨Nat.le_of_ble_eq_true rfl, Nat.le_of_ble_eq_true rfl⟩) (GpreV hP hD hK hN [0, 2] rfl (by decide) 4 0 rfl rfl rfl) rfl rfl hl.1 rfl (lv_room (Nat.le_of_ble_eq_true rfl)) dX4_renew_2 ⟨Nat.zero_le _, Nat.zero_le _⟩) hP hD hS hA [0, 2] [1] rfl rfl (by decide) (by decide) (fun H locs hP hD hS => ?_)
  have hP : va_P (dC, dI) vwCl [(h_places, .inl (cyJ, 36, .inr (.inl places))), (h_th, .inr (4, [.ref h_places, .ref h_lengths])), (h_lengths, .inl (cyI, 3, .inl lengths))] H := hP
  have hD : va_D A [(h_places, .inl (cyJ, 36, .inr (.inl places))), (h_th, .inr (4, [.ref h_places, .ref h_lengths])), (h_lengths, .inl (cyI, 3, .inl lengths))] := hD
  refine lv_if_ne (tgt := 9) hx hb dX4_renew_5 (by decide) (fun c_3 => ?_) (fun c_3 => ?_)
  · have h := og_ite_f c_3 h
    refine lv_aload_n hx hb dX4_renew_9 rfl (lv_at hl 0 rfl) ?_
    refine va_get (D := (dC, dI)) (ci := 4) (v := .ref h_lengths) (C := RX4) (T := TX4) (N := 2) hx hb hts (fun _ hw => List.mem_cons_of_mem _ (List.mem_append_right _ hw)) hown hK hP 1 rfl rfl 1 (by decide) (hts (.fieldLink RX4 15 "PrefixIndex$Rows" "lengths" "[I") (List.mem_of_getElem? (i := 1) rfl)) (fun _ h9 => h9) rfl dX4_renew_10 ?_
    refine lv_iload_n hx hb dX4_renew_13 rfl (lv_at hl 1 rfl) ?_
    refine lv_iload_n hx hb dX4_renew_14 rfl (lv_at hl 2 rfl) ?_
    obtain ⟨hi_4, h⟩ := oin_e h
    refine va_iast hx hb hK hP hD hS 2 0 rfl rfl hi_4 dX4_renew_15 (fun H locs hP hD hS => ?_)
    have hP : va_P (dC, dI) vwCl [(h_places, .inl (cyJ, 36, .inr (.inl places))), (h_th, .inr (4, [.ref h_places, .ref h_lengths])), (h_lengths, .inl (cyI, 3, .inl (upd lengths x0.toNatClampNeg x1)))] H := hP
    have hD : va_D A [(h_places, .inl (cyJ, 36, .inr (.inl places))), (h_th, .inr (4, [.ref h_places, .ref h_lengths])), (h_lengths, .inl (cyI, 3, .inl (upd lengths x0.toNatClampNeg x1)))] := hD
    refine lv_iconst (v := 0) hx hb dX4_renew_16 (by decide) ?_
    refine lv_istore_n (lv' := [(3, .int (0 : Int32)), (0, .ref h_th), (1, .int x0), (2, .int x1)]) hx hb dX4_renew_17 rfl hl (by decide) rfl (fun ls hl => ?_)
    obtain ⟨w_12, hw_13, h⟩ := obd_e h
    have J : ∀ (H : Heap) (locs : List Loc) (ls : Array Slot), va_P (dC, dI) vwCl [(h_places, .inl (cyJ, 36, .inr (.inl w_12.2))), (h_th, .inr (4, [.ref h_places, .ref h_lengths])), (h_lengths, .inl (cyI, 3, .inl (upd lengths x0.toNatClampNeg x1)))] H → va_D A [(h_places, .inl (cyJ, 36, .inr (.inl w_12.2))), (h_th, .inr (4, [.ref h_places, .ref h_lengths])), (h_lengths, .inl (cyI, 3, .inl (upd lengths x0.toNatClampNeg x1)))] → va_S A s.heap H locs → lv_has ls 4 [] → W p l e ({ frames := 6, cells := 0, slots := 0, locals := 133 }) s m args below meth c H locs 0 0 Q (F0 m 36 ls []) := by
      intro H locs ls hP hD hS hl
      obtain rfl := Option.some.inj h
      have hP := hP.sub (ws' := [(h_th, .inr (4, [.ref h_places, .ref h_lengths])), (h_places, .inl (cyJ, 36, .inr (.inl w_12.2))), (h_lengths, .inl (cyI, 3, .inl (upd lengths x0.toNatClampNeg x1)))]) [1, 0, 2] rfl
      have hD := hD.sub (ws' := [(h_th, .inr (4, [.ref h_places, .ref h_lengths])), (h_places, .inl (cyJ, 36, .inr (.inl w_12.2))), (h_lengths, .inl (cyI, 3, .inl (upd lengths x0.toNatClampNeg x1)))]) [1, 0, 2] (by decide) rfl
      exact hret _ _ _ _ dX4_renew_36 hP hD hS
    have LL : ∀ (n : Nat) (m3 : Int32) (zplaces : (Nat → Int64)) (H : Heap) (locs : List Loc) (ls : Array Slot), lpX4_renew_18 x0 x1 (upd lengths x0.toNatClampNeg x1) n m3 zplaces = some w_12 → va_P (dC, dI) vwCl [(h_places, .inl (cyJ, 36, .inr (.inl zplaces))), (h_th, .inr (4, [.ref h_places, .ref h_lengths])), (h_lengths, .inl (cyI, 3, .inl (upd lengths x0.toNatClampNeg x1)))] H → va_D A [(h_places, .inl (cyJ, 36, .inr (.inl zplaces))), (h_th, .inr (4, [.ref h_places, .ref h_lengths])), (h_lengths, .inl (cyI, 3, .inl (upd lengths x0.toNatClampNeg x1)))] → va_S A s.heap H locs → lv_has ls 4 [(0, .ref h_th), (1, .int x0), (2, .int x1), (3, .int m3)] → W p l e ({ frames := 6, cells := 0, slots := 0, locals := 133 }) s m args below meth c H locs 0 0 Q (F0 m 18 ls []) := by
      intro n
      induction n with
      | zero =>
        intro m3 zplaces H locs ls h
        exact absurd h (by rw [lpX4_renew_18]; exact fun q => by cases q)
      | succ n ih =>
        intro m3 zplaces H locs ls h hP hD hS hl
        rw [lpX4_renew_18] at h
        refine lv_iload_n hx hb dX4_renew_18 rfl (lv_at hl 3 rfl) ?_
        refine lv_iload_n hx hb dX4_renew_19 rfl (lv_at hl 2 rfl) ?_
        refine lv_icmp_ge (tgt := 36) hx hb dX4_renew_20 (by decide) (fun c_9 => ?_) (fun c_9 => ?_)
        · have h := og_ite_t c_9 h
          obtain rfl := Option.some.inj h
          exact J _ _ _ hP hD hS (lv_sub hl [] rfl)
        · have h := og_ite_f c_9 h
          refine lv_aload_n hx hb dX4_renew_23 rfl (lv_at hl 0 rfl) ?_
          refine lv_iload_n hx hb dX4_renew_24 rfl (lv_at hl 1 rfl) ?_
          refine lv_iload_n hx hb dX4_renew_25 rfl (lv_at hl 3 rfl) ?_
          refine lv_lconst (v := 0) hx hb dX4_renew_26 (by decide) ?_
          obtain ⟨u_10, hc_11, h⟩ := obd_e h
          refine Gcv (wr := []) (va_runV (As := [.int x0, .int m3, .long (0 : Int64)]) (rest := []) ⟨hx, hb, hml, hown, hts⟩ (tX4_put l dC dI cyI cyJ cyZ cyO H.size h_th h_places h_lengths zplaces (upd lengths x0.toNatClampNeg x1) x0 m3 (0 : Int64) u_10 hc_11) (cwV 3 hts gX4_renew_X4_put rfl rfl rfl (by decide +kernel) ⟨Nat.le_of_ble_eq_true rfl, Nat.le_of_ble_eq_true rfl⟩) (GpreV hP hD hK hN [1, 0, 2] rfl (by decide) 4 0 rfl rfl rfl) rfl rfl hl.1 rfl (lv_room (Nat.le_of_ble_eq_true rfl)) dX4_renew_27 ⟨Nat.zero_le _, Nat.zero_le _⟩) hP hD hS hA [1, 0, 2] [] rfl rfl (by decide) (by decide) (fun H locs hP hD hS => ?_)
          have hP : va_P (dC, dI) vwCl [(h_th, .inr (4, [.ref h_places, .ref h_lengths])), (h_places, .inl (cyJ, 36, .inr (.inl u_10))), (h_lengths, .inl (cyI, 3, .inl (upd lengths x0.toNatClampNeg x1)))] H := hP
          have hD : va_D A [(h_th, .inr (4, [.ref h_places, .ref h_lengths])), (h_places, .inl (cyJ, 36, .inr (.inl u_10))), (h_lengths, .inl (cyI, 3, .inl (upd lengths x0.toNatClampNeg x1)))] := hD
          refine lv_iinc (v := m3 + (1 : Int32)) (lv' := [(3, .int (m3 + (1 : Int32))), (0, .ref h_th), (1, .int x0), (2, .int x1)]) hx hb dX4_renew_30 hl (k := 3) rfl rfl (by decide) rfl (fun ls hl => ?_)
          refine lv_goto (tgt := 18) hx hb dX4_renew_33 (by decide) ?_
          have hP := hP.sub (ws' := [(h_places, .inl (cyJ, 36, .inr (.inl u_10))), (h_th, .inr (4, [.ref h_places, .ref h_lengths])), (h_lengths, .inl (cyI, 3, .inl (upd lengths x0.toNatClampNeg x1)))]) [1, 0, 2] rfl
          have hD := hD.sub (ws' := [(h_places, .inl (cyJ, 36, .inr (.inl u_10))), (h_th, .inr (4, [.ref h_places, .ref h_lengths])), (h_lengths, .inl (cyI, 3, .inl (upd lengths x0.toNatClampNeg x1)))]) [1, 0, 2] (by decide) rfl
          exact ih (m3 + (1 : Int32)) u_10 _ _ _ h hP hD hS (lv_sub hl [1, 2, 3, 0] rfl)
    exact LL _ (0 : Int32) places _ _ _ hw_13 hP hD hS (lv_sub hl [1, 2, 3, 0] rfl)
  · have h := og_ite_t c_3 h
    obtain rfl := Option.some.inj h
    have hP := hP.sub (ws' := [(h_th, .inr (4, [.ref h_places, .ref h_lengths])), (h_places, .inl (cyJ, 36, .inr (.inl places))), (h_lengths, .inl (cyI, 3, .inl lengths))]) [1, 0, 2] rfl
    have hD := hD.sub (ws' := [(h_th, .inr (4, [.ref h_places, .ref h_lengths])), (h_places, .inl (cyJ, 36, .inr (.inl places))), (h_lengths, .inl (cyI, 3, .inl lengths))]) [1, 0, 2] (by decide) rfl
    exact hret _ _ _ _ dX4_renew_8 hP hD hS

def fX4_lose (lengths : (Nat → Int32)) (x0 : Int32) : Option ((Nat → Int32)) := obd (fX4_known x0) fun u_1 => obd (if u_1 = 0 then (some lengths) else (oin x0 3 (some (upd lengths x0.toNatClampNeg (-1 : Int32))))) fun w_4 => some w_4

set_option maxHeartbeats 4000000 in
set_option maxRecDepth 100000 in
theorem tX4_lose (l : Launch) (dC : Nat → ClassId) (dI : Nat → Nat → Nat) (cyI cyJ cyZ cyO : ClassId) (sz : Nat) (h_th h_lengths : Nat) (v_th_places : Value) (lengths : (Nat → Int32)) (x0 : Int32) (u : (Nat → Int32)) (hf : fX4_lose lengths x0 = some u) : Met l yX4_lose wsX4_lose ({ frames := 1, cells := 0, slots := 0, locals := 21 }) (va_Pc [.ref h_th, .int x0] (GP (dC, dI) (T4 cyI cyJ cyZ cyO) sz [(h_th, .inr (4, [v_th_places, .ref h_lengths])), (h_lengths, .inl (cyI, 3, .inl lengths))])) (va_Qv (fun (_ : Unit) => True) (GB (dC, dI) [(h_th, .inr (4, [v_th_places, .ref h_lengths])), (h_lengths, .inl (cyI, 3, .inl u))] (va_A [(h_th, .inr (4, [v_th_places, .ref h_lengths])), (h_lengths, .inl (cyI, 3, .inl lengths))] sz)) (va_A [(h_th, .inr (4, [v_th_places, .ref h_lengths])), (h_lengths, .inl (cyI, 3, .inl lengths))] sz)) 0 0 (va_A [(h_th, .inr (4, [v_th_places, .ref h_lengths])), (h_lengths, .inl (cyI, 3, .inl lengths))] sz) := by
  refine GMetV (by decide) rfl (Nat.le_of_ble_eq_true rfl) ?_
  intro p e s m args below meth c A Q ls hx hb hml hts hown hN hK hA hret hP hD hS hl
  have h := hf
  clear hf
  unfold fX4_lose at h
  have hown : s.vm.findClass RX4 = some m.cls := hown
  have hl : lv_has ls 2 [(0, .ref h_th), (1, .int x0)] := hl
  refine lv_aload_n hx hb dX4_lose_0 rfl (lv_at hl 0 rfl) ?_
  refine lv_iload_n hx hb dX4_lose_1 rfl (lv_at hl 1 rfl) ?_
  obtain ⟨u_1, hc_2, h⟩ := obd_e h
  refine Gci (wr := []) (va_runV (As := [.int x0]) (rest := []) ⟨hx, hb, hml, hown, hts⟩ (tX4_known l dC dI cyI cyJ cyZ cyO s.heap.size h_th h_lengths v_th_places lengths x0 u_1 hc_2) (cwV 1 hts gX4_lose_X4_known rfl rfl rfl (by decide +kernel) ⟨Nat.le_of_ble_eq_true rfl, Nat.le_of_ble_eq_true rfl⟩) (GpreV hP hD hK hN [0, 1] rfl (by decide) 4 0 rfl rfl rfl) rfl rfl hl.1 rfl (lv_room (Nat.le_of_ble_eq_true rfl)) dX4_lose_2 ⟨Nat.zero_le _, Nat.zero_le _⟩) hP hD hS hA [0, 1] [] rfl rfl (by decide) (by decide) (fun H locs hP hD hS => ?_)
  have hP : va_P (dC, dI) vwCl [(h_th, .inr (4, [v_th_places, .ref h_lengths])), (h_lengths, .inl (cyI, 3, .inl lengths))] H := hP
  have hD : va_D A [(h_th, .inr (4, [v_th_places, .ref h_lengths])), (h_lengths, .inl (cyI, 3, .inl lengths))] := hD
  obtain ⟨w_4, hm_6, h⟩ := obd_e h
  have J : ∀ (H : Heap) (locs : List Loc) (ls : Array Slot), va_P (dC, dI) vwCl [(h_th, .inr (4, [v_th_places, .ref h_lengths])), (h_lengths, .inl (cyI, 3, .inl w_4))] H → va_D A [(h_th, .inr (4, [v_th_places, .ref h_lengths])), (h_lengths, .inl (cyI, 3, .inl w_4))] → va_S A s.heap H locs → lv_has ls 2 [] → W p l e ({ frames := 1, cells := 0, slots := 0, locals := 21 }) s m args below meth c H locs 0 0 Q (F0 m 15 ls []) := by
    intro H locs ls hP hD hS hl
    obtain rfl := Option.some.inj h
    exact hret _ _ _ _ dX4_lose_15 hP hD hS
  replace h := hm_6
  refine lv_if_eq (tgt := 15) hx hb dX4_lose_5 (by decide) (fun c_3 => ?_) (fun c_3 => ?_)
  · have h := og_ite_t c_3 h
    obtain rfl := Option.some.inj h
    exact J _ _ _ hP hD hS (lv_sub hl [] rfl)
  · have h := og_ite_f c_3 h
    refine lv_aload_n hx hb dX4_lose_8 rfl (lv_at hl 0 rfl) ?_
    refine va_get (D := (dC, dI)) (ci := 4) (v := .ref h_lengths) (C := RX4) (T := TX4) (N := 2) hx hb hts (fun _ hw => List.mem_cons_of_mem _ (List.mem_append_right _ hw)) hown hK hP 0 rfl rfl 1 (by decide) (hts (.fieldLink RX4 15 "PrefixIndex$Rows" "lengths" "[I") (List.mem_of_getElem? (i := 1) rfl)) (fun _ h9 => h9) rfl dX4_lose_9 ?_
    refine lv_iload_n hx hb dX4_lose_12 rfl (lv_at hl 1 rfl) ?_
    refine lv_iconst (v := (-1)) hx hb dX4_lose_13 (by decide) ?_
    obtain ⟨hi_5, h⟩ := oin_e h
    refine va_iast hx hb hK hP hD hS 1 0 rfl rfl hi_5 dX4_lose_14 (fun H locs hP hD hS => ?_)
    have hP : va_P (dC, dI) vwCl [(h_th, .inr (4, [v_th_places, .ref h_lengths])), (h_lengths, .inl (cyI, 3, .inl (upd lengths x0.toNatClampNeg (-1 : Int32))))] H := hP
    have hD : va_D A [(h_th, .inr (4, [v_th_places, .ref h_lengths])), (h_lengths, .inl (cyI, 3, .inl (upd lengths x0.toNatClampNeg (-1 : Int32))))] := hD
    obtain rfl := Option.some.inj h
    exact J _ _ _ hP hD hS (lv_sub hl [] rfl)

def fX4_at (places : (Nat → Int64)) (lengths : (Nat → Int32)) (x0 : Int32) (x1 : Int32) : Option (Int64) := obd (fX4_slotOf lengths x0 x1) fun u_1 => obd (if u_1 < 0 then (some (0 : Int64)) else (if (36 : Int32) ≤ u_1 then (some (0 : Int64)) else (oin u_1 36 (some (places u_1.toNatClampNeg))))) fun w_4 => some w_4

set_option maxHeartbeats 4000000 in
set_option maxRecDepth 100000 in
theorem tX4_at (l : Launch) (dC : Nat → ClassId) (dI : Nat → Nat → Nat) (cyI cyJ cyZ cyO : ClassId) (sz : Nat) (h_th h_places h_lengths : Nat) (places : (Nat → Int64)) (lengths : (Nat → Int32)) (x0 : Int32) (x1 : Int32) (u : Int64) (hf : fX4_at places lengths x0 x1 = some u) : Met l yX4_at wsX4_at ({ frames := 5, cells := 0, slots := 0, locals := 108 }) (va_Pc [.ref h_th, .int x0, .int x1] (GP (dC, dI) (T4 cyI cyJ cyZ cyO) sz [(h_th, .inr (4, [.ref h_places, .ref h_lengths])), (h_places, .inl (cyJ, 36, .inr (.inl places))), (h_lengths, .inl (cyI, 3, .inl lengths))])) (va_Ql (fun (r : Int64) (_ : Unit) => r = u) (GB (dC, dI) [(h_th, .inr (4, [.ref h_places, .ref h_lengths])), (h_places, .inl (cyJ, 36, .inr (.inl places))), (h_lengths, .inl (cyI, 3, .inl lengths))] (va_A [(h_th, .inr (4, [.ref h_places, .ref h_lengths])), (h_places, .inl (cyJ, 36, .inr (.inl places))), (h_lengths, .inl (cyI, 3, .inl lengths))] sz)) (va_A [(h_th, .inr (4, [.ref h_places, .ref h_lengths])), (h_places, .inl (cyJ, 36, .inr (.inl places))), (h_lengths, .inl (cyI, 3, .inl lengths))] sz)) 0 0 (va_A [(h_th, .inr (4, [.ref h_places, .ref h_lengths])), (h_places, .inl (cyJ, 36, .inr (.inl places))), (h_lengths, .inl (cyI, 3, .inl lengths))] sz) := by
  refine GMetL (by decide) rfl (Nat.le_of_ble_eq_true rfl) ?_
  intro p e s m args below meth c A Q ls hx hb hml hts hown hN hK hA hret hP hD hS hl
  have h := hf
  clear hf
  unfold fX4_at at h
  have hown : s.vm.findClass RX4 = some m.cls := hown
  have hl : lv_has ls 4 [(0, .ref h_th), (1, .int x0), (2, .int x1)] := hl
  refine lv_aload_n hx hb dX4_at_0 rfl (lv_at hl 0 rfl) ?_
  refine lv_iload_n hx hb dX4_at_1 rfl (lv_at hl 1 rfl) ?_
  refine lv_iload_n hx hb dX4_at_2 rfl (lv_at hl 2 rfl) ?_
  obtain ⟨u_1, hc_2, h⟩ := obd_e h
  refine Gci (wr := [(h_places, .inl (cyJ, 36, .inr (.inl places)))]) (va_runV (As := [.int x0, .int x1]) (rest := []) ⟨hx, hb, hml, hown, hts⟩ (tX4_slotOf l dC dI cyI cyJ cyZ cyO s.heap.size h_th h_lengths (.ref h_places) lengths x0 x1 u_1 hc_2) (cwV 2 hts gX4_at_X4_slotOf rfl rfl rfl (by decide +kernel) ⟨Nat.le_of_ble_eq_true rfl, Nat.le_of_ble_eq_true rfl⟩) (GpreV hP hD hK hN [0, 2] rfl (by decide) 4 0 rfl rfl rfl) rfl rfl hl.1 rfl (lv_room (Nat.le_of_ble_eq_true rfl)) dX4_at_3 ⟨Nat.zero_le _, Nat.zero_le _⟩) hP hD hS hA [0, 2] [1] rfl rfl (by decide) (by decide) (fun H locs hP hD hS => ?_)
  have hP : va_P (dC, dI) vwCl [(h_places, .inl (cyJ, 36, .inr (.inl places))), (h_th, .inr (4, [.ref h_places, .ref h_lengths])), (h_lengths, .inl (cyI, 3, .inl lengths))] H := hP
  have hD : va_D A [(h_places, .inl (cyJ, 36, .inr (.inl places))), (h_th, .inr (4, [.ref h_places, .ref h_lengths])), (h_lengths, .inl (cyI, 3, .inl lengths))] := hD
  refine lv_istore_n (lv' := [(3, .int u_1), (0, .ref h_th), (1, .int x0), (2, .int x1)]) hx hb dX4_at_6 rfl hl (by decide) rfl (fun ls hl => ?_)
  refine lv_iload_n hx hb dX4_at_7 rfl (lv_at hl 0 rfl) ?_
  obtain ⟨w_4, hm_7, h⟩ := obd_e h
  have J : ∀ (H : Heap) (locs : List Loc) (ls : Array Slot), va_P (dC, dI) vwCl [(h_places, .inl (cyJ, 36, .inr (.inl places))), (h_th, .inr (4, [.ref h_places, .ref h_lengths])), (h_lengths, .inl (cyI, 3, .inl lengths))] H → va_D A [(h_places, .inl (cyJ, 36, .inr (.inl places))), (h_th, .inr (4, [.ref h_places, .ref h_lengths])), (h_lengths, .inl (cyI, 3, .inl lengths))] → va_S A s.heap H locs → lv_has ls 4 [] → W p l e ({ frames := 5, cells := 0, slots := 0, locals := 108 }) s m args below meth c H locs 0 0 Q (F0 m 30 ls [.long w_4]) := by
    intro H locs ls hP hD hS hl
    obtain rfl := Option.some.inj h
    have hP := hP.sub (ws' := [(h_th, .inr (4, [.ref h_places, .ref h_lengths])), (h_places, .inl (cyJ, 36, .inr (.inl places))), (h_lengths, .inl (cyI, 3, .inl lengths))]) [1, 0, 2] rfl
    have hD := hD.sub (ws' := [(h_th, .inr (4, [.ref h_places, .ref h_lengths])), (h_places, .inl (cyJ, 36, .inr (.inl places))), (h_lengths, .inl (cyI, 3, .inl lengths))]) [1, 0, 2] (by decide) rfl
    exact hret _ _ _ _ dX4_at_30 hP hD hS
  replace h := hm_7
  refine lv_if_lt (tgt := 29) hx hb dX4_at_8 (by decide) (fun c_3 => ?_) (fun c_3 => ?_)
  · have h := og_ite_t c_3 h
    refine lv_lconst (v := 0) hx hb dX4_at_29 (by decide) ?_
    obtain rfl := Option.some.inj h
    exact J _ _ _ hP hD hS (lv_sub hl [] rfl)
  · have h := og_ite_f c_3 h
    refine lv_iload_n hx hb dX4_at_11 rfl (lv_at hl 0 rfl) ?_
    refine lv_aload_n hx hb dX4_at_12 rfl (lv_at hl 1 rfl) ?_
    refine va_get (D := (dC, dI)) (ci := 4) (v := .ref h_places) (C := RX4) (T := TX4) (N := 2) hx hb hts (fun _ hw => List.mem_cons_of_mem _ (List.mem_append_right _ hw)) hown hK hP 1 rfl rfl 0 (by decide) (hts (.fieldLink RX4 9 "PrefixIndex$Rows" "places" "[J") (List.mem_of_getElem? (i := 1) rfl)) (fun _ h9 => h9) rfl dX4_at_13 ?_
    refine va_alen (v := (36 : Int32)) hx hb hK hP 0 1 rfl rfl rfl dX4_at_16 ?_
    refine lv_icmp_ge (tgt := 29) hx hb dX4_at_17 (by decide) (fun c_5 => ?_) (fun c_5 => ?_)
    · have h := og_ite_t c_5 h
      refine lv_lconst (v := 0) hx hb dX4_at_29 (by decide) ?_
      obtain rfl := Option.some.inj h
      exact J _ _ _ hP hD hS (lv_sub hl [] rfl)
    · have h := og_ite_f c_5 h
      refine lv_aload_n hx hb dX4_at_20 rfl (lv_at hl 1 rfl) ?_
      refine va_get (D := (dC, dI)) (ci := 4) (v := .ref h_places) (C := RX4) (T := TX4) (N := 2) hx hb hts (fun _ hw => List.mem_cons_of_mem _ (List.mem_append_right _ hw)) hown hK hP 1 rfl rfl 0 (by decide) (hts (.fieldLink RX4 9 "PrefixIndex$Rows" "places" "[J") (List.mem_of_getElem? (i := 1) rfl)) (fun _ h9 => h9) rfl dX4_at_21 ?_
      refine lv_iload_n hx hb dX4_at_24 rfl (lv_at hl 0 rfl) ?_
      obtain ⟨hi_6, h⟩ := oin_e h
      refine va_lald hx hb hK hP 0 1 rfl rfl hi_6 dX4_at_25 ?_
      refine lv_goto (tgt := 30) hx hb dX4_at_26 (by decide) ?_
      obtain rfl := Option.some.inj h
      exact J _ _ _ hP hD hS (lv_sub hl [] rfl)

def lpX4_allPlaces_4 (lengths : (Nat → Int32)) : Nat → Int32 → Int32 → Option (Int32 × Int32)
  | 0, _, _ => none
  | n + 1, m1, m2 => if (3 : Int32) ≤ m2 then (some (m1, m2)) else (oin m2 3 (lpX4_allPlaces_4 lengths n (m1 + (if (0 : Int32) < lengths m2.toNatClampNeg then lengths m2.toNatClampNeg else (0 : Int32))) (m2 + (1 : Int32))))

def fX4_allPlaces (lengths : (Nat → Int32)) : Option (Int32) := obd (lpX4_allPlaces_4 lengths 100000 (0 : Int32) (0 : Int32)) fun w_6 => some w_6.1

set_option maxHeartbeats 4000000 in
set_option maxRecDepth 100000 in
theorem tX4_allPlaces (l : Launch) (dC : Nat → ClassId) (dI : Nat → Nat → Nat) (cyI cyJ cyZ cyO : ClassId) (sz : Nat) (h_th h_lengths : Nat) (v_th_places : Value) (lengths : (Nat → Int32)) (u : Int32) (hf : fX4_allPlaces lengths = some u) : Met l yX4_allPlaces wsX4_allPlaces ({ frames := 1, cells := 0, slots := 0, locals := 21 }) (va_Pc [.ref h_th] (GP (dC, dI) (T4 cyI cyJ cyZ cyO) sz [(h_th, .inr (4, [v_th_places, .ref h_lengths])), (h_lengths, .inl (cyI, 3, .inl lengths))])) (va_Qi (fun (r : Int32) (_ : Unit) => r = u) (GB (dC, dI) [(h_th, .inr (4, [v_th_places, .ref h_lengths])), (h_lengths, .inl (cyI, 3, .inl lengths))] (va_A [(h_th, .inr (4, [v_th_places, .ref h_lengths])), (h_lengths, .inl (cyI, 3, .inl lengths))] sz)) (va_A [(h_th, .inr (4, [v_th_places, .ref h_lengths])), (h_lengths, .inl (cyI, 3, .inl lengths))] sz)) 0 0 (va_A [(h_th, .inr (4, [v_th_places, .ref h_lengths])), (h_lengths, .inl (cyI, 3, .inl lengths))] sz) := by
  refine GMetI (by decide) rfl (Nat.le_of_ble_eq_true rfl) ?_
  intro p e s m args below meth c A Q ls hx hb hml hts hown hN hK hA hret hP hD hS hl
  have h := hf
  clear hf
  unfold fX4_allPlaces at h
  have hown : s.vm.findClass RX4 = some m.cls := hown
  have hl : lv_has ls 3 [(0, .ref h_th)] := hl
  refine lv_iconst (v := 0) hx hb dX4_allPlaces_0 (by decide) ?_
  refine lv_istore_n (lv' := [(1, .int (0 : Int32)), (0, .ref h_th)]) hx hb dX4_allPlaces_1 rfl hl (by decide) rfl (fun ls hl => ?_)
  refine lv_iconst (v := 0) hx hb dX4_allPlaces_2 (by decide) ?_
  refine lv_istore_n (lv' := [(2, .int (0 : Int32)), (1, .int (0 : Int32)), (0, .ref h_th)]) hx hb dX4_allPlaces_3 rfl hl (by decide) rfl (fun ls hl => ?_)
  obtain ⟨w_6, hw_7, h⟩ := obd_e h
  have J : ∀ (H : Heap) (locs : List Loc) (ls : Array Slot), va_P (dC, dI) vwCl [(h_th, .inr (4, [v_th_places, .ref h_lengths])), (h_lengths, .inl (cyI, 3, .inl lengths))] H → va_D A [(h_th, .inr (4, [v_th_places, .ref h_lengths])), (h_lengths, .inl (cyI, 3, .inl lengths))] → va_S A s.heap H locs → lv_has ls 3 [(1, .int w_6.1)] → W p l e ({ frames := 1, cells := 0, slots := 0, locals := 21 }) s m args below meth c H locs 0 0 Q (F0 m 32 ls []) := by
    intro H locs ls hP hD hS hl
    refine lv_iload_n hx hb dX4_allPlaces_32 rfl (lv_at hl 0 rfl) ?_
    obtain rfl := Option.some.inj h
    exact hret _ _ _ _ dX4_allPlaces_33 hP hD hS
  have LL : ∀ (n : Nat) (m1 : Int32) (m2 : Int32) (H : Heap) (locs : List Loc) (ls : Array Slot), lpX4_allPlaces_4 lengths n m1 m2 = some w_6 → va_P (dC, dI) vwCl [(h_th, .inr (4, [v_th_places, .ref h_lengths])), (h_lengths, .inl (cyI, 3, .inl lengths))] H → va_D A [(h_th, .inr (4, [v_th_places, .ref h_lengths])), (h_lengths, .inl (cyI, 3, .inl lengths))] → va_S A s.heap H locs → lv_has ls 3 [(0, .ref h_th), (1, .int m1), (2, .int m2)] → W p l e ({ frames := 1, cells := 0, slots := 0, locals := 21 }) s m args below meth c H locs 0 0 Q (F0 m 4 ls []) := by
    intro n
    induction n with
    | zero =>
      intro m1 m2 H locs ls h
      exact absurd h (by rw [lpX4_allPlaces_4]; exact fun q => by cases q)
    | succ n ih =>
      intro m1 m2 H locs ls h hP hD hS hl
      rw [lpX4_allPlaces_4] at h
      refine lv_iload_n hx hb dX4_allPlaces_4 rfl (lv_at hl 2 rfl) ?_
      refine lv_aload_n hx hb dX4_allPlaces_5 rfl (lv_at hl 0 rfl) ?_
      refine va_get (D := (dC, dI)) (ci := 4) (v := .ref h_lengths) (C := RX4) (T := TX4) (N := 2) hx hb hts (fun _ hw => List.mem_cons_of_mem _ (List.mem_append_right _ hw)) hown hK hP 0 rfl rfl 1 (by decide) (hts (.fieldLink RX4 15 "PrefixIndex$Rows" "lengths" "[I") (List.mem_of_getElem? (i := 1) rfl)) (fun _ h9 => h9) rfl dX4_allPlaces_6 ?_
      refine va_alen (v := (3 : Int32)) hx hb hK hP 1 0 rfl rfl rfl dX4_allPlaces_9 ?_
      refine lv_icmp_ge (tgt := 32) hx hb dX4_allPlaces_10 (by decide) (fun c_4 => ?_) (fun c_4 => ?_)
      · have h := og_ite_t c_4 h
        obtain rfl := Option.some.inj h
        exact J _ _ _ hP hD hS (lv_sub hl [1] rfl)
      · have h := og_ite_f c_4 h
        refine lv_iload_n hx hb dX4_allPlaces_13 rfl (lv_at hl 1 rfl) ?_
        refine lv_iconst (v := 0) hx hb dX4_allPlaces_14 (by decide) ?_
        refine lv_aload_n hx hb dX4_allPlaces_15 rfl (lv_at hl 0 rfl) ?_
        refine va_get (D := (dC, dI)) (ci := 4) (v := .ref h_lengths) (C := RX4) (T := TX4) (N := 2) hx hb hts (fun _ hw => List.mem_cons_of_mem _ (List.mem_append_right _ hw)) hown hK hP 0 rfl rfl 1 (by decide) (hts (.fieldLink RX4 15 "PrefixIndex$Rows" "lengths" "[I") (List.mem_of_getElem? (i := 1) rfl)) (fun _ h9 => h9) rfl dX4_allPlaces_16 ?_
        refine lv_iload_n hx hb dX4_allPlaces_19 rfl (lv_at hl 2 rfl) ?_
        obtain ⟨hi_5, h⟩ := oin_e h
        refine va_iald hx hb hK hP 1 0 rfl rfl hi_5 dX4_allPlaces_20 ?_
        refine va_mmax hx hb (hml.trans hl.1.symm) hown (hts (.methodLink RX4 38 Lib.Math.max.name) (List.mem_of_getElem? (i := 2) rfl)) (hts (.static Lib.Math.max.name) (List.mem_of_getElem? (i := 3) rfl)) (hts (.initialized "java/lang/Math") (List.mem_of_getElem? (i := 4) rfl)) (hts (.code Lib.Math.max.name Lib.Math.max.code 2 (some .int)) (List.mem_of_getElem? (i := 5) rfl)) (Nat.le_of_ble_eq_true rfl) (Nat.le_of_ble_eq_true rfl) (Nat.zero_le _) (Nat.zero_le _) dX4_allPlaces_21 ?_
        refine lv_iadd hx hb dX4_allPlaces_24 ?_
        refine lv_istore_n (lv' := [(1, .int (m1 + (if (0 : Int32) < lengths m2.toNatClampNeg then lengths m2.toNatClampNeg else (0 : Int32)))), (0, .ref h_th), (2, .int m2)]) hx hb dX4_allPlaces_25 rfl hl (by decide) rfl (fun ls hl => ?_)
        refine lv_iinc (v := m2 + (1 : Int32)) (lv' := [(2, .int (m2 + (1 : Int32))), (1, .int (m1 + (if (0 : Int32) < lengths m2.toNatClampNeg then lengths m2.toNatClampNeg else (0 : Int32)))), (0, .ref h_th)]) hx hb dX4_allPlaces_26 hl (k := 2) rfl rfl (by decide) rfl (fun ls hl => ?_)
        refine lv_goto (tgt := 4) hx hb dX4_allPlaces_29 (by decide) ?_
        exact ih (m1 + (if (0 : Int32) < lengths m2.toNatClampNeg then lengths m2.toNatClampNeg else (0 : Int32))) (m2 + (1 : Int32)) _ _ _ h hP hD hS (lv_sub hl [2, 1, 0] rfl)
  exact LL _ (0 : Int32) (0 : Int32) _ _ _ hw_7 hP hD hS (lv_sub hl [2, 1, 0] rfl)

def fX5_append (length : Int32) (letters : (Nat → Int32)) (x0 : Int32) : Option (Int32 × Int32 × (Nat → Int32)) := if length < 0 then (obl (0 : Int32) (some ((0 : Int32), length, letters))) else (if length < (200 : Int32) then (oin length 200 (obl (1 : Int32) (some ((1 : Int32), (length + (1 : Int32)), upd letters length.toNatClampNeg x0)))) else (obl (0 : Int32) (some ((0 : Int32), length, letters))))

set_option maxHeartbeats 4000000 in
set_option maxRecDepth 100000 in
theorem tX5_append (l : Launch) (dC : Nat → ClassId) (dI : Nat → Nat → Nat) (cyI cyJ cyZ cyO : ClassId) (sz : Nat) (h_th h_letters : Nat) (v_th_kinds : Value) (v_th_numbers : Value) (v_th_clauses : Value) (v_th_bits : Value) (v_th_place : Value) (v_th_tokenStart : Value) (v_th_token : Value) (length : Int32) (letters : (Nat → Int32)) (x0 : Int32) (u : Int32 × Int32 × (Nat → Int32)) (hf : fX5_append length letters x0 = some u) : Met l yX5_append wsX5_append ({ frames := 0, cells := 0, slots := 0, locals := 0 }) (va_Pc [.ref h_th, .int x0] (GP (dC, dI) (T4 cyI cyJ cyZ cyO) sz [(h_th, .inr (5, [.ref h_letters, v_th_kinds, v_th_numbers, .int length, v_th_clauses, v_th_bits, v_th_place, v_th_tokenStart, v_th_token])), (h_letters, .inl (cyI, 200, .inl letters))])) (va_Qi (fun (r : Int32) (_ : Unit) => r = u.1) (GB (dC, dI) [(h_th, .inr (5, [.ref h_letters, v_th_kinds, v_th_numbers, .int u.2.1, v_th_clauses, v_th_bits, v_th_place, v_th_tokenStart, v_th_token])), (h_letters, .inl (cyI, 200, .inl u.2.2))] (va_A [(h_th, .inr (5, [.ref h_letters, v_th_kinds, v_th_numbers, .int length, v_th_clauses, v_th_bits, v_th_place, v_th_tokenStart, v_th_token])), (h_letters, .inl (cyI, 200, .inl letters))] sz)) (va_A [(h_th, .inr (5, [.ref h_letters, v_th_kinds, v_th_numbers, .int length, v_th_clauses, v_th_bits, v_th_place, v_th_tokenStart, v_th_token])), (h_letters, .inl (cyI, 200, .inl letters))] sz)) 0 0 (va_A [(h_th, .inr (5, [.ref h_letters, v_th_kinds, v_th_numbers, .int length, v_th_clauses, v_th_bits, v_th_place, v_th_tokenStart, v_th_token])), (h_letters, .inl (cyI, 200, .inl letters))] sz) := by
  refine GMetZ (by decide) rfl (Nat.le_of_ble_eq_true rfl) ?_
  intro p e s m args below meth c A Q ls hx hb hml hts hown hN hK hA hret hP hD hS hl
  have h := hf
  clear hf
  unfold fX5_append at h
  have hown : s.vm.findClass RX5 = some m.cls := hown
  have hl : lv_has ls 2 [(0, .ref h_th), (1, .int x0)] := hl
  refine lv_aload_n hx hb dX5_append_0 rfl (lv_at hl 0 rfl) ?_
  refine va_get (D := (dC, dI)) (ci := 5) (v := .int length) (C := RX5) (T := TX5) (N := 9) hx hb hts (fun _ hw => List.mem_cons_of_mem _ (List.mem_append_right _ hw)) hown hK hP 0 rfl rfl 3 (by decide) (hts (.fieldLink RX5 21 "PrefixIndex$Script" "length" "I") (List.mem_of_getElem? (i := 1) rfl)) (fun _ h9 => h9) rfl dX5_append_1 ?_
  refine lv_if_lt (tgt := 19) hx hb dX5_append_4 (by decide) (fun c_1 => ?_) (fun c_1 => ?_)
  · have h := og_ite_t c_1 h
    refine lv_iconst (v := 0) hx hb dX5_append_19 (by decide) ?_
    obtain ⟨hz, h⟩ := obl_e h
    obtain rfl := Option.some.inj h
    exact hret _ _ _ _ dX5_append_20 hz hP hD hS
  · have h := og_ite_f c_1 h
    refine lv_aload_n hx hb dX5_append_7 rfl (lv_at hl 0 rfl) ?_
    refine va_get (D := (dC, dI)) (ci := 5) (v := .int length) (C := RX5) (T := TX5) (N := 9) hx hb hts (fun _ hw => List.mem_cons_of_mem _ (List.mem_append_right _ hw)) hown hK hP 0 rfl rfl 3 (by decide) (hts (.fieldLink RX5 21 "PrefixIndex$Script" "length" "I") (List.mem_of_getElem? (i := 1) rfl)) (fun _ h9 => h9) rfl dX5_append_8 ?_
    refine lv_aload_n hx hb dX5_append_11 rfl (lv_at hl 0 rfl) ?_
    refine va_get (D := (dC, dI)) (ci := 5) (v := .ref h_letters) (C := RX5) (T := TX5) (N := 9) hx hb hts (fun _ hw => List.mem_cons_of_mem _ (List.mem_append_right _ hw)) hown hK hP 0 rfl rfl 0 (by decide) (hts (.fieldLink RX5 9 "PrefixIndex$Script" "letters" "[I") (List.mem_of_getElem? (i := 2) rfl)) (fun _ h9 => h9) rfl dX5_append_12 ?_
    refine va_alen (v := (200 : Int32)) hx hb hK hP 1 0 rfl rfl rfl dX5_append_15 ?_
    refine lv_icmp_lt (tgt := 21) hx hb dX5_append_16 (by decide) (fun c_2 => ?_) (fun c_2 => ?_)
    · have h := og_ite_t c_2 h
      refine lv_aload_n hx hb dX5_append_21 rfl (lv_at hl 0 rfl) ?_
      refine va_get (D := (dC, dI)) (ci := 5) (v := .ref h_letters) (C := RX5) (T := TX5) (N := 9) hx hb hts (fun _ hw => List.mem_cons_of_mem _ (List.mem_append_right _ hw)) hown hK hP 0 rfl rfl 0 (by decide) (hts (.fieldLink RX5 9 "PrefixIndex$Script" "letters" "[I") (List.mem_of_getElem? (i := 2) rfl)) (fun _ h9 => h9) rfl dX5_append_22 ?_
      refine lv_aload_n hx hb dX5_append_25 rfl (lv_at hl 0 rfl) ?_
      refine va_get (D := (dC, dI)) (ci := 5) (v := .int length) (C := RX5) (T := TX5) (N := 9) hx hb hts (fun _ hw => List.mem_cons_of_mem _ (List.mem_append_right _ hw)) hown hK hP 0 rfl rfl 3 (by decide) (hts (.fieldLink RX5 21 "PrefixIndex$Script" "length" "I") (List.mem_of_getElem? (i := 1) rfl)) (fun _ h9 => h9) rfl dX5_append_26 ?_
      refine lv_iload_n hx hb dX5_append_29 rfl (lv_at hl 1 rfl) ?_
      obtain ⟨hi_3, h⟩ := oin_e h
      refine va_iast hx hb hK hP hD hS 1 0 rfl rfl hi_3 dX5_append_30 (fun H locs hP hD hS => ?_)
      have hP : va_P (dC, dI) vwCl [(h_th, .inr (5, [.ref h_letters, v_th_kinds, v_th_numbers, .int length, v_th_clauses, v_th_bits, v_th_place, v_th_tokenStart, v_th_token])), (h_letters, .inl (cyI, 200, .inl (upd letters length.toNatClampNeg x0)))] H := hP
      have hD : va_D A [(h_th, .inr (5, [.ref h_letters, v_th_kinds, v_th_numbers, .int length, v_th_clauses, v_th_bits, v_th_place, v_th_tokenStart, v_th_token])), (h_letters, .inl (cyI, 200, .inl (upd letters length.toNatClampNeg x0)))] := hD
      refine lv_aload_n hx hb dX5_append_31 rfl (lv_at hl 0 rfl) ?_
      refine lv_dup hx hb dX5_append_32 rfl ?_
      refine va_get (D := (dC, dI)) (ci := 5) (v := .int length) (C := RX5) (T := TX5) (N := 9) hx hb hts (fun _ hw => List.mem_cons_of_mem _ (List.mem_append_right _ hw)) hown hK hP 0 rfl rfl 3 (by decide) (hts (.fieldLink RX5 21 "PrefixIndex$Script" "length" "I") (List.mem_of_getElem? (i := 1) rfl)) (fun _ h9 => h9) rfl dX5_append_33 ?_
      refine lv_iconst (v := 1) hx hb dX5_append_36 (by decide) ?_
      refine lv_iadd hx hb dX5_append_37 ?_
      refine va_put (D := (dC, dI)) (ci := 5) (v := .int (length + (1 : Int32))) (ty := .int) (C := RX5) (T := TX5) (N := 9) hx hb hts (fun _ hw => List.mem_cons_of_mem _ (List.mem_append_right _ hw)) tyX5 tyX5_ok nmX5 hown hK hP hD hS 0 rfl rfl 3 (by decide) (hts (.fieldLink RX5 21 "PrefixIndex$Script" "length" "I") (List.mem_of_getElem? (i := 1) rfl)) (fun _ h9 => h9) rfl (by decide +kernel) rfl rfl (Nat.le_of_ble_eq_true rfl) dX5_append_38 (fun H locs hP hD hS => ?_)
      have hP : va_P (dC, dI) vwCl [(h_th, .inr (5, [.ref h_letters, v_th_kinds, v_th_numbers, .int (length + (1 : Int32)), v_th_clauses, v_th_bits, v_th_place, v_th_tokenStart, v_th_token])), (h_letters, .inl (cyI, 200, .inl (upd letters length.toNatClampNeg x0)))] H := hP
      have hD : va_D A [(h_th, .inr (5, [.ref h_letters, v_th_kinds, v_th_numbers, .int (length + (1 : Int32)), v_th_clauses, v_th_bits, v_th_place, v_th_tokenStart, v_th_token])), (h_letters, .inl (cyI, 200, .inl (upd letters length.toNatClampNeg x0)))] := hD
      refine lv_iconst (v := 1) hx hb dX5_append_41 (by decide) ?_
      obtain ⟨hz, h⟩ := obl_e h
      obtain rfl := Option.some.inj h
      exact hret _ _ _ _ dX5_append_42 hz hP hD hS
    · have h := og_ite_f c_2 h
      refine lv_iconst (v := 0) hx hb dX5_append_19 (by decide) ?_
      obtain ⟨hz, h⟩ := obl_e h
      obtain rfl := Option.some.inj h
      exact hret _ _ _ _ dX5_append_20 hz hP hD hS

def fX5_clear (length : Int32) : Option (Int32 × Int32) := some (length, (0 : Int32))

set_option maxHeartbeats 4000000 in
set_option maxRecDepth 100000 in
theorem tX5_clear (l : Launch) (dC : Nat → ClassId) (dI : Nat → Nat → Nat) (cyI cyJ cyZ cyO : ClassId) (sz : Nat) (h_th : Nat) (v_th_letters : Value) (v_th_kinds : Value) (v_th_numbers : Value) (v_th_clauses : Value) (v_th_bits : Value) (v_th_place : Value) (v_th_tokenStart : Value) (v_th_token : Value) (length : Int32) (u : Int32 × Int32) (hf : fX5_clear length = some u) : Met l yX5_clear wsX5_clear ({ frames := 0, cells := 0, slots := 0, locals := 0 }) (va_Pc [.ref h_th] (GP (dC, dI) (T4 cyI cyJ cyZ cyO) sz [(h_th, .inr (5, [v_th_letters, v_th_kinds, v_th_numbers, .int length, v_th_clauses, v_th_bits, v_th_place, v_th_tokenStart, v_th_token]))])) (va_Qi (fun (r : Int32) (_ : Unit) => r = u.1) (GB (dC, dI) [(h_th, .inr (5, [v_th_letters, v_th_kinds, v_th_numbers, .int u.2, v_th_clauses, v_th_bits, v_th_place, v_th_tokenStart, v_th_token]))] (va_A [(h_th, .inr (5, [v_th_letters, v_th_kinds, v_th_numbers, .int length, v_th_clauses, v_th_bits, v_th_place, v_th_tokenStart, v_th_token]))] sz)) (va_A [(h_th, .inr (5, [v_th_letters, v_th_kinds, v_th_numbers, .int length, v_th_clauses, v_th_bits, v_th_place, v_th_tokenStart, v_th_token]))] sz)) 0 0 (va_A [(h_th, .inr (5, [v_th_letters, v_th_kinds, v_th_numbers, .int length, v_th_clauses, v_th_bits, v_th_place, v_th_tokenStart, v_th_token]))] sz) := by
  refine GMetI (by decide) rfl (Nat.le_of_ble_eq_true rfl) ?_
  intro p e s m args below meth c A Q ls hx hb hml hts hown hN hK hA hret hP hD hS hl
  have h := hf
  clear hf
  unfold fX5_clear at h
  have hown : s.vm.findClass RX5 = some m.cls := hown
  have hl : lv_has ls 2 [(0, .ref h_th)] := hl
  refine lv_aload_n hx hb dX5_clear_0 rfl (lv_at hl 0 rfl) ?_
  refine va_get (D := (dC, dI)) (ci := 5) (v := .int length) (C := RX5) (T := TX5) (N := 9) hx hb hts (fun _ hw => List.mem_cons_of_mem _ (List.mem_append_right _ hw)) hown hK hP 0 rfl rfl 3 (by decide) (hts (.fieldLink RX5 21 "PrefixIndex$Script" "length" "I") (List.mem_of_getElem? (i := 1) rfl)) (fun _ h9 => h9) rfl dX5_clear_1 ?_
  refine lv_istore_n (lv' := [(1, .int length), (0, .ref h_th)]) hx hb dX5_clear_4 rfl hl (by decide) rfl (fun ls hl => ?_)
  refine lv_aload_n hx hb dX5_clear_5 rfl (lv_at hl 1 rfl) ?_
  refine lv_iconst (v := 0) hx hb dX5_clear_6 (by decide) ?_
  refine va_put (D := (dC, dI)) (ci := 5) (v := .int (0 : Int32)) (ty := .int) (C := RX5) (T := TX5) (N := 9) hx hb hts (fun _ hw => List.mem_cons_of_mem _ (List.mem_append_right _ hw)) tyX5 tyX5_ok nmX5 hown hK hP hD hS 0 rfl rfl 3 (by decide) (hts (.fieldLink RX5 21 "PrefixIndex$Script" "length" "I") (List.mem_of_getElem? (i := 1) rfl)) (fun _ h9 => h9) rfl (by decide +kernel) rfl rfl (Nat.le_of_ble_eq_true rfl) dX5_clear_7 (fun H locs hP hD hS => ?_)
  have hP : va_P (dC, dI) vwCl [(h_th, .inr (5, [v_th_letters, v_th_kinds, v_th_numbers, .int (0 : Int32), v_th_clauses, v_th_bits, v_th_place, v_th_tokenStart, v_th_token]))] H := hP
  have hD : va_D A [(h_th, .inr (5, [v_th_letters, v_th_kinds, v_th_numbers, .int (0 : Int32), v_th_clauses, v_th_bits, v_th_place, v_th_tokenStart, v_th_token]))] := hD
  refine lv_iload_n hx hb dX5_clear_10 rfl (lv_at hl 0 rfl) ?_
  obtain rfl := Option.some.inj h
  exact hret _ _ _ _ dX5_clear_11 hP hD hS

def fX5_letterAt (length : Int32) (letters : (Nat → Int32)) (x0 : Int32) : Option (Int32) := obd (if x0 < 0 then (some (-1 : Int32)) else (if length ≤ x0 then (some (-1 : Int32)) else (if (200 : Int32) ≤ x0 then (some (-1 : Int32)) else (oin x0 200 (some (letters x0.toNatClampNeg)))))) fun w_2 => some w_2

set_option maxHeartbeats 4000000 in
set_option maxRecDepth 100000 in
theorem tX5_letterAt (l : Launch) (dC : Nat → ClassId) (dI : Nat → Nat → Nat) (cyI cyJ cyZ cyO : ClassId) (sz : Nat) (h_th h_letters : Nat) (v_th_kinds : Value) (v_th_numbers : Value) (v_th_clauses : Value) (v_th_bits : Value) (v_th_place : Value) (v_th_tokenStart : Value) (v_th_token : Value) (length : Int32) (letters : (Nat → Int32)) (x0 : Int32) (u : Int32) (hf : fX5_letterAt length letters x0 = some u) : Met l yX5_letterAt wsX5_letterAt ({ frames := 0, cells := 0, slots := 0, locals := 0 }) (va_Pc [.ref h_th, .int x0] (GP (dC, dI) (T4 cyI cyJ cyZ cyO) sz [(h_th, .inr (5, [.ref h_letters, v_th_kinds, v_th_numbers, .int length, v_th_clauses, v_th_bits, v_th_place, v_th_tokenStart, v_th_token])), (h_letters, .inl (cyI, 200, .inl letters))])) (va_Qi (fun (r : Int32) (_ : Unit) => r = u) (GB (dC, dI) [(h_th, .inr (5, [.ref h_letters, v_th_kinds, v_th_numbers, .int length, v_th_clauses, v_th_bits, v_th_place, v_th_tokenStart, v_th_token])), (h_letters, .inl (cyI, 200, .inl letters))] (va_A [(h_th, .inr (5, [.ref h_letters, v_th_kinds, v_th_numbers, .int length, v_th_clauses, v_th_bits, v_th_place, v_th_tokenStart, v_th_token])), (h_letters, .inl (cyI, 200, .inl letters))] sz)) (va_A [(h_th, .inr (5, [.ref h_letters, v_th_kinds, v_th_numbers, .int length, v_th_clauses, v_th_bits, v_th_place, v_th_tokenStart, v_th_token])), (h_letters, .inl (cyI, 200, .inl letters))] sz)) 0 0 (va_A [(h_th, .inr (5, [.ref h_letters, v_th_kinds, v_th_numbers, .int length, v_th_clauses, v_th_bits, v_th_place, v_th_tokenStart, v_th_token])), (h_letters, .inl (cyI, 200, .inl letters))] sz) := by
  refine GMetI (by decide) rfl (Nat.le_of_ble_eq_true rfl) ?_
  intro p e s m args below meth c A Q ls hx hb hml hts hown hN hK hA hret hP hD hS hl
  have h := hf
  clear hf
  unfold fX5_letterAt at h
  have hown : s.vm.findClass RX5 = some m.cls := hown
  have hl : lv_has ls 2 [(0, .ref h_th), (1, .int x0)] := hl
  refine lv_iload_n hx hb dX5_letterAt_0 rfl (lv_at hl 1 rfl) ?_
  obtain ⟨w_2, hm_6, h⟩ := obd_e h
  have J : ∀ (H : Heap) (locs : List Loc) (ls : Array Slot), va_P (dC, dI) vwCl [(h_th, .inr (5, [.ref h_letters, v_th_kinds, v_th_numbers, .int length, v_th_clauses, v_th_bits, v_th_place, v_th_tokenStart, v_th_token])), (h_letters, .inl (cyI, 200, .inl letters))] H → va_D A [(h_th, .inr (5, [.ref h_letters, v_th_kinds, v_th_numbers, .int length, v_th_clauses, v_th_bits, v_th_place, v_th_tokenStart, v_th_token])), (h_letters, .inl (cyI, 200, .inl letters))] → va_S A s.heap H locs → lv_has ls 2 [] → W p l e ({ frames := 0, cells := 0, slots := 0, locals := 0 }) s m args below meth c H locs 0 0 Q (F0 m 31 ls [.int w_2]) := by
    intro H locs ls hP hD hS hl
    obtain rfl := Option.some.inj h
    exact hret _ _ _ _ dX5_letterAt_31 hP hD hS
  replace h := hm_6
  refine lv_if_lt (tgt := 30) hx hb dX5_letterAt_1 (by decide) (fun c_1 => ?_) (fun c_1 => ?_)
  · have h := og_ite_t c_1 h
    refine lv_iconst (v := (-1)) hx hb dX5_letterAt_30 (by decide) ?_
    obtain rfl := Option.some.inj h
    exact J _ _ _ hP hD hS (lv_sub hl [] rfl)
  · have h := og_ite_f c_1 h
    refine lv_iload_n hx hb dX5_letterAt_4 rfl (lv_at hl 1 rfl) ?_
    refine lv_aload_n hx hb dX5_letterAt_5 rfl (lv_at hl 0 rfl) ?_
    refine va_get (D := (dC, dI)) (ci := 5) (v := .int length) (C := RX5) (T := TX5) (N := 9) hx hb hts (fun _ hw => List.mem_cons_of_mem _ (List.mem_append_right _ hw)) hown hK hP 0 rfl rfl 3 (by decide) (hts (.fieldLink RX5 21 "PrefixIndex$Script" "length" "I") (List.mem_of_getElem? (i := 1) rfl)) (fun _ h9 => h9) rfl dX5_letterAt_6 ?_
    refine lv_icmp_ge (tgt := 30) hx hb dX5_letterAt_9 (by decide) (fun c_3 => ?_) (fun c_3 => ?_)
    · have h := og_ite_t c_3 h
      refine lv_iconst (v := (-1)) hx hb dX5_letterAt_30 (by decide) ?_
      obtain rfl := Option.some.inj h
      exact J _ _ _ hP hD hS (lv_sub hl [] rfl)
    · have h := og_ite_f c_3 h
      refine lv_iload_n hx hb dX5_letterAt_12 rfl (lv_at hl 1 rfl) ?_
      refine lv_aload_n hx hb dX5_letterAt_13 rfl (lv_at hl 0 rfl) ?_
      refine va_get (D := (dC, dI)) (ci := 5) (v := .ref h_letters) (C := RX5) (T := TX5) (N := 9) hx hb hts (fun _ hw => List.mem_cons_of_mem _ (List.mem_append_right _ hw)) hown hK hP 0 rfl rfl 0 (by decide) (hts (.fieldLink RX5 9 "PrefixIndex$Script" "letters" "[I") (List.mem_of_getElem? (i := 2) rfl)) (fun _ h9 => h9) rfl dX5_letterAt_14 ?_
      refine va_alen (v := (200 : Int32)) hx hb hK hP 1 0 rfl rfl rfl dX5_letterAt_17 ?_
      refine lv_icmp_ge (tgt := 30) hx hb dX5_letterAt_18 (by decide) (fun c_4 => ?_) (fun c_4 => ?_)
      · have h := og_ite_t c_4 h
        refine lv_iconst (v := (-1)) hx hb dX5_letterAt_30 (by decide) ?_
        obtain rfl := Option.some.inj h
        exact J _ _ _ hP hD hS (lv_sub hl [] rfl)
      · have h := og_ite_f c_4 h
        refine lv_aload_n hx hb dX5_letterAt_21 rfl (lv_at hl 0 rfl) ?_
        refine va_get (D := (dC, dI)) (ci := 5) (v := .ref h_letters) (C := RX5) (T := TX5) (N := 9) hx hb hts (fun _ hw => List.mem_cons_of_mem _ (List.mem_append_right _ hw)) hown hK hP 0 rfl rfl 0 (by decide) (hts (.fieldLink RX5 9 "PrefixIndex$Script" "letters" "[I") (List.mem_of_getElem? (i := 2) rfl)) (fun _ h9 => h9) rfl dX5_letterAt_22 ?_
        refine lv_iload_n hx hb dX5_letterAt_25 rfl (lv_at hl 1 rfl) ?_
        obtain ⟨hi_5, h⟩ := oin_e h
        refine va_iald hx hb hK hP 1 0 rfl rfl hi_5 dX5_letterAt_26 ?_
        refine lv_goto (tgt := 31) hx hb dX5_letterAt_27 (by decide) ?_
        obtain rfl := Option.some.inj h
        exact J _ _ _ hP hD hS (lv_sub hl [] rfl)

def fX5_kindOf (x0 : Int32) : Option (Int32) := if x0 = (-1 : Int32) then (some (0 : Int32)) else (if x0 = (32 : Int32) then (some (1 : Int32)) else (if x0 < (97 : Int32) then (olet (if x0 < (48 : Int32) then ((4 : Int32)) else (if (57 : Int32) < x0 then ((4 : Int32)) else ((3 : Int32)))) fun y_5 => some y_5) else (if (122 : Int32) < x0 then (olet (if x0 < (48 : Int32) then ((4 : Int32)) else (if (57 : Int32) < x0 then ((4 : Int32)) else ((3 : Int32)))) fun y_9 => some y_9) else (some (2 : Int32)))))

set_option maxHeartbeats 4000000 in
set_option maxRecDepth 100000 in
theorem tX5_kindOf (l : Launch) (dC : Nat → ClassId) (dI : Nat → Nat → Nat) (cyI cyJ cyZ cyO : ClassId) (sz : Nat) (x0 : Int32) (u : Int32) (hf : fX5_kindOf x0 = some u) : Met l yX5_kindOf wsX5_kindOf ({ frames := 0, cells := 0, slots := 0, locals := 0 }) (va_Pc [.int x0] (GP (dC, dI) (T4 cyI cyJ cyZ cyO) sz [])) (va_Qi (fun (r : Int32) (_ : Unit) => r = u) (GB (dC, dI) [] (va_A [] sz)) (va_A [] sz)) 0 0 (va_A [] sz) := by
  refine GMetI (by decide) rfl (Nat.le_of_ble_eq_true rfl) ?_
  intro p e s m args below meth c A Q ls hx hb hml hts hown hN hK hA hret hP hD hS hl
  have h := hf
  clear hf
  unfold fX5_kindOf at h
  have hown : s.vm.findClass RX5 = some m.cls := hown
  have hl : lv_has ls 1 [(0, .int x0)] := hl
  refine lv_iload_n hx hb dX5_kindOf_0 rfl (lv_at hl 0 rfl) ?_
  refine lv_iconst (v := (-1)) hx hb dX5_kindOf_1 (by decide) ?_
  refine lv_icmp_ne (tgt := 7) hx hb dX5_kindOf_2 (by decide) (fun c_1 => ?_) (fun c_1 => ?_)
  · have h := og_ite_f c_1 h
    refine lv_iload_n hx hb dX5_kindOf_7 rfl (lv_at hl 0 rfl) ?_
    refine lv_bipush (v := 32) hx hb dX5_kindOf_8 (by decide) ?_
    refine lv_icmp_ne (tgt := 15) hx hb dX5_kindOf_10 (by decide) (fun c_2 => ?_) (fun c_2 => ?_)
    · have h := og_ite_f c_2 h
      refine lv_iload_n hx hb dX5_kindOf_15 rfl (lv_at hl 0 rfl) ?_
      refine lv_bipush (v := 97) hx hb dX5_kindOf_16 (by decide) ?_
      refine lv_icmp_lt (tgt := 29) hx hb dX5_kindOf_18 (by decide) (fun c_3 => ?_) (fun c_3 => ?_)
      · have h := og_ite_t c_3 h
        refine lv_iload_n hx hb dX5_kindOf_29 rfl (lv_at hl 0 rfl) ?_
        refine lv_bipush (v := 48) hx hb dX5_kindOf_30 (by decide) ?_
        obtain ⟨y_5, ey_5, h⟩ := olet_e h
        have J : ∀ (H : Heap) (locs : List Loc) (ls : Array Slot), va_P (dC, dI) vwCl [] H → va_D A [] → va_S A s.heap H locs → lv_has ls 1 [] → W p l e ({ frames := 0, cells := 0, slots := 0, locals := 0 }) s m args below meth c H locs 0 0 Q (F0 m 46 ls [.int y_5]) := by
          intro H locs ls hP hD hS hl
          obtain rfl := Option.some.inj h
          exact hret _ _ _ _ dX5_kindOf_46 hP hD hS
        clear h
        refine lv_icmp_lt (tgt := 45) hx hb dX5_kindOf_32 (by decide) (fun c_4 => ?_) (fun c_4 => ?_)
        · refine lv_iconst (v := 4) hx hb dX5_kindOf_45 (by decide) ?_
          rw [if_pos c_4] at ey_5
          subst ey_5
          exact J _ _ _ hP hD hS (lv_sub hl [] rfl)
        · refine lv_iload_n hx hb dX5_kindOf_35 rfl (lv_at hl 0 rfl) ?_
          refine lv_bipush (v := 57) hx hb dX5_kindOf_36 (by decide) ?_
          refine lv_icmp_gt (tgt := 45) hx hb dX5_kindOf_38 (by decide) (fun c_6 => ?_) (fun c_6 => ?_)
          · refine lv_iconst (v := 4) hx hb dX5_kindOf_45 (by decide) ?_
            rw [if_neg c_4, if_pos c_6] at ey_5
            subst ey_5
            exact J _ _ _ hP hD hS (lv_sub hl [] rfl)
          · refine lv_iconst (v := 3) hx hb dX5_kindOf_41 (by decide) ?_
            refine lv_goto (tgt := 46) hx hb dX5_kindOf_42 (by decide) ?_
            rw [if_neg c_4, if_neg c_6] at ey_5
            subst ey_5
            exact J _ _ _ hP hD hS (lv_sub hl [] rfl)
      · have h := og_ite_f c_3 h
        refine lv_iload_n hx hb dX5_kindOf_21 rfl (lv_at hl 0 rfl) ?_
        refine lv_bipush (v := 122) hx hb dX5_kindOf_22 (by decide) ?_
        refine lv_icmp_gt (tgt := 29) hx hb dX5_kindOf_24 (by decide) (fun c_7 => ?_) (fun c_7 => ?_)
        · have h := og_ite_t c_7 h
          refine lv_iload_n hx hb dX5_kindOf_29 rfl (lv_at hl 0 rfl) ?_
          refine lv_bipush (v := 48) hx hb dX5_kindOf_30 (by decide) ?_
          obtain ⟨y_9, ey_9, h⟩ := olet_e h
          have J : ∀ (H : Heap) (locs : List Loc) (ls : Array Slot), va_P (dC, dI) vwCl [] H → va_D A [] → va_S A s.heap H locs → lv_has ls 1 [] → W p l e ({ frames := 0, cells := 0, slots := 0, locals := 0 }) s m args below meth c H locs 0 0 Q (F0 m 46 ls [.int y_9]) := by
            intro H locs ls hP hD hS hl
            obtain rfl := Option.some.inj h
            exact hret _ _ _ _ dX5_kindOf_46 hP hD hS
          clear h
          refine lv_icmp_lt (tgt := 45) hx hb dX5_kindOf_32 (by decide) (fun c_8 => ?_) (fun c_8 => ?_)
          · refine lv_iconst (v := 4) hx hb dX5_kindOf_45 (by decide) ?_
            rw [if_pos c_8] at ey_9
            subst ey_9
            exact J _ _ _ hP hD hS (lv_sub hl [] rfl)
          · refine lv_iload_n hx hb dX5_kindOf_35 rfl (lv_at hl 0 rfl) ?_
            refine lv_bipush (v := 57) hx hb dX5_kindOf_36 (by decide) ?_
            refine lv_icmp_gt (tgt := 45) hx hb dX5_kindOf_38 (by decide) (fun c_10 => ?_) (fun c_10 => ?_)
            · refine lv_iconst (v := 4) hx hb dX5_kindOf_45 (by decide) ?_
              rw [if_neg c_8, if_pos c_10] at ey_9
              subst ey_9
              exact J _ _ _ hP hD hS (lv_sub hl [] rfl)
            · refine lv_iconst (v := 3) hx hb dX5_kindOf_41 (by decide) ?_
              refine lv_goto (tgt := 46) hx hb dX5_kindOf_42 (by decide) ?_
              rw [if_neg c_8, if_neg c_10] at ey_9
              subst ey_9
              exact J _ _ _ hP hD hS (lv_sub hl [] rfl)
        · have h := og_ite_f c_7 h
          refine lv_iconst (v := 2) hx hb dX5_kindOf_27 (by decide) ?_
          obtain rfl := Option.some.inj h
          exact hret _ _ _ _ dX5_kindOf_28 hP hD hS
    · have h := og_ite_t c_2 h
      refine lv_iconst (v := 1) hx hb dX5_kindOf_13 (by decide) ?_
      obtain rfl := Option.some.inj h
      exact hret _ _ _ _ dX5_kindOf_14 hP hD hS
  · have h := og_ite_t c_1 h
    refine lv_iconst (v := 0) hx hb dX5_kindOf_5 (by decide) ?_
    obtain rfl := Option.some.inj h
    exact hret _ _ _ _ dX5_kindOf_6 hP hD hS

def lpX5_endOfRun_2 (q2 : Int32) (length : Int32) (letters : (Nat → Int32)) : Nat → Int32 → Option (Int32)
  | 0, _ => none
  | n + 1, m3 => if length ≤ m3 then (some m3) else (obd (fX5_letterAt length letters m3) fun u_3 => obd (fX5_kindOf u_3) fun u_5 => if u_5 = q2 then (lpX5_endOfRun_2 q2 length letters n (m3 + (1 : Int32))) else (some m3))

def fX5_endOfRun (length : Int32) (letters : (Nat → Int32)) (x0 : Int32) (x1 : Int32) : Option (Int32) := obd (lpX5_endOfRun_2 x1 length letters 100000 x0) fun w_14 => some w_14

set_option maxHeartbeats 4000000 in
set_option maxRecDepth 100000 in
theorem tX5_endOfRun (l : Launch) (dC : Nat → ClassId) (dI : Nat → Nat → Nat) (cyI cyJ cyZ cyO : ClassId) (sz : Nat) (h_th h_letters : Nat) (v_th_kinds : Value) (v_th_numbers : Value) (v_th_clauses : Value) (v_th_bits : Value) (v_th_place : Value) (v_th_tokenStart : Value) (v_th_token : Value) (length : Int32) (letters : (Nat → Int32)) (x0 : Int32) (x1 : Int32) (u : Int32) (hf : fX5_endOfRun length letters x0 x1 = some u) : Met l yX5_endOfRun wsX5_endOfRun ({ frames := 1, cells := 0, slots := 0, locals := 21 }) (va_Pc [.ref h_th, .int x0, .int x1] (GP (dC, dI) (T4 cyI cyJ cyZ cyO) sz [(h_th, .inr (5, [.ref h_letters, v_th_kinds, v_th_numbers, .int length, v_th_clauses, v_th_bits, v_th_place, v_th_tokenStart, v_th_token])), (h_letters, .inl (cyI, 200, .inl letters))])) (va_Qi (fun (r : Int32) (_ : Unit) => r = u) (GB (dC, dI) [(h_th, .inr (5, [.ref h_letters, v_th_kinds, v_th_numbers, .int length, v_th_clauses, v_th_bits, v_th_place, v_th_tokenStart, v_th_token])), (h_letters, .inl (cyI, 200, .inl letters))] (va_A [(h_th, .inr (5, [.ref h_letters, v_th_kinds, v_th_numbers, .int length, v_th_clauses, v_th_bits, v_th_place, v_th_tokenStart, v_th_token])), (h_letters, .inl (cyI, 200, .inl letters))] sz)) (va_A [(h_th, .inr (5, [.ref h_letters, v_th_kinds, v_th_numbers, .int length, v_th_clauses, v_th_bits, v_th_place, v_th_tokenStart, v_th_token])), (h_letters, .inl (cyI, 200, .inl letters))] sz)) 0 0 (va_A [(h_th, .inr (5, [.ref h_letters, v_th_kinds, v_th_numbers, .int length, v_th_clauses, v_th_bits, v_th_place, v_th_tokenStart, v_th_token])), (h_letters, .inl (cyI, 200, .inl letters))] sz) := by
  refine GMetI (by decide) rfl (Nat.le_of_ble_eq_true rfl) ?_
  intro p e s m args below meth c A Q ls hx hb hml hts hown hN hK hA hret hP hD hS hl
  have h := hf
  clear hf
  unfold fX5_endOfRun at h
  have hown : s.vm.findClass RX5 = some m.cls := hown
  have hl : lv_has ls 4 [(0, .ref h_th), (1, .int x0), (2, .int x1)] := hl
  refine lv_iload_n hx hb dX5_endOfRun_0 rfl (lv_at hl 1 rfl) ?_
  refine lv_istore_n (lv' := [(3, .int x0), (0, .ref h_th), (1, .int x0), (2, .int x1)]) hx hb dX5_endOfRun_1 rfl hl (by decide) rfl (fun ls hl => ?_)
  obtain ⟨w_14, hw_15, h⟩ := obd_e h
  have J : ∀ (H : Heap) (locs : List Loc) (ls : Array Slot), va_P (dC, dI) vwCl [(h_th, .inr (5, [.ref h_letters, v_th_kinds, v_th_numbers, .int length, v_th_clauses, v_th_bits, v_th_place, v_th_tokenStart, v_th_token])), (h_letters, .inl (cyI, 200, .inl letters))] H → va_D A [(h_th, .inr (5, [.ref h_letters, v_th_kinds, v_th_numbers, .int length, v_th_clauses, v_th_bits, v_th_place, v_th_tokenStart, v_th_token])), (h_letters, .inl (cyI, 200, .inl letters))] → va_S A s.heap H locs → lv_has ls 4 [(3, .int w_14)] → W p l e ({ frames := 1, cells := 0, slots := 0, locals := 21 }) s m args below meth c H locs 0 0 Q (F0 m 28 ls []) := by
    intro H locs ls hP hD hS hl
    refine lv_iload_n hx hb dX5_endOfRun_28 rfl (lv_at hl 0 rfl) ?_
    obtain rfl := Option.some.inj h
    exact hret _ _ _ _ dX5_endOfRun_29 hP hD hS
  have LL : ∀ (n : Nat) (m3 : Int32) (H : Heap) (locs : List Loc) (ls : Array Slot), lpX5_endOfRun_2 x1 length letters n m3 = some w_14 → va_P (dC, dI) vwCl [(h_th, .inr (5, [.ref h_letters, v_th_kinds, v_th_numbers, .int length, v_th_clauses, v_th_bits, v_th_place, v_th_tokenStart, v_th_token])), (h_letters, .inl (cyI, 200, .inl letters))] H → va_D A [(h_th, .inr (5, [.ref h_letters, v_th_kinds, v_th_numbers, .int length, v_th_clauses, v_th_bits, v_th_place, v_th_tokenStart, v_th_token])), (h_letters, .inl (cyI, 200, .inl letters))] → va_S A s.heap H locs → lv_has ls 4 [(0, .ref h_th), (2, .int x1), (3, .int m3)] → W p l e ({ frames := 1, cells := 0, slots := 0, locals := 21 }) s m args below meth c H locs 0 0 Q (F0 m 2 ls []) := by
    intro n
    induction n with
    | zero =>
      intro m3 H locs ls h
      exact absurd h (by rw [lpX5_endOfRun_2]; exact fun q => by cases q)
    | succ n ih =>
      intro m3 H locs ls h hP hD hS hl
      rw [lpX5_endOfRun_2] at h
      refine lv_iload_n hx hb dX5_endOfRun_2 rfl (lv_at hl 2 rfl) ?_
      refine lv_aload_n hx hb dX5_endOfRun_3 rfl (lv_at hl 0 rfl) ?_
      refine va_get (D := (dC, dI)) (ci := 5) (v := .int length) (C := RX5) (T := TX5) (N := 9) hx hb hts (fun _ hw => List.mem_cons_of_mem _ (List.mem_append_right _ hw)) hown hK hP 0 rfl rfl 3 (by decide) (hts (.fieldLink RX5 21 "PrefixIndex$Script" "length" "I") (List.mem_of_getElem? (i := 1) rfl)) (fun _ h9 => h9) rfl dX5_endOfRun_4 ?_
      refine lv_icmp_ge (tgt := 28) hx hb dX5_endOfRun_7 (by decide) (fun c_8 => ?_) (fun c_8 => ?_)
      · have h := og_ite_t c_8 h
        obtain rfl := Option.some.inj h
        exact J _ _ _ hP hD hS (lv_sub hl [2] rfl)
      · have h := og_ite_f c_8 h
        refine lv_aload_n hx hb dX5_endOfRun_10 rfl (lv_at hl 0 rfl) ?_
        refine lv_iload_n hx hb dX5_endOfRun_11 rfl (lv_at hl 2 rfl) ?_
        obtain ⟨u_9, hc_10, h⟩ := obd_e h
        refine Gci (wr := []) (va_runV (As := [.int m3]) (rest := []) ⟨hx, hb, hml, hown, hts⟩ (tX5_letterAt l dC dI cyI cyJ cyZ cyO H.size h_th h_letters v_th_kinds v_th_numbers v_th_clauses v_th_bits v_th_place v_th_tokenStart v_th_token length letters m3 u_9 hc_10) (cwV 1 hts gX5_endOfRun_X5_letterAt rfl rfl rfl (by decide +kernel) ⟨Nat.le_of_ble_eq_true rfl, Nat.le_of_ble_eq_true rfl⟩) (GpreV hP hD hK hN [0, 1] rfl (by decide) 5 0 rfl rfl rfl) rfl rfl hl.1 rfl (lv_room (Nat.le_of_ble_eq_true rfl)) dX5_endOfRun_12 ⟨Nat.zero_le _, Nat.zero_le _⟩) hP hD hS hA [0, 1] [] rfl rfl (by decide) (by decide) (fun H locs hP hD hS => ?_)
        have hP : va_P (dC, dI) vwCl [(h_th, .inr (5, [.ref h_letters, v_th_kinds, v_th_numbers, .int length, v_th_clauses, v_th_bits, v_th_place, v_th_tokenStart, v_th_token])), (h_letters, .inl (cyI, 200, .inl letters))] H := hP
        have hD : va_D A [(h_th, .inr (5, [.ref h_letters, v_th_kinds, v_th_numbers, .int length, v_th_clauses, v_th_bits, v_th_place, v_th_tokenStart, v_th_token])), (h_letters, .inl (cyI, 200, .inl letters))] := hD
        obtain ⟨u_11, hc_12, h⟩ := obd_e h
        refine Gci (wr := [(h_th, .inr (5, [.ref h_letters, v_th_kinds, v_th_numbers, .int length, v_th_clauses, v_th_bits, v_th_place, v_th_tokenStart, v_th_token])), (h_letters, .inl (cyI, 200, .inl letters))]) (va_runS (As := [.int u_9]) (rest := []) ⟨hx, hb, hml, hown, hts⟩ (tX5_kindOf l dC dI cyI cyJ cyZ cyO H.size u_9 u_11 hc_12) (cwS 1 hts gX5_endOfRun_X5_kindOf rfl rfl rfl (by decide +kernel) ⟨Nat.le_of_ble_eq_true rfl, Nat.le_of_ble_eq_true rfl⟩) (GpreS hP hD hK hN [] rfl (by decide)) rfl rfl hl.1 rfl (lv_room (Nat.le_of_ble_eq_true rfl)) dX5_endOfRun_15 ⟨Nat.zero_le _, Nat.zero_le _⟩) hP hD hS hA [] [0, 1] rfl rfl (by decide) (by decide) (fun H locs hP hD hS => ?_)
        have hP : va_P (dC, dI) vwCl [(h_th, .inr (5, [.ref h_letters, v_th_kinds, v_th_numbers, .int length, v_th_clauses, v_th_bits, v_th_place, v_th_tokenStart, v_th_token])), (h_letters, .inl (cyI, 200, .inl letters))] H := hP
        have hD : va_D A [(h_th, .inr (5, [.ref h_letters, v_th_kinds, v_th_numbers, .int length, v_th_clauses, v_th_bits, v_th_place, v_th_tokenStart, v_th_token])), (h_letters, .inl (cyI, 200, .inl letters))] := hD
        refine lv_iload_n hx hb dX5_endOfRun_18 rfl (lv_at hl 1 rfl) ?_
        refine lv_icmp_ne (tgt := 28) hx hb dX5_endOfRun_19 (by decide) (fun c_13 => ?_) (fun c_13 => ?_)
        · have h := og_ite_f c_13 h
          obtain rfl := Option.some.inj h
          exact J _ _ _ hP hD hS (lv_sub hl [2] rfl)
        · have h := og_ite_t c_13 h
          refine lv_iinc (v := m3 + (1 : Int32)) (lv' := [(3, .int (m3 + (1 : Int32))), (0, .ref h_th), (2, .int x1)]) hx hb dX5_endOfRun_22 hl (k := 2) rfl rfl (by decide) rfl (fun ls hl => ?_)
          refine lv_goto (tgt := 2) hx hb dX5_endOfRun_25 (by decide) ?_
          exact ih (m3 + (1 : Int32)) _ _ _ h hP hD hS (lv_sub hl [1, 2, 0] rfl)
  exact LL _ x0 _ _ _ hw_15 hP hD hS (lv_sub hl [1, 3, 0] rfl)

def fX5_nextToken (length : Int32) (place : Int32) (tokenStart : Int32) (token : Int32) (letters : (Nat → Int32)) : Option (Int32 × Int32 × Int32) := obd (fX5_endOfRun length letters place (1 : Int32)) fun u_1 => obd (fX5_letterAt length letters u_1) fun u_3 => obd (fX5_kindOf u_3) fun u_5 => obd (if u_5 = (2 : Int32) then (obd (fX5_endOfRun length letters u_1 u_5) fun u_9 => some u_9) else (if u_5 = (3 : Int32) then (obd (fX5_endOfRun length letters u_1 u_5) fun u_14 => some u_14) else (olet (if u_5 = 0 then (u_1) else ((u_1 + (1 : Int32)))) fun y_13 => some y_13))) fun w_8 => some (w_8, u_1, u_5)

set_option maxHeartbeats 4000000 in
set_option maxRecDepth 100000 in
theorem tX5_nextToken (l : Launch) (dC : Nat → ClassId) (dI : Nat → Nat → Nat) (cyI cyJ cyZ cyO : ClassId) (sz : Nat) (h_th h_letters : Nat) (v_th_kinds : Value) (v_th_numbers : Value) (v_th_clauses : Value) (v_th_bits : Value) (length : Int32) (place : Int32) (tokenStart : Int32) (token : Int32) (letters : (Nat → Int32)) (u : Int32 × Int32 × Int32) (hf : fX5_nextToken length place tokenStart token letters = some u) : Met l yX5_nextToken wsX5_nextToken ({ frames := 2, cells := 0, slots := 0, locals := 44 }) (va_Pc [.ref h_th] (GP (dC, dI) (T4 cyI cyJ cyZ cyO) sz [(h_th, .inr (5, [.ref h_letters, v_th_kinds, v_th_numbers, .int length, v_th_clauses, v_th_bits, .int place, .int tokenStart, .int token])), (h_letters, .inl (cyI, 200, .inl letters))])) (va_Qv (fun (_ : Unit) => True) (GB (dC, dI) [(h_th, .inr (5, [.ref h_letters, v_th_kinds, v_th_numbers, .int length, v_th_clauses, v_th_bits, .int u.1, .int u.2.1, .int u.2.2])), (h_letters, .inl (cyI, 200, .inl letters))] (va_A [(h_th, .inr (5, [.ref h_letters, v_th_kinds, v_th_numbers, .int length, v_th_clauses, v_th_bits, .int place, .int tokenStart, .int token])), (h_letters, .inl (cyI, 200, .inl letters))] sz)) (va_A [(h_th, .inr (5, [.ref h_letters, v_th_kinds, v_th_numbers, .int length, v_th_clauses, v_th_bits, .int place, .int tokenStart, .int token])), (h_letters, .inl (cyI, 200, .inl letters))] sz)) 0 0 (va_A [(h_th, .inr (5, [.ref h_letters, v_th_kinds, v_th_numbers, .int length, v_th_clauses, v_th_bits, .int place, .int tokenStart, .int token])), (h_letters, .inl (cyI, 200, .inl letters))] sz) := by
  refine GMetV (by decide) rfl (Nat.le_of_ble_eq_true rfl) ?_
  intro p e s m args below meth c A Q ls hx hb hml hts hown hN hK hA hret hP hD hS hl
  have h := hf
  clear hf
  unfold fX5_nextToken at h
  have hown : s.vm.findClass RX5 = some m.cls := hown
  have hl : lv_has ls 1 [(0, .ref h_th)] := hl
  refine lv_aload_n hx hb dX5_nextToken_0 rfl (lv_at hl 0 rfl) ?_
  refine lv_aload_n hx hb dX5_nextToken_1 rfl (lv_at hl 0 rfl) ?_
  refine lv_aload_n hx hb dX5_nextToken_2 rfl (lv_at hl 0 rfl) ?_
  refine va_get (D := (dC, dI)) (ci := 5) (v := .int place) (C := RX5) (T := TX5) (N := 9) hx hb hts (fun _ hw => List.mem_cons_of_mem _ (List.mem_append_right _ hw)) hown hK hP 0 rfl rfl 6 (by decide) (hts (.fieldLink RX5 28 "PrefixIndex$Script" "place" "I") (List.mem_of_getElem? (i := 1) rfl)) (fun _ h9 => h9) rfl dX5_nextToken_3 ?_
  refine lv_iconst (v := 1) hx hb dX5_nextToken_6 (by decide) ?_
  obtain ⟨u_1, hc_2, h⟩ := obd_e h
  refine Gci (wr := []) (va_runV (As := [.int place, .int (1 : Int32)]) (rest := [.ref h_th]) ⟨hx, hb, hml, hown, hts⟩ (tX5_endOfRun l dC dI cyI cyJ cyZ cyO s.heap.size h_th h_letters v_th_kinds v_th_numbers v_th_clauses v_th_bits (.int place) (.int tokenStart) (.int token) length letters place (1 : Int32) u_1 hc_2) (cwV 2 hts gX5_nextToken_X5_endOfRun rfl rfl rfl (by decide +kernel) ⟨Nat.le_of_ble_eq_true rfl, Nat.le_of_ble_eq_true rfl⟩) (GpreV hP hD hK hN [0, 1] rfl (by decide) 5 0 rfl rfl rfl) rfl rfl hl.1 rfl (lv_room (Nat.le_of_ble_eq_true rfl)) dX5_nextToken_7 ⟨Nat.zero_le _, Nat.zero_le _⟩) hP hD hS hA [0, 1] [] rfl rfl (by decide) (by decide) (fun H locs hP hD hS => ?_)
  have hP : va_P (dC, dI) vwCl [(h_th, .inr (5, [.ref h_letters, v_th_kinds, v_th_numbers, .int length, v_th_clauses, v_th_bits, .int place, .int tokenStart, .int token])), (h_letters, .inl (cyI, 200, .inl letters))] H := hP
  have hD : va_D A [(h_th, .inr (5, [.ref h_letters, v_th_kinds, v_th_numbers, .int length, v_th_clauses, v_th_bits, .int place, .int tokenStart, .int token])), (h_letters, .inl (cyI, 200, .inl letters))] := hD
  refine va_put (D := (dC, dI)) (ci := 5) (v := .int u_1) (ty := .int) (C := RX5) (T := TX5) (N := 9) hx hb hts (fun _ hw => List.mem_cons_of_mem _ (List.mem_append_right _ hw)) tyX5 tyX5_ok nmX5 hown hK hP hD hS 0 rfl rfl 7 (by decide) (hts (.fieldLink RX5 38 "PrefixIndex$Script" "tokenStart" "I") (List.mem_of_getElem? (i := 2) rfl)) (fun _ h9 => h9) rfl (by decide +kernel) rfl rfl (Nat.le_of_ble_eq_true rfl) dX5_nextToken_10 (fun H locs hP hD hS => ?_)
  have hP : va_P (dC, dI) vwCl [(h_th, .inr (5, [.ref h_letters, v_th_kinds, v_th_numbers, .int length, v_th_clauses, v_th_bits, .int place, .int u_1, .int token])), (h_letters, .inl (cyI, 200, .inl letters))] H := hP
  have hD : va_D A [(h_th, .inr (5, [.ref h_letters, v_th_kinds, v_th_numbers, .int length, v_th_clauses, v_th_bits, .int place, .int u_1, .int token])), (h_letters, .inl (cyI, 200, .inl letters))] := hD
  refine lv_aload_n hx hb dX5_nextToken_13 rfl (lv_at hl 0 rfl) ?_
  refine lv_aload_n hx hb dX5_nextToken_14 rfl (lv_at hl 0 rfl) ?_
  refine lv_aload_n hx hb dX5_nextToken_15 rfl (lv_at hl 0 rfl) ?_
  refine va_get (D := (dC, dI)) (ci := 5) (v := .int u_1) (C := RX5) (T := TX5) (N := 9) hx hb hts (fun _ hw => List.mem_cons_of_mem _ (List.mem_append_right _ hw)) hown hK hP 0 rfl rfl 7 (by decide) (hts (.fieldLink RX5 38 "PrefixIndex$Script" "tokenStart" "I") (List.mem_of_getElem? (i := 2) rfl)) (fun _ h9 => h9) rfl dX5_nextToken_16 ?_
  obtain ⟨u_3, hc_4, h⟩ := obd_e h
  refine Gci (wr := []) (va_runV (As := [.int u_1]) (rest := [.ref h_th]) ⟨hx, hb, hml, hown, hts⟩ (tX5_letterAt l dC dI cyI cyJ cyZ cyO H.size h_th h_letters v_th_kinds v_th_numbers v_th_clauses v_th_bits (.int place) (.int u_1) (.int token) length letters u_1 u_3 hc_4) (cwV 1 hts gX5_nextToken_X5_letterAt rfl rfl rfl (by decide +kernel) ⟨Nat.le_of_ble_eq_true rfl, Nat.le_of_ble_eq_true rfl⟩) (GpreV hP hD hK hN [0, 1] rfl (by decide) 5 0 rfl rfl rfl) rfl rfl hl.1 rfl (lv_room (Nat.le_of_ble_eq_true rfl)) dX5_nextToken_19 ⟨Nat.zero_le _, Nat.zero_le _⟩) hP hD hS hA [0, 1] [] rfl rfl (by decide) (by decide) (fun H locs hP hD hS => ?_)
  have hP : va_P (dC, dI) vwCl [(h_th, .inr (5, [.ref h_letters, v_th_kinds, v_th_numbers, .int length, v_th_clauses, v_th_bits, .int place, .int u_1, .int token])), (h_letters, .inl (cyI, 200, .inl letters))] H := hP
  have hD : va_D A [(h_th, .inr (5, [.ref h_letters, v_th_kinds, v_th_numbers, .int length, v_th_clauses, v_th_bits, .int place, .int u_1, .int token])), (h_letters, .inl (cyI, 200, .inl letters))] := hD
  obtain ⟨u_5, hc_6, h⟩ := obd_e h
  refine Gci (wr := [(h_th, .inr (5, [.ref h_letters, v_th_kinds, v_th_numbers, .int length, v_th_clauses, v_th_bits, .int place, .int u_1, .int token])), (h_letters, .inl (cyI, 200, .inl letters))]) (va_runS (As := [.int u_3]) (rest := [.ref h_th]) ⟨hx, hb, hml, hown, hts⟩ (tX5_kindOf l dC dI cyI cyJ cyZ cyO H.size u_3 u_5 hc_6) (cwS 1 hts gX5_nextToken_X5_kindOf rfl rfl rfl (by decide +kernel) ⟨Nat.le_of_ble_eq_true rfl, Nat.le_of_ble_eq_true rfl⟩) (GpreS hP hD hK hN [] rfl (by decide)) rfl rfl hl.1 rfl (lv_room (Nat.le_of_ble_eq_true rfl)) dX5_nextToken_22 ⟨Nat.zero_le _, Nat.zero_le _⟩) hP hD hS hA [] [0, 1] rfl rfl (by decide) (by decide) (fun H locs hP hD hS => ?_)
  have hP : va_P (dC, dI) vwCl [(h_th, .inr (5, [.ref h_letters, v_th_kinds, v_th_numbers, .int length, v_th_clauses, v_th_bits, .int place, .int u_1, .int token])), (h_letters, .inl (cyI, 200, .inl letters))] H := hP
  have hD : va_D A [(h_th, .inr (5, [.ref h_letters, v_th_kinds, v_th_numbers, .int length, v_th_clauses, v_th_bits, .int place, .int u_1, .int token])), (h_letters, .inl (cyI, 200, .inl letters))] := hD
  refine va_put (D := (dC, dI)) (ci := 5) (v := .int u_5) (ty := .int) (C := RX5) (T := TX5) (N := 9) hx hb hts (fun _ hw => List.mem_cons_of_mem _ (List.mem_append_right _ hw)) tyX5 tyX5_ok nmX5 hown hK hP hD hS 0 rfl rfl 8 (by decide) (hts (.fieldLink RX5 44 "PrefixIndex$Script" "token" "I") (List.mem_of_getElem? (i := 3) rfl)) (fun _ h9 => h9) rfl (by decide +kernel) rfl rfl (Nat.le_of_ble_eq_true rfl) dX5_nextToken_25 (fun H locs hP hD hS => ?_)
  have hP : va_P (dC, dI) vwCl [(h_th, .inr (5, [.ref h_letters, v_th_kinds, v_th_numbers, .int length, v_th_clauses, v_th_bits, .int place, .int u_1, .int u_5])), (h_letters, .inl (cyI, 200, .inl letters))] H := hP
  have hD : va_D A [(h_th, .inr (5, [.ref h_letters, v_th_kinds, v_th_numbers, .int length, v_th_clauses, v_th_bits, .int place, .int u_1, .int u_5])), (h_letters, .inl (cyI, 200, .inl letters))] := hD
  refine lv_aload_n hx hb dX5_nextToken_28 rfl (lv_at hl 0 rfl) ?_
  refine va_get (D := (dC, dI)) (ci := 5) (v := .int u_5) (C := RX5) (T := TX5) (N := 9) hx hb hts (fun _ hw => List.mem_cons_of_mem _ (List.mem_append_right _ hw)) hown hK hP 0 rfl rfl 8 (by decide) (hts (.fieldLink RX5 44 "PrefixIndex$Script" "token" "I") (List.mem_of_getElem? (i := 3) rfl)) (fun _ h9 => h9) rfl dX5_nextToken_29 ?_
  refine lv_iconst (v := 2) hx hb dX5_nextToken_32 (by decide) ?_
  obtain ⟨w_8, hm_16, h⟩ := obd_e h
  have J : ∀ (H : Heap) (locs : List Loc) (ls : Array Slot), va_P (dC, dI) vwCl [(h_th, .inr (5, [.ref h_letters, v_th_kinds, v_th_numbers, .int length, v_th_clauses, v_th_bits, .int w_8, .int u_1, .int u_5])), (h_letters, .inl (cyI, 200, .inl letters))] H → va_D A [(h_th, .inr (5, [.ref h_letters, v_th_kinds, v_th_numbers, .int length, v_th_clauses, v_th_bits, .int w_8, .int u_1, .int u_5])), (h_letters, .inl (cyI, 200, .inl letters))] → va_S A s.heap H locs → lv_has ls 1 [] → W p l e ({ frames := 2, cells := 0, slots := 0, locals := 44 }) s m args below meth c H locs 0 0 Q (F0 m 87 ls []) := by
    intro H locs ls hP hD hS hl
    obtain rfl := Option.some.inj h
    exact hret _ _ _ _ dX5_nextToken_87 hP hD hS
  replace h := hm_16
  refine lv_icmp_eq (tgt := 44) hx hb dX5_nextToken_33 (by decide) (fun c_7 => ?_) (fun c_7 => ?_)
  · have h := og_ite_t c_7 h
    refine lv_aload_n hx hb dX5_nextToken_44 rfl (lv_at hl 0 rfl) ?_
    refine lv_aload_n hx hb dX5_nextToken_45 rfl (lv_at hl 0 rfl) ?_
    refine lv_aload_n hx hb dX5_nextToken_46 rfl (lv_at hl 0 rfl) ?_
    refine va_get (D := (dC, dI)) (ci := 5) (v := .int u_1) (C := RX5) (T := TX5) (N := 9) hx hb hts (fun _ hw => List.mem_cons_of_mem _ (List.mem_append_right _ hw)) hown hK hP 0 rfl rfl 7 (by decide) (hts (.fieldLink RX5 38 "PrefixIndex$Script" "tokenStart" "I") (List.mem_of_getElem? (i := 2) rfl)) (fun _ h9 => h9) rfl dX5_nextToken_47 ?_
    refine lv_aload_n hx hb dX5_nextToken_50 rfl (lv_at hl 0 rfl) ?_
    refine va_get (D := (dC, dI)) (ci := 5) (v := .int u_5) (C := RX5) (T := TX5) (N := 9) hx hb hts (fun _ hw => List.mem_cons_of_mem _ (List.mem_append_right _ hw)) hown hK hP 0 rfl rfl 8 (by decide) (hts (.fieldLink RX5 44 "PrefixIndex$Script" "token" "I") (List.mem_of_getElem? (i := 3) rfl)) (fun _ h9 => h9) rfl dX5_nextToken_51 ?_
    obtain ⟨u_9, hc_10, h⟩ := obd_e h
    refine Gci (wr := []) (va_runV (As := [.int u_1, .int u_5]) (rest := [.ref h_th]) ⟨hx, hb, hml, hown, hts⟩ (tX5_endOfRun l dC dI cyI cyJ cyZ cyO H.size h_th h_letters v_th_kinds v_th_numbers v_th_clauses v_th_bits (.int place) (.int u_1) (.int u_5) length letters u_1 u_5 u_9 hc_10) (cwV 2 hts gX5_nextToken_X5_endOfRun rfl rfl rfl (by decide +kernel) ⟨Nat.le_of_ble_eq_true rfl, Nat.le_of_ble_eq_true rfl⟩) (GpreV hP hD hK hN [0, 1] rfl (by decide) 5 0 rfl rfl rfl) rfl rfl hl.1 rfl (lv_room (Nat.le_of_ble_eq_true rfl)) dX5_nextToken_54 ⟨Nat.zero_le _, Nat.zero_le _⟩) hP hD hS hA [0, 1] [] rfl rfl (by decide) (by decide) (fun H locs hP hD hS => ?_)
    have hP : va_P (dC, dI) vwCl [(h_th, .inr (5, [.ref h_letters, v_th_kinds, v_th_numbers, .int length, v_th_clauses, v_th_bits, .int place, .int u_1, .int u_5])), (h_letters, .inl (cyI, 200, .inl letters))] H := hP
    have hD : va_D A [(h_th, .inr (5, [.ref h_letters, v_th_kinds, v_th_numbers, .int length, v_th_clauses, v_th_bits, .int place, .int u_1, .int u_5])), (h_letters, .inl (cyI, 200, .inl letters))] := hD
    refine va_put (D := (dC, dI)) (ci := 5) (v := .int u_9) (ty := .int) (C := RX5) (T := TX5) (N := 9) hx hb hts (fun _ hw => List.mem_cons_of_mem _ (List.mem_append_right _ hw)) tyX5 tyX5_ok nmX5 hown hK hP hD hS 0 rfl rfl 6 (by decide) (hts (.fieldLink RX5 28 "PrefixIndex$Script" "place" "I") (List.mem_of_getElem? (i := 1) rfl)) (fun _ h9 => h9) rfl (by decide +kernel) rfl rfl (Nat.le_of_ble_eq_true rfl) dX5_nextToken_57 (fun H locs hP hD hS => ?_)
    have hP : va_P (dC, dI) vwCl [(h_th, .inr (5, [.ref h_letters, v_th_kinds, v_th_numbers, .int length, v_th_clauses, v_th_bits, .int u_9, .int u_1, .int u_5])), (h_letters, .inl (cyI, 200, .inl letters))] H := hP
    have hD : va_D A [(h_th, .inr (5, [.ref h_letters, v_th_kinds, v_th_numbers, .int length, v_th_clauses, v_th_bits, .int u_9, .int u_1, .int u_5])), (h_letters, .inl (cyI, 200, .inl letters))] := hD
    refine lv_goto (tgt := 87) hx hb dX5_nextToken_60 (by decide) ?_
    obtain rfl := Option.some.inj h
    exact J _ _ _ hP hD hS (lv_sub hl [] rfl)
  · have h := og_ite_f c_7 h
    refine lv_aload_n hx hb dX5_nextToken_36 rfl (lv_at hl 0 rfl) ?_
    refine va_get (D := (dC, dI)) (ci := 5) (v := .int u_5) (C := RX5) (T := TX5) (N := 9) hx hb hts (fun _ hw => List.mem_cons_of_mem _ (List.mem_append_right _ hw)) hown hK hP 0 rfl rfl 8 (by decide) (hts (.fieldLink RX5 44 "PrefixIndex$Script" "token" "I") (List.mem_of_getElem? (i := 3) rfl)) (fun _ h9 => h9) rfl dX5_nextToken_37 ?_
    refine lv_iconst (v := 3) hx hb dX5_nextToken_40 (by decide) ?_
    refine lv_icmp_ne (tgt := 63) hx hb dX5_nextToken_41 (by decide) (fun c_11 => ?_) (fun c_11 => ?_)
    · have h := og_ite_f c_11 h
      refine lv_aload_n hx hb dX5_nextToken_63 rfl (lv_at hl 0 rfl) ?_
      refine lv_aload_n hx hb dX5_nextToken_64 rfl (lv_at hl 0 rfl) ?_
      refine va_get (D := (dC, dI)) (ci := 5) (v := .int u_5) (C := RX5) (T := TX5) (N := 9) hx hb hts (fun _ hw => List.mem_cons_of_mem _ (List.mem_append_right _ hw)) hown hK hP 0 rfl rfl 8 (by decide) (hts (.fieldLink RX5 44 "PrefixIndex$Script" "token" "I") (List.mem_of_getElem? (i := 3) rfl)) (fun _ h9 => h9) rfl dX5_nextToken_65 ?_
      obtain ⟨y_13, ey_13, h⟩ := olet_e h
      have J : ∀ (H : Heap) (locs : List Loc) (ls : Array Slot), va_P (dC, dI) vwCl [(h_th, .inr (5, [.ref h_letters, v_th_kinds, v_th_numbers, .int length, v_th_clauses, v_th_bits, .int place, .int u_1, .int u_5])), (h_letters, .inl (cyI, 200, .inl letters))] H → va_D A [(h_th, .inr (5, [.ref h_letters, v_th_kinds, v_th_numbers, .int length, v_th_clauses, v_th_bits, .int place, .int u_1, .int u_5])), (h_letters, .inl (cyI, 200, .inl letters))] → va_S A s.heap H locs → lv_has ls 1 [] → W p l e ({ frames := 2, cells := 0, slots := 0, locals := 44 }) s m args below meth c H locs 0 0 Q (F0 m 84 ls [.int y_13, .ref h_th]) := by
        intro H locs ls hP hD hS hl
        refine va_put (D := (dC, dI)) (ci := 5) (v := .int y_13) (ty := .int) (C := RX5) (T := TX5) (N := 9) hx hb hts (fun _ hw => List.mem_cons_of_mem _ (List.mem_append_right _ hw)) tyX5 tyX5_ok nmX5 hown hK hP hD hS 0 rfl rfl 6 (by decide) (hts (.fieldLink RX5 28 "PrefixIndex$Script" "place" "I") (List.mem_of_getElem? (i := 1) rfl)) (fun _ h9 => h9) rfl (by decide +kernel) rfl rfl (Nat.le_of_ble_eq_true rfl) dX5_nextToken_84 (fun H locs hP hD hS => ?_)
        have hP : va_P (dC, dI) vwCl [(h_th, .inr (5, [.ref h_letters, v_th_kinds, v_th_numbers, .int length, v_th_clauses, v_th_bits, .int y_13, .int u_1, .int u_5])), (h_letters, .inl (cyI, 200, .inl letters))] H := hP
        have hD : va_D A [(h_th, .inr (5, [.ref h_letters, v_th_kinds, v_th_numbers, .int length, v_th_clauses, v_th_bits, .int y_13, .int u_1, .int u_5])), (h_letters, .inl (cyI, 200, .inl letters))] := hD
        obtain rfl := Option.some.inj h
        exact J _ _ _ hP hD hS hl
      clear h
      refine lv_if_ne (tgt := 78) hx hb dX5_nextToken_68 (by decide) (fun c_12 => ?_) (fun c_12 => ?_)
      · refine lv_aload_n hx hb dX5_nextToken_78 rfl (lv_at hl 0 rfl) ?_
        refine va_get (D := (dC, dI)) (ci := 5) (v := .int u_1) (C := RX5) (T := TX5) (N := 9) hx hb hts (fun _ hw => List.mem_cons_of_mem _ (List.mem_append_right _ hw)) hown hK hP 0 rfl rfl 7 (by decide) (hts (.fieldLink RX5 38 "PrefixIndex$Script" "tokenStart" "I") (List.mem_of_getElem? (i := 2) rfl)) (fun _ h9 => h9) rfl dX5_nextToken_79 ?_
        refine lv_iconst (v := 1) hx hb dX5_nextToken_82 (by decide) ?_
        refine lv_iadd hx hb dX5_nextToken_83 ?_
        rw [if_neg c_12] at ey_13
        subst ey_13
        exact J H locs _ hP hD hS (lv_sub hl [] rfl)
      · refine lv_aload_n hx hb dX5_nextToken_71 rfl (lv_at hl 0 rfl) ?_
        refine va_get (D := (dC, dI)) (ci := 5) (v := .int u_1) (C := RX5) (T := TX5) (N := 9) hx hb hts (fun _ hw => List.mem_cons_of_mem _ (List.mem_append_right _ hw)) hown hK hP 0 rfl rfl 7 (by decide) (hts (.fieldLink RX5 38 "PrefixIndex$Script" "tokenStart" "I") (List.mem_of_getElem? (i := 2) rfl)) (fun _ h9 => h9) rfl dX5_nextToken_72 ?_
        refine lv_goto (tgt := 84) hx hb dX5_nextToken_75 (by decide) ?_
        rw [if_pos c_12] at ey_13
        subst ey_13
        exact J H locs _ hP hD hS (lv_sub hl [] rfl)
    · have h := og_ite_t c_11 h
      refine lv_aload_n hx hb dX5_nextToken_44 rfl (lv_at hl 0 rfl) ?_
      refine lv_aload_n hx hb dX5_nextToken_45 rfl (lv_at hl 0 rfl) ?_
      refine lv_aload_n hx hb dX5_nextToken_46 rfl (lv_at hl 0 rfl) ?_
      refine va_get (D := (dC, dI)) (ci := 5) (v := .int u_1) (C := RX5) (T := TX5) (N := 9) hx hb hts (fun _ hw => List.mem_cons_of_mem _ (List.mem_append_right _ hw)) hown hK hP 0 rfl rfl 7 (by decide) (hts (.fieldLink RX5 38 "PrefixIndex$Script" "tokenStart" "I") (List.mem_of_getElem? (i := 2) rfl)) (fun _ h9 => h9) rfl dX5_nextToken_47 ?_
      refine lv_aload_n hx hb dX5_nextToken_50 rfl (lv_at hl 0 rfl) ?_
      refine va_get (D := (dC, dI)) (ci := 5) (v := .int u_5) (C := RX5) (T := TX5) (N := 9) hx hb hts (fun _ hw => List.mem_cons_of_mem _ (List.mem_append_right _ hw)) hown hK hP 0 rfl rfl 8 (by decide) (hts (.fieldLink RX5 44 "PrefixIndex$Script" "token" "I") (List.mem_of_getElem? (i := 3) rfl)) (fun _ h9 => h9) rfl dX5_nextToken_51 ?_
      obtain ⟨u_14, hc_15, h⟩ := obd_e h
      refine Gci (wr := []) (va_runV (As := [.int u_1, .int u_5]) (rest := [.ref h_th]) ⟨hx, hb, hml, hown, hts⟩ (tX5_endOfRun l dC dI cyI cyJ cyZ cyO H.size h_th h_letters v_th_kinds v_th_numbers v_th_clauses v_th_bits (.int place) (.int u_1) (.int u_5) length letters u_1 u_5 u_14 hc_15) (cwV 2 hts gX5_nextToken_X5_endOfRun rfl rfl rfl (by decide +kernel) ⟨Nat.le_of_ble_eq_true rfl, Nat.le_of_ble_eq_true rfl⟩) (GpreV hP hD hK hN [0, 1] rfl (by decide) 5 0 rfl rfl rfl) rfl rfl hl.1 rfl (lv_room (Nat.le_of_ble_eq_true rfl)) dX5_nextToken_54 ⟨Nat.zero_le _, Nat.zero_le _⟩) hP hD hS hA [0, 1] [] rfl rfl (by decide) (by decide) (fun H locs hP hD hS => ?_)
      have hP : va_P (dC, dI) vwCl [(h_th, .inr (5, [.ref h_letters, v_th_kinds, v_th_numbers, .int length, v_th_clauses, v_th_bits, .int place, .int u_1, .int u_5])), (h_letters, .inl (cyI, 200, .inl letters))] H := hP
      have hD : va_D A [(h_th, .inr (5, [.ref h_letters, v_th_kinds, v_th_numbers, .int length, v_th_clauses, v_th_bits, .int place, .int u_1, .int u_5])), (h_letters, .inl (cyI, 200, .inl letters))] := hD
      refine va_put (D := (dC, dI)) (ci := 5) (v := .int u_14) (ty := .int) (C := RX5) (T := TX5) (N := 9) hx hb hts (fun _ hw => List.mem_cons_of_mem _ (List.mem_append_right _ hw)) tyX5 tyX5_ok nmX5 hown hK hP hD hS 0 rfl rfl 6 (by decide) (hts (.fieldLink RX5 28 "PrefixIndex$Script" "place" "I") (List.mem_of_getElem? (i := 1) rfl)) (fun _ h9 => h9) rfl (by decide +kernel) rfl rfl (Nat.le_of_ble_eq_true rfl) dX5_nextToken_57 (fun H locs hP hD hS => ?_)
      have hP : va_P (dC, dI) vwCl [(h_th, .inr (5, [.ref h_letters, v_th_kinds, v_th_numbers, .int length, v_th_clauses, v_th_bits, .int u_14, .int u_1, .int u_5])), (h_letters, .inl (cyI, 200, .inl letters))] H := hP
      have hD : va_D A [(h_th, .inr (5, [.ref h_letters, v_th_kinds, v_th_numbers, .int length, v_th_clauses, v_th_bits, .int u_14, .int u_1, .int u_5])), (h_letters, .inl (cyI, 200, .inl letters))] := hD
      refine lv_goto (tgt := 87) hx hb dX5_nextToken_60 (by decide) ?_
      obtain rfl := Option.some.inj h
      exact J _ _ _ hP hD hS (lv_sub hl [] rfl)

def lpX5_parseNumber_36 (q1 : Int32) (q2 : Int32) (q3 : Int32) (q4 : Int32) (length : Int32) (place : Int32) (letters : (Nat → Int32)) : Nat → Int32 → Int32 → Option (Int32 × Int32)
  | 0, _, _ => none
  | n + 1, m5, m6 => if place ≤ m6 then (some (m5, m6)) else (obd (fX5_letterAt length letters m6) fun u_7 => lpX5_parseNumber_36 q1 q2 q3 q4 length place letters n (((10 : Int32) * m5) + (u_7 - (48 : Int32))) (m6 + (1 : Int32)))

def fX5_parseNumber (length : Int32) (place : Int32) (tokenStart : Int32) (token : Int32) (letters : (Nat → Int32)) (numbers : (Nat → Int32)) (x0 : Int32) (x1 : Int32) (x2 : Int32) (x3 : Int32) : Option (Int32 × Int32 × Int32 × Int32 × (Nat → Int32)) := obd (fX5_nextToken length place tokenStart token letters) fun u_1 => if u_1.2.2 = (3 : Int32) then (if (u_1.1 - u_1.2.1) ≤ (5 : Int32) then (obd (lpX5_parseNumber_36 x0 x1 x2 x3 length u_1.1 letters 100000 (0 : Int32) u_1.2.1) fun w_12 => if w_12.1 < x2 then (obl (0 : Int32) (some ((0 : Int32), u_1.1, u_1.2.1, u_1.2.2, numbers))) else (if x3 < w_12.1 then (obl (0 : Int32) (some ((0 : Int32), u_1.1, u_1.2.1, u_1.2.2, numbers))) else (if ((x0 * (3 : Int32)) + x1) < 0 then (obl (0 : Int32) (some ((0 : Int32), u_1.1, u_1.2.1, u_1.2.2, numbers))) else (if ((x0 * (3 : Int32)) + x1) < (72 : Int32) then (oin ((x0 * (3 : Int32)) + x1) 72 (obl (1 : Int32) (some ((1 : Int32), u_1.1, u_1.2.1, u_1.2.2, upd numbers ((x0 * (3 : Int32)) + x1).toNatClampNeg w_12.1)))) else (obl (0 : Int32) (some ((0 : Int32), u_1.1, u_1.2.1, u_1.2.2, numbers))))))) else (obl (0 : Int32) (some ((0 : Int32), u_1.1, u_1.2.1, u_1.2.2, numbers)))) else (obl (0 : Int32) (some ((0 : Int32), u_1.1, u_1.2.1, u_1.2.2, numbers)))

set_option maxHeartbeats 4000000 in
set_option maxRecDepth 100000 in
theorem tX5_parseNumber (l : Launch) (dC : Nat → ClassId) (dI : Nat → Nat → Nat) (cyI cyJ cyZ cyO : ClassId) (sz : Nat) (h_th h_letters h_numbers : Nat) (v_th_kinds : Value) (v_th_clauses : Value) (v_th_bits : Value) (length : Int32) (place : Int32) (tokenStart : Int32) (token : Int32) (letters : (Nat → Int32)) (numbers : (Nat → Int32)) (x0 : Int32) (x1 : Int32) (x2 : Int32) (x3 : Int32) (u : Int32 × Int32 × Int32 × Int32 × (Nat → Int32)) (hf : fX5_parseNumber length place tokenStart token letters numbers x0 x1 x2 x3 = some u) : Met l yX5_parseNumber wsX5_parseNumber ({ frames := 3, cells := 0, slots := 0, locals := 64 }) (va_Pc [.ref h_th, .int x0, .int x1, .int x2, .int x3] (GP (dC, dI) (T4 cyI cyJ cyZ cyO) sz [(h_th, .inr (5, [.ref h_letters, v_th_kinds, .ref h_numbers, .int length, v_th_clauses, v_th_bits, .int place, .int tokenStart, .int token])), (h_letters, .inl (cyI, 200, .inl letters)), (h_numbers, .inl (cyI, 72, .inl numbers))])) (va_Qi (fun (r : Int32) (_ : Unit) => r = u.1) (GB (dC, dI) [(h_th, .inr (5, [.ref h_letters, v_th_kinds, .ref h_numbers, .int length, v_th_clauses, v_th_bits, .int u.2.1, .int u.2.2.1, .int u.2.2.2.1])), (h_letters, .inl (cyI, 200, .inl letters)), (h_numbers, .inl (cyI, 72, .inl u.2.2.2.2))] (va_A [(h_th, .inr (5, [.ref h_letters, v_th_kinds, .ref h_numbers, .int length, v_th_clauses, v_th_bits, .int place, .int tokenStart, .int token])), (h_letters, .inl (cyI, 200, .inl letters)), (h_numbers, .inl (cyI, 72, .inl numbers))] sz)) (va_A [(h_th, .inr (5, [.ref h_letters, v_th_kinds, .ref h_numbers, .int length, v_th_clauses, v_th_bits, .int place, .int tokenStart, .int token])), (h_letters, .inl (cyI, 200, .inl letters)), (h_numbers, .inl (cyI, 72, .inl numbers))] sz)) 0 0 (va_A [(h_th, .inr (5, [.ref h_letters, v_th_kinds, .ref h_numbers, .int length, v_th_clauses, v_th_bits, .int place, .int tokenStart, .int token])), (h_letters, .inl (cyI, 200, .inl letters)), (h_numbers, .inl (cyI, 72, .inl numbers))] sz) := by
  refine GMetZ (by decide) rfl (Nat.le_of_ble_eq_true rfl) ?_
  intro p e s m args below meth c A Q ls hx hb hml hts hown hN hK hA hret hP hD hS hl
  have h := hf
  clear hf
  unfold fX5_parseNumber at h
  have hown : s.vm.findClass RX5 = some m.cls := hown
  have hl : lv_has ls 7 [(0, .ref h_th), (1, .int x0), (2, .int x1), (3, .int x2), (4, .int x3)] := hl
  refine lv_aload_n hx hb dX5_parseNumber_0 rfl (lv_at hl 0 rfl) ?_
  obtain ⟨u_1, hc_2, h⟩ := obd_e h
  refine Gcv (wr := [(h_numbers, .inl (cyI, 72, .inl numbers))]) (va_runV (As := []) (rest := []) ⟨hx, hb, hml, hown, hts⟩ (tX5_nextToken l dC dI cyI cyJ cyZ cyO s.heap.size h_th h_letters v_th_kinds (.ref h_numbers) v_th_clauses v_th_bits length place tokenStart token letters u_1 hc_2) (cwV 0 hts gX5_parseNumber_X5_nextToken rfl rfl rfl (by decide +kernel) ⟨Nat.le_of_ble_eq_true rfl, Nat.le_of_ble_eq_true rfl⟩) (GpreV hP hD hK hN [0, 1] rfl (by decide) 5 0 rfl rfl rfl) rfl rfl hl.1 rfl (lv_room (Nat.le_of_ble_eq_true rfl)) dX5_parseNumber_1 ⟨Nat.zero_le _, Nat.zero_le _⟩) hP hD hS hA [0, 1] [2] rfl rfl (by decide) (by decide) (fun H locs hP hD hS => ?_)
  have hP : va_P (dC, dI) vwCl [(h_numbers, .inl (cyI, 72, .inl numbers)), (h_th, .inr (5, [.ref h_letters, v_th_kinds, .ref h_numbers, .int length, v_th_clauses, v_th_bits, .int u_1.1, .int u_1.2.1, .int u_1.2.2])), (h_letters, .inl (cyI, 200, .inl letters))] H := hP
  have hD : va_D A [(h_numbers, .inl (cyI, 72, .inl numbers)), (h_th, .inr (5, [.ref h_letters, v_th_kinds, .ref h_numbers, .int length, v_th_clauses, v_th_bits, .int u_1.1, .int u_1.2.1, .int u_1.2.2])), (h_letters, .inl (cyI, 200, .inl letters))] := hD
  refine lv_aload_n hx hb dX5_parseNumber_4 rfl (lv_at hl 0 rfl) ?_
  refine va_get (D := (dC, dI)) (ci := 5) (v := .int u_1.2.2) (C := RX5) (T := TX5) (N := 9) hx hb hts (fun _ hw => List.mem_cons_of_mem _ (List.mem_append_right _ hw)) hown hK hP 1 rfl rfl 8 (by decide) (hts (.fieldLink RX5 44 "PrefixIndex$Script" "token" "I") (List.mem_of_getElem? (i := 1) rfl)) (fun _ h9 => h9) rfl dX5_parseNumber_5 ?_
  refine lv_iconst (v := 3) hx hb dX5_parseNumber_8 (by decide) ?_
  refine lv_icmp_ne (tgt := 25) hx hb dX5_parseNumber_9 (by decide) (fun c_3 => ?_) (fun c_3 => ?_)
  · have h := og_ite_f c_3 h
    refine lv_iconst (v := 0) hx hb dX5_parseNumber_25 (by decide) ?_
    obtain ⟨hz, h⟩ := obl_e h
    obtain rfl := Option.some.inj h
    have hP := hP.sub (ws' := [(h_th, .inr (5, [.ref h_letters, v_th_kinds, .ref h_numbers, .int length, v_th_clauses, v_th_bits, .int u_1.1, .int u_1.2.1, .int u_1.2.2])), (h_letters, .inl (cyI, 200, .inl letters)), (h_numbers, .inl (cyI, 72, .inl numbers))]) [1, 2, 0] rfl
    have hD := hD.sub (ws' := [(h_th, .inr (5, [.ref h_letters, v_th_kinds, .ref h_numbers, .int length, v_th_clauses, v_th_bits, .int u_1.1, .int u_1.2.1, .int u_1.2.2])), (h_letters, .inl (cyI, 200, .inl letters)), (h_numbers, .inl (cyI, 72, .inl numbers))]) [1, 2, 0] (by decide) rfl
    exact hret _ _ _ _ dX5_parseNumber_26 hz hP hD hS
  · have h := og_ite_t c_3 h
    refine lv_aload_n hx hb dX5_parseNumber_12 rfl (lv_at hl 0 rfl) ?_
    refine va_get (D := (dC, dI)) (ci := 5) (v := .int u_1.1) (C := RX5) (T := TX5) (N := 9) hx hb hts (fun _ hw => List.mem_cons_of_mem _ (List.mem_append_right _ hw)) hown hK hP 1 rfl rfl 6 (by decide) (hts (.fieldLink RX5 28 "PrefixIndex$Script" "place" "I") (List.mem_of_getElem? (i := 2) rfl)) (fun _ h9 => h9) rfl dX5_parseNumber_13 ?_
    refine lv_aload_n hx hb dX5_parseNumber_16 rfl (lv_at hl 0 rfl) ?_
    refine va_get (D := (dC, dI)) (ci := 5) (v := .int u_1.2.1) (C := RX5) (T := TX5) (N := 9) hx hb hts (fun _ hw => List.mem_cons_of_mem _ (List.mem_append_right _ hw)) hown hK hP 1 rfl rfl 7 (by decide) (hts (.fieldLink RX5 38 "PrefixIndex$Script" "tokenStart" "I") (List.mem_of_getElem? (i := 3) rfl)) (fun _ h9 => h9) rfl dX5_parseNumber_17 ?_
    refine lv_isub hx hb dX5_parseNumber_20 ?_
    refine lv_iconst (v := 5) hx hb dX5_parseNumber_21 (by decide) ?_
    refine lv_icmp_le (tgt := 27) hx hb dX5_parseNumber_22 (by decide) (fun c_4 => ?_) (fun c_4 => ?_)
    · have h := og_ite_t c_4 h
      refine lv_iconst (v := 0) hx hb dX5_parseNumber_27 (by decide) ?_
      refine lv_istore (lv' := [(5, .int (0 : Int32)), (0, .ref h_th), (1, .int x0), (2, .int x1), (3, .int x2), (4, .int x3)]) hx hb dX5_parseNumber_28 hl (by decide) rfl (fun ls hl => ?_)
      refine lv_aload_n hx hb dX5_parseNumber_30 rfl (lv_at hl 1 rfl) ?_
      refine va_get (D := (dC, dI)) (ci := 5) (v := .int u_1.2.1) (C := RX5) (T := TX5) (N := 9) hx hb hts (fun _ hw => List.mem_cons_of_mem _ (List.mem_append_right _ hw)) hown hK hP 1 rfl rfl 7 (by decide) (hts (.fieldLink RX5 38 "PrefixIndex$Script" "tokenStart" "I") (List.mem_of_getElem? (i := 3) rfl)) (fun _ h9 => h9) rfl dX5_parseNumber_31 ?_
      refine lv_istore (lv' := [(6, .int u_1.2.1), (5, .int (0 : Int32)), (0, .ref h_th), (1, .int x0), (2, .int x1), (3, .int x2), (4, .int x3)]) hx hb dX5_parseNumber_34 hl (by decide) rfl (fun ls hl => ?_)
      obtain ⟨w_12, hw_13, h⟩ := obd_e h
      have J : ∀ (H : Heap) (locs : List Loc) (ls : Array Slot), va_P (dC, dI) vwCl [(h_numbers, .inl (cyI, 72, .inl numbers)), (h_th, .inr (5, [.ref h_letters, v_th_kinds, .ref h_numbers, .int length, v_th_clauses, v_th_bits, .int u_1.1, .int u_1.2.1, .int u_1.2.2])), (h_letters, .inl (cyI, 200, .inl letters))] H → va_D A [(h_numbers, .inl (cyI, 72, .inl numbers)), (h_th, .inr (5, [.ref h_letters, v_th_kinds, .ref h_numbers, .int length, v_th_clauses, v_th_bits, .int u_1.1, .int u_1.2.1, .int u_1.2.2])), (h_letters, .inl (cyI, 200, .inl letters))] → va_S A s.heap H locs → lv_has ls 7 [(0, .ref h_th), (1, .int x0), (2, .int x1), (3, .int x2), (4, .int x3), (5, .int w_12.1)] → W p l e ({ frames := 3, cells := 0, slots := 0, locals := 64 }) s m args below meth c H locs 0 0 Q (F0 m 68 ls []) := by
        intro H locs ls hP hD hS hl
        refine lv_iload_n hx hb dX5_parseNumber_68 rfl (lv_at hl 1 rfl) ?_
        refine lv_iconst (v := 3) hx hb dX5_parseNumber_69 (by decide) ?_
        refine lv_imul hx hb dX5_parseNumber_70 ?_
        refine lv_iload_n hx hb dX5_parseNumber_71 rfl (lv_at hl 2 rfl) ?_
        refine lv_iadd hx hb dX5_parseNumber_72 ?_
        refine lv_istore (lv' := [(6, .int ((x0 * (3 : Int32)) + x1)), (0, .ref h_th), (1, .int x0), (2, .int x1), (3, .int x2), (4, .int x3), (5, .int w_12.1)]) hx hb dX5_parseNumber_73 hl (by decide) rfl (fun ls hl => ?_)
        refine lv_iload hx hb dX5_parseNumber_75 (lv_at hl 6 rfl) ?_
        refine lv_iload_n hx hb dX5_parseNumber_77 rfl (lv_at hl 4 rfl) ?_
        refine lv_icmp_lt (tgt := 103) hx hb dX5_parseNumber_78 (by decide) (fun c_14 => ?_) (fun c_14 => ?_)
        · have h := og_ite_t c_14 h
          refine lv_iconst (v := 0) hx hb dX5_parseNumber_103 (by decide) ?_
          obtain ⟨hz, h⟩ := obl_e h
          obtain rfl := Option.some.inj h
          have hP := hP.sub (ws' := [(h_th, .inr (5, [.ref h_letters, v_th_kinds, .ref h_numbers, .int length, v_th_clauses, v_th_bits, .int u_1.1, .int u_1.2.1, .int u_1.2.2])), (h_letters, .inl (cyI, 200, .inl letters)), (h_numbers, .inl (cyI, 72, .inl numbers))]) [1, 2, 0] rfl
          have hD := hD.sub (ws' := [(h_th, .inr (5, [.ref h_letters, v_th_kinds, .ref h_numbers, .int length, v_th_clauses, v_th_bits, .int u_1.1, .int u_1.2.1, .int u_1.2.2])), (h_letters, .inl (cyI, 200, .inl letters)), (h_numbers, .inl (cyI, 72, .inl numbers))]) [1, 2, 0] (by decide) rfl
          exact hret _ _ _ _ dX5_parseNumber_104 hz hP hD hS
        · have h := og_ite_f c_14 h
          refine lv_iload hx hb dX5_parseNumber_81 (lv_at hl 6 rfl) ?_
          refine lv_iload hx hb dX5_parseNumber_83 (lv_at hl 5 rfl) ?_
          refine lv_icmp_gt (tgt := 103) hx hb dX5_parseNumber_85 (by decide) (fun c_15 => ?_) (fun c_15 => ?_)
          · have h := og_ite_t c_15 h
            refine lv_iconst (v := 0) hx hb dX5_parseNumber_103 (by decide) ?_
            obtain ⟨hz, h⟩ := obl_e h
            obtain rfl := Option.some.inj h
            have hP := hP.sub (ws' := [(h_th, .inr (5, [.ref h_letters, v_th_kinds, .ref h_numbers, .int length, v_th_clauses, v_th_bits, .int u_1.1, .int u_1.2.1, .int u_1.2.2])), (h_letters, .inl (cyI, 200, .inl letters)), (h_numbers, .inl (cyI, 72, .inl numbers))]) [1, 2, 0] rfl
            have hD := hD.sub (ws' := [(h_th, .inr (5, [.ref h_letters, v_th_kinds, .ref h_numbers, .int length, v_th_clauses, v_th_bits, .int u_1.1, .int u_1.2.1, .int u_1.2.2])), (h_letters, .inl (cyI, 200, .inl letters)), (h_numbers, .inl (cyI, 72, .inl numbers))]) [1, 2, 0] (by decide) rfl
            exact hret _ _ _ _ dX5_parseNumber_104 hz hP hD hS
          · have h := og_ite_f c_15 h
            refine lv_iload hx hb dX5_parseNumber_88 (lv_at hl 0 rfl) ?_
            refine lv_if_lt (tgt := 103) hx hb dX5_parseNumber_90 (by decide) (fun c_16 => ?_) (fun c_16 => ?_)
            · have h := og_ite_t c_16 h
              refine lv_iconst (v := 0) hx hb dX5_parseNumber_103 (by decide) ?_
              obtain ⟨hz, h⟩ := obl_e h
              obtain rfl := Option.some.inj h
              have hP := hP.sub (ws' := [(h_th, .inr (5, [.ref h_letters, v_th_kinds, .ref h_numbers, .int length, v_th_clauses, v_th_bits, .int u_1.1, .int u_1.2.1, .int u_1.2.2])), (h_letters, .inl (cyI, 200, .inl letters)), (h_numbers, .inl (cyI, 72, .inl numbers))]) [1, 2, 0] rfl
              have hD := hD.sub (ws' := [(h_th, .inr (5, [.ref h_letters, v_th_kinds, .ref h_numbers, .int length, v_th_clauses, v_th_bits, .int u_1.1, .int u_1.2.1, .int u_1.2.2])), (h_letters, .inl (cyI, 200, .inl letters)), (h_numbers, .inl (cyI, 72, .inl numbers))]) [1, 2, 0] (by decide) rfl
              exact hret _ _ _ _ dX5_parseNumber_104 hz hP hD hS
            · have h := og_ite_f c_16 h
              refine lv_iload hx hb dX5_parseNumber_93 (lv_at hl 0 rfl) ?_
              refine lv_aload_n hx hb dX5_parseNumber_95 rfl (lv_at hl 1 rfl) ?_
              refine va_get (D := (dC, dI)) (ci := 5) (v := .ref h_numbers) (C := RX5) (T := TX5) (N := 9) hx hb hts (fun _ hw => List.mem_cons_of_mem _ (List.mem_append_right _ hw)) hown hK hP 1 rfl rfl 2 (by decide) (hts (.fieldLink RX5 18 "PrefixIndex$Script" "numbers" "[I") (List.mem_of_getElem? (i := 4) rfl)) (fun _ h9 => h9) rfl dX5_parseNumber_96 ?_
              refine va_alen (v := (72 : Int32)) hx hb hK hP 0 0 rfl rfl rfl dX5_parseNumber_99 ?_
              refine lv_icmp_lt (tgt := 105) hx hb dX5_parseNumber_100 (by decide) (fun c_17 => ?_) (fun c_17 => ?_)
              · have h := og_ite_t c_17 h
                refine lv_aload_n hx hb dX5_parseNumber_105 rfl (lv_at hl 1 rfl) ?_
                refine va_get (D := (dC, dI)) (ci := 5) (v := .ref h_numbers) (C := RX5) (T := TX5) (N := 9) hx hb hts (fun _ hw => List.mem_cons_of_mem _ (List.mem_append_right _ hw)) hown hK hP 1 rfl rfl 2 (by decide) (hts (.fieldLink RX5 18 "PrefixIndex$Script" "numbers" "[I") (List.mem_of_getElem? (i := 4) rfl)) (fun _ h9 => h9) rfl dX5_parseNumber_106 ?_
                refine lv_iload hx hb dX5_parseNumber_109 (lv_at hl 0 rfl) ?_
                refine lv_iload hx hb dX5_parseNumber_111 (lv_at hl 6 rfl) ?_
                obtain ⟨hi_18, h⟩ := oin_e h
                refine va_iast hx hb hK hP hD hS 0 0 rfl rfl hi_18 dX5_parseNumber_113 (fun H locs hP hD hS => ?_)
                have hP : va_P (dC, dI) vwCl [(h_numbers, .inl (cyI, 72, .inl (upd numbers ((x0 * (3 : Int32)) + x1).toNatClampNeg w_12.1))), (h_th, .inr (5, [.ref h_letters, v_th_kinds, .ref h_numbers, .int length, v_th_clauses, v_th_bits, .int u_1.1, .int u_1.2.1, .int u_1.2.2])), (h_letters, .inl (cyI, 200, .inl letters))] H := hP
                have hD : va_D A [(h_numbers, .inl (cyI, 72, .inl (upd numbers ((x0 * (3 : Int32)) + x1).toNatClampNeg w_12.1))), (h_th, .inr (5, [.ref h_letters, v_th_kinds, .ref h_numbers, .int length, v_th_clauses, v_th_bits, .int u_1.1, .int u_1.2.1, .int u_1.2.2])), (h_letters, .inl (cyI, 200, .inl letters))] := hD
                refine lv_iconst (v := 1) hx hb dX5_parseNumber_114 (by decide) ?_
                obtain ⟨hz, h⟩ := obl_e h
                obtain rfl := Option.some.inj h
                have hP := hP.sub (ws' := [(h_th, .inr (5, [.ref h_letters, v_th_kinds, .ref h_numbers, .int length, v_th_clauses, v_th_bits, .int u_1.1, .int u_1.2.1, .int u_1.2.2])), (h_letters, .inl (cyI, 200, .inl letters)), (h_numbers, .inl (cyI, 72, .inl (upd numbers ((x0 * (3 : Int32)) + x1).toNatClampNeg w_12.1)))]) [1, 2, 0] rfl
                have hD := hD.sub (ws' := [(h_th, .inr (5, [.ref h_letters, v_th_kinds, .ref h_numbers, .int length, v_th_clauses, v_th_bits, .int u_1.1, .int u_1.2.1, .int u_1.2.2])), (h_letters, .inl (cyI, 200, .inl letters)), (h_numbers, .inl (cyI, 72, .inl (upd numbers ((x0 * (3 : Int32)) + x1).toNatClampNeg w_12.1)))]) [1, 2, 0] (by decide) rfl
                exact hret _ _ _ _ dX5_parseNumber_115 hz hP hD hS
              · have h := og_ite_f c_17 h
                refine lv_iconst (v := 0) hx hb dX5_parseNumber_103 (by decide) ?_
                obtain ⟨hz, h⟩ := obl_e h
                obtain rfl := Option.some.inj h
                have hP := hP.sub (ws' := [(h_th, .inr (5, [.ref h_letters, v_th_kinds, .ref h_numbers, .int length, v_th_clauses, v_th_bits, .int u_1.1, .int u_1.2.1, .int u_1.2.2])), (h_letters, .inl (cyI, 200, .inl letters)), (h_numbers, .inl (cyI, 72, .inl numbers))]) [1, 2, 0] rfl
                have hD := hD.sub (ws' := [(h_th, .inr (5, [.ref h_letters, v_th_kinds, .ref h_numbers, .int length, v_th_clauses, v_th_bits, .int u_1.1, .int u_1.2.1, .int u_1.2.2])), (h_letters, .inl (cyI, 200, .inl letters)), (h_numbers, .inl (cyI, 72, .inl numbers))]) [1, 2, 0] (by decide) rfl
                exact hret _ _ _ _ dX5_parseNumber_104 hz hP hD hS
      have LL : ∀ (n : Nat) (m5 : Int32) (m6 : Int32) (H : Heap) (locs : List Loc) (ls : Array Slot), lpX5_parseNumber_36 x0 x1 x2 x3 length u_1.1 letters n m5 m6 = some w_12 → va_P (dC, dI) vwCl [(h_numbers, .inl (cyI, 72, .inl numbers)), (h_th, .inr (5, [.ref h_letters, v_th_kinds, .ref h_numbers, .int length, v_th_clauses, v_th_bits, .int u_1.1, .int u_1.2.1, .int u_1.2.2])), (h_letters, .inl (cyI, 200, .inl letters))] H → va_D A [(h_numbers, .inl (cyI, 72, .inl numbers)), (h_th, .inr (5, [.ref h_letters, v_th_kinds, .ref h_numbers, .int length, v_th_clauses, v_th_bits, .int u_1.1, .int u_1.2.1, .int u_1.2.2])), (h_letters, .inl (cyI, 200, .inl letters))] → va_S A s.heap H locs → lv_has ls 7 [(0, .ref h_th), (1, .int x0), (2, .int x1), (3, .int x2), (4, .int x3), (5, .int m5), (6, .int m6)] → W p l e ({ frames := 3, cells := 0, slots := 0, locals := 64 }) s m args below meth c H locs 0 0 Q (F0 m 36 ls []) := by
        intro n
        induction n with
        | zero =>
          intro m5 m6 H locs ls h
          exact absurd h (by rw [lpX5_parseNumber_36]; exact fun q => by cases q)
        | succ n ih =>
          intro m5 m6 H locs ls h hP hD hS hl
          rw [lpX5_parseNumber_36] at h
          refine lv_iload hx hb dX5_parseNumber_36 (lv_at hl 6 rfl) ?_
          refine lv_aload_n hx hb dX5_parseNumber_38 rfl (lv_at hl 0 rfl) ?_
          refine va_get (D := (dC, dI)) (ci := 5) (v := .int u_1.1) (C := RX5) (T := TX5) (N := 9) hx hb hts (fun _ hw => List.mem_cons_of_mem _ (List.mem_append_right _ hw)) hown hK hP 1 rfl rfl 6 (by decide) (hts (.fieldLink RX5 28 "PrefixIndex$Script" "place" "I") (List.mem_of_getElem? (i := 2) rfl)) (fun _ h9 => h9) rfl dX5_parseNumber_39 ?_
          refine lv_icmp_ge (tgt := 68) hx hb dX5_parseNumber_42 (by decide) (fun c_9 => ?_) (fun c_9 => ?_)
          · have h := og_ite_t c_9 h
            obtain rfl := Option.some.inj h
            exact J _ _ _ hP hD hS (lv_sub hl [0, 1, 2, 3, 4, 5] rfl)
          · have h := og_ite_f c_9 h
            refine lv_bipush (v := 10) hx hb dX5_parseNumber_45 (by decide) ?_
            refine lv_iload hx hb dX5_parseNumber_47 (lv_at hl 5 rfl) ?_
            refine lv_imul hx hb dX5_parseNumber_49 ?_
            refine lv_aload_n hx hb dX5_parseNumber_50 rfl (lv_at hl 0 rfl) ?_
            refine lv_iload hx hb dX5_parseNumber_51 (lv_at hl 6 rfl) ?_
            obtain ⟨u_10, hc_11, h⟩ := obd_e h
            refine Gci (wr := [(h_numbers, .inl (cyI, 72, .inl numbers))]) (va_runV (As := [.int m6]) (rest := [.int ((10 : Int32) * m5)]) ⟨hx, hb, hml, hown, hts⟩ (tX5_letterAt l dC dI cyI cyJ cyZ cyO H.size h_th h_letters v_th_kinds (.ref h_numbers) v_th_clauses v_th_bits (.int u_1.1) (.int u_1.2.1) (.int u_1.2.2) length letters m6 u_10 hc_11) (cwV 1 hts gX5_parseNumber_X5_letterAt rfl rfl rfl (by decide +kernel) ⟨Nat.le_of_ble_eq_true rfl, Nat.le_of_ble_eq_true rfl⟩) (GpreV hP hD hK hN [1, 2] rfl (by decide) 5 0 rfl rfl rfl) rfl rfl hl.1 rfl (lv_room (Nat.le_of_ble_eq_true rfl)) dX5_parseNumber_53 ⟨Nat.zero_le _, Nat.zero_le _⟩) hP hD hS hA [1, 2] [0] rfl rfl (by decide) (by decide) (fun H locs hP hD hS => ?_)
            have hP : va_P (dC, dI) vwCl [(h_numbers, .inl (cyI, 72, .inl numbers)), (h_th, .inr (5, [.ref h_letters, v_th_kinds, .ref h_numbers, .int length, v_th_clauses, v_th_bits, .int u_1.1, .int u_1.2.1, .int u_1.2.2])), (h_letters, .inl (cyI, 200, .inl letters))] H := hP
            have hD : va_D A [(h_numbers, .inl (cyI, 72, .inl numbers)), (h_th, .inr (5, [.ref h_letters, v_th_kinds, .ref h_numbers, .int length, v_th_clauses, v_th_bits, .int u_1.1, .int u_1.2.1, .int u_1.2.2])), (h_letters, .inl (cyI, 200, .inl letters))] := hD
            refine lv_bipush (v := 48) hx hb dX5_parseNumber_56 (by decide) ?_
            refine lv_isub hx hb dX5_parseNumber_58 ?_
            refine lv_iadd hx hb dX5_parseNumber_59 ?_
            refine lv_istore (lv' := [(5, .int (((10 : Int32) * m5) + (u_10 - (48 : Int32)))), (0, .ref h_th), (1, .int x0), (2, .int x1), (3, .int x2), (4, .int x3), (6, .int m6)]) hx hb dX5_parseNumber_60 hl (by decide) rfl (fun ls hl => ?_)
            refine lv_iinc (v := m6 + (1 : Int32)) (lv' := [(6, .int (m6 + (1 : Int32))), (5, .int (((10 : Int32) * m5) + (u_10 - (48 : Int32)))), (0, .ref h_th), (1, .int x0), (2, .int x1), (3, .int x2), (4, .int x3)]) hx hb dX5_parseNumber_62 hl (k := 6) rfl rfl (by decide) rfl (fun ls hl => ?_)
            refine lv_goto (tgt := 36) hx hb dX5_parseNumber_65 (by decide) ?_
            exact ih (((10 : Int32) * m5) + (u_10 - (48 : Int32))) (m6 + (1 : Int32)) _ _ _ h hP hD hS (lv_sub hl [2, 3, 4, 5, 6, 1, 0] rfl)
      exact LL _ (0 : Int32) u_1.2.1 _ _ _ hw_13 hP hD hS (lv_sub hl [2, 3, 4, 5, 6, 1, 0] rfl)
    · have h := og_ite_f c_4 h
      refine lv_iconst (v := 0) hx hb dX5_parseNumber_25 (by decide) ?_
      obtain ⟨hz, h⟩ := obl_e h
      obtain rfl := Option.some.inj h
      have hP := hP.sub (ws' := [(h_th, .inr (5, [.ref h_letters, v_th_kinds, .ref h_numbers, .int length, v_th_clauses, v_th_bits, .int u_1.1, .int u_1.2.1, .int u_1.2.2])), (h_letters, .inl (cyI, 200, .inl letters)), (h_numbers, .inl (cyI, 72, .inl numbers))]) [1, 2, 0] rfl
      have hD := hD.sub (ws' := [(h_th, .inr (5, [.ref h_letters, v_th_kinds, .ref h_numbers, .int length, v_th_clauses, v_th_bits, .int u_1.1, .int u_1.2.1, .int u_1.2.2])), (h_letters, .inl (cyI, 200, .inl letters)), (h_numbers, .inl (cyI, 72, .inl numbers))]) [1, 2, 0] (by decide) rfl
      exact hret _ _ _ _ dX5_parseNumber_26 hz hP hD hS

def fX5_numberOf (numbers : (Nat → Int32)) (x0 : Int32) (x1 : Int32) : Option (Int32) := obd (if ((x0 * (3 : Int32)) + x1) < 0 then (some (0 : Int32)) else (if (72 : Int32) ≤ ((x0 * (3 : Int32)) + x1) then (some (0 : Int32)) else (oin ((x0 * (3 : Int32)) + x1) 72 (some (numbers ((x0 * (3 : Int32)) + x1).toNatClampNeg))))) fun w_2 => some w_2

set_option maxHeartbeats 4000000 in
set_option maxRecDepth 100000 in
theorem tX5_numberOf (l : Launch) (dC : Nat → ClassId) (dI : Nat → Nat → Nat) (cyI cyJ cyZ cyO : ClassId) (sz : Nat) (h_th h_numbers : Nat) (v_th_letters : Value) (v_th_kinds : Value) (v_th_length : Value) (v_th_clauses : Value) (v_th_bits : Value) (v_th_place : Value) (v_th_tokenStart : Value) (v_th_token : Value) (numbers : (Nat → Int32)) (x0 : Int32) (x1 : Int32) (u : Int32) (hf : fX5_numberOf numbers x0 x1 = some u) : Met l yX5_numberOf wsX5_numberOf ({ frames := 0, cells := 0, slots := 0, locals := 0 }) (va_Pc [.ref h_th, .int x0, .int x1] (GP (dC, dI) (T4 cyI cyJ cyZ cyO) sz [(h_th, .inr (5, [v_th_letters, v_th_kinds, .ref h_numbers, v_th_length, v_th_clauses, v_th_bits, v_th_place, v_th_tokenStart, v_th_token])), (h_numbers, .inl (cyI, 72, .inl numbers))])) (va_Qi (fun (r : Int32) (_ : Unit) => r = u) (GB (dC, dI) [(h_th, .inr (5, [v_th_letters, v_th_kinds, .ref h_numbers, v_th_length, v_th_clauses, v_th_bits, v_th_place, v_th_tokenStart, v_th_token])), (h_numbers, .inl (cyI, 72, .inl numbers))] (va_A [(h_th, .inr (5, [v_th_letters, v_th_kinds, .ref h_numbers, v_th_length, v_th_clauses, v_th_bits, v_th_place, v_th_tokenStart, v_th_token])), (h_numbers, .inl (cyI, 72, .inl numbers))] sz)) (va_A [(h_th, .inr (5, [v_th_letters, v_th_kinds, .ref h_numbers, v_th_length, v_th_clauses, v_th_bits, v_th_place, v_th_tokenStart, v_th_token])), (h_numbers, .inl (cyI, 72, .inl numbers))] sz)) 0 0 (va_A [(h_th, .inr (5, [v_th_letters, v_th_kinds, .ref h_numbers, v_th_length, v_th_clauses, v_th_bits, v_th_place, v_th_tokenStart, v_th_token])), (h_numbers, .inl (cyI, 72, .inl numbers))] sz) := by
  refine GMetI (by decide) rfl (Nat.le_of_ble_eq_true rfl) ?_
  intro p e s m args below meth c A Q ls hx hb hml hts hown hN hK hA hret hP hD hS hl
  have h := hf
  clear hf
  unfold fX5_numberOf at h
  have hown : s.vm.findClass RX5 = some m.cls := hown
  have hl : lv_has ls 4 [(0, .ref h_th), (1, .int x0), (2, .int x1)] := hl
  refine lv_iload_n hx hb dX5_numberOf_0 rfl (lv_at hl 1 rfl) ?_
  refine lv_iconst (v := 3) hx hb dX5_numberOf_1 (by decide) ?_
  refine lv_imul hx hb dX5_numberOf_2 ?_
  refine lv_iload_n hx hb dX5_numberOf_3 rfl (lv_at hl 2 rfl) ?_
  refine lv_iadd hx hb dX5_numberOf_4 ?_
  refine lv_istore_n (lv' := [(3, .int ((x0 * (3 : Int32)) + x1)), (0, .ref h_th), (1, .int x0), (2, .int x1)]) hx hb dX5_numberOf_5 rfl hl (by decide) rfl (fun ls hl => ?_)
  refine lv_iload_n hx hb dX5_numberOf_6 rfl (lv_at hl 0 rfl) ?_
  obtain ⟨w_2, hm_5, h⟩ := obd_e h
  have J : ∀ (H : Heap) (locs : List Loc) (ls : Array Slot), va_P (dC, dI) vwCl [(h_th, .inr (5, [v_th_letters, v_th_kinds, .ref h_numbers, v_th_length, v_th_clauses, v_th_bits, v_th_place, v_th_tokenStart, v_th_token])), (h_numbers, .inl (cyI, 72, .inl numbers))] H → va_D A [(h_th, .inr (5, [v_th_letters, v_th_kinds, .ref h_numbers, v_th_length, v_th_clauses, v_th_bits, v_th_place, v_th_tokenStart, v_th_token])), (h_numbers, .inl (cyI, 72, .inl numbers))] → va_S A s.heap H locs → lv_has ls 4 [] → W p l e ({ frames := 0, cells := 0, slots := 0, locals := 0 }) s m args below meth c H locs 0 0 Q (F0 m 29 ls [.int w_2]) := by
    intro H locs ls hP hD hS hl
    obtain rfl := Option.some.inj h
    exact hret _ _ _ _ dX5_numberOf_29 hP hD hS
  replace h := hm_5
  refine lv_if_lt (tgt := 28) hx hb dX5_numberOf_7 (by decide) (fun c_1 => ?_) (fun c_1 => ?_)
  · have h := og_ite_t c_1 h
    refine lv_iconst (v := 0) hx hb dX5_numberOf_28 (by decide) ?_
    obtain rfl := Option.some.inj h
    exact J _ _ _ hP hD hS (lv_sub hl [] rfl)
  · have h := og_ite_f c_1 h
    refine lv_iload_n hx hb dX5_numberOf_10 rfl (lv_at hl 0 rfl) ?_
    refine lv_aload_n hx hb dX5_numberOf_11 rfl (lv_at hl 1 rfl) ?_
    refine va_get (D := (dC, dI)) (ci := 5) (v := .ref h_numbers) (C := RX5) (T := TX5) (N := 9) hx hb hts (fun _ hw => List.mem_cons_of_mem _ (List.mem_append_right _ hw)) hown hK hP 0 rfl rfl 2 (by decide) (hts (.fieldLink RX5 18 "PrefixIndex$Script" "numbers" "[I") (List.mem_of_getElem? (i := 1) rfl)) (fun _ h9 => h9) rfl dX5_numberOf_12 ?_
    refine va_alen (v := (72 : Int32)) hx hb hK hP 1 0 rfl rfl rfl dX5_numberOf_15 ?_
    refine lv_icmp_ge (tgt := 28) hx hb dX5_numberOf_16 (by decide) (fun c_3 => ?_) (fun c_3 => ?_)
    · have h := og_ite_t c_3 h
      refine lv_iconst (v := 0) hx hb dX5_numberOf_28 (by decide) ?_
      obtain rfl := Option.some.inj h
      exact J _ _ _ hP hD hS (lv_sub hl [] rfl)
    · have h := og_ite_f c_3 h
      refine lv_aload_n hx hb dX5_numberOf_19 rfl (lv_at hl 1 rfl) ?_
      refine va_get (D := (dC, dI)) (ci := 5) (v := .ref h_numbers) (C := RX5) (T := TX5) (N := 9) hx hb hts (fun _ hw => List.mem_cons_of_mem _ (List.mem_append_right _ hw)) hown hK hP 0 rfl rfl 2 (by decide) (hts (.fieldLink RX5 18 "PrefixIndex$Script" "numbers" "[I") (List.mem_of_getElem? (i := 1) rfl)) (fun _ h9 => h9) rfl dX5_numberOf_20 ?_
      refine lv_iload_n hx hb dX5_numberOf_23 rfl (lv_at hl 0 rfl) ?_
      obtain ⟨hi_4, h⟩ := oin_e h
      refine va_iald hx hb hK hP 1 0 rfl rfl hi_4 dX5_numberOf_24 ?_
      refine lv_goto (tgt := 29) hx hb dX5_numberOf_25 (by decide) ?_
      obtain rfl := Option.some.inj h
      exact J _ _ _ hP hD hS (lv_sub hl [] rfl)

def lpX5_perform_2 (clauses : Int32) (kinds : (Nat → Int32)) (numbers : (Nat → Int32)) : Nat → Int32 → Int32 → Int32 → Int32 → Int32 → Int32 → Int32 → (Nat → Int32) → (Nat → Int32) → Option (Int32 × Int32 × Int32 × Int32 × Int32 × Int32 × Int32 × (Nat → Int32) × (Nat → Int32))
  | 0, _, _, _, _, _, _, _, _, _ => none
  | n + 1, m2, zo0_bits, zo0_size, zo0_keyCount, zo0_markCount, zo0_splits, zo0_joins, zo0_keys, zo0_marks => if clauses ≤ m2 then (some (m2, zo0_bits, zo0_size, zo0_keyCount, zo0_markCount, zo0_splits, zo0_joins, zo0_keys, zo0_marks)) else (if (24 : Int32) ≤ m2 then (some (m2, zo0_bits, zo0_size, zo0_keyCount, zo0_markCount, zo0_splits, zo0_joins, zo0_keys, zo0_marks)) else (obd (fX5_numberOf numbers m2 (0 : Int32)) fun u_4 => oin m2 24 (obd (if (kinds m2.toNatClampNeg) = (0 : Int32) then (obd (fX5_numberOf numbers m2 (1 : Int32)) fun u_10 => obd (fX0_begin zo0_bits zo0_size zo0_keyCount zo0_markCount zo0_splits zo0_joins zo0_marks u_4 u_10) fun u_12 => some (u_12.1, u_12.2.1, u_12.2.2.1, u_12.2.2.2.1, u_12.2.2.2.2.1, u_12.2.2.2.2.2.1, zo0_keys, u_12.2.2.2.2.2.2)) else (if (kinds m2.toNatClampNeg) = (1 : Int32) then (obd (fX0_putIn zo0_size zo0_keyCount zo0_markCount zo0_splits zo0_keys zo0_marks u_4) fun u_15 => some (zo0_bits, zo0_size, u_15.1, u_15.2.1, u_15.2.2.1, zo0_joins, u_15.2.2.2.1, u_15.2.2.2.2)) else (if (kinds m2.toNatClampNeg) = (2 : Int32) then (obd (fX0_takeOut zo0_size zo0_keyCount zo0_markCount zo0_splits zo0_joins zo0_keys zo0_marks u_4) fun u_18 => some (zo0_bits, zo0_size, u_18.1, u_18.2.1, u_18.2.2.1, u_18.2.2.2.1, u_18.2.2.2.2.1, u_18.2.2.2.2.2)) else (obd (fX5_numberOf numbers m2 (1 : Int32)) fun u_20 => obd (fX5_numberOf numbers m2 (2 : Int32)) fun u_22 => obd (fX0_putInAll zo0_bits zo0_size zo0_keyCount zo0_markCount zo0_splits zo0_keys zo0_marks u_4 u_20 u_22) fun u_24 => some (zo0_bits, zo0_size, u_24.1, u_24.2.1, u_24.2.2.1, zo0_joins, u_24.2.2.2.1, u_24.2.2.2.2))))) fun w_7 => lpX5_perform_2 clauses kinds numbers n (m2 + (1 : Int32)) w_7.1 w_7.2.1 w_7.2.2.1 w_7.2.2.2.1 w_7.2.2.2.2.1 w_7.2.2.2.2.2.1 w_7.2.2.2.2.2.2.1 w_7.2.2.2.2.2.2.2)))

def fX5_perform (clauses : Int32) (kinds : (Nat → Int32)) (numbers : (Nat → Int32)) (o0_bits : Int32) (o0_size : Int32) (o0_keyCount : Int32) (o0_markCount : Int32) (o0_splits : Int32) (o0_joins : Int32) (o0_keys : (Nat → Int32)) (o0_marks : (Nat → Int32)) : Option (Int32 × Int32 × Int32 × Int32 × Int32 × Int32 × (Nat → Int32) × (Nat → Int32)) := obd (lpX5_perform_2 clauses kinds numbers 100000 (0 : Int32) o0_bits o0_size o0_keyCount o0_markCount o0_splits o0_joins o0_keys o0_marks) fun w_50 => some (w_50.2.1, w_50.2.2.1, w_50.2.2.2.1, w_50.2.2.2.2.1, w_50.2.2.2.2.2.1, w_50.2.2.2.2.2.2.1, w_50.2.2.2.2.2.2.2.1, w_50.2.2.2.2.2.2.2.2)

set_option maxHeartbeats 4000000 in
set_option maxRecDepth 100000 in
theorem tX5_perform (l : Launch) (dC : Nat → ClassId) (dI : Nat → Nat → Nat) (cyI cyJ cyZ cyO : ClassId) (sz : Nat) (h_th h_kinds h_numbers h_o0 h_o0_keys h_o0_marks : Nat) (v_th_letters : Value) (v_th_length : Value) (v_th_bits : Value) (v_th_place : Value) (v_th_tokenStart : Value) (v_th_token : Value) (clauses : Int32) (kinds : (Nat → Int32)) (numbers : (Nat → Int32)) (o0_bits : Int32) (o0_size : Int32) (o0_keyCount : Int32) (o0_markCount : Int32) (o0_splits : Int32) (o0_joins : Int32) (o0_keys : (Nat → Int32)) (o0_marks : (Nat → Int32)) (u : Int32 × Int32 × Int32 × Int32 × Int32 × Int32 × (Nat → Int32) × (Nat → Int32)) (hf : fX5_perform clauses kinds numbers o0_bits o0_size o0_keyCount o0_markCount o0_splits o0_joins o0_keys o0_marks = some u) : Met l yX5_perform wsX5_perform ({ frames := 5, cells := 0, slots := 0, locals := 118 }) (va_Pc [.ref h_th, .ref h_o0] (GP (dC, dI) (T4 cyI cyJ cyZ cyO) sz [(h_th, .inr (5, [v_th_letters, .ref h_kinds, .ref h_numbers, v_th_length, .int clauses, v_th_bits, v_th_place, v_th_tokenStart, v_th_token])), (h_kinds, .inl (cyI, 24, .inl kinds)), (h_numbers, .inl (cyI, 72, .inl numbers)), (h_o0, .inr (0, [.ref h_o0_keys, .ref h_o0_marks, .int o0_bits, .int o0_size, .int o0_keyCount, .int o0_markCount, .int o0_splits, .int o0_joins])), (h_o0_keys, .inl (cyI, 96, .inl o0_keys)), (h_o0_marks, .inl (cyI, 48, .inl o0_marks))])) (va_Qv (fun (_ : Unit) => True) (GB (dC, dI) [(h_th, .inr (5, [v_th_letters, .ref h_kinds, .ref h_numbers, v_th_length, .int clauses, v_th_bits, v_th_place, v_th_tokenStart, v_th_token])), (h_kinds, .inl (cyI, 24, .inl kinds)), (h_numbers, .inl (cyI, 72, .inl numbers)), (h_o0, .inr (0, [.ref h_o0_keys, .ref h_o0_marks, .int u.1, .int u.2.1, .int u.2.2.1, .int u.2.2.2.1, .int u.2.2.2.2.1, .int u.2.2.2.2.2.1])), (h_o0_keys, .inl (cyI, 96, .inl u.2.2.2.2.2.2.1)), (h_o0_marks, .inl (cyI, 48, .inl u.2.2.2.2.2.2.2))] (va_A [(h_th, .inr (5, [v_th_letters, .ref h_kinds, .ref h_numbers, v_th_length, .int clauses, v_th_bits, v_th_place, v_th_tokenStart, v_th_token])), (h_kinds, .inl (cyI, 24, .inl kinds)), (h_numbers, .inl (cyI, 72, .inl numbers)), (h_o0, .inr (0, [.ref h_o0_keys, .ref h_o0_marks, .int o0_bits, .int o0_size, .int o0_keyCount, .int o0_markCount, .int o0_splits, .int o0_joins])), (h_o0_keys, .inl (cyI, 96, .inl o0_keys)), (h_o0_marks, .inl (cyI, 48, .inl o0_marks))] sz)) (va_A [(h_th, .inr (5, [v_th_letters, .ref h_kinds, .ref h_numbers, v_th_length, .int clauses, v_th_bits, v_th_place, v_th_tokenStart, v_th_token])), (h_kinds, .inl (cyI, 24, .inl kinds)), (h_numbers, .inl (cyI, 72, .inl numbers)), (h_o0, .inr (0, [.ref h_o0_keys, .ref h_o0_marks, .int o0_bits, .int o0_size, .int o0_keyCount, .int o0_markCount, .int o0_splits, .int o0_joins])), (h_o0_keys, .inl (cyI, 96, .inl o0_keys)), (h_o0_marks, .inl (cyI, 48, .inl o0_marks))] sz)) 0 0 (va_A [(h_th, .inr (5, [v_th_letters, .ref h_kinds, .ref h_numbers, v_th_length, .int clauses, v_th_bits, v_th_place, v_th_tokenStart, v_th_token])), (h_kinds, .inl (cyI, 24, .inl kinds)), (h_numbers, .inl (cyI, 72, .inl numbers)), (h_o0, .inr (0, [.ref h_o0_keys, .ref h_o0_marks, .int o0_bits, .int o0_size, .int o0_keyCount, .int o0_markCount, .int o0_splits, .int o0_joins])), (h_o0_keys, .inl (cyI, 96, .inl o0_keys)), (h_o0_marks, .inl (cyI, 48, .inl o0_marks))] sz) := by
  refine GMetV (by decide) rfl (Nat.le_of_ble_eq_true rfl) ?_
  intro p e s m args below meth c A Q ls hx hb hml hts hown hN hK hA hret hP hD hS hl
  have h := hf
  clear hf
  unfold fX5_perform at h
  have hown : s.vm.findClass RX5 = some m.cls := hown
  have hl : lv_has ls 4 [(0, .ref h_th), (1, .ref h_o0)] := hl
  refine lv_iconst (v := 0) hx hb dX5_perform_0 (by decide) ?_
  refine lv_istore_n (lv' := [(2, .int (0 : Int32)), (0, .ref h_th), (1, .ref h_o0)]) hx hb dX5_perform_1 rfl hl (by decide) rfl (fun ls hl => ?_)
  obtain ⟨w_50, hw_51, h⟩ := obd_e h
  have J : ∀ (H : Heap) (locs : List Loc) (ls : Array Slot), va_P (dC, dI) vwCl [(h_th, .inr (5, [v_th_letters, .ref h_kinds, .ref h_numbers, v_th_length, .int clauses, v_th_bits, v_th_place, v_th_tokenStart, v_th_token])), (h_kinds, .inl (cyI, 24, .inl kinds)), (h_numbers, .inl (cyI, 72, .inl numbers)), (h_o0, .inr (0, [.ref h_o0_keys, .ref h_o0_marks, .int w_50.2.1, .int w_50.2.2.1, .int w_50.2.2.2.1, .int w_50.2.2.2.2.1, .int w_50.2.2.2.2.2.1, .int w_50.2.2.2.2.2.2.1])), (h_o0_keys, .inl (cyI, 96, .inl w_50.2.2.2.2.2.2.2.1)), (h_o0_marks, .inl (cyI, 48, .inl w_50.2.2.2.2.2.2.2.2))] H → va_D A [(h_th, .inr (5, [v_th_letters, .ref h_kinds, .ref h_numbers, v_th_length, .int clauses, v_th_bits, v_th_place, v_th_tokenStart, v_th_token])), (h_kinds, .inl (cyI, 24, .inl kinds)), (h_numbers, .inl (cyI, 72, .inl numbers)), (h_o0, .inr (0, [.ref h_o0_keys, .ref h_o0_marks, .int w_50.2.1, .int w_50.2.2.1, .int w_50.2.2.2.1, .int w_50.2.2.2.2.1, .int w_50.2.2.2.2.2.1, .int w_50.2.2.2.2.2.2.1])), (h_o0_keys, .inl (cyI, 96, .inl w_50.2.2.2.2.2.2.2.1)), (h_o0_marks, .inl (cyI, 48, .inl w_50.2.2.2.2.2.2.2.2))] → va_S A s.heap H locs → lv_has ls 4 [] → W p l e ({ frames := 5, cells := 0, slots := 0, locals := 118 }) s m args below meth c H locs 0 0 Q (F0 m 113 ls []) := by
    intro H locs ls hP hD hS hl
    obtain rfl := Option.some.inj h
    exact hret _ _ _ _ dX5_perform_113 hP hD hS
  have LL : ∀ (n : Nat) (m2 : Int32) (zo0_bits : Int32) (zo0_size : Int32) (zo0_keyCount : Int32) (zo0_markCount : Int32) (zo0_splits : Int32) (zo0_joins : Int32) (zo0_keys : (Nat → Int32)) (zo0_marks : (Nat → Int32)) (H : Heap) (locs : List Loc) (ls : Array Slot), lpX5_perform_2 clauses kinds numbers n m2 zo0_bits zo0_size zo0_keyCount zo0_markCount zo0_splits zo0_joins zo0_keys zo0_marks = some w_50 → va_P (dC, dI) vwCl [(h_th, .inr (5, [v_th_letters, .ref h_kinds, .ref h_numbers, v_th_length, .int clauses, v_th_bits, v_th_place, v_th_tokenStart, v_th_token])), (h_kinds, .inl (cyI, 24, .inl kinds)), (h_numbers, .inl (cyI, 72, .inl numbers)), (h_o0, .inr (0, [.ref h_o0_keys, .ref h_o0_marks, .int zo0_bits, .int zo0_size, .int zo0_keyCount, .int zo0_markCount, .int zo0_splits, .int zo0_joins])), (h_o0_keys, .inl (cyI, 96, .inl zo0_keys)), (h_o0_marks, .inl (cyI, 48, .inl zo0_marks))] H → va_D A [(h_th, .inr (5, [v_th_letters, .ref h_kinds, .ref h_numbers, v_th_length, .int clauses, v_th_bits, v_th_place, v_th_tokenStart, v_th_token])), (h_kinds, .inl (cyI, 24, .inl kinds)), (h_numbers, .inl (cyI, 72, .inl numbers)), (h_o0, .inr (0, [.ref h_o0_keys, .ref h_o0_marks, .int zo0_bits, .int zo0_size, .int zo0_keyCount, .int zo0_markCount, .int zo0_splits, .int zo0_joins])), (h_o0_keys, .inl (cyI, 96, .inl zo0_keys)), (h_o0_marks, .inl (cyI, 48, .inl zo0_marks))] → va_S A s.heap H locs → lv_has ls 4 [(0, .ref h_th), (1, .ref h_o0), (2, .int m2)] → W p l e ({ frames := 5, cells := 0, slots := 0, locals := 118 }) s m args below meth c H locs 0 0 Q (F0 m 2 ls []) := by
    intro n
    induction n with
    | zero =>
      intro m2 zo0_bits zo0_size zo0_keyCount zo0_markCount zo0_splits zo0_joins zo0_keys zo0_marks H locs ls h
      exact absurd h (by rw [lpX5_perform_2]; exact fun q => by cases q)
    | succ n ih =>
      intro m2 zo0_bits zo0_size zo0_keyCount zo0_markCount zo0_splits zo0_joins zo0_keys zo0_marks H locs ls h hP hD hS hl
      rw [lpX5_perform_2] at h
      refine lv_iload_n hx hb dX5_perform_2 rfl (lv_at hl 2 rfl) ?_
      refine lv_aload_n hx hb dX5_perform_3 rfl (lv_at hl 0 rfl) ?_
      refine va_get (D := (dC, dI)) (ci := 5) (v := .int clauses) (C := RX5) (T := TX5) (N := 9) hx hb hts (fun _ hw => List.mem_cons_of_mem _ (List.mem_append_left _ (List.mem_append_right _ hw))) hown hK hP 0 rfl rfl 4 (by decide) (hts (.fieldLink RX5 31 "PrefixIndex$Script" "clauses" "I") (List.mem_of_getElem? (i := 1) rfl)) (fun _ h9 => h9) rfl dX5_perform_4 ?_
      refine lv_icmp_ge (tgt := 113) hx hb dX5_perform_7 (by decide) (fun c_26 => ?_) (fun c_26 => ?_)
      · have h := og_ite_t c_26 h
        obtain rfl := Option.some.inj h
        exact J _ _ _ hP hD hS (lv_sub hl [] rfl)
      · have h := og_ite_f c_26 h
        refine lv_iload_n hx hb dX5_perform_10 rfl (lv_at hl 2 rfl) ?_
        refine lv_aload_n hx hb dX5_perform_11 rfl (lv_at hl 0 rfl) ?_
        refine va_get (D := (dC, dI)) (ci := 5) (v := .ref h_kinds) (C := RX5) (T := TX5) (N := 9) hx hb hts (fun _ hw => List.mem_cons_of_mem _ (List.mem_append_left _ (List.mem_append_right _ hw))) hown hK hP 0 rfl rfl 1 (by decide) (hts (.fieldLink RX5 15 "PrefixIndex$Script" "kinds" "[I") (List.mem_of_getElem? (i := 2) rfl)) (fun _ h9 => h9) rfl dX5_perform_12 ?_
        refine va_alen (v := (24 : Int32)) hx hb hK hP 1 0 rfl rfl rfl dX5_perform_15 ?_
        refine lv_icmp_ge (tgt := 113) hx hb dX5_perform_16 (by decide) (fun c_27 => ?_) (fun c_27 => ?_)
        · have h := og_ite_t c_27 h
          obtain rfl := Option.some.inj h
          exact J _ _ _ hP hD hS (lv_sub hl [] rfl)
        · have h := og_ite_f c_27 h
          refine lv_aload_n hx hb dX5_perform_19 rfl (lv_at hl 0 rfl) ?_
          refine lv_iload_n hx hb dX5_perform_20 rfl (lv_at hl 2 rfl) ?_
          refine lv_iconst (v := 0) hx hb dX5_perform_21 (by decide) ?_
          obtain ⟨u_28, hc_29, h⟩ := obd_e h
          refine Gci (wr := [(h_kinds, .inl (cyI, 24, .inl kinds)), (h_o0, .inr (0, [.ref h_o0_keys, .ref h_o0_marks, .int zo0_bits, .int zo0_size, .int zo0_keyCount, .int zo0_markCount, .int zo0_splits, .int zo0_joins])), (h_o0_keys, .inl (cyI, 96, .inl zo0_keys)), (h_o0_marks, .inl (cyI, 48, .inl zo0_marks))]) (va_runV (As := [.int m2, .int (0 : Int32)]) (rest := []) ⟨hx, hb, hml, hown, hts⟩ (tX5_numberOf l dC dI cyI cyJ cyZ cyO H.size h_th h_numbers v_th_letters (.ref h_kinds) v_th_length (.int clauses) v_th_bits v_th_place v_th_tokenStart v_th_token numbers m2 (0 : Int32) u_28 hc_29) (cwV 2 hts gX5_perform_X5_numberOf rfl rfl rfl (by decide +kernel) ⟨Nat.le_of_ble_eq_true rfl, Nat.le_of_ble_eq_true rfl⟩) (GpreV hP hD hK hN [0, 2] rfl (by decide) 5 0 rfl rfl rfl) rfl rfl hl.1 rfl (lv_room (Nat.le_of_ble_eq_true rfl)) dX5_perform_22 ⟨Nat.zero_le _, Nat.zero_le _⟩) hP hD hS hA [0, 2] [1, 3, 4, 5] rfl rfl (by decide) (by decide) (fun H locs hP hD hS => ?_)
          have hP : va_P (dC, dI) vwCl [(h_kinds, .inl (cyI, 24, .inl kinds)), (h_o0, .inr (0, [.ref h_o0_keys, .ref h_o0_marks, .int zo0_bits, .int zo0_size, .int zo0_keyCount, .int zo0_markCount, .int zo0_splits, .int zo0_joins])), (h_o0_keys, .inl (cyI, 96, .inl zo0_keys)), (h_o0_marks, .inl (cyI, 48, .inl zo0_marks)), (h_th, .inr (5, [v_th_letters, .ref h_kinds, .ref h_numbers, v_th_length, .int clauses, v_th_bits, v_th_place, v_th_tokenStart, v_th_token])), (h_numbers, .inl (cyI, 72, .inl numbers))] H := hP
          have hD : va_D A [(h_kinds, .inl (cyI, 24, .inl kinds)), (h_o0, .inr (0, [.ref h_o0_keys, .ref h_o0_marks, .int zo0_bits, .int zo0_size, .int zo0_keyCount, .int zo0_markCount, .int zo0_splits, .int zo0_joins])), (h_o0_keys, .inl (cyI, 96, .inl zo0_keys)), (h_o0_marks, .inl (cyI, 48, .inl zo0_marks)), (h_th, .inr (5, [v_th_letters, .ref h_kinds, .ref h_numbers, v_th_length, .int clauses, v_th_bits, v_th_place, v_th_tokenStart, v_th_token])), (h_numbers, .inl (cyI, 72, .inl numbers))] := hD
          refine lv_istore_n (lv' := [(3, .int u_28), (0, .ref h_th), (1, .ref h_o0), (2, .int m2)]) hx hb dX5_perform_25 rfl hl (by decide) rfl (fun ls hl => ?_)
          refine lv_aload_n hx hb dX5_perform_26 rfl (lv_at hl 1 rfl) ?_
          refine va_get (D := (dC, dI)) (ci := 5) (v := .ref h_kinds) (C := RX5) (T := TX5) (N := 9) hx hb hts (fun _ hw => List.mem_cons_of_mem _ (List.mem_append_left _ (List.mem_append_right _ hw))) hown hK hP 4 rfl rfl 1 (by decide) (hts (.fieldLink RX5 15 "PrefixIndex$Script" "kinds" "[I") (List.mem_of_getElem? (i := 2) rfl)) (fun _ h9 => h9) rfl dX5_perform_27 ?_
          refine lv_iload_n hx hb dX5_perform_30 rfl (lv_at hl 3 rfl) ?_
          obtain ⟨hi_30, h⟩ := oin_e h
          refine va_iald hx hb hK hP 0 0 rfl rfl hi_30 dX5_perform_31 ?_
          obtain ⟨w_31, hm_32, h⟩ := obd_e h
          have J : ∀ (H : Heap) (locs : List Loc) (ls : Array Slot), va_P (dC, dI) vwCl [(h_kinds, .inl (cyI, 24, .inl kinds)), (h_o0, .inr (0, [.ref h_o0_keys, .ref h_o0_marks, .int w_31.1, .int w_31.2.1, .int w_31.2.2.1, .int w_31.2.2.2.1, .int w_31.2.2.2.2.1, .int w_31.2.2.2.2.2.1])), (h_o0_keys, .inl (cyI, 96, .inl w_31.2.2.2.2.2.2.1)), (h_o0_marks, .inl (cyI, 48, .inl w_31.2.2.2.2.2.2.2)), (h_th, .inr (5, [v_th_letters, .ref h_kinds, .ref h_numbers, v_th_length, .int clauses, v_th_bits, v_th_place, v_th_tokenStart, v_th_token])), (h_numbers, .inl (cyI, 72, .inl numbers))] H → va_D A [(h_kinds, .inl (cyI, 24, .inl kinds)), (h_o0, .inr (0, [.ref h_o0_keys, .ref h_o0_marks, .int w_31.1, .int w_31.2.1, .int w_31.2.2.1, .int w_31.2.2.2.1, .int w_31.2.2.2.2.1, .int w_31.2.2.2.2.2.1])), (h_o0_keys, .inl (cyI, 96, .inl w_31.2.2.2.2.2.2.1)), (h_o0_marks, .inl (cyI, 48, .inl w_31.2.2.2.2.2.2.2)), (h_th, .inr (5, [v_th_letters, .ref h_kinds, .ref h_numbers, v_th_length, .int clauses, v_th_bits, v_th_place, v_th_tokenStart, v_th_token])), (h_numbers, .inl (cyI, 72, .inl numbers))] → va_S A s.heap H locs → lv_has ls 4 [(0, .ref h_th), (1, .ref h_o0), (2, .int m2)] → W p l e ({ frames := 5, cells := 0, slots := 0, locals := 118 }) s m args below meth c H locs 0 0 Q (F0 m 107 ls []) := by
            intro H locs ls hP hD hS hl
            refine lv_iinc (v := m2 + (1 : Int32)) (lv' := [(2, .int (m2 + (1 : Int32))), (0, .ref h_th), (1, .ref h_o0)]) hx hb dX5_perform_107 hl (k := 2) rfl rfl (by decide) rfl (fun ls hl => ?_)
            refine lv_goto (tgt := 2) hx hb dX5_perform_110 (by decide) ?_
            have hP := hP.sub (ws' := [(h_th, .inr (5, [v_th_letters, .ref h_kinds, .ref h_numbers, v_th_length, .int clauses, v_th_bits, v_th_place, v_th_tokenStart, v_th_token])), (h_kinds, .inl (cyI, 24, .inl kinds)), (h_numbers, .inl (cyI, 72, .inl numbers)), (h_o0, .inr (0, [.ref h_o0_keys, .ref h_o0_marks, .int w_31.1, .int w_31.2.1, .int w_31.2.2.1, .int w_31.2.2.2.1, .int w_31.2.2.2.2.1, .int w_31.2.2.2.2.2.1])), (h_o0_keys, .inl (cyI, 96, .inl w_31.2.2.2.2.2.2.1)), (h_o0_marks, .inl (cyI, 48, .inl w_31.2.2.2.2.2.2.2))]) [4, 0, 5, 1, 2, 3] rfl
            have hD := hD.sub (ws' := [(h_th, .inr (5, [v_th_letters, .ref h_kinds, .ref h_numbers, v_th_length, .int clauses, v_th_bits, v_th_place, v_th_tokenStart, v_th_token])), (h_kinds, .inl (cyI, 24, .inl kinds)), (h_numbers, .inl (cyI, 72, .inl numbers)), (h_o0, .inr (0, [.ref h_o0_keys, .ref h_o0_marks, .int w_31.1, .int w_31.2.1, .int w_31.2.2.1, .int w_31.2.2.2.1, .int w_31.2.2.2.2.1, .int w_31.2.2.2.2.2.1])), (h_o0_keys, .inl (cyI, 96, .inl w_31.2.2.2.2.2.2.1)), (h_o0_marks, .inl (cyI, 48, .inl w_31.2.2.2.2.2.2.2))]) [4, 0, 5, 1, 2, 3] (by decide) rfl
            exact ih (m2 + (1 : Int32)) w_31.1 w_31.2.1 w_31.2.2.1 w_31.2.2.2.1 w_31.2.2.2.2.1 w_31.2.2.2.2.2.1 w_31.2.2.2.2.2.2.1 w_31.2.2.2.2.2.2.2 _ _ _ h hP hD hS (lv_sub hl [1, 2, 0] rfl)
          replace h := hm_32
          by_cases c_33 : (kinds m2.toNatClampNeg) = (0 : Int32)
          · have h := og_ite_t c_33 h
            refine lv_tableIn (off := 28) (tgt := 60) hx hb dX5_perform_32 (by rw [c_33]; decide) (by rw [c_33]; decide) (by rw [c_33]; rfl) (by decide) ?_
            refine lv_aload_n hx hb dX5_perform_60 rfl (lv_at hl 2 rfl) ?_
            refine lv_iload_n hx hb dX5_perform_61 rfl (lv_at hl 0 rfl) ?_
            refine lv_aload_n hx hb dX5_perform_62 rfl (lv_at hl 1 rfl) ?_
            refine lv_iload_n hx hb dX5_perform_63 rfl (lv_at hl 3 rfl) ?_
            refine lv_iconst (v := 1) hx hb dX5_perform_64 (by decide) ?_
            obtain ⟨u_34, hc_35, h⟩ := obd_e h
            refine Gci (wr := [(h_kinds, .inl (cyI, 24, .inl kinds)), (h_o0, .inr (0, [.ref h_o0_keys, .ref h_o0_marks, .int zo0_bits, .int zo0_size, .int zo0_keyCount, .int zo0_markCount, .int zo0_splits, .int zo0_joins])), (h_o0_keys, .inl (cyI, 96, .inl zo0_keys)), (h_o0_marks, .inl (cyI, 48, .inl zo0_marks))]) (va_runV (As := [.int m2, .int (1 : Int32)]) (rest := [.int u_28, .ref h_o0]) ⟨hx, hb, hml, hown, hts⟩ (tX5_numberOf l dC dI cyI cyJ cyZ cyO H.size h_th h_numbers v_th_letters (.ref h_kinds) v_th_length (.int clauses) v_th_bits v_th_place v_th_tokenStart v_th_token numbers m2 (1 : Int32) u_34 hc_35) (cwV 2 hts gX5_perform_X5_numberOf rfl rfl rfl (by decide +kernel) ⟨Nat.le_of_ble_eq_true rfl, Nat.le_of_ble_eq_true rfl⟩) (GpreV hP hD hK hN [4, 5] rfl (by decide) 5 0 rfl rfl rfl) rfl rfl hl.1 rfl (lv_room (Nat.le_of_ble_eq_true rfl)) dX5_perform_65 ⟨Nat.zero_le _, Nat.zero_le _⟩) hP hD hS hA [4, 5] [0, 1, 2, 3] rfl rfl (by decide) (by decide) (fun H locs hP hD hS => ?_)
            have hP : va_P (dC, dI) vwCl [(h_kinds, .inl (cyI, 24, .inl kinds)), (h_o0, .inr (0, [.ref h_o0_keys, .ref h_o0_marks, .int zo0_bits, .int zo0_size, .int zo0_keyCount, .int zo0_markCount, .int zo0_splits, .int zo0_joins])), (h_o0_keys, .inl (cyI, 96, .inl zo0_keys)), (h_o0_marks, .inl (cyI, 48, .inl zo0_marks)), (h_th, .inr (5, [v_th_letters, .ref h_kinds, .ref h_numbers, v_th_length, .int clauses, v_th_bits, v_th_place, v_th_tokenStart, v_th_token])), (h_numbers, .inl (cyI, 72, .inl numbers))] H := hP
            have hD : va_D A [(h_kinds, .inl (cyI, 24, .inl kinds)), (h_o0, .inr (0, [.ref h_o0_keys, .ref h_o0_marks, .int zo0_bits, .int zo0_size, .int zo0_keyCount, .int zo0_markCount, .int zo0_splits, .int zo0_joins])), (h_o0_keys, .inl (cyI, 96, .inl zo0_keys)), (h_o0_marks, .inl (cyI, 48, .inl zo0_marks)), (h_th, .inr (5, [v_th_letters, .ref h_kinds, .ref h_numbers, v_th_length, .int clauses, v_th_bits, v_th_place, v_th_tokenStart, v_th_token])), (h_numbers, .inl (cyI, 72, .inl numbers))] := hD
            obtain ⟨u_36, hc_37, h⟩ := obd_e h
            refine Gcv (wr := [(h_kinds, .inl (cyI, 24, .inl kinds)), (h_o0_keys, .inl (cyI, 96, .inl zo0_keys)), (h_th, .inr (5, [v_th_letters, .ref h_kinds, .ref h_numbers, v_th_length, .int clauses, v_th_bits, v_th_place, v_th_tokenStart, v_th_token])), (h_numbers, .inl (cyI, 72, .inl numbers))]) (va_runV (As := [.int u_28, .int u_34]) (rest := []) ⟨hx, hb, hml, hown, hts⟩ (tX0_begin l dC dI cyI cyJ cyZ cyO H.size h_o0 h_o0_marks (.ref h_o0_keys) zo0_bits zo0_size zo0_keyCount zo0_markCount zo0_splits zo0_joins zo0_marks u_28 u_34 u_36 hc_37) (cwV 2 hts gX5_perform_X0_begin rfl rfl rfl (by decide +kernel) ⟨Nat.le_of_ble_eq_true rfl, Nat.le_of_ble_eq_true rfl⟩) (GpreV hP hD hK hN [1, 3] rfl (by decide) 0 0 rfl rfl rfl) rfl rfl hl.1 rfl (lv_room (Nat.le_of_ble_eq_true rfl)) dX5_perform_68 ⟨Nat.zero_le _, Nat.zero_le _⟩) hP hD hS hA [1, 3] [0, 2, 4, 5] rfl rfl (by decide) (by decide) (fun H locs hP hD hS => ?_)
            have hP : va_P (dC, dI) vwCl [(h_kinds, .inl (cyI, 24, .inl kinds)), (h_o0_keys, .inl (cyI, 96, .inl zo0_keys)), (h_th, .inr (5, [v_th_letters, .ref h_kinds, .ref h_numbers, v_th_length, .int clauses, v_th_bits, v_th_place, v_th_tokenStart, v_th_token])), (h_numbers, .inl (cyI, 72, .inl numbers)), (h_o0, .inr (0, [.ref h_o0_keys, .ref h_o0_marks, .int u_36.1, .int u_36.2.1, .int u_36.2.2.1, .int u_36.2.2.2.1, .int u_36.2.2.2.2.1, .int u_36.2.2.2.2.2.1])), (h_o0_marks, .inl (cyI, 48, .inl u_36.2.2.2.2.2.2))] H := hP
            have hD : va_D A [(h_kinds, .inl (cyI, 24, .inl kinds)), (h_o0_keys, .inl (cyI, 96, .inl zo0_keys)), (h_th, .inr (5, [v_th_letters, .ref h_kinds, .ref h_numbers, v_th_length, .int clauses, v_th_bits, v_th_place, v_th_tokenStart, v_th_token])), (h_numbers, .inl (cyI, 72, .inl numbers)), (h_o0, .inr (0, [.ref h_o0_keys, .ref h_o0_marks, .int u_36.1, .int u_36.2.1, .int u_36.2.2.1, .int u_36.2.2.2.1, .int u_36.2.2.2.2.1, .int u_36.2.2.2.2.2.1])), (h_o0_marks, .inl (cyI, 48, .inl u_36.2.2.2.2.2.2))] := hD
            refine lv_goto (tgt := 107) hx hb dX5_perform_71 (by decide) ?_
            obtain rfl := Option.some.inj h
            have hP := hP.sub (ws' := [(h_kinds, .inl (cyI, 24, .inl kinds)), (h_o0, .inr (0, [.ref h_o0_keys, .ref h_o0_marks, .int u_36.1, .int u_36.2.1, .int u_36.2.2.1, .int u_36.2.2.2.1, .int u_36.2.2.2.2.1, .int u_36.2.2.2.2.2.1])), (h_o0_keys, .inl (cyI, 96, .inl zo0_keys)), (h_o0_marks, .inl (cyI, 48, .inl u_36.2.2.2.2.2.2)), (h_th, .inr (5, [v_th_letters, .ref h_kinds, .ref h_numbers, v_th_length, .int clauses, v_th_bits, v_th_place, v_th_tokenStart, v_th_token])), (h_numbers, .inl (cyI, 72, .inl numbers))]) [0, 4, 1, 5, 2, 3] rfl
            have hD := hD.sub (ws' := [(h_kinds, .inl (cyI, 24, .inl kinds)), (h_o0, .inr (0, [.ref h_o0_keys, .ref h_o0_marks, .int u_36.1, .int u_36.2.1, .int u_36.2.2.1, .int u_36.2.2.2.1, .int u_36.2.2.2.2.1, .int u_36.2.2.2.2.2.1])), (h_o0_keys, .inl (cyI, 96, .inl zo0_keys)), (h_o0_marks, .inl (cyI, 48, .inl u_36.2.2.2.2.2.2)), (h_th, .inr (5, [v_th_letters, .ref h_kinds, .ref h_numbers, v_th_length, .int clauses, v_th_bits, v_th_place, v_th_tokenStart, v_th_token])), (h_numbers, .inl (cyI, 72, .inl numbers))]) [0, 4, 1, 5, 2, 3] (by decide) rfl
            exact J _ _ _ hP hD hS (lv_sub hl [1, 2, 3] rfl)
          replace h := og_ite_f c_33 h
          by_cases c_38 : (kinds m2.toNatClampNeg) = (1 : Int32)
          · have h := og_ite_t c_38 h
            refine lv_tableIn (off := 42) (tgt := 74) hx hb dX5_perform_32 (by rw [c_38]; decide) (by rw [c_38]; decide) (by rw [c_38]; rfl) (by decide) ?_
            refine lv_aload_n hx hb dX5_perform_74 rfl (lv_at hl 2 rfl) ?_
            refine lv_iload_n hx hb dX5_perform_75 rfl (lv_at hl 0 rfl) ?_
            obtain ⟨u_39, hc_40, h⟩ := obd_e h
            refine Gcv (wr := [(h_kinds, .inl (cyI, 24, .inl kinds)), (h_th, .inr (5, [v_th_letters, .ref h_kinds, .ref h_numbers, v_th_length, .int clauses, v_th_bits, v_th_place, v_th_tokenStart, v_th_token])), (h_numbers, .inl (cyI, 72, .inl numbers))]) (va_runV (As := [.int u_28]) (rest := []) ⟨hx, hb, hml, hown, hts⟩ (tX0_putIn l dC dI cyI cyJ cyZ cyO H.size h_o0 h_o0_keys h_o0_marks (.int zo0_bits) (.int zo0_joins) zo0_size zo0_keyCount zo0_markCount zo0_splits zo0_keys zo0_marks u_28 u_39 hc_40) (cwV 1 hts gX5_perform_X0_putIn rfl rfl rfl (by decide +kernel) ⟨Nat.le_of_ble_eq_true rfl, Nat.le_of_ble_eq_true rfl⟩) (GpreV hP hD hK hN [1, 2, 3] rfl (by decide) 0 0 rfl rfl rfl) rfl rfl hl.1 rfl (lv_room (Nat.le_of_ble_eq_true rfl)) dX5_perform_76 ⟨Nat.zero_le _, Nat.zero_le _⟩) hP hD hS hA [1, 2, 3] [0, 4, 5] rfl rfl (by decide) (by decide) (fun H locs hP hD hS => ?_)
            have hP : va_P (dC, dI) vwCl [(h_kinds, .inl (cyI, 24, .inl kinds)), (h_th, .inr (5, [v_th_letters, .ref h_kinds, .ref h_numbers, v_th_length, .int clauses, v_th_bits, v_th_place, v_th_tokenStart, v_th_token])), (h_numbers, .inl (cyI, 72, .inl numbers)), (h_o0, .inr (0, [.ref h_o0_keys, .ref h_o0_marks, .int zo0_bits, .int zo0_size, .int u_39.1, .int u_39.2.1, .int u_39.2.2.1, .int zo0_joins])), (h_o0_keys, .inl (cyI, 96, .inl u_39.2.2.2.1)), (h_o0_marks, .inl (cyI, 48, .inl u_39.2.2.2.2))] H := hP
            have hD : va_D A [(h_kinds, .inl (cyI, 24, .inl kinds)), (h_th, .inr (5, [v_th_letters, .ref h_kinds, .ref h_numbers, v_th_length, .int clauses, v_th_bits, v_th_place, v_th_tokenStart, v_th_token])), (h_numbers, .inl (cyI, 72, .inl numbers)), (h_o0, .inr (0, [.ref h_o0_keys, .ref h_o0_marks, .int zo0_bits, .int zo0_size, .int u_39.1, .int u_39.2.1, .int u_39.2.2.1, .int zo0_joins])), (h_o0_keys, .inl (cyI, 96, .inl u_39.2.2.2.1)), (h_o0_marks, .inl (cyI, 48, .inl u_39.2.2.2.2))] := hD
            refine lv_goto (tgt := 107) hx hb dX5_perform_79 (by decide) ?_
            obtain rfl := Option.some.inj h
            have hP := hP.sub (ws' := [(h_kinds, .inl (cyI, 24, .inl kinds)), (h_o0, .inr (0, [.ref h_o0_keys, .ref h_o0_marks, .int zo0_bits, .int zo0_size, .int u_39.1, .int u_39.2.1, .int u_39.2.2.1, .int zo0_joins])), (h_o0_keys, .inl (cyI, 96, .inl u_39.2.2.2.1)), (h_o0_marks, .inl (cyI, 48, .inl u_39.2.2.2.2)), (h_th, .inr (5, [v_th_letters, .ref h_kinds, .ref h_numbers, v_th_length, .int clauses, v_th_bits, v_th_place, v_th_tokenStart, v_th_token])), (h_numbers, .inl (cyI, 72, .inl numbers))]) [0, 3, 4, 5, 1, 2] rfl
            have hD := hD.sub (ws' := [(h_kinds, .inl (cyI, 24, .inl kinds)), (h_o0, .inr (0, [.ref h_o0_keys, .ref h_o0_marks, .int zo0_bits, .int zo0_size, .int u_39.1, .int u_39.2.1, .int u_39.2.2.1, .int zo0_joins])), (h_o0_keys, .inl (cyI, 96, .inl u_39.2.2.2.1)), (h_o0_marks, .inl (cyI, 48, .inl u_39.2.2.2.2)), (h_th, .inr (5, [v_th_letters, .ref h_kinds, .ref h_numbers, v_th_length, .int clauses, v_th_bits, v_th_place, v_th_tokenStart, v_th_token])), (h_numbers, .inl (cyI, 72, .inl numbers))]) [0, 3, 4, 5, 1, 2] (by decide) rfl
            exact J _ _ _ hP hD hS (lv_sub hl [1, 2, 3] rfl)
          replace h := og_ite_f c_38 h
          by_cases c_41 : (kinds m2.toNatClampNeg) = (2 : Int32)
          · have h := og_ite_t c_41 h
            refine lv_tableIn (off := 50) (tgt := 82) hx hb dX5_perform_32 (by rw [c_41]; decide) (by rw [c_41]; decide) (by rw [c_41]; rfl) (by decide) ?_
            refine lv_aload_n hx hb dX5_perform_82 rfl (lv_at hl 2 rfl) ?_
            refine lv_iload_n hx hb dX5_perform_83 rfl (lv_at hl 0 rfl) ?_
            obtain ⟨u_42, hc_43, h⟩ := obd_e h
            refine Gcv (wr := [(h_kinds, .inl (cyI, 24, .inl kinds)), (h_th, .inr (5, [v_th_letters, .ref h_kinds, .ref h_numbers, v_th_length, .int clauses, v_th_bits, v_th_place, v_th_tokenStart, v_th_token])), (h_numbers, .inl (cyI, 72, .inl numbers))]) (va_runV (As := [.int u_28]) (rest := []) ⟨hx, hb, hml, hown, hts⟩ (tX0_takeOut l dC dI cyI cyJ cyZ cyO H.size h_o0 h_o0_keys h_o0_marks (.int zo0_bits) zo0_size zo0_keyCount zo0_markCount zo0_splits zo0_joins zo0_keys zo0_marks u_28 u_42 hc_43) (cwV 1 hts gX5_perform_X0_takeOut rfl rfl rfl (by decide +kernel) ⟨Nat.le_of_ble_eq_true rfl, Nat.le_of_ble_eq_true rfl⟩) (GpreV hP hD hK hN [1, 2, 3] rfl (by decide) 0 0 rfl rfl rfl) rfl rfl hl.1 rfl (lv_room (Nat.le_of_ble_eq_true rfl)) dX5_perform_84 ⟨Nat.zero_le _, Nat.zero_le _⟩) hP hD hS hA [1, 2, 3] [0, 4, 5] rfl rfl (by decide) (by decide) (fun H locs hP hD hS => ?_)
            have hP : va_P (dC, dI) vwCl [(h_kinds, .inl (cyI, 24, .inl kinds)), (h_th, .inr (5, [v_th_letters, .ref h_kinds, .ref h_numbers, v_th_length, .int clauses, v_th_bits, v_th_place, v_th_tokenStart, v_th_token])), (h_numbers, .inl (cyI, 72, .inl numbers)), (h_o0, .inr (0, [.ref h_o0_keys, .ref h_o0_marks, .int zo0_bits, .int zo0_size, .int u_42.1, .int u_42.2.1, .int u_42.2.2.1, .int u_42.2.2.2.1])), (h_o0_keys, .inl (cyI, 96, .inl u_42.2.2.2.2.1)), (h_o0_marks, .inl (cyI, 48, .inl u_42.2.2.2.2.2))] H := hP
            have hD : va_D A [(h_kinds, .inl (cyI, 24, .inl kinds)), (h_th, .inr (5, [v_th_letters, .ref h_kinds, .ref h_numbers, v_th_length, .int clauses, v_th_bits, v_th_place, v_th_tokenStart, v_th_token])), (h_numbers, .inl (cyI, 72, .inl numbers)), (h_o0, .inr (0, [.ref h_o0_keys, .ref h_o0_marks, .int zo0_bits, .int zo0_size, .int u_42.1, .int u_42.2.1, .int u_42.2.2.1, .int u_42.2.2.2.1])), (h_o0_keys, .inl (cyI, 96, .inl u_42.2.2.2.2.1)), (h_o0_marks, .inl (cyI, 48, .inl u_42.2.2.2.2.2))] := hD
            refine lv_goto (tgt := 107) hx hb dX5_perform_87 (by decide) ?_
            obtain rfl := Option.some.inj h
            have hP := hP.sub (ws' := [(h_kinds, .inl (cyI, 24, .inl kinds)), (h_o0, .inr (0, [.ref h_o0_keys, .ref h_o0_marks, .int zo0_bits, .int zo0_size, .int u_42.1, .int u_42.2.1, .int u_42.2.2.1, .int u_42.2.2.2.1])), (h_o0_keys, .inl (cyI, 96, .inl u_42.2.2.2.2.1)), (h_o0_marks, .inl (cyI, 48, .inl u_42.2.2.2.2.2)), (h_th, .inr (5, [v_th_letters, .ref h_kinds, .ref h_numbers, v_th_length, .int clauses, v_th_bits, v_th_place, v_th_tokenStart, v_th_token])), (h_numbers, .inl (cyI, 72, .inl numbers))]) [0, 3, 4, 5, 1, 2] rfl
            have hD := hD.sub (ws' := [(h_kinds, .inl (cyI, 24, .inl kinds)), (h_o0, .inr (0, [.ref h_o0_keys, .ref h_o0_marks, .int zo0_bits, .int zo0_size, .int u_42.1, .int u_42.2.1, .int u_42.2.2.1, .int u_42.2.2.2.1])), (h_o0_keys, .inl (cyI, 96, .inl u_42.2.2.2.2.1)), (h_o0_marks, .inl (cyI, 48, .inl u_42.2.2.2.2.2)), (h_th, .inr (5, [v_th_letters, .ref h_kinds, .ref h_numbers, v_th_length, .int clauses, v_th_bits, v_th_place, v_th_tokenStart, v_th_token])), (h_numbers, .inl (cyI, 72, .inl numbers))]) [0, 3, 4, 5, 1, 2] (by decide) rfl
            exact J _ _ _ hP hD hS (lv_sub hl [1, 2, 3] rfl)
          replace h := og_ite_f c_41 h
          have ec_33 : (kinds m2.toNatClampNeg).toInt ≠ 0 := fun q => c_33 (Int32.toInt_inj.mp (q.trans (by decide)))
          have ec_38 : (kinds m2.toNatClampNeg).toInt ≠ 1 := fun q => c_38 (Int32.toInt_inj.mp (q.trans (by decide)))
          have ec_41 : (kinds m2.toNatClampNeg).toInt ≠ 2 := fun q => c_41 (Int32.toInt_inj.mp (q.trans (by decide)))
          refine lv_tableOut (tgt := 90) hx hb dX5_perform_32 (by omega) (by decide) ?_
          refine lv_aload_n hx hb dX5_perform_90 rfl (lv_at hl 2 rfl) ?_
          refine lv_iload_n hx hb dX5_perform_91 rfl (lv_at hl 0 rfl) ?_
          refine lv_aload_n hx hb dX5_perform_92 rfl (lv_at hl 1 rfl) ?_
          refine lv_iload_n hx hb dX5_perform_93 rfl (lv_at hl 3 rfl) ?_
          refine lv_iconst (v := 1) hx hb dX5_perform_94 (by decide) ?_
          obtain ⟨u_44, hc_45, h⟩ := obd_e h
          refine Gci (wr := [(h_kinds, .inl (cyI, 24, .inl kinds)), (h_o0, .inr (0, [.ref h_o0_keys, .ref h_o0_marks, .int zo0_bits, .int zo0_size, .int zo0_keyCount, .int zo0_markCount, .int zo0_splits, .int zo0_joins])), (h_o0_keys, .inl (cyI, 96, .inl zo0_keys)), (h_o0_marks, .inl (cyI, 48, .inl zo0_marks))]) (va_runV (As := [.int m2, .int (1 : Int32)]) (rest := [.int u_28, .ref h_o0]) ⟨hx, hb, hml, hown, hts⟩ (tX5_numberOf l dC dI cyI cyJ cyZ cyO H.size h_th h_numbers v_th_letters (.ref h_kinds) v_th_length (.int clauses) v_th_bits v_th_place v_th_tokenStart v_th_token numbers m2 (1 : Int32) u_44 hc_45) (cwV 2 hts gX5_perform_X5_numberOf rfl rfl rfl (by decide +kernel) ⟨Nat.le_of_ble_eq_true rfl, Nat.le_of_ble_eq_true rfl⟩) (GpreV hP hD hK hN [4, 5] rfl (by decide) 5 0 rfl rfl rfl) rfl rfl hl.1 rfl (lv_room (Nat.le_of_ble_eq_true rfl)) dX5_perform_95 ⟨Nat.zero_le _, Nat.zero_le _⟩) hP hD hS hA [4, 5] [0, 1, 2, 3] rfl rfl (by decide) (by decide) (fun H locs hP hD hS => ?_)
          have hP : va_P (dC, dI) vwCl [(h_kinds, .inl (cyI, 24, .inl kinds)), (h_o0, .inr (0, [.ref h_o0_keys, .ref h_o0_marks, .int zo0_bits, .int zo0_size, .int zo0_keyCount, .int zo0_markCount, .int zo0_splits, .int zo0_joins])), (h_o0_keys, .inl (cyI, 96, .inl zo0_keys)), (h_o0_marks, .inl (cyI, 48, .inl zo0_marks)), (h_th, .inr (5, [v_th_letters, .ref h_kinds, .ref h_numbers, v_th_length, .int clauses, v_th_bits, v_th_place, v_th_tokenStart, v_th_token])), (h_numbers, .inl (cyI, 72, .inl numbers))] H := hP
          have hD : va_D A [(h_kinds, .inl (cyI, 24, .inl kinds)), (h_o0, .inr (0, [.ref h_o0_keys, .ref h_o0_marks, .int zo0_bits, .int zo0_size, .int zo0_keyCount, .int zo0_markCount, .int zo0_splits, .int zo0_joins])), (h_o0_keys, .inl (cyI, 96, .inl zo0_keys)), (h_o0_marks, .inl (cyI, 48, .inl zo0_marks)), (h_th, .inr (5, [v_th_letters, .ref h_kinds, .ref h_numbers, v_th_length, .int clauses, v_th_bits, v_th_place, v_th_tokenStart, v_th_token])), (h_numbers, .inl (cyI, 72, .inl numbers))] := hD
          refine lv_aload_n hx hb dX5_perform_98 rfl (lv_at hl 1 rfl) ?_
          refine lv_iload_n hx hb dX5_perform_99 rfl (lv_at hl 3 rfl) ?_
          refine lv_iconst (v := 2) hx hb dX5_perform_100 (by decide) ?_
          obtain ⟨u_46, hc_47, h⟩ := obd_e h
          refine Gci (wr := [(h_kinds, .inl (cyI, 24, .inl kinds)), (h_o0, .inr (0, [.ref h_o0_keys, .ref h_o0_marks, .int zo0_bits, .int zo0_size, .int zo0_keyCount, .int zo0_markCount, .int zo0_splits, .int zo0_joins])), (h_o0_keys, .inl (cyI, 96, .inl zo0_keys)), (h_o0_marks, .inl (cyI, 48, .inl zo0_marks))]) (va_runV (As := [.int m2, .int (2 : Int32)]) (rest := [.int u_44, .int u_28, .ref h_o0]) ⟨hx, hb, hml, hown, hts⟩ (tX5_numberOf l dC dI cyI cyJ cyZ cyO H.size h_th h_numbers v_th_letters (.ref h_kinds) v_th_length (.int clauses) v_th_bits v_th_place v_th_tokenStart v_th_token numbers m2 (2 : Int32) u_46 hc_47) (cwV 2 hts gX5_perform_X5_numberOf rfl rfl rfl (by decide +kernel) ⟨Nat.le_of_ble_eq_true rfl, Nat.le_of_ble_eq_true rfl⟩) (GpreV hP hD hK hN [4, 5] rfl (by decide) 5 0 rfl rfl rfl) rfl rfl hl.1 rfl (lv_room (Nat.le_of_ble_eq_true rfl)) dX5_perform_101 ⟨Nat.zero_le _, Nat.zero_le _⟩) hP hD hS hA [4, 5] [0, 1, 2, 3] rfl rfl (by decide) (by decide) (fun H locs hP hD hS => ?_)
          have hP : va_P (dC, dI) vwCl [(h_kinds, .inl (cyI, 24, .inl kinds)), (h_o0, .inr (0, [.ref h_o0_keys, .ref h_o0_marks, .int zo0_bits, .int zo0_size, .int zo0_keyCount, .int zo0_markCount, .int zo0_splits, .int zo0_joins])), (h_o0_keys, .inl (cyI, 96, .inl zo0_keys)), (h_o0_marks, .inl (cyI, 48, .inl zo0_marks)), (h_th, .inr (5, [v_th_letters, .ref h_kinds, .ref h_numbers, v_th_length, .int clauses, v_th_bits, v_th_place, v_th_tokenStart, v_th_token])), (h_numbers, .inl (cyI, 72, .inl numbers))] H := hP
          have hD : va_D A [(h_kinds, .inl (cyI, 24, .inl kinds)), (h_o0, .inr (0, [.ref h_o0_keys, .ref h_o0_marks, .int zo0_bits, .int zo0_size, .int zo0_keyCount, .int zo0_markCount, .int zo0_splits, .int zo0_joins])), (h_o0_keys, .inl (cyI, 96, .inl zo0_keys)), (h_o0_marks, .inl (cyI, 48, .inl zo0_marks)), (h_th, .inr (5, [v_th_letters, .ref h_kinds, .ref h_numbers, v_th_length, .int clauses, v_th_bits, v_th_place, v_th_tokenStart, v_th_token])), (h_numbers, .inl (cyI, 72, .inl numbers))] := hD
          obtain ⟨u_48, hc_49, h⟩ := obd_e h
          refine Gcv (wr := [(h_kinds, .inl (cyI, 24, .inl kinds)), (h_th, .inr (5, [v_th_letters, .ref h_kinds, .ref h_numbers, v_th_length, .int clauses, v_th_bits, v_th_place, v_th_tokenStart, v_th_token])), (h_numbers, .inl (cyI, 72, .inl numbers))]) (va_runV (As := [.int u_28, .int u_44, .int u_46]) (rest := []) ⟨hx, hb, hml, hown, hts⟩ (tX0_putInAll l dC dI cyI cyJ cyZ cyO H.size h_o0 h_o0_keys h_o0_marks (.int zo0_joins) zo0_bits zo0_size zo0_keyCount zo0_markCount zo0_splits zo0_keys zo0_marks u_28 u_44 u_46 u_48 hc_49) (cwV 3 hts gX5_perform_X0_putInAll rfl rfl rfl (by decide +kernel) ⟨Nat.le_of_ble_eq_true rfl, Nat.le_of_ble_eq_true rfl⟩) (GpreV hP hD hK hN [1, 2, 3] rfl (by decide) 0 0 rfl rfl rfl) rfl rfl hl.1 rfl (lv_room (Nat.le_of_ble_eq_true rfl)) dX5_perform_104 ⟨Nat.zero_le _, Nat.zero_le _⟩) hP hD hS hA [1, 2, 3] [0, 4, 5] rfl rfl (by decide) (by decide) (fun H locs hP hD hS => ?_)
          have hP : va_P (dC, dI) vwCl [(h_kinds, .inl (cyI, 24, .inl kinds)), (h_th, .inr (5, [v_th_letters, .ref h_kinds, .ref h_numbers, v_th_length, .int clauses, v_th_bits, v_th_place, v_th_tokenStart, v_th_token])), (h_numbers, .inl (cyI, 72, .inl numbers)), (h_o0, .inr (0, [.ref h_o0_keys, .ref h_o0_marks, .int zo0_bits, .int zo0_size, .int u_48.1, .int u_48.2.1, .int u_48.2.2.1, .int zo0_joins])), (h_o0_keys, .inl (cyI, 96, .inl u_48.2.2.2.1)), (h_o0_marks, .inl (cyI, 48, .inl u_48.2.2.2.2))] H := hP
          have hD : va_D A [(h_kinds, .inl (cyI, 24, .inl kinds)), (h_th, .inr (5, [v_th_letters, .ref h_kinds, .ref h_numbers, v_th_length, .int clauses, v_th_bits, v_th_place, v_th_tokenStart, v_th_token])), (h_numbers, .inl (cyI, 72, .inl numbers)), (h_o0, .inr (0, [.ref h_o0_keys, .ref h_o0_marks, .int zo0_bits, .int zo0_size, .int u_48.1, .int u_48.2.1, .int u_48.2.2.1, .int zo0_joins])), (h_o0_keys, .inl (cyI, 96, .inl u_48.2.2.2.1)), (h_o0_marks, .inl (cyI, 48, .inl u_48.2.2.2.2))] := hD
          obtain rfl := Option.some.inj h
          have hP := hP.sub (ws' := [(h_kinds, .inl (cyI, 24, .inl kinds)), (h_o0, .inr (0, [.ref h_o0_keys, .ref h_o0_marks, .int zo0_bits, .int zo0_size, .int u_48.1, .int u_48.2.1, .int u_48.2.2.1, .int zo0_joins])), (h_o0_keys, .inl (cyI, 96, .inl u_48.2.2.2.1)), (h_o0_marks, .inl (cyI, 48, .inl u_48.2.2.2.2)), (h_th, .inr (5, [v_th_letters, .ref h_kinds, .ref h_numbers, v_th_length, .int clauses, v_th_bits, v_th_place, v_th_tokenStart, v_th_token])), (h_numbers, .inl (cyI, 72, .inl numbers))]) [0, 3, 4, 5, 1, 2] rfl
          have hD := hD.sub (ws' := [(h_kinds, .inl (cyI, 24, .inl kinds)), (h_o0, .inr (0, [.ref h_o0_keys, .ref h_o0_marks, .int zo0_bits, .int zo0_size, .int u_48.1, .int u_48.2.1, .int u_48.2.2.1, .int zo0_joins])), (h_o0_keys, .inl (cyI, 96, .inl u_48.2.2.2.1)), (h_o0_marks, .inl (cyI, 48, .inl u_48.2.2.2.2)), (h_th, .inr (5, [v_th_letters, .ref h_kinds, .ref h_numbers, v_th_length, .int clauses, v_th_bits, v_th_place, v_th_tokenStart, v_th_token])), (h_numbers, .inl (cyI, 72, .inl numbers))]) [0, 3, 4, 5, 1, 2] (by decide) rfl
          exact J _ _ _ hP hD hS (lv_sub hl [1, 2, 3] rfl)
  exact LL _ (0 : Int32) o0_bits o0_size o0_keyCount o0_markCount o0_splits o0_joins o0_keys o0_marks _ _ _ hw_51 hP hD hS (lv_sub hl [1, 2, 0] rfl)
