def fX7_near (row : (Nat → Int32)) (x0 : Int32) (x1 : Int32) : Option (Int32) := obd (fX7_isNumber row x0) fun u_1 => if u_1 = 0 then (some (-3 : Int32)) else (obd (fX7_in x1.toInt64 (0 : Int64) (1 : Int64)) fun u_4 => if u_4 = 0 then (some (-3 : Int32)) else (obd (if x1 = 0 then (obd (fX7_below row (0 : Int32) (x0 + (1 : Int32))) fun u_18 => some (u_18 - (1 : Int32))) else (obd (fX7_below row (0 : Int32) x0) fun u_16 => some u_16)) fun w_8 => oin (2 : Int32) 1824 (obd (fX7_in w_8.toInt64 (0 : Int64) (((row (2 : Int32).toNatClampNeg) - (1 : Int32)).toInt64)) fun u_10 => obd (if u_10 = 0 then (some (-1 : Int32)) else (oin ((6 : Int32) + w_8) 1824 (some (row ((6 : Int32) + w_8).toNatClampNeg)))) fun w_13 => some w_13)))

set_option maxHeartbeats 4000000 in
set_option maxRecDepth 100000 in
theorem tX7_near (l : Launch) (dC : Nat → ClassId) (dI : Nat → Nat → Nat) (cyI cyJ cyZ cyO : ClassId) (sz : Nat) (h_th h_row : Nat) (v_th_undos : Value) (v_th_isKept : Value) (v_th_text : Value) (v_th_length : Value) (v_th_sizes : Value) (v_th_values : Value) (v_th_asked : Value) (v_th_first : Value) (v_th_behind : Value) (v_th_readBits : Value) (v_th_clauses : Value) (v_th_doing : Value) (v_th_numbers : Value) (v_th_planWord : Value) (v_th_addWord : Value) (v_th_delWord : Value) (v_th_fillWord : Value) (v_th_probes : Value) (v_th_links : Value) (v_th_looks : Value) (v_th_found : Value) (v_th_isOver : Value) (row : (Nat → Int32)) (x0 : Int32) (x1 : Int32) (u : Int32) (hf : fX7_near row x0 x1 = some u) : Met l yX7_near wsX7_near ({ frames := 2, cells := 0, slots := 0, locals := 46 }) (va_Pc [.ref h_th, .int x0, .int x1] (GP (dC, dI) (T4 cyI cyJ cyZ cyO) sz [(h_th, .inr (7, [.ref h_row, v_th_undos, v_th_isKept, v_th_text, v_th_length, v_th_sizes, v_th_values, v_th_asked, v_th_first, v_th_behind, v_th_readBits, v_th_clauses, v_th_doing, v_th_numbers, v_th_planWord, v_th_addWord, v_th_delWord, v_th_fillWord, v_th_probes, v_th_links, v_th_looks, v_th_found, v_th_isOver])), (h_row, .inl (cyI, 1824, .inl row))])) (va_Qi (fun (r : Int32) (_ : Unit) => r = u) (GB (dC, dI) [(h_th, .inr (7, [.ref h_row, v_th_undos, v_th_isKept, v_th_text, v_th_length, v_th_sizes, v_th_values, v_th_asked, v_th_first, v_th_behind, v_th_readBits, v_th_clauses, v_th_doing, v_th_numbers, v_th_planWord, v_th_addWord, v_th_delWord, v_th_fillWord, v_th_probes, v_th_links, v_th_looks, v_th_found, v_th_isOver])), (h_row, .inl (cyI, 1824, .inl row))] (va_A [(h_th, .inr (7, [.ref h_row, v_th_undos, v_th_isKept, v_th_text, v_th_length, v_th_sizes, v_th_values, v_th_asked, v_th_first, v_th_behind, v_th_readBits, v_th_clauses, v_th_doing, v_th_numbers, v_th_planWord, v_th_addWord, v_th_delWord, v_th_fillWord, v_th_probes, v_th_links, v_th_looks, v_th_found, v_th_isOver])), (h_row, .inl (cyI, 1824, .inl row))] sz)) (va_A [(h_th, .inr (7, [.ref h_row, v_th_undos, v_th_isKept, v_th_text, v_th_length, v_th_sizes, v_th_values, v_th_asked, v_th_first, v_th_behind, v_th_readBits, v_th_clauses, v_th_doing, v_th_numbers, v_th_planWord, v_th_addWord, v_th_delWord, v_th_fillWord, v_th_probes, v_th_links, v_th_looks, v_th_found, v_th_isOver])), (h_row, .inl (cyI, 1824, .inl row))] sz)) 0 0 (va_A [(h_th, .inr (7, [.ref h_row, v_th_undos, v_th_isKept, v_th_text, v_th_length, v_th_sizes, v_th_values, v_th_asked, v_th_first, v_th_behind, v_th_readBits, v_th_clauses, v_th_doing, v_th_numbers, v_th_planWord, v_th_addWord, v_th_delWord, v_th_fillWord, v_th_probes, v_th_links, v_th_looks, v_th_found, v_th_isOver])), (h_row, .inl (cyI, 1824, .inl row))] sz) := by
  refine GMetI (by decide) rfl (Nat.le_of_ble_eq_true rfl) ?_
  intro p e s m args below meth c A Q ls hx hb hml hts hown hN hK hA hret hP hD hS hl
  have h := hf
  clear hf
  unfold fX7_near at h
  have hown : s.vm.findClass RX7 = some m.cls := hown
  have hl : lv_has ls 4 [(0, .ref h_th), (1, .int x0), (2, .int x1)] := hl
  refine lv_aload_n hx hb dX7_near_0 rfl (lv_at hl 0 rfl) ?_
  refine lv_iload_n hx hb dX7_near_1 rfl (lv_at hl 1 rfl) ?_
  obtain ⟨u_1, hc_2, h⟩ := obd_e h
  refine Gci (wr := []) (va_runV (As := [.int x0]) (rest := []) ⟨hx, hb, hml, hown, hts⟩ (tX7_isNumber l dC dI cyI cyJ cyZ cyO s.heap.size h_th h_row v_th_undos v_th_isKept v_th_text v_th_length v_th_sizes v_th_values v_th_asked v_th_first v_th_behind v_th_readBits v_th_clauses v_th_doing v_th_numbers v_th_planWord v_th_addWord v_th_delWord v_th_fillWord v_th_probes v_th_links v_th_looks v_th_found v_th_isOver row x0 u_1 hc_2) (cwV 1 hts gX7_near_X7_isNumber rfl rfl rfl (by decide +kernel) ⟨Nat.le_of_ble_eq_true rfl, Nat.le_of_ble_eq_true rfl⟩) (GpreV hP hD hK hN [0, 1] rfl (by decide) 7 0 rfl rfl rfl) rfl rfl hl.1 rfl (lv_room (Nat.le_of_ble_eq_true rfl)) dX7_near_2 ⟨Nat.zero_le _, Nat.zero_le _⟩) hP hD hS hA [0, 1] [] rfl rfl (by decide) (by decide) (fun H locs hP hD hS => ?_)
  have hP : va_P (dC, dI) vwCl [(h_th, .inr (7, [.ref h_row, v_th_undos, v_th_isKept, v_th_text, v_th_length, v_th_sizes, v_th_values, v_th_asked, v_th_first, v_th_behind, v_th_readBits, v_th_clauses, v_th_doing, v_th_numbers, v_th_planWord, v_th_addWord, v_th_delWord, v_th_fillWord, v_th_probes, v_th_links, v_th_looks, v_th_found, v_th_isOver])), (h_row, .inl (cyI, 1824, .inl row))] H := hP
  have hD : va_D A [(h_th, .inr (7, [.ref h_row, v_th_undos, v_th_isKept, v_th_text, v_th_length, v_th_sizes, v_th_values, v_th_asked, v_th_first, v_th_behind, v_th_readBits, v_th_clauses, v_th_doing, v_th_numbers, v_th_planWord, v_th_addWord, v_th_delWord, v_th_fillWord, v_th_probes, v_th_links, v_th_looks, v_th_found, v_th_isOver])), (h_row, .inl (cyI, 1824, .inl row))] := hD
  refine lv_if_eq (tgt := 18) hx hb dX7_near_5 (by decide) (fun c_3 => ?_) (fun c_3 => ?_)
  · have h := og_ite_t c_3 h
    refine lv_bipush (v := (-3)) hx hb dX7_near_18 (by decide) ?_
    obtain rfl := Option.some.inj h
    exact hret _ _ _ _ dX7_near_20 hP hD hS
  · have h := og_ite_f c_3 h
    refine lv_iload_n hx hb dX7_near_8 rfl (lv_at hl 2 rfl) ?_
    refine lv_i2l (v := x1.toInt64) hx hb dX7_near_9 rfl ?_
    refine lv_lconst (v := 0) hx hb dX7_near_10 (by decide) ?_
    refine lv_lconst (v := 1) hx hb dX7_near_11 (by decide) ?_
    obtain ⟨u_4, hc_5, h⟩ := obd_e h
    refine Gci (wr := [(h_th, .inr (7, [.ref h_row, v_th_undos, v_th_isKept, v_th_text, v_th_length, v_th_sizes, v_th_values, v_th_asked, v_th_first, v_th_behind, v_th_readBits, v_th_clauses, v_th_doing, v_th_numbers, v_th_planWord, v_th_addWord, v_th_delWord, v_th_fillWord, v_th_probes, v_th_links, v_th_looks, v_th_found, v_th_isOver])), (h_row, .inl (cyI, 1824, .inl row))]) (va_runS (As := [.long x1.toInt64, .long (0 : Int64), .long (1 : Int64)]) (rest := []) ⟨hx, hb, hml, hown, hts⟩ (tX7_in l dC dI cyI cyJ cyZ cyO H.size x1.toInt64 (0 : Int64) (1 : Int64) u_4 hc_5) (cwS 3 hts gX7_near_X7_in rfl rfl rfl (by decide +kernel) ⟨Nat.le_of_ble_eq_true rfl, Nat.le_of_ble_eq_true rfl⟩) (GpreS hP hD hK hN [] rfl (by decide)) rfl rfl hl.1 rfl (lv_room (Nat.le_of_ble_eq_true rfl)) dX7_near_12 ⟨Nat.zero_le _, Nat.zero_le _⟩) hP hD hS hA [] [0, 1] rfl rfl (by decide) (by decide) (fun H locs hP hD hS => ?_)
    have hP : va_P (dC, dI) vwCl [(h_th, .inr (7, [.ref h_row, v_th_undos, v_th_isKept, v_th_text, v_th_length, v_th_sizes, v_th_values, v_th_asked, v_th_first, v_th_behind, v_th_readBits, v_th_clauses, v_th_doing, v_th_numbers, v_th_planWord, v_th_addWord, v_th_delWord, v_th_fillWord, v_th_probes, v_th_links, v_th_looks, v_th_found, v_th_isOver])), (h_row, .inl (cyI, 1824, .inl row))] H := hP
    have hD : va_D A [(h_th, .inr (7, [.ref h_row, v_th_undos, v_th_isKept, v_th_text, v_th_length, v_th_sizes, v_th_values, v_th_asked, v_th_first, v_th_behind, v_th_readBits, v_th_clauses, v_th_doing, v_th_numbers, v_th_planWord, v_th_addWord, v_th_delWord, v_th_fillWord, v_th_probes, v_th_links, v_th_looks, v_th_found, v_th_isOver])), (h_row, .inl (cyI, 1824, .inl row))] := hD
    refine lv_if_ne (tgt := 21) hx hb dX7_near_15 (by decide) (fun c_6 => ?_) (fun c_6 => ?_)
    · have h := og_ite_f c_6 h
      refine lv_iload_n hx hb dX7_near_21 rfl (lv_at hl 2 rfl) ?_
      obtain ⟨w_8, hm_20, h⟩ := obd_e h
      have J : ∀ (H : Heap) (locs : List Loc) (ls : Array Slot), va_P (dC, dI) vwCl [(h_th, .inr (7, [.ref h_row, v_th_undos, v_th_isKept, v_th_text, v_th_length, v_th_sizes, v_th_values, v_th_asked, v_th_first, v_th_behind, v_th_readBits, v_th_clauses, v_th_doing, v_th_numbers, v_th_planWord, v_th_addWord, v_th_delWord, v_th_fillWord, v_th_probes, v_th_links, v_th_looks, v_th_found, v_th_isOver])), (h_row, .inl (cyI, 1824, .inl row))] H → va_D A [(h_th, .inr (7, [.ref h_row, v_th_undos, v_th_isKept, v_th_text, v_th_length, v_th_sizes, v_th_values, v_th_asked, v_th_first, v_th_behind, v_th_readBits, v_th_clauses, v_th_doing, v_th_numbers, v_th_planWord, v_th_addWord, v_th_delWord, v_th_fillWord, v_th_probes, v_th_links, v_th_looks, v_th_found, v_th_isOver])), (h_row, .inl (cyI, 1824, .inl row))] → va_S A s.heap H locs → lv_has ls 4 [(0, .ref h_th)] → W p l e ({ frames := 2, cells := 0, slots := 0, locals := 46 }) s m args below meth c H locs 0 0 Q (F0 m 44 ls [.int w_8]) := by
        intro H locs ls hP hD hS hl
        refine lv_istore_n (lv' := [(3, .int w_8), (0, .ref h_th)]) hx hb dX7_near_44 rfl hl (by decide) rfl (fun ls hl => ?_)
        refine lv_iload_n hx hb dX7_near_45 rfl (lv_at hl 0 rfl) ?_
        refine lv_i2l (v := w_8.toInt64) hx hb dX7_near_46 rfl ?_
        refine lv_lconst (v := 0) hx hb dX7_near_47 (by decide) ?_
        refine lv_aload_n hx hb dX7_near_48 rfl (lv_at hl 1 rfl) ?_
        refine va_get (D := (dC, dI)) (ci := 7) (v := .ref h_row) (C := RX7) (T := TX7) (N := 23) hx hb hts (fun _ hw => List.mem_cons_of_mem _ (List.mem_append_right _ hw)) hown hK hP 0 rfl rfl 0 (by decide) (hts (.fieldLink RX7 7 "PrefixIndexModel" "row" "[I") (List.mem_of_getElem? (i := 1) rfl)) (fun _ h9 => h9) rfl dX7_near_49 ?_
        refine lv_iconst (v := 2) hx hb dX7_near_52 (by decide) ?_
        obtain ⟨hi_9, h⟩ := oin_e h
        refine va_iald hx hb hK hP 1 0 rfl rfl hi_9 dX7_near_53 ?_
        refine lv_iconst (v := 1) hx hb dX7_near_54 (by decide) ?_
        refine lv_isub hx hb dX7_near_55 ?_
        refine lv_i2l (v := ((row (2 : Int32).toNatClampNeg) - (1 : Int32)).toInt64) hx hb dX7_near_56 rfl ?_
        obtain ⟨u_10, hc_11, h⟩ := obd_e h
        refine Gci (wr := [(h_th, .inr (7, [.ref h_row, v_th_undos, v_th_isKept, v_th_text, v_th_length, v_th_sizes, v_th_values, v_th_asked, v_th_first, v_th_behind, v_th_readBits, v_th_clauses, v_th_doing, v_th_numbers, v_th_planWord, v_th_addWord, v_th_delWord, v_th_fillWord, v_th_probes, v_th_links, v_th_looks, v_th_found, v_th_isOver])), (h_row, .inl (cyI, 1824, .inl row))]) (va_runS (As := [.long w_8.toInt64, .long (0 : Int64), .long (((row (2 : Int32).toNatClampNeg) - (1 : Int32)).toInt64)]) (rest := []) ⟨hx, hb, hml, hown, hts⟩ (tX7_in l dC dI cyI cyJ cyZ cyO H.size w_8.toInt64 (0 : Int64) (((row (2 : Int32).toNatClampNeg) - (1 : Int32)).toInt64) u_10 hc_11) (cwS 3 hts gX7_near_X7_in rfl rfl rfl (by decide +kernel) ⟨Nat.le_of_ble_eq_true rfl, Nat.le_of_ble_eq_true rfl⟩) (GpreS hP hD hK hN [] rfl (by decide)) rfl rfl hl.1 rfl (lv_room (Nat.le_of_ble_eq_true rfl)) dX7_near_57 ⟨Nat.zero_le _, Nat.zero_le _⟩) hP hD hS hA [] [0, 1] rfl rfl (by decide) (by decide) (fun H locs hP hD hS => ?_)
        have hP : va_P (dC, dI) vwCl [(h_th, .inr (7, [.ref h_row, v_th_undos, v_th_isKept, v_th_text, v_th_length, v_th_sizes, v_th_values, v_th_asked, v_th_first, v_th_behind, v_th_readBits, v_th_clauses, v_th_doing, v_th_numbers, v_th_planWord, v_th_addWord, v_th_delWord, v_th_fillWord, v_th_probes, v_th_links, v_th_looks, v_th_found, v_th_isOver])), (h_row, .inl (cyI, 1824, .inl row))] H := hP
        have hD : va_D A [(h_th, .inr (7, [.ref h_row, v_th_undos, v_th_isKept, v_th_text, v_th_length, v_th_sizes, v_th_values, v_th_asked, v_th_first, v_th_behind, v_th_readBits, v_th_clauses, v_th_doing, v_th_numbers, v_th_planWord, v_th_addWord, v_th_delWord, v_th_fillWord, v_th_probes, v_th_links, v_th_looks, v_th_found, v_th_isOver])), (h_row, .inl (cyI, 1824, .inl row))] := hD
        obtain ⟨w_13, hm_15, h⟩ := obd_e h
        have J : ∀ (H : Heap) (locs : List Loc) (ls : Array Slot), va_P (dC, dI) vwCl [(h_th, .inr (7, [.ref h_row, v_th_undos, v_th_isKept, v_th_text, v_th_length, v_th_sizes, v_th_values, v_th_asked, v_th_first, v_th_behind, v_th_readBits, v_th_clauses, v_th_doing, v_th_numbers, v_th_planWord, v_th_addWord, v_th_delWord, v_th_fillWord, v_th_probes, v_th_links, v_th_looks, v_th_found, v_th_isOver])), (h_row, .inl (cyI, 1824, .inl row))] H → va_D A [(h_th, .inr (7, [.ref h_row, v_th_undos, v_th_isKept, v_th_text, v_th_length, v_th_sizes, v_th_values, v_th_asked, v_th_first, v_th_behind, v_th_readBits, v_th_clauses, v_th_doing, v_th_numbers, v_th_planWord, v_th_addWord, v_th_delWord, v_th_fillWord, v_th_probes, v_th_links, v_th_looks, v_th_found, v_th_isOver])), (h_row, .inl (cyI, 1824, .inl row))] → va_S A s.heap H locs → lv_has ls 4 [] → W p l e ({ frames := 2, cells := 0, slots := 0, locals := 46 }) s m args below meth c H locs 0 0 Q (F0 m 76 ls [.int w_13]) := by
          intro H locs ls hP hD hS hl
          obtain rfl := Option.some.inj h
          exact hret _ _ _ _ dX7_near_76 hP hD hS
        replace h := hm_15
        refine lv_if_eq (tgt := 75) hx hb dX7_near_60 (by decide) (fun c_12 => ?_) (fun c_12 => ?_)
        · have h := og_ite_t c_12 h
          refine lv_iconst (v := (-1)) hx hb dX7_near_75 (by decide) ?_
          obtain rfl := Option.some.inj h
          exact J _ _ _ hP hD hS (lv_sub hl [] rfl)
        · have h := og_ite_f c_12 h
          refine lv_aload_n hx hb dX7_near_63 rfl (lv_at hl 1 rfl) ?_
          refine va_get (D := (dC, dI)) (ci := 7) (v := .ref h_row) (C := RX7) (T := TX7) (N := 23) hx hb hts (fun _ hw => List.mem_cons_of_mem _ (List.mem_append_right _ hw)) hown hK hP 0 rfl rfl 0 (by decide) (hts (.fieldLink RX7 7 "PrefixIndexModel" "row" "[I") (List.mem_of_getElem? (i := 1) rfl)) (fun _ h9 => h9) rfl dX7_near_64 ?_
          refine lv_bipush (v := 6) hx hb dX7_near_67 (by decide) ?_
          refine lv_iload_n hx hb dX7_near_69 rfl (lv_at hl 0 rfl) ?_
          refine lv_iadd hx hb dX7_near_70 ?_
          obtain ⟨hi_14, h⟩ := oin_e h
          refine va_iald hx hb hK hP 1 0 rfl rfl hi_14 dX7_near_71 ?_
          refine lv_goto (tgt := 76) hx hb dX7_near_72 (by decide) ?_
          obtain rfl := Option.some.inj h
          exact J _ _ _ hP hD hS (lv_sub hl [] rfl)
      replace h := hm_20
      refine lv_if_ne (tgt := 38) hx hb dX7_near_22 (by decide) (fun c_7 => ?_) (fun c_7 => ?_)
      · have h := og_ite_f c_7 h
        refine lv_aload_n hx hb dX7_near_38 rfl (lv_at hl 0 rfl) ?_
        refine lv_iconst (v := 0) hx hb dX7_near_39 (by decide) ?_
        refine lv_iload_n hx hb dX7_near_40 rfl (lv_at hl 1 rfl) ?_
        obtain ⟨u_16, hc_17, h⟩ := obd_e h
        refine Gci (wr := []) (va_runV (As := [.int (0 : Int32), .int x0]) (rest := []) ⟨hx, hb, hml, hown, hts⟩ (tX7_below l dC dI cyI cyJ cyZ cyO H.size h_th h_row v_th_undos v_th_isKept v_th_text v_th_length v_th_sizes v_th_values v_th_asked v_th_first v_th_behind v_th_readBits v_th_clauses v_th_doing v_th_numbers v_th_planWord v_th_addWord v_th_delWord v_th_fillWord v_th_probes v_th_links v_th_looks v_th_found v_th_isOver row (0 : Int32) x0 u_16 hc_17) (cwV 2 hts gX7_near_X7_below rfl rfl rfl (by decide +kernel) ⟨Nat.le_of_ble_eq_true rfl, Nat.le_of_ble_eq_true rfl⟩) (GpreV hP hD hK hN [0, 1] rfl (by decide) 7 0 rfl rfl rfl) rfl rfl hl.1 rfl (lv_room (Nat.le_of_ble_eq_true rfl)) dX7_near_41 ⟨Nat.zero_le _, Nat.zero_le _⟩) hP hD hS hA [0, 1] [] rfl rfl (by decide) (by decide) (fun H locs hP hD hS => ?_)
        have hP : va_P (dC, dI) vwCl [(h_th, .inr (7, [.ref h_row, v_th_undos, v_th_isKept, v_th_text, v_th_length, v_th_sizes, v_th_values, v_th_asked, v_th_first, v_th_behind, v_th_readBits, v_th_clauses, v_th_doing, v_th_numbers, v_th_planWord, v_th_addWord, v_th_delWord, v_th_fillWord, v_th_probes, v_th_links, v_th_looks, v_th_found, v_th_isOver])), (h_row, .inl (cyI, 1824, .inl row))] H := hP
        have hD : va_D A [(h_th, .inr (7, [.ref h_row, v_th_undos, v_th_isKept, v_th_text, v_th_length, v_th_sizes, v_th_values, v_th_asked, v_th_first, v_th_behind, v_th_readBits, v_th_clauses, v_th_doing, v_th_numbers, v_th_planWord, v_th_addWord, v_th_delWord, v_th_fillWord, v_th_probes, v_th_links, v_th_looks, v_th_found, v_th_isOver])), (h_row, .inl (cyI, 1824, .inl row))] := hD
        obtain rfl := Option.some.inj h
        exact J _ _ _ hP hD hS (lv_sub hl [0] rfl)
      · have h := og_ite_t c_7 h
        refine lv_aload_n hx hb dX7_near_25 rfl (lv_at hl 0 rfl) ?_
        refine lv_iconst (v := 0) hx hb dX7_near_26 (by decide) ?_
        refine lv_iload_n hx hb dX7_near_27 rfl (lv_at hl 1 rfl) ?_
        refine lv_iconst (v := 1) hx hb dX7_near_28 (by decide) ?_
        refine lv_iadd hx hb dX7_near_29 ?_
        obtain ⟨u_18, hc_19, h⟩ := obd_e h
        refine Gci (wr := []) (va_runV (As := [.int (0 : Int32), .int (x0 + (1 : Int32))]) (rest := []) ⟨hx, hb, hml, hown, hts⟩ (tX7_below l dC dI cyI cyJ cyZ cyO H.size h_th h_row v_th_undos v_th_isKept v_th_text v_th_length v_th_sizes v_th_values v_th_asked v_th_first v_th_behind v_th_readBits v_th_clauses v_th_doing v_th_numbers v_th_planWord v_th_addWord v_th_delWord v_th_fillWord v_th_probes v_th_links v_th_looks v_th_found v_th_isOver row (0 : Int32) (x0 + (1 : Int32)) u_18 hc_19) (cwV 2 hts gX7_near_X7_below rfl rfl rfl (by decide +kernel) ⟨Nat.le_of_ble_eq_true rfl, Nat.le_of_ble_eq_true rfl⟩) (GpreV hP hD hK hN [0, 1] rfl (by decide) 7 0 rfl rfl rfl) rfl rfl hl.1 rfl (lv_room (Nat.le_of_ble_eq_true rfl)) dX7_near_30 ⟨Nat.zero_le _, Nat.zero_le _⟩) hP hD hS hA [0, 1] [] rfl rfl (by decide) (by decide) (fun H locs hP hD hS => ?_)
        have hP : va_P (dC, dI) vwCl [(h_th, .inr (7, [.ref h_row, v_th_undos, v_th_isKept, v_th_text, v_th_length, v_th_sizes, v_th_values, v_th_asked, v_th_first, v_th_behind, v_th_readBits, v_th_clauses, v_th_doing, v_th_numbers, v_th_planWord, v_th_addWord, v_th_delWord, v_th_fillWord, v_th_probes, v_th_links, v_th_looks, v_th_found, v_th_isOver])), (h_row, .inl (cyI, 1824, .inl row))] H := hP
        have hD : va_D A [(h_th, .inr (7, [.ref h_row, v_th_undos, v_th_isKept, v_th_text, v_th_length, v_th_sizes, v_th_values, v_th_asked, v_th_first, v_th_behind, v_th_readBits, v_th_clauses, v_th_doing, v_th_numbers, v_th_planWord, v_th_addWord, v_th_delWord, v_th_fillWord, v_th_probes, v_th_links, v_th_looks, v_th_found, v_th_isOver])), (h_row, .inl (cyI, 1824, .inl row))] := hD
        refine lv_iconst (v := 1) hx hb dX7_near_33 (by decide) ?_
        refine lv_isub hx hb dX7_near_34 ?_
        refine lv_goto (tgt := 44) hx hb dX7_near_35 (by decide) ?_
        obtain rfl := Option.some.inj h
        exact J _ _ _ hP hD hS (lv_sub hl [0] rfl)
    · have h := og_ite_t c_6 h
      refine lv_bipush (v := (-3)) hx hb dX7_near_18 (by decide) ?_
      obtain rfl := Option.some.inj h
      exact hret _ _ _ _ dX7_near_20 hP hD hS

def fX7_rank (row : (Nat → Int32)) (x0 : Int32) : Option (Int32) := obd (fX7_isNumber row x0) fun u_1 => obd (if u_1 = 0 then (some (-3 : Int32)) else (obd (fX7_below row (0 : Int32) x0) fun u_5 => some u_5)) fun w_4 => some w_4

set_option maxHeartbeats 4000000 in
set_option maxRecDepth 100000 in
theorem tX7_rank (l : Launch) (dC : Nat → ClassId) (dI : Nat → Nat → Nat) (cyI cyJ cyZ cyO : ClassId) (sz : Nat) (h_th h_row : Nat) (v_th_undos : Value) (v_th_isKept : Value) (v_th_text : Value) (v_th_length : Value) (v_th_sizes : Value) (v_th_values : Value) (v_th_asked : Value) (v_th_first : Value) (v_th_behind : Value) (v_th_readBits : Value) (v_th_clauses : Value) (v_th_doing : Value) (v_th_numbers : Value) (v_th_planWord : Value) (v_th_addWord : Value) (v_th_delWord : Value) (v_th_fillWord : Value) (v_th_probes : Value) (v_th_links : Value) (v_th_looks : Value) (v_th_found : Value) (v_th_isOver : Value) (row : (Nat → Int32)) (x0 : Int32) (u : Int32) (hf : fX7_rank row x0 = some u) : Met l yX7_rank wsX7_rank ({ frames := 2, cells := 0, slots := 0, locals := 46 }) (va_Pc [.ref h_th, .int x0] (GP (dC, dI) (T4 cyI cyJ cyZ cyO) sz [(h_th, .inr (7, [.ref h_row, v_th_undos, v_th_isKept, v_th_text, v_th_length, v_th_sizes, v_th_values, v_th_asked, v_th_first, v_th_behind, v_th_readBits, v_th_clauses, v_th_doing, v_th_numbers, v_th_planWord, v_th_addWord, v_th_delWord, v_th_fillWord, v_th_probes, v_th_links, v_th_looks, v_th_found, v_th_isOver])), (h_row, .inl (cyI, 1824, .inl row))])) (va_Qi (fun (r : Int32) (_ : Unit) => r = u) (GB (dC, dI) [(h_th, .inr (7, [.ref h_row, v_th_undos, v_th_isKept, v_th_text, v_th_length, v_th_sizes, v_th_values, v_th_asked, v_th_first, v_th_behind, v_th_readBits, v_th_clauses, v_th_doing, v_th_numbers, v_th_planWord, v_th_addWord, v_th_delWord, v_th_fillWord, v_th_probes, v_th_links, v_th_looks, v_th_found, v_th_isOver])), (h_row, .inl (cyI, 1824, .inl row))] (va_A [(h_th, .inr (7, [.ref h_row, v_th_undos, v_th_isKept, v_th_text, v_th_length, v_th_sizes, v_th_values, v_th_asked, v_th_first, v_th_behind, v_th_readBits, v_th_clauses, v_th_doing, v_th_numbers, v_th_planWord, v_th_addWord, v_th_delWord, v_th_fillWord, v_th_probes, v_th_links, v_th_looks, v_th_found, v_th_isOver])), (h_row, .inl (cyI, 1824, .inl row))] sz)) (va_A [(h_th, .inr (7, [.ref h_row, v_th_undos, v_th_isKept, v_th_text, v_th_length, v_th_sizes, v_th_values, v_th_asked, v_th_first, v_th_behind, v_th_readBits, v_th_clauses, v_th_doing, v_th_numbers, v_th_planWord, v_th_addWord, v_th_delWord, v_th_fillWord, v_th_probes, v_th_links, v_th_looks, v_th_found, v_th_isOver])), (h_row, .inl (cyI, 1824, .inl row))] sz)) 0 0 (va_A [(h_th, .inr (7, [.ref h_row, v_th_undos, v_th_isKept, v_th_text, v_th_length, v_th_sizes, v_th_values, v_th_asked, v_th_first, v_th_behind, v_th_readBits, v_th_clauses, v_th_doing, v_th_numbers, v_th_planWord, v_th_addWord, v_th_delWord, v_th_fillWord, v_th_probes, v_th_links, v_th_looks, v_th_found, v_th_isOver])), (h_row, .inl (cyI, 1824, .inl row))] sz) := by
  refine GMetI (by decide) rfl (Nat.le_of_ble_eq_true rfl) ?_
  intro p e s m args below meth c A Q ls hx hb hml hts hown hN hK hA hret hP hD hS hl
  have h := hf
  clear hf
  unfold fX7_rank at h
  have hown : s.vm.findClass RX7 = some m.cls := hown
  have hl : lv_has ls 2 [(0, .ref h_th), (1, .int x0)] := hl
  refine lv_aload_n hx hb dX7_rank_0 rfl (lv_at hl 0 rfl) ?_
  refine lv_iload_n hx hb dX7_rank_1 rfl (lv_at hl 1 rfl) ?_
  obtain ⟨u_1, hc_2, h⟩ := obd_e h
  refine Gci (wr := []) (va_runV (As := [.int x0]) (rest := []) ⟨hx, hb, hml, hown, hts⟩ (tX7_isNumber l dC dI cyI cyJ cyZ cyO s.heap.size h_th h_row v_th_undos v_th_isKept v_th_text v_th_length v_th_sizes v_th_values v_th_asked v_th_first v_th_behind v_th_readBits v_th_clauses v_th_doing v_th_numbers v_th_planWord v_th_addWord v_th_delWord v_th_fillWord v_th_probes v_th_links v_th_looks v_th_found v_th_isOver row x0 u_1 hc_2) (cwV 1 hts gX7_rank_X7_isNumber rfl rfl rfl (by decide +kernel) ⟨Nat.le_of_ble_eq_true rfl, Nat.le_of_ble_eq_true rfl⟩) (GpreV hP hD hK hN [0, 1] rfl (by decide) 7 0 rfl rfl rfl) rfl rfl hl.1 rfl (lv_room (Nat.le_of_ble_eq_true rfl)) dX7_rank_2 ⟨Nat.zero_le _, Nat.zero_le _⟩) hP hD hS hA [0, 1] [] rfl rfl (by decide) (by decide) (fun H locs hP hD hS => ?_)
  have hP : va_P (dC, dI) vwCl [(h_th, .inr (7, [.ref h_row, v_th_undos, v_th_isKept, v_th_text, v_th_length, v_th_sizes, v_th_values, v_th_asked, v_th_first, v_th_behind, v_th_readBits, v_th_clauses, v_th_doing, v_th_numbers, v_th_planWord, v_th_addWord, v_th_delWord, v_th_fillWord, v_th_probes, v_th_links, v_th_looks, v_th_found, v_th_isOver])), (h_row, .inl (cyI, 1824, .inl row))] H := hP
  have hD : va_D A [(h_th, .inr (7, [.ref h_row, v_th_undos, v_th_isKept, v_th_text, v_th_length, v_th_sizes, v_th_values, v_th_asked, v_th_first, v_th_behind, v_th_readBits, v_th_clauses, v_th_doing, v_th_numbers, v_th_planWord, v_th_addWord, v_th_delWord, v_th_fillWord, v_th_probes, v_th_links, v_th_looks, v_th_found, v_th_isOver])), (h_row, .inl (cyI, 1824, .inl row))] := hD
  obtain ⟨w_4, hm_7, h⟩ := obd_e h
  have J : ∀ (H : Heap) (locs : List Loc) (ls : Array Slot), va_P (dC, dI) vwCl [(h_th, .inr (7, [.ref h_row, v_th_undos, v_th_isKept, v_th_text, v_th_length, v_th_sizes, v_th_values, v_th_asked, v_th_first, v_th_behind, v_th_readBits, v_th_clauses, v_th_doing, v_th_numbers, v_th_planWord, v_th_addWord, v_th_delWord, v_th_fillWord, v_th_probes, v_th_links, v_th_looks, v_th_found, v_th_isOver])), (h_row, .inl (cyI, 1824, .inl row))] H → va_D A [(h_th, .inr (7, [.ref h_row, v_th_undos, v_th_isKept, v_th_text, v_th_length, v_th_sizes, v_th_values, v_th_asked, v_th_first, v_th_behind, v_th_readBits, v_th_clauses, v_th_doing, v_th_numbers, v_th_planWord, v_th_addWord, v_th_delWord, v_th_fillWord, v_th_probes, v_th_links, v_th_looks, v_th_found, v_th_isOver])), (h_row, .inl (cyI, 1824, .inl row))] → va_S A s.heap H locs → lv_has ls 2 [] → W p l e ({ frames := 2, cells := 0, slots := 0, locals := 46 }) s m args below meth c H locs 0 0 Q (F0 m 19 ls [.int w_4]) := by
    intro H locs ls hP hD hS hl
    obtain rfl := Option.some.inj h
    exact hret _ _ _ _ dX7_rank_19 hP hD hS
  replace h := hm_7
  refine lv_if_eq (tgt := 17) hx hb dX7_rank_5 (by decide) (fun c_3 => ?_) (fun c_3 => ?_)
  · have h := og_ite_t c_3 h
    refine lv_bipush (v := (-3)) hx hb dX7_rank_17 (by decide) ?_
    obtain rfl := Option.some.inj h
    exact J _ _ _ hP hD hS (lv_sub hl [] rfl)
  · have h := og_ite_f c_3 h
    refine lv_aload_n hx hb dX7_rank_8 rfl (lv_at hl 0 rfl) ?_
    refine lv_iconst (v := 0) hx hb dX7_rank_9 (by decide) ?_
    refine lv_iload_n hx hb dX7_rank_10 rfl (lv_at hl 1 rfl) ?_
    obtain ⟨u_5, hc_6, h⟩ := obd_e h
    refine Gci (wr := []) (va_runV (As := [.int (0 : Int32), .int x0]) (rest := []) ⟨hx, hb, hml, hown, hts⟩ (tX7_below l dC dI cyI cyJ cyZ cyO H.size h_th h_row v_th_undos v_th_isKept v_th_text v_th_length v_th_sizes v_th_values v_th_asked v_th_first v_th_behind v_th_readBits v_th_clauses v_th_doing v_th_numbers v_th_planWord v_th_addWord v_th_delWord v_th_fillWord v_th_probes v_th_links v_th_looks v_th_found v_th_isOver row (0 : Int32) x0 u_5 hc_6) (cwV 2 hts gX7_rank_X7_below rfl rfl rfl (by decide +kernel) ⟨Nat.le_of_ble_eq_true rfl, Nat.le_of_ble_eq_true rfl⟩) (GpreV hP hD hK hN [0, 1] rfl (by decide) 7 0 rfl rfl rfl) rfl rfl hl.1 rfl (lv_room (Nat.le_of_ble_eq_true rfl)) dX7_rank_11 ⟨Nat.zero_le _, Nat.zero_le _⟩) hP hD hS hA [0, 1] [] rfl rfl (by decide) (by decide) (fun H locs hP hD hS => ?_)
    have hP : va_P (dC, dI) vwCl [(h_th, .inr (7, [.ref h_row, v_th_undos, v_th_isKept, v_th_text, v_th_length, v_th_sizes, v_th_values, v_th_asked, v_th_first, v_th_behind, v_th_readBits, v_th_clauses, v_th_doing, v_th_numbers, v_th_planWord, v_th_addWord, v_th_delWord, v_th_fillWord, v_th_probes, v_th_links, v_th_looks, v_th_found, v_th_isOver])), (h_row, .inl (cyI, 1824, .inl row))] H := hP
    have hD : va_D A [(h_th, .inr (7, [.ref h_row, v_th_undos, v_th_isKept, v_th_text, v_th_length, v_th_sizes, v_th_values, v_th_asked, v_th_first, v_th_behind, v_th_readBits, v_th_clauses, v_th_doing, v_th_numbers, v_th_planWord, v_th_addWord, v_th_delWord, v_th_fillWord, v_th_probes, v_th_links, v_th_looks, v_th_found, v_th_isOver])), (h_row, .inl (cyI, 1824, .inl row))] := hD
    refine lv_goto (tgt := 19) hx hb dX7_rank_14 (by decide) ?_
    obtain rfl := Option.some.inj h
    exact J _ _ _ hP hD hS (lv_sub hl [] rfl)

def fX7_ranked (row : (Nat → Int32)) (x0 : Int32) : Option (Int32) := oin (2 : Int32) 1824 (obd (fX7_in x0.toInt64 (0 : Int64) (((row (2 : Int32).toNatClampNeg) - (1 : Int32)).toInt64)) fun u_2 => obd (if u_2 = 0 then (some (-2 : Int32)) else (oin ((6 : Int32) + x0) 1824 (some (row ((6 : Int32) + x0).toNatClampNeg)))) fun w_5 => some w_5)

set_option maxHeartbeats 4000000 in
set_option maxRecDepth 100000 in
theorem tX7_ranked (l : Launch) (dC : Nat → ClassId) (dI : Nat → Nat → Nat) (cyI cyJ cyZ cyO : ClassId) (sz : Nat) (h_th h_row : Nat) (v_th_undos : Value) (v_th_isKept : Value) (v_th_text : Value) (v_th_length : Value) (v_th_sizes : Value) (v_th_values : Value) (v_th_asked : Value) (v_th_first : Value) (v_th_behind : Value) (v_th_readBits : Value) (v_th_clauses : Value) (v_th_doing : Value) (v_th_numbers : Value) (v_th_planWord : Value) (v_th_addWord : Value) (v_th_delWord : Value) (v_th_fillWord : Value) (v_th_probes : Value) (v_th_links : Value) (v_th_looks : Value) (v_th_found : Value) (v_th_isOver : Value) (row : (Nat → Int32)) (x0 : Int32) (u : Int32) (hf : fX7_ranked row x0 = some u) : Met l yX7_ranked wsX7_ranked ({ frames := 1, cells := 0, slots := 0, locals := 25 }) (va_Pc [.ref h_th, .int x0] (GP (dC, dI) (T4 cyI cyJ cyZ cyO) sz [(h_th, .inr (7, [.ref h_row, v_th_undos, v_th_isKept, v_th_text, v_th_length, v_th_sizes, v_th_values, v_th_asked, v_th_first, v_th_behind, v_th_readBits, v_th_clauses, v_th_doing, v_th_numbers, v_th_planWord, v_th_addWord, v_th_delWord, v_th_fillWord, v_th_probes, v_th_links, v_th_looks, v_th_found, v_th_isOver])), (h_row, .inl (cyI, 1824, .inl row))])) (va_Qi (fun (r : Int32) (_ : Unit) => r = u) (GB (dC, dI) [(h_th, .inr (7, [.ref h_row, v_th_undos, v_th_isKept, v_th_text, v_th_length, v_th_sizes, v_th_values, v_th_asked, v_th_first, v_th_behind, v_th_readBits, v_th_clauses, v_th_doing, v_th_numbers, v_th_planWord, v_th_addWord, v_th_delWord, v_th_fillWord, v_th_probes, v_th_links, v_th_looks, v_th_found, v_th_isOver])), (h_row, .inl (cyI, 1824, .inl row))] (va_A [(h_th, .inr (7, [.ref h_row, v_th_undos, v_th_isKept, v_th_text, v_th_length, v_th_sizes, v_th_values, v_th_asked, v_th_first, v_th_behind, v_th_readBits, v_th_clauses, v_th_doing, v_th_numbers, v_th_planWord, v_th_addWord, v_th_delWord, v_th_fillWord, v_th_probes, v_th_links, v_th_looks, v_th_found, v_th_isOver])), (h_row, .inl (cyI, 1824, .inl row))] sz)) (va_A [(h_th, .inr (7, [.ref h_row, v_th_undos, v_th_isKept, v_th_text, v_th_length, v_th_sizes, v_th_values, v_th_asked, v_th_first, v_th_behind, v_th_readBits, v_th_clauses, v_th_doing, v_th_numbers, v_th_planWord, v_th_addWord, v_th_delWord, v_th_fillWord, v_th_probes, v_th_links, v_th_looks, v_th_found, v_th_isOver])), (h_row, .inl (cyI, 1824, .inl row))] sz)) 0 0 (va_A [(h_th, .inr (7, [.ref h_row, v_th_undos, v_th_isKept, v_th_text, v_th_length, v_th_sizes, v_th_values, v_th_asked, v_th_first, v_th_behind, v_th_readBits, v_th_clauses, v_th_doing, v_th_numbers, v_th_planWord, v_th_addWord, v_th_delWord, v_th_fillWord, v_th_probes, v_th_links, v_th_looks, v_th_found, v_th_isOver])), (h_row, .inl (cyI, 1824, .inl row))] sz) := by
  refine GMetI (by decide) rfl (Nat.le_of_ble_eq_true rfl) ?_
  intro p e s m args below meth c A Q ls hx hb hml hts hown hN hK hA hret hP hD hS hl
  have h := hf
  clear hf
  unfold fX7_ranked at h
  have hown : s.vm.findClass RX7 = some m.cls := hown
  have hl : lv_has ls 2 [(0, .ref h_th), (1, .int x0)] := hl
  refine lv_iload_n hx hb dX7_ranked_0 rfl (lv_at hl 1 rfl) ?_
  refine lv_i2l (v := x0.toInt64) hx hb dX7_ranked_1 rfl ?_
  refine lv_lconst (v := 0) hx hb dX7_ranked_2 (by decide) ?_
  refine lv_aload_n hx hb dX7_ranked_3 rfl (lv_at hl 0 rfl) ?_
  refine va_get (D := (dC, dI)) (ci := 7) (v := .ref h_row) (C := RX7) (T := TX7) (N := 23) hx hb hts (fun _ hw => List.mem_cons_of_mem _ (List.mem_append_right _ hw)) hown hK hP 0 rfl rfl 0 (by decide) (hts (.fieldLink RX7 7 "PrefixIndexModel" "row" "[I") (List.mem_of_getElem? (i := 1) rfl)) (fun _ h9 => h9) rfl dX7_ranked_4 ?_
  refine lv_iconst (v := 2) hx hb dX7_ranked_7 (by decide) ?_
  obtain ⟨hi_1, h⟩ := oin_e h
  refine va_iald hx hb hK hP 1 0 rfl rfl hi_1 dX7_ranked_8 ?_
  refine lv_iconst (v := 1) hx hb dX7_ranked_9 (by decide) ?_
  refine lv_isub hx hb dX7_ranked_10 ?_
  refine lv_i2l (v := ((row (2 : Int32).toNatClampNeg) - (1 : Int32)).toInt64) hx hb dX7_ranked_11 rfl ?_
  obtain ⟨u_2, hc_3, h⟩ := obd_e h
  refine Gci (wr := [(h_th, .inr (7, [.ref h_row, v_th_undos, v_th_isKept, v_th_text, v_th_length, v_th_sizes, v_th_values, v_th_asked, v_th_first, v_th_behind, v_th_readBits, v_th_clauses, v_th_doing, v_th_numbers, v_th_planWord, v_th_addWord, v_th_delWord, v_th_fillWord, v_th_probes, v_th_links, v_th_looks, v_th_found, v_th_isOver])), (h_row, .inl (cyI, 1824, .inl row))]) (va_runS (As := [.long x0.toInt64, .long (0 : Int64), .long (((row (2 : Int32).toNatClampNeg) - (1 : Int32)).toInt64)]) (rest := []) ⟨hx, hb, hml, hown, hts⟩ (tX7_in l dC dI cyI cyJ cyZ cyO s.heap.size x0.toInt64 (0 : Int64) (((row (2 : Int32).toNatClampNeg) - (1 : Int32)).toInt64) u_2 hc_3) (cwS 3 hts gX7_ranked_X7_in rfl rfl rfl (by decide +kernel) ⟨Nat.le_of_ble_eq_true rfl, Nat.le_of_ble_eq_true rfl⟩) (GpreS hP hD hK hN [] rfl (by decide)) rfl rfl hl.1 rfl (lv_room (Nat.le_of_ble_eq_true rfl)) dX7_ranked_12 ⟨Nat.zero_le _, Nat.zero_le _⟩) hP hD hS hA [] [0, 1] rfl rfl (by decide) (by decide) (fun H locs hP hD hS => ?_)
  have hP : va_P (dC, dI) vwCl [(h_th, .inr (7, [.ref h_row, v_th_undos, v_th_isKept, v_th_text, v_th_length, v_th_sizes, v_th_values, v_th_asked, v_th_first, v_th_behind, v_th_readBits, v_th_clauses, v_th_doing, v_th_numbers, v_th_planWord, v_th_addWord, v_th_delWord, v_th_fillWord, v_th_probes, v_th_links, v_th_looks, v_th_found, v_th_isOver])), (h_row, .inl (cyI, 1824, .inl row))] H := hP
  have hD : va_D A [(h_th, .inr (7, [.ref h_row, v_th_undos, v_th_isKept, v_th_text, v_th_length, v_th_sizes, v_th_values, v_th_asked, v_th_first, v_th_behind, v_th_readBits, v_th_clauses, v_th_doing, v_th_numbers, v_th_planWord, v_th_addWord, v_th_delWord, v_th_fillWord, v_th_probes, v_th_links, v_th_looks, v_th_found, v_th_isOver])), (h_row, .inl (cyI, 1824, .inl row))] := hD
  obtain ⟨w_5, hm_7, h⟩ := obd_e h
  have J : ∀ (H : Heap) (locs : List Loc) (ls : Array Slot), va_P (dC, dI) vwCl [(h_th, .inr (7, [.ref h_row, v_th_undos, v_th_isKept, v_th_text, v_th_length, v_th_sizes, v_th_values, v_th_asked, v_th_first, v_th_behind, v_th_readBits, v_th_clauses, v_th_doing, v_th_numbers, v_th_planWord, v_th_addWord, v_th_delWord, v_th_fillWord, v_th_probes, v_th_links, v_th_looks, v_th_found, v_th_isOver])), (h_row, .inl (cyI, 1824, .inl row))] H → va_D A [(h_th, .inr (7, [.ref h_row, v_th_undos, v_th_isKept, v_th_text, v_th_length, v_th_sizes, v_th_values, v_th_asked, v_th_first, v_th_behind, v_th_readBits, v_th_clauses, v_th_doing, v_th_numbers, v_th_planWord, v_th_addWord, v_th_delWord, v_th_fillWord, v_th_probes, v_th_links, v_th_looks, v_th_found, v_th_isOver])), (h_row, .inl (cyI, 1824, .inl row))] → va_S A s.heap H locs → lv_has ls 2 [] → W p l e ({ frames := 1, cells := 0, slots := 0, locals := 25 }) s m args below meth c H locs 0 0 Q (F0 m 32 ls [.int w_5]) := by
    intro H locs ls hP hD hS hl
    obtain rfl := Option.some.inj h
    exact hret _ _ _ _ dX7_ranked_32 hP hD hS
  replace h := hm_7
  refine lv_if_eq (tgt := 30) hx hb dX7_ranked_15 (by decide) (fun c_4 => ?_) (fun c_4 => ?_)
  · have h := og_ite_t c_4 h
    refine lv_bipush (v := (-2)) hx hb dX7_ranked_30 (by decide) ?_
    obtain rfl := Option.some.inj h
    exact J _ _ _ hP hD hS (lv_sub hl [] rfl)
  · have h := og_ite_f c_4 h
    refine lv_aload_n hx hb dX7_ranked_18 rfl (lv_at hl 0 rfl) ?_
    refine va_get (D := (dC, dI)) (ci := 7) (v := .ref h_row) (C := RX7) (T := TX7) (N := 23) hx hb hts (fun _ hw => List.mem_cons_of_mem _ (List.mem_append_right _ hw)) hown hK hP 0 rfl rfl 0 (by decide) (hts (.fieldLink RX7 7 "PrefixIndexModel" "row" "[I") (List.mem_of_getElem? (i := 1) rfl)) (fun _ h9 => h9) rfl dX7_ranked_19 ?_
    refine lv_bipush (v := 6) hx hb dX7_ranked_22 (by decide) ?_
    refine lv_iload_n hx hb dX7_ranked_24 rfl (lv_at hl 1 rfl) ?_
    refine lv_iadd hx hb dX7_ranked_25 ?_
    obtain ⟨hi_6, h⟩ := oin_e h
    refine va_iald hx hb hK hP 1 0 rfl rfl hi_6 dX7_ranked_26 ?_
    refine lv_goto (tgt := 32) hx hb dX7_ranked_27 (by decide) ?_
    obtain rfl := Option.some.inj h
    exact J _ _ _ hP hD hS (lv_sub hl [] rfl)

def fX7_beginning (row : (Nat → Int32)) (x0 : Int32) (x1 : Int32) : Option (Int32) := oin (0 : Int32) 1824 (some (x0 >>> (((row (0 : Int32).toNatClampNeg) - x1) &&& 31)))

set_option maxHeartbeats 4000000 in
set_option maxRecDepth 100000 in
theorem tX7_beginning (l : Launch) (dC : Nat → ClassId) (dI : Nat → Nat → Nat) (cyI cyJ cyZ cyO : ClassId) (sz : Nat) (h_th h_row : Nat) (v_th_undos : Value) (v_th_isKept : Value) (v_th_text : Value) (v_th_length : Value) (v_th_sizes : Value) (v_th_values : Value) (v_th_asked : Value) (v_th_first : Value) (v_th_behind : Value) (v_th_readBits : Value) (v_th_clauses : Value) (v_th_doing : Value) (v_th_numbers : Value) (v_th_planWord : Value) (v_th_addWord : Value) (v_th_delWord : Value) (v_th_fillWord : Value) (v_th_probes : Value) (v_th_links : Value) (v_th_looks : Value) (v_th_found : Value) (v_th_isOver : Value) (row : (Nat → Int32)) (x0 : Int32) (x1 : Int32) (u : Int32) (hf : fX7_beginning row x0 x1 = some u) : Met l yX7_beginning wsX7_beginning ({ frames := 0, cells := 0, slots := 0, locals := 0 }) (va_Pc [.ref h_th, .int x0, .int x1] (GP (dC, dI) (T4 cyI cyJ cyZ cyO) sz [(h_th, .inr (7, [.ref h_row, v_th_undos, v_th_isKept, v_th_text, v_th_length, v_th_sizes, v_th_values, v_th_asked, v_th_first, v_th_behind, v_th_readBits, v_th_clauses, v_th_doing, v_th_numbers, v_th_planWord, v_th_addWord, v_th_delWord, v_th_fillWord, v_th_probes, v_th_links, v_th_looks, v_th_found, v_th_isOver])), (h_row, .inl (cyI, 1824, .inl row))])) (va_Qi (fun (r : Int32) (_ : Unit) => r = u) (GB (dC, dI) [(h_th, .inr (7, [.ref h_row, v_th_undos, v_th_isKept, v_th_text, v_th_length, v_th_sizes, v_th_values, v_th_asked, v_th_first, v_th_behind, v_th_readBits, v_th_clauses, v_th_doing, v_th_numbers, v_th_planWord, v_th_addWord, v_th_delWord, v_th_fillWord, v_th_probes, v_th_links, v_th_looks, v_th_found, v_th_isOver])), (h_row, .inl (cyI, 1824, .inl row))] (va_A [(h_th, .inr (7, [.ref h_row, v_th_undos, v_th_isKept, v_th_text, v_th_length, v_th_sizes, v_th_values, v_th_asked, v_th_first, v_th_behind, v_th_readBits, v_th_clauses, v_th_doing, v_th_numbers, v_th_planWord, v_th_addWord, v_th_delWord, v_th_fillWord, v_th_probes, v_th_links, v_th_looks, v_th_found, v_th_isOver])), (h_row, .inl (cyI, 1824, .inl row))] sz)) (va_A [(h_th, .inr (7, [.ref h_row, v_th_undos, v_th_isKept, v_th_text, v_th_length, v_th_sizes, v_th_values, v_th_asked, v_th_first, v_th_behind, v_th_readBits, v_th_clauses, v_th_doing, v_th_numbers, v_th_planWord, v_th_addWord, v_th_delWord, v_th_fillWord, v_th_probes, v_th_links, v_th_looks, v_th_found, v_th_isOver])), (h_row, .inl (cyI, 1824, .inl row))] sz)) 0 0 (va_A [(h_th, .inr (7, [.ref h_row, v_th_undos, v_th_isKept, v_th_text, v_th_length, v_th_sizes, v_th_values, v_th_asked, v_th_first, v_th_behind, v_th_readBits, v_th_clauses, v_th_doing, v_th_numbers, v_th_planWord, v_th_addWord, v_th_delWord, v_th_fillWord, v_th_probes, v_th_links, v_th_looks, v_th_found, v_th_isOver])), (h_row, .inl (cyI, 1824, .inl row))] sz) := by
  refine GMetI (by decide) rfl (Nat.le_of_ble_eq_true rfl) ?_
  intro p e s m args below meth c A Q ls hx hb hml hts hown hN hK hA hret hP hD hS hl
  have h := hf
  clear hf
  unfold fX7_beginning at h
  have hown : s.vm.findClass RX7 = some m.cls := hown
  have hl : lv_has ls 3 [(0, .ref h_th), (1, .int x0), (2, .int x1)] := hl
  refine lv_iload_n hx hb dX7_beginning_0 rfl (lv_at hl 1 rfl) ?_
  refine lv_aload_n hx hb dX7_beginning_1 rfl (lv_at hl 0 rfl) ?_
  refine va_get (D := (dC, dI)) (ci := 7) (v := .ref h_row) (C := RX7) (T := TX7) (N := 23) hx hb hts (fun _ hw => List.mem_cons_of_mem _ (List.mem_append_right _ hw)) hown hK hP 0 rfl rfl 0 (by decide) (hts (.fieldLink RX7 7 "PrefixIndexModel" "row" "[I") (List.mem_of_getElem? (i := 1) rfl)) (fun _ h9 => h9) rfl dX7_beginning_2 ?_
  refine lv_iconst (v := 0) hx hb dX7_beginning_5 (by decide) ?_
  obtain ⟨hi_1, h⟩ := oin_e h
  refine va_iald hx hb hK hP 1 0 rfl rfl hi_1 dX7_beginning_6 ?_
  refine lv_iload_n hx hb dX7_beginning_7 rfl (lv_at hl 2 rfl) ?_
  refine lv_isub hx hb dX7_beginning_8 ?_
  refine lv_ishr hx hb dX7_beginning_9 ?_
  obtain rfl := Option.some.inj h
  exact hret _ _ _ _ dX7_beginning_10 hP hD hS

def lpX7_isBeginning_5 (q1 : Int32) (q2 : Int32) (row : (Nat → Int32)) : Nat → Int32 → Int32 → Option (Int32 × Int32)
  | 0, _, _ => none
  | n + 1, m3, m4 => oin (3 : Int32) 1824 (if (row (3 : Int32).toNatClampNeg) ≤ m4 then (some (m3, m4)) else (obd (if m3 = 0 then (oin ((102 : Int32) + m4) 1824 (obd (fX7_beginning row (row ((102 : Int32) + m4).toNatClampNeg) q1) fun u_7 => if u_7 = q2 then (some (1 : Int32)) else (some (0 : Int32)))) else (some (1 : Int32))) fun w_5 => lpX7_isBeginning_5 q1 q2 row n w_5 (m4 + (1 : Int32))))

def fX7_isBeginning (row : (Nat → Int32)) (x0 : Int32) (x1 : Int32) : Option (Int32) := obd (lpX7_isBeginning_5 x0 x1 row 100000 (0 : Int32) (0 : Int32)) fun w_20 => obl w_20.1 (some w_20.1)

set_option maxHeartbeats 4000000 in
set_option maxRecDepth 100000 in
theorem tX7_isBeginning (l : Launch) (dC : Nat → ClassId) (dI : Nat → Nat → Nat) (cyI cyJ cyZ cyO : ClassId) (sz : Nat) (h_th h_row : Nat) (v_th_undos : Value) (v_th_isKept : Value) (v_th_text : Value) (v_th_length : Value) (v_th_sizes : Value) (v_th_values : Value) (v_th_asked : Value) (v_th_first : Value) (v_th_behind : Value) (v_th_readBits : Value) (v_th_clauses : Value) (v_th_doing : Value) (v_th_numbers : Value) (v_th_planWord : Value) (v_th_addWord : Value) (v_th_delWord : Value) (v_th_fillWord : Value) (v_th_probes : Value) (v_th_links : Value) (v_th_looks : Value) (v_th_found : Value) (v_th_isOver : Value) (row : (Nat → Int32)) (x0 : Int32) (x1 : Int32) (u : Int32) (hf : fX7_isBeginning row x0 x1 = some u) : Met l yX7_isBeginning wsX7_isBeginning ({ frames := 1, cells := 0, slots := 0, locals := 22 }) (va_Pc [.ref h_th, .int x0, .int x1] (GP (dC, dI) (T4 cyI cyJ cyZ cyO) sz [(h_th, .inr (7, [.ref h_row, v_th_undos, v_th_isKept, v_th_text, v_th_length, v_th_sizes, v_th_values, v_th_asked, v_th_first, v_th_behind, v_th_readBits, v_th_clauses, v_th_doing, v_th_numbers, v_th_planWord, v_th_addWord, v_th_delWord, v_th_fillWord, v_th_probes, v_th_links, v_th_looks, v_th_found, v_th_isOver])), (h_row, .inl (cyI, 1824, .inl row))])) (va_Qi (fun (r : Int32) (_ : Unit) => r = u) (GB (dC, dI) [(h_th, .inr (7, [.ref h_row, v_th_undos, v_th_isKept, v_th_text, v_th_length, v_th_sizes, v_th_values, v_th_asked, v_th_first, v_th_behind, v_th_readBits, v_th_clauses, v_th_doing, v_th_numbers, v_th_planWord, v_th_addWord, v_th_delWord, v_th_fillWord, v_th_probes, v_th_links, v_th_looks, v_th_found, v_th_isOver])), (h_row, .inl (cyI, 1824, .inl row))] (va_A [(h_th, .inr (7, [.ref h_row, v_th_undos, v_th_isKept, v_th_text, v_th_length, v_th_sizes, v_th_values, v_th_asked, v_th_first, v_th_behind, v_th_readBits, v_th_clauses, v_th_doing, v_th_numbers, v_th_planWord, v_th_addWord, v_th_delWord, v_th_fillWord, v_th_probes, v_th_links, v_th_looks, v_th_found, v_th_isOver])), (h_row, .inl (cyI, 1824, .inl row))] sz)) (va_A [(h_th, .inr (7, [.ref h_row, v_th_undos, v_th_isKept, v_th_text, v_th_length, v_th_sizes, v_th_values, v_th_asked, v_th_first, v_th_behind, v_th_readBits, v_th_clauses, v_th_doing, v_th_numbers, v_th_planWord, v_th_addWord, v_th_delWord, v_th_fillWord, v_th_probes, v_th_links, v_th_looks, v_th_found, v_th_isOver])), (h_row, .inl (cyI, 1824, .inl row))] sz)) 0 0 (va_A [(h_th, .inr (7, [.ref h_row, v_th_undos, v_th_isKept, v_th_text, v_th_length, v_th_sizes, v_th_values, v_th_asked, v_th_first, v_th_behind, v_th_readBits, v_th_clauses, v_th_doing, v_th_numbers, v_th_planWord, v_th_addWord, v_th_delWord, v_th_fillWord, v_th_probes, v_th_links, v_th_looks, v_th_found, v_th_isOver])), (h_row, .inl (cyI, 1824, .inl row))] sz) := by
  refine GMetZ (by decide) rfl (Nat.le_of_ble_eq_true rfl) ?_
  intro p e s m args below meth c A Q ls hx hb hml hts hown hN hK hA hret hP hD hS hl
  have h := hf
  clear hf
  unfold fX7_isBeginning at h
  have hown : s.vm.findClass RX7 = some m.cls := hown
  have hl : lv_has ls 5 [(0, .ref h_th), (1, .int x0), (2, .int x1)] := hl
  refine lv_iconst (v := 0) hx hb dX7_isBeginning_0 (by decide) ?_
  refine lv_istore_n (lv' := [(3, .int (0 : Int32)), (0, .ref h_th), (1, .int x0), (2, .int x1)]) hx hb dX7_isBeginning_1 rfl hl (by decide) rfl (fun ls hl => ?_)
  refine lv_iconst (v := 0) hx hb dX7_isBeginning_2 (by decide) ?_
  refine lv_istore (lv' := [(4, .int (0 : Int32)), (3, .int (0 : Int32)), (0, .ref h_th), (1, .int x0), (2, .int x1)]) hx hb dX7_isBeginning_3 hl (by decide) rfl (fun ls hl => ?_)
  obtain ⟨w_20, hw_21, h⟩ := obd_e h
  have J : ∀ (H : Heap) (locs : List Loc) (ls : Array Slot), va_P (dC, dI) vwCl [(h_th, .inr (7, [.ref h_row, v_th_undos, v_th_isKept, v_th_text, v_th_length, v_th_sizes, v_th_values, v_th_asked, v_th_first, v_th_behind, v_th_readBits, v_th_clauses, v_th_doing, v_th_numbers, v_th_planWord, v_th_addWord, v_th_delWord, v_th_fillWord, v_th_probes, v_th_links, v_th_looks, v_th_found, v_th_isOver])), (h_row, .inl (cyI, 1824, .inl row))] H → va_D A [(h_th, .inr (7, [.ref h_row, v_th_undos, v_th_isKept, v_th_text, v_th_length, v_th_sizes, v_th_values, v_th_asked, v_th_first, v_th_behind, v_th_readBits, v_th_clauses, v_th_doing, v_th_numbers, v_th_planWord, v_th_addWord, v_th_delWord, v_th_fillWord, v_th_probes, v_th_links, v_th_looks, v_th_found, v_th_isOver])), (h_row, .inl (cyI, 1824, .inl row))] → va_S A s.heap H locs → lv_has ls 5 [(3, .int w_20.1)] → W p l e ({ frames := 1, cells := 0, slots := 0, locals := 22 }) s m args below meth c H locs 0 0 Q (F0 m 51 ls []) := by
    intro H locs ls hP hD hS hl
    refine lv_iload_n hx hb dX7_isBeginning_51 rfl (lv_at hl 0 rfl) ?_
    obtain ⟨hz, h⟩ := obl_e h
    obtain rfl := Option.some.inj h
    exact hret _ _ _ _ dX7_isBeginning_52 hz hP hD hS
  have LL : ∀ (n : Nat) (m3 : Int32) (m4 : Int32) (H : Heap) (locs : List Loc) (ls : Array Slot), lpX7_isBeginning_5 x0 x1 row n m3 m4 = some w_20 → va_P (dC, dI) vwCl [(h_th, .inr (7, [.ref h_row, v_th_undos, v_th_isKept, v_th_text, v_th_length, v_th_sizes, v_th_values, v_th_asked, v_th_first, v_th_behind, v_th_readBits, v_th_clauses, v_th_doing, v_th_numbers, v_th_planWord, v_th_addWord, v_th_delWord, v_th_fillWord, v_th_probes, v_th_links, v_th_looks, v_th_found, v_th_isOver])), (h_row, .inl (cyI, 1824, .inl row))] H → va_D A [(h_th, .inr (7, [.ref h_row, v_th_undos, v_th_isKept, v_th_text, v_th_length, v_th_sizes, v_th_values, v_th_asked, v_th_first, v_th_behind, v_th_readBits, v_th_clauses, v_th_doing, v_th_numbers, v_th_planWord, v_th_addWord, v_th_delWord, v_th_fillWord, v_th_probes, v_th_links, v_th_looks, v_th_found, v_th_isOver])), (h_row, .inl (cyI, 1824, .inl row))] → va_S A s.heap H locs → lv_has ls 5 [(0, .ref h_th), (1, .int x0), (2, .int x1), (3, .int m3), (4, .int m4)] → W p l e ({ frames := 1, cells := 0, slots := 0, locals := 22 }) s m args below meth c H locs 0 0 Q (F0 m 5 ls []) := by
    intro n
    induction n with
    | zero =>
      intro m3 m4 H locs ls h
      exact absurd h (by rw [lpX7_isBeginning_5]; exact fun q => by cases q)
    | succ n ih =>
      intro m3 m4 H locs ls h hP hD hS hl
      rw [lpX7_isBeginning_5] at h
      refine lv_iload hx hb dX7_isBeginning_5 (lv_at hl 4 rfl) ?_
      refine lv_aload_n hx hb dX7_isBeginning_7 rfl (lv_at hl 0 rfl) ?_
      refine va_get (D := (dC, dI)) (ci := 7) (v := .ref h_row) (C := RX7) (T := TX7) (N := 23) hx hb hts (fun _ hw => List.mem_cons_of_mem _ (List.mem_append_right _ hw)) hown hK hP 0 rfl rfl 0 (by decide) (hts (.fieldLink RX7 7 "PrefixIndexModel" "row" "[I") (List.mem_of_getElem? (i := 1) rfl)) (fun _ h9 => h9) rfl dX7_isBeginning_8 ?_
      refine lv_iconst (v := 3) hx hb dX7_isBeginning_11 (by decide) ?_
      obtain ⟨hi_11, h⟩ := oin_e h
      refine va_iald hx hb hK hP 1 0 rfl rfl hi_11 dX7_isBeginning_12 ?_
      refine lv_icmp_ge (tgt := 51) hx hb dX7_isBeginning_13 (by decide) (fun c_12 => ?_) (fun c_12 => ?_)
      · have h := og_ite_t c_12 h
        obtain rfl := Option.some.inj h
        exact J _ _ _ hP hD hS (lv_sub hl [3] rfl)
      · have h := og_ite_f c_12 h
        refine lv_iload_n hx hb dX7_isBeginning_16 rfl (lv_at hl 3 rfl) ?_
        obtain ⟨w_14, hm_19, h⟩ := obd_e h
        have J : ∀ (H : Heap) (locs : List Loc) (ls : Array Slot), va_P (dC, dI) vwCl [(h_th, .inr (7, [.ref h_row, v_th_undos, v_th_isKept, v_th_text, v_th_length, v_th_sizes, v_th_values, v_th_asked, v_th_first, v_th_behind, v_th_readBits, v_th_clauses, v_th_doing, v_th_numbers, v_th_planWord, v_th_addWord, v_th_delWord, v_th_fillWord, v_th_probes, v_th_links, v_th_looks, v_th_found, v_th_isOver])), (h_row, .inl (cyI, 1824, .inl row))] H → va_D A [(h_th, .inr (7, [.ref h_row, v_th_undos, v_th_isKept, v_th_text, v_th_length, v_th_sizes, v_th_values, v_th_asked, v_th_first, v_th_behind, v_th_readBits, v_th_clauses, v_th_doing, v_th_numbers, v_th_planWord, v_th_addWord, v_th_delWord, v_th_fillWord, v_th_probes, v_th_links, v_th_looks, v_th_found, v_th_isOver])), (h_row, .inl (cyI, 1824, .inl row))] → va_S A s.heap H locs → lv_has ls 5 [(0, .ref h_th), (1, .int x0), (2, .int x1), (4, .int m4)] → W p l e ({ frames := 1, cells := 0, slots := 0, locals := 22 }) s m args below meth c H locs 0 0 Q (F0 m 44 ls [.int w_14]) := by
          intro H locs ls hP hD hS hl
          refine lv_istore_n (lv' := [(3, .int w_14), (0, .ref h_th), (1, .int x0), (2, .int x1), (4, .int m4)]) hx hb dX7_isBeginning_44 rfl hl (by decide) rfl (fun ls hl => ?_)
          refine lv_iinc (v := m4 + (1 : Int32)) (lv' := [(4, .int (m4 + (1 : Int32))), (3, .int w_14), (0, .ref h_th), (1, .int x0), (2, .int x1)]) hx hb dX7_isBeginning_45 hl (k := 4) rfl rfl (by decide) rfl (fun ls hl => ?_)
          refine lv_goto (tgt := 5) hx hb dX7_isBeginning_48 (by decide) ?_
          exact ih w_14 (m4 + (1 : Int32)) _ _ _ h hP hD hS (lv_sub hl [2, 3, 4, 1, 0] rfl)
        replace h := hm_19
        refine lv_if_ne (tgt := 39) hx hb dX7_isBeginning_17 (by decide) (fun c_13 => ?_) (fun c_13 => ?_)
        · have h := og_ite_f c_13 h
          refine lv_iconst (v := 1) hx hb dX7_isBeginning_39 (by decide) ?_
          refine lv_goto (tgt := 44) hx hb dX7_isBeginning_40 (by decide) ?_
          obtain rfl := Option.some.inj h
          exact J _ _ _ hP hD hS (lv_sub hl [0, 1, 2, 4] rfl)
        · have h := og_ite_t c_13 h
          refine lv_aload_n hx hb dX7_isBeginning_20 rfl (lv_at hl 0 rfl) ?_
          refine lv_aload_n hx hb dX7_isBeginning_21 rfl (lv_at hl 0 rfl) ?_
          refine va_get (D := (dC, dI)) (ci := 7) (v := .ref h_row) (C := RX7) (T := TX7) (N := 23) hx hb hts (fun _ hw => List.mem_cons_of_mem _ (List.mem_append_right _ hw)) hown hK hP 0 rfl rfl 0 (by decide) (hts (.fieldLink RX7 7 "PrefixIndexModel" "row" "[I") (List.mem_of_getElem? (i := 1) rfl)) (fun _ h9 => h9) rfl dX7_isBeginning_22 ?_
          refine lv_bipush (v := 102) hx hb dX7_isBeginning_25 (by decide) ?_
          refine lv_iload hx hb dX7_isBeginning_27 (lv_at hl 4 rfl) ?_
          refine lv_iadd hx hb dX7_isBeginning_29 ?_
          obtain ⟨hi_15, h⟩ := oin_e h
          refine va_iald hx hb hK hP 1 0 rfl rfl hi_15 dX7_isBeginning_30 ?_
          refine lv_iload_n hx hb dX7_isBeginning_31 rfl (lv_at hl 1 rfl) ?_
          obtain ⟨u_16, hc_17, h⟩ := obd_e h
          refine Gci (wr := []) (va_runV (As := [.int (row ((102 : Int32) + m4).toNatClampNeg), .int x0]) (rest := []) ⟨hx, hb, hml, hown, hts⟩ (tX7_beginning l dC dI cyI cyJ cyZ cyO H.size h_th h_row v_th_undos v_th_isKept v_th_text v_th_length v_th_sizes v_th_values v_th_asked v_th_first v_th_behind v_th_readBits v_th_clauses v_th_doing v_th_numbers v_th_planWord v_th_addWord v_th_delWord v_th_fillWord v_th_probes v_th_links v_th_looks v_th_found v_th_isOver row (row ((102 : Int32) + m4).toNatClampNeg) x0 u_16 hc_17) (cwV 2 hts gX7_isBeginning_X7_beginning rfl rfl rfl (by decide +kernel) ⟨Nat.le_of_ble_eq_true rfl, Nat.le_of_ble_eq_true rfl⟩) (GpreV hP hD hK hN [0, 1] rfl (by decide) 7 0 rfl rfl rfl) rfl rfl hl.1 rfl (lv_room (Nat.le_of_ble_eq_true rfl)) dX7_isBeginning_32 ⟨Nat.zero_le _, Nat.zero_le _⟩) hP hD hS hA [0, 1] [] rfl rfl (by decide) (by decide) (fun H locs hP hD hS => ?_)
          have hP : va_P (dC, dI) vwCl [(h_th, .inr (7, [.ref h_row, v_th_undos, v_th_isKept, v_th_text, v_th_length, v_th_sizes, v_th_values, v_th_asked, v_th_first, v_th_behind, v_th_readBits, v_th_clauses, v_th_doing, v_th_numbers, v_th_planWord, v_th_addWord, v_th_delWord, v_th_fillWord, v_th_probes, v_th_links, v_th_looks, v_th_found, v_th_isOver])), (h_row, .inl (cyI, 1824, .inl row))] H := hP
          have hD : va_D A [(h_th, .inr (7, [.ref h_row, v_th_undos, v_th_isKept, v_th_text, v_th_length, v_th_sizes, v_th_values, v_th_asked, v_th_first, v_th_behind, v_th_readBits, v_th_clauses, v_th_doing, v_th_numbers, v_th_planWord, v_th_addWord, v_th_delWord, v_th_fillWord, v_th_probes, v_th_links, v_th_looks, v_th_found, v_th_isOver])), (h_row, .inl (cyI, 1824, .inl row))] := hD
          refine lv_iload_n hx hb dX7_isBeginning_35 rfl (lv_at hl 2 rfl) ?_
          refine lv_icmp_ne (tgt := 43) hx hb dX7_isBeginning_36 (by decide) (fun c_18 => ?_) (fun c_18 => ?_)
          · have h := og_ite_f c_18 h
            refine lv_iconst (v := 0) hx hb dX7_isBeginning_43 (by decide) ?_
            obtain rfl := Option.some.inj h
            exact J _ _ _ hP hD hS (lv_sub hl [0, 1, 2, 4] rfl)
          · have h := og_ite_t c_18 h
            refine lv_iconst (v := 1) hx hb dX7_isBeginning_39 (by decide) ?_
            refine lv_goto (tgt := 44) hx hb dX7_isBeginning_40 (by decide) ?_
            obtain rfl := Option.some.inj h
            exact J _ _ _ hP hD hS (lv_sub hl [0, 1, 2, 4] rfl)
  exact LL _ (0 : Int32) (0 : Int32) _ _ _ hw_21 hP hD hS (lv_sub hl [2, 3, 4, 1, 0] rfl)

def lpX7_seek_19 (q1 : Int32) (row : (Nat → Int32)) : Nat → Int32 → Int32 → Int32 → Option (Int32 × Int32 × Int32)
  | 0, _, _, _ => none
  | n + 1, m2, m3, zprobes => if m3 ≤ m2 then (some (m2, m3, zprobes)) else (obd (fX7_beginning row q1 (((m2 + m3) + (1 : Int32)) / (2 : Int32))) fun u_5 => obd (fX7_isBeginning row (((m2 + m3) + (1 : Int32)) / (2 : Int32)) u_5) fun u_7 => olet (if u_7 = 0 then (m2) else ((((m2 + m3) + (1 : Int32)) / (2 : Int32)))) fun y_10 => olet (if u_7 = 0 then (((((m2 + m3) + (1 : Int32)) / (2 : Int32)) - (1 : Int32))) else (m3)) fun y_12 => lpX7_seek_19 q1 row n y_10 y_12 (zprobes + (1 : Int32)))

def lpX7_seek_147 (q1 : Int32) (q5 : Int32) (row : (Nat → Int32)) : Nat → Int32 → Int32 → Int32 → Option (Int32 × Int32 × Int32)
  | 0, _, _, _ => none
  | n + 1, m2, m3, zlooks => if m3 ≤ m2 then (some (m2, m3, zlooks)) else (oin (((6 : Int32) + q5) + ((m2 + m3) / (2 : Int32))) 1824 (olet (if q1 ≤ (row (((6 : Int32) + q5) + ((m2 + m3) / (2 : Int32))).toNatClampNeg) then ((0 : Int32)) else ((1 : Int32))) fun y_39 => olet (if y_39 = 0 then (m2) else ((((m2 + m3) / (2 : Int32)) + (1 : Int32)))) fun y_41 => olet (if y_39 = 0 then (((m2 + m3) / (2 : Int32))) else (m3)) fun y_43 => lpX7_seek_147 q1 q5 row n y_41 y_43 (zlooks + (1 : Int32))))

def fX7_seek (probes : Int32) (links : Int32) (looks : Int32) (found : Int32) (row : (Nat → Int32)) (x0 : Int32) : Option (Int32 × Int32 × Int32 × Int32) := oin (0 : Int32) 1824 (obd (lpX7_seek_19 x0 row 100000 (0 : Int32) (row (0 : Int32).toNatClampNeg) (0 : Int32)) fun w_23 => oin (0 : Int32) 1824 (obd (if (row (0 : Int32).toNatClampNeg) ≤ w_23.1 then (some (0 : Int32)) else (obd (fX7_beginning row x0 (w_23.1 + (1 : Int32))) fun u_55 => some (u_55 &&& (1 : Int32)))) fun w_27 => obd (fX7_bucketOf row (0 : Int32) x0) fun u_28 => obd (fX7_aheadOf row (0 : Int32) u_28) fun u_30 => obd (fX7_keysIn row (0 : Int32) u_28) fun u_32 => obd (lpX7_seek_147 x0 u_30 row 100000 (0 : Int32) u_32 (0 : Int32)) fun w_53 => some (w_23.2.2, w_27, w_53.2.2, w_23.1)))

set_option maxHeartbeats 4000000 in
set_option maxRecDepth 100000 in
theorem tX7_seek (l : Launch) (dC : Nat → ClassId) (dI : Nat → Nat → Nat) (cyI cyJ cyZ cyO : ClassId) (sz : Nat) (h_th h_row : Nat) (v_th_undos : Value) (v_th_isKept : Value) (v_th_text : Value) (v_th_length : Value) (v_th_sizes : Value) (v_th_values : Value) (v_th_asked : Value) (v_th_first : Value) (v_th_behind : Value) (v_th_readBits : Value) (v_th_clauses : Value) (v_th_doing : Value) (v_th_numbers : Value) (v_th_planWord : Value) (v_th_addWord : Value) (v_th_delWord : Value) (v_th_fillWord : Value) (v_th_isOver : Value) (probes : Int32) (links : Int32) (looks : Int32) (found : Int32) (row : (Nat → Int32)) (x0 : Int32) (u : Int32 × Int32 × Int32 × Int32) (hf : fX7_seek probes links looks found row x0 = some u) : Met l yX7_seek wsX7_seek ({ frames := 3, cells := 0, slots := 0, locals := 67 }) (va_Pc [.ref h_th, .int x0] (GP (dC, dI) (T4 cyI cyJ cyZ cyO) sz [(h_th, .inr (7, [.ref h_row, v_th_undos, v_th_isKept, v_th_text, v_th_length, v_th_sizes, v_th_values, v_th_asked, v_th_first, v_th_behind, v_th_readBits, v_th_clauses, v_th_doing, v_th_numbers, v_th_planWord, v_th_addWord, v_th_delWord, v_th_fillWord, .int probes, .int links, .int looks, .int found, v_th_isOver])), (h_row, .inl (cyI, 1824, .inl row))])) (va_Qv (fun (_ : Unit) => True) (GB (dC, dI) [(h_th, .inr (7, [.ref h_row, v_th_undos, v_th_isKept, v_th_text, v_th_length, v_th_sizes, v_th_values, v_th_asked, v_th_first, v_th_behind, v_th_readBits, v_th_clauses, v_th_doing, v_th_numbers, v_th_planWord, v_th_addWord, v_th_delWord, v_th_fillWord, .int u.1, .int u.2.1, .int u.2.2.1, .int u.2.2.2, v_th_isOver])), (h_row, .inl (cyI, 1824, .inl row))] (va_A [(h_th, .inr (7, [.ref h_row, v_th_undos, v_th_isKept, v_th_text, v_th_length, v_th_sizes, v_th_values, v_th_asked, v_th_first, v_th_behind, v_th_readBits, v_th_clauses, v_th_doing, v_th_numbers, v_th_planWord, v_th_addWord, v_th_delWord, v_th_fillWord, .int probes, .int links, .int looks, .int found, v_th_isOver])), (h_row, .inl (cyI, 1824, .inl row))] sz)) (va_A [(h_th, .inr (7, [.ref h_row, v_th_undos, v_th_isKept, v_th_text, v_th_length, v_th_sizes, v_th_values, v_th_asked, v_th_first, v_th_behind, v_th_readBits, v_th_clauses, v_th_doing, v_th_numbers, v_th_planWord, v_th_addWord, v_th_delWord, v_th_fillWord, .int probes, .int links, .int looks, .int found, v_th_isOver])), (h_row, .inl (cyI, 1824, .inl row))] sz)) 0 0 (va_A [(h_th, .inr (7, [.ref h_row, v_th_undos, v_th_isKept, v_th_text, v_th_length, v_th_sizes, v_th_values, v_th_asked, v_th_first, v_th_behind, v_th_readBits, v_th_clauses, v_th_doing, v_th_numbers, v_th_planWord, v_th_addWord, v_th_delWord, v_th_fillWord, .int probes, .int links, .int looks, .int found, v_th_isOver])), (h_row, .inl (cyI, 1824, .inl row))] sz) := by
  refine GMetV (by decide) rfl (Nat.le_of_ble_eq_true rfl) ?_
  intro p e s m args below meth c A Q ls hx hb hml hts hown hN hK hA hret hP hD hS hl
  have h := hf
  clear hf
  unfold fX7_seek at h
  have hown : s.vm.findClass RX7 = some m.cls := hown
  have hl : lv_has ls 8 [(0, .ref h_th), (1, .int x0)] := hl
  refine lv_iconst (v := 0) hx hb dX7_seek_0 (by decide) ?_
  refine lv_istore_n (lv' := [(2, .int (0 : Int32)), (0, .ref h_th), (1, .int x0)]) hx hb dX7_seek_1 rfl hl (by decide) rfl (fun ls hl => ?_)
  refine lv_aload_n hx hb dX7_seek_2 rfl (lv_at hl 1 rfl) ?_
  refine va_get (D := (dC, dI)) (ci := 7) (v := .ref h_row) (C := RX7) (T := TX7) (N := 23) hx hb hts (fun _ hw => List.mem_cons_of_mem _ (List.mem_append_right _ hw)) hown hK hP 0 rfl rfl 0 (by decide) (hts (.fieldLink RX7 7 "PrefixIndexModel" "row" "[I") (List.mem_of_getElem? (i := 1) rfl)) (fun _ h9 => h9) rfl dX7_seek_3 ?_
  refine lv_iconst (v := 0) hx hb dX7_seek_6 (by decide) ?_
  obtain ⟨hi_1, h⟩ := oin_e h
  refine va_iald hx hb hK hP 1 0 rfl rfl hi_1 dX7_seek_7 ?_
  refine lv_istore_n (lv' := [(3, .int (row (0 : Int32).toNatClampNeg)), (2, .int (0 : Int32)), (0, .ref h_th), (1, .int x0)]) hx hb dX7_seek_8 rfl hl (by decide) rfl (fun ls hl => ?_)
  refine lv_aload_n hx hb dX7_seek_9 rfl (lv_at hl 2 rfl) ?_
  refine lv_iconst (v := 0) hx hb dX7_seek_10 (by decide) ?_
  refine va_put (D := (dC, dI)) (ci := 7) (v := .int (0 : Int32)) (ty := .int) (C := RX7) (T := TX7) (N := 23) hx hb hts (fun _ hw => List.mem_cons_of_mem _ (List.mem_append_right _ hw)) tyX7 tyX7_ok nmX7 hown hK hP hD hS 0 rfl rfl 18 (by decide) (hts (.fieldLink RX7 166 "PrefixIndexModel" "probes" "I") (List.mem_of_getElem? (i := 2) rfl)) (fun _ h9 => h9) rfl (by decide +kernel) rfl rfl (Nat.le_of_ble_eq_true rfl) dX7_seek_11 (fun H locs hP hD hS => ?_)
  have hP : va_P (dC, dI) vwCl [(h_th, .inr (7, [.ref h_row, v_th_undos, v_th_isKept, v_th_text, v_th_length, v_th_sizes, v_th_values, v_th_asked, v_th_first, v_th_behind, v_th_readBits, v_th_clauses, v_th_doing, v_th_numbers, v_th_planWord, v_th_addWord, v_th_delWord, v_th_fillWord, .int (0 : Int32), .int links, .int looks, .int found, v_th_isOver])), (h_row, .inl (cyI, 1824, .inl row))] H := hP
  have hD : va_D A [(h_th, .inr (7, [.ref h_row, v_th_undos, v_th_isKept, v_th_text, v_th_length, v_th_sizes, v_th_values, v_th_asked, v_th_first, v_th_behind, v_th_readBits, v_th_clauses, v_th_doing, v_th_numbers, v_th_planWord, v_th_addWord, v_th_delWord, v_th_fillWord, .int (0 : Int32), .int links, .int looks, .int found, v_th_isOver])), (h_row, .inl (cyI, 1824, .inl row))] := hD
  refine lv_aload_n hx hb dX7_seek_14 rfl (lv_at hl 2 rfl) ?_
  refine lv_iconst (v := 0) hx hb dX7_seek_15 (by decide) ?_
  refine va_put (D := (dC, dI)) (ci := 7) (v := .int (0 : Int32)) (ty := .int) (C := RX7) (T := TX7) (N := 23) hx hb hts (fun _ hw => List.mem_cons_of_mem _ (List.mem_append_right _ hw)) tyX7 tyX7_ok nmX7 hown hK hP hD hS 0 rfl rfl 20 (by decide) (hts (.fieldLink RX7 169 "PrefixIndexModel" "looks" "I") (List.mem_of_getElem? (i := 3) rfl)) (fun _ h9 => h9) rfl (by decide +kernel) rfl rfl (Nat.le_of_ble_eq_true rfl) dX7_seek_16 (fun H locs hP hD hS => ?_)
  have hP : va_P (dC, dI) vwCl [(h_th, .inr (7, [.ref h_row, v_th_undos, v_th_isKept, v_th_text, v_th_length, v_th_sizes, v_th_values, v_th_asked, v_th_first, v_th_behind, v_th_readBits, v_th_clauses, v_th_doing, v_th_numbers, v_th_planWord, v_th_addWord, v_th_delWord, v_th_fillWord, .int (0 : Int32), .int links, .int (0 : Int32), .int found, v_th_isOver])), (h_row, .inl (cyI, 1824, .inl row))] H := hP
  have hD : va_D A [(h_th, .inr (7, [.ref h_row, v_th_undos, v_th_isKept, v_th_text, v_th_length, v_th_sizes, v_th_values, v_th_asked, v_th_first, v_th_behind, v_th_readBits, v_th_clauses, v_th_doing, v_th_numbers, v_th_planWord, v_th_addWord, v_th_delWord, v_th_fillWord, .int (0 : Int32), .int links, .int (0 : Int32), .int found, v_th_isOver])), (h_row, .inl (cyI, 1824, .inl row))] := hD
  obtain ⟨w_23, hw_24, h⟩ := obd_e h
  have J : ∀ (H : Heap) (locs : List Loc) (ls : Array Slot), va_P (dC, dI) vwCl [(h_th, .inr (7, [.ref h_row, v_th_undos, v_th_isKept, v_th_text, v_th_length, v_th_sizes, v_th_values, v_th_asked, v_th_first, v_th_behind, v_th_readBits, v_th_clauses, v_th_doing, v_th_numbers, v_th_planWord, v_th_addWord, v_th_delWord, v_th_fillWord, .int w_23.2.2, .int links, .int (0 : Int32), .int found, v_th_isOver])), (h_row, .inl (cyI, 1824, .inl row))] H → va_D A [(h_th, .inr (7, [.ref h_row, v_th_undos, v_th_isKept, v_th_text, v_th_length, v_th_sizes, v_th_values, v_th_asked, v_th_first, v_th_behind, v_th_readBits, v_th_clauses, v_th_doing, v_th_numbers, v_th_planWord, v_th_addWord, v_th_delWord, v_th_fillWord, .int w_23.2.2, .int links, .int (0 : Int32), .int found, v_th_isOver])), (h_row, .inl (cyI, 1824, .inl row))] → va_S A s.heap H locs → lv_has ls 8 [(0, .ref h_th), (1, .int x0), (2, .int w_23.1)] → W p l e ({ frames := 3, cells := 0, slots := 0, locals := 67 }) s m args below meth c H locs 0 0 Q (F0 m 87 ls []) := by
    intro H locs ls hP hD hS hl
    refine lv_aload_n hx hb dX7_seek_87 rfl (lv_at hl 0 rfl) ?_
    refine lv_iload_n hx hb dX7_seek_88 rfl (lv_at hl 2 rfl) ?_
    refine va_put (D := (dC, dI)) (ci := 7) (v := .int w_23.1) (ty := .int) (C := RX7) (T := TX7) (N := 23) hx hb hts (fun _ hw => List.mem_cons_of_mem _ (List.mem_append_right _ hw)) tyX7 tyX7_ok nmX7 hown hK hP hD hS 0 rfl rfl 21 (by decide) (hts (.fieldLink RX7 175 "PrefixIndexModel" "found" "I") (List.mem_of_getElem? (i := 4) rfl)) (fun _ h9 => h9) rfl (by decide +kernel) rfl rfl (Nat.le_of_ble_eq_true rfl) dX7_seek_89 (fun H locs hP hD hS => ?_)
    have hP : va_P (dC, dI) vwCl [(h_th, .inr (7, [.ref h_row, v_th_undos, v_th_isKept, v_th_text, v_th_length, v_th_sizes, v_th_values, v_th_asked, v_th_first, v_th_behind, v_th_readBits, v_th_clauses, v_th_doing, v_th_numbers, v_th_planWord, v_th_addWord, v_th_delWord, v_th_fillWord, .int w_23.2.2, .int links, .int (0 : Int32), .int w_23.1, v_th_isOver])), (h_row, .inl (cyI, 1824, .inl row))] H := hP
    have hD : va_D A [(h_th, .inr (7, [.ref h_row, v_th_undos, v_th_isKept, v_th_text, v_th_length, v_th_sizes, v_th_values, v_th_asked, v_th_first, v_th_behind, v_th_readBits, v_th_clauses, v_th_doing, v_th_numbers, v_th_planWord, v_th_addWord, v_th_delWord, v_th_fillWord, .int w_23.2.2, .int links, .int (0 : Int32), .int w_23.1, v_th_isOver])), (h_row, .inl (cyI, 1824, .inl row))] := hD
    refine lv_aload_n hx hb dX7_seek_92 rfl (lv_at hl 0 rfl) ?_
    refine lv_iload_n hx hb dX7_seek_93 rfl (lv_at hl 2 rfl) ?_
    refine lv_aload_n hx hb dX7_seek_94 rfl (lv_at hl 0 rfl) ?_
    refine va_get (D := (dC, dI)) (ci := 7) (v := .ref h_row) (C := RX7) (T := TX7) (N := 23) hx hb hts (fun _ hw => List.mem_cons_of_mem _ (List.mem_append_right _ hw)) hown hK hP 0 rfl rfl 0 (by decide) (hts (.fieldLink RX7 7 "PrefixIndexModel" "row" "[I") (List.mem_of_getElem? (i := 1) rfl)) (fun _ h9 => h9) rfl dX7_seek_95 ?_
    refine lv_iconst (v := 0) hx hb dX7_seek_98 (by decide) ?_
    obtain ⟨hi_25, h⟩ := oin_e h
    refine va_iald hx hb hK hP 1 0 rfl rfl hi_25 dX7_seek_99 ?_
    obtain ⟨w_27, hm_57, h⟩ := obd_e h
    have J : ∀ (H : Heap) (locs : List Loc) (ls : Array Slot), va_P (dC, dI) vwCl [(h_th, .inr (7, [.ref h_row, v_th_undos, v_th_isKept, v_th_text, v_th_length, v_th_sizes, v_th_values, v_th_asked, v_th_first, v_th_behind, v_th_readBits, v_th_clauses, v_th_doing, v_th_numbers, v_th_planWord, v_th_addWord, v_th_delWord, v_th_fillWord, .int w_23.2.2, .int links, .int (0 : Int32), .int w_23.1, v_th_isOver])), (h_row, .inl (cyI, 1824, .inl row))] H → va_D A [(h_th, .inr (7, [.ref h_row, v_th_undos, v_th_isKept, v_th_text, v_th_length, v_th_sizes, v_th_values, v_th_asked, v_th_first, v_th_behind, v_th_readBits, v_th_clauses, v_th_doing, v_th_numbers, v_th_planWord, v_th_addWord, v_th_delWord, v_th_fillWord, .int w_23.2.2, .int links, .int (0 : Int32), .int w_23.1, v_th_isOver])), (h_row, .inl (cyI, 1824, .inl row))] → va_S A s.heap H locs → lv_has ls 8 [(0, .ref h_th), (1, .int x0)] → W p l e ({ frames := 3, cells := 0, slots := 0, locals := 67 }) s m args below meth c H locs 0 0 Q (F0 m 117 ls [.int w_27, .ref h_th]) := by
      intro H locs ls hP hD hS hl
      refine va_put (D := (dC, dI)) (ci := 7) (v := .int w_27) (ty := .int) (C := RX7) (T := TX7) (N := 23) hx hb hts (fun _ hw => List.mem_cons_of_mem _ (List.mem_append_right _ hw)) tyX7 tyX7_ok nmX7 hown hK hP hD hS 0 rfl rfl 19 (by decide) (hts (.fieldLink RX7 178 "PrefixIndexModel" "links" "I") (List.mem_of_getElem? (i := 5) rfl)) (fun _ h9 => h9) rfl (by decide +kernel) rfl rfl (Nat.le_of_ble_eq_true rfl) dX7_seek_117 (fun H locs hP hD hS => ?_)
      have hP : va_P (dC, dI) vwCl [(h_th, .inr (7, [.ref h_row, v_th_undos, v_th_isKept, v_th_text, v_th_length, v_th_sizes, v_th_values, v_th_asked, v_th_first, v_th_behind, v_th_readBits, v_th_clauses, v_th_doing, v_th_numbers, v_th_planWord, v_th_addWord, v_th_delWord, v_th_fillWord, .int w_23.2.2, .int w_27, .int (0 : Int32), .int w_23.1, v_th_isOver])), (h_row, .inl (cyI, 1824, .inl row))] H := hP
      have hD : va_D A [(h_th, .inr (7, [.ref h_row, v_th_undos, v_th_isKept, v_th_text, v_th_length, v_th_sizes, v_th_values, v_th_asked, v_th_first, v_th_behind, v_th_readBits, v_th_clauses, v_th_doing, v_th_numbers, v_th_planWord, v_th_addWord, v_th_delWord, v_th_fillWord, .int w_23.2.2, .int w_27, .int (0 : Int32), .int w_23.1, v_th_isOver])), (h_row, .inl (cyI, 1824, .inl row))] := hD
      refine lv_aload_n hx hb dX7_seek_120 rfl (lv_at hl 0 rfl) ?_
      refine lv_iconst (v := 0) hx hb dX7_seek_121 (by decide) ?_
      refine lv_iload_n hx hb dX7_seek_122 rfl (lv_at hl 1 rfl) ?_
      obtain ⟨u_28, hc_29, h⟩ := obd_e h
      refine Gci (wr := []) (va_runV (As := [.int (0 : Int32), .int x0]) (rest := []) ⟨hx, hb, hml, hown, hts⟩ (tX7_bucketOf l dC dI cyI cyJ cyZ cyO H.size h_th h_row v_th_undos v_th_isKept v_th_text v_th_length v_th_sizes v_th_values v_th_asked v_th_first v_th_behind v_th_readBits v_th_clauses v_th_doing v_th_numbers v_th_planWord v_th_addWord v_th_delWord v_th_fillWord (.int w_23.2.2) (.int w_27) (.int (0 : Int32)) (.int w_23.1) v_th_isOver row (0 : Int32) x0 u_28 hc_29) (cwV 2 hts gX7_seek_X7_bucketOf rfl rfl rfl (by decide +kernel) ⟨Nat.le_of_ble_eq_true rfl, Nat.le_of_ble_eq_true rfl⟩) (GpreV hP hD hK hN [0, 1] rfl (by decide) 7 0 rfl rfl rfl) rfl rfl hl.1 rfl (lv_room (Nat.le_of_ble_eq_true rfl)) dX7_seek_123 ⟨Nat.zero_le _, Nat.zero_le _⟩) hP hD hS hA [0, 1] [] rfl rfl (by decide) (by decide) (fun H locs hP hD hS => ?_)
      have hP : va_P (dC, dI) vwCl [(h_th, .inr (7, [.ref h_row, v_th_undos, v_th_isKept, v_th_text, v_th_length, v_th_sizes, v_th_values, v_th_asked, v_th_first, v_th_behind, v_th_readBits, v_th_clauses, v_th_doing, v_th_numbers, v_th_planWord, v_th_addWord, v_th_delWord, v_th_fillWord, .int w_23.2.2, .int w_27, .int (0 : Int32), .int w_23.1, v_th_isOver])), (h_row, .inl (cyI, 1824, .inl row))] H := hP
      have hD : va_D A [(h_th, .inr (7, [.ref h_row, v_th_undos, v_th_isKept, v_th_text, v_th_length, v_th_sizes, v_th_values, v_th_asked, v_th_first, v_th_behind, v_th_readBits, v_th_clauses, v_th_doing, v_th_numbers, v_th_planWord, v_th_addWord, v_th_delWord, v_th_fillWord, .int w_23.2.2, .int w_27, .int (0 : Int32), .int w_23.1, v_th_isOver])), (h_row, .inl (cyI, 1824, .inl row))] := hD
      refine lv_istore (lv' := [(4, .int u_28), (0, .ref h_th), (1, .int x0)]) hx hb dX7_seek_126 hl (by decide) rfl (fun ls hl => ?_)
      refine lv_aload_n hx hb dX7_seek_128 rfl (lv_at hl 1 rfl) ?_
      refine lv_iconst (v := 0) hx hb dX7_seek_129 (by decide) ?_
      refine lv_iload hx hb dX7_seek_130 (lv_at hl 0 rfl) ?_
      obtain ⟨u_30, hc_31, h⟩ := obd_e h
      refine Gci (wr := []) (va_runV (As := [.int (0 : Int32), .int u_28]) (rest := []) ⟨hx, hb, hml, hown, hts⟩ (tX7_aheadOf l dC dI cyI cyJ cyZ cyO H.size h_th h_row v_th_undos v_th_isKept v_th_text v_th_length v_th_sizes v_th_values v_th_asked v_th_first v_th_behind v_th_readBits v_th_clauses v_th_doing v_th_numbers v_th_planWord v_th_addWord v_th_delWord v_th_fillWord (.int w_23.2.2) (.int w_27) (.int (0 : Int32)) (.int w_23.1) v_th_isOver row (0 : Int32) u_28 u_30 hc_31) (cwV 2 hts gX7_seek_X7_aheadOf rfl rfl rfl (by decide +kernel) ⟨Nat.le_of_ble_eq_true rfl, Nat.le_of_ble_eq_true rfl⟩) (GpreV hP hD hK hN [0, 1] rfl (by decide) 7 0 rfl rfl rfl) rfl rfl hl.1 rfl (lv_room (Nat.le_of_ble_eq_true rfl)) dX7_seek_132 ⟨Nat.zero_le _, Nat.zero_le _⟩) hP hD hS hA [0, 1] [] rfl rfl (by decide) (by decide) (fun H locs hP hD hS => ?_)
      have hP : va_P (dC, dI) vwCl [(h_th, .inr (7, [.ref h_row, v_th_undos, v_th_isKept, v_th_text, v_th_length, v_th_sizes, v_th_values, v_th_asked, v_th_first, v_th_behind, v_th_readBits, v_th_clauses, v_th_doing, v_th_numbers, v_th_planWord, v_th_addWord, v_th_delWord, v_th_fillWord, .int w_23.2.2, .int w_27, .int (0 : Int32), .int w_23.1, v_th_isOver])), (h_row, .inl (cyI, 1824, .inl row))] H := hP
      have hD : va_D A [(h_th, .inr (7, [.ref h_row, v_th_undos, v_th_isKept, v_th_text, v_th_length, v_th_sizes, v_th_values, v_th_asked, v_th_first, v_th_behind, v_th_readBits, v_th_clauses, v_th_doing, v_th_numbers, v_th_planWord, v_th_addWord, v_th_delWord, v_th_fillWord, .int w_23.2.2, .int w_27, .int (0 : Int32), .int w_23.1, v_th_isOver])), (h_row, .inl (cyI, 1824, .inl row))] := hD
      refine lv_istore (lv' := [(5, .int u_30), (4, .int u_28), (0, .ref h_th), (1, .int x0)]) hx hb dX7_seek_135 hl (by decide) rfl (fun ls hl => ?_)
      refine lv_iconst (v := 0) hx hb dX7_seek_137 (by decide) ?_
      refine lv_istore_n (lv' := [(2, .int (0 : Int32)), (5, .int u_30), (4, .int u_28), (0, .ref h_th), (1, .int x0)]) hx hb dX7_seek_138 rfl hl (by decide) rfl (fun ls hl => ?_)
      refine lv_aload_n hx hb dX7_seek_139 rfl (lv_at hl 3 rfl) ?_
      refine lv_iconst (v := 0) hx hb dX7_seek_140 (by decide) ?_
      refine lv_iload hx hb dX7_seek_141 (lv_at hl 2 rfl) ?_
      obtain ⟨u_32, hc_33, h⟩ := obd_e h
      refine Gci (wr := []) (va_runV (As := [.int (0 : Int32), .int u_28]) (rest := []) ⟨hx, hb, hml, hown, hts⟩ (tX7_keysIn l dC dI cyI cyJ cyZ cyO H.size h_th h_row v_th_undos v_th_isKept v_th_text v_th_length v_th_sizes v_th_values v_th_asked v_th_first v_th_behind v_th_readBits v_th_clauses v_th_doing v_th_numbers v_th_planWord v_th_addWord v_th_delWord v_th_fillWord (.int w_23.2.2) (.int w_27) (.int (0 : Int32)) (.int w_23.1) v_th_isOver row (0 : Int32) u_28 u_32 hc_33) (cwV 2 hts gX7_seek_X7_keysIn rfl rfl rfl (by decide +kernel) ⟨Nat.le_of_ble_eq_true rfl, Nat.le_of_ble_eq_true rfl⟩) (GpreV hP hD hK hN [0, 1] rfl (by decide) 7 0 rfl rfl rfl) rfl rfl hl.1 rfl (lv_room (Nat.le_of_ble_eq_true rfl)) dX7_seek_143 ⟨Nat.zero_le _, Nat.zero_le _⟩) hP hD hS hA [0, 1] [] rfl rfl (by decide) (by decide) (fun H locs hP hD hS => ?_)
      have hP : va_P (dC, dI) vwCl [(h_th, .inr (7, [.ref h_row, v_th_undos, v_th_isKept, v_th_text, v_th_length, v_th_sizes, v_th_values, v_th_asked, v_th_first, v_th_behind, v_th_readBits, v_th_clauses, v_th_doing, v_th_numbers, v_th_planWord, v_th_addWord, v_th_delWord, v_th_fillWord, .int w_23.2.2, .int w_27, .int (0 : Int32), .int w_23.1, v_th_isOver])), (h_row, .inl (cyI, 1824, .inl row))] H := hP
      have hD : va_D A [(h_th, .inr (7, [.ref h_row, v_th_undos, v_th_isKept, v_th_text, v_th_length, v_th_sizes, v_th_values, v_th_asked, v_th_first, v_th_behind, v_th_readBits, v_th_clauses, v_th_doing, v_th_numbers, v_th_planWord, v_th_addWord, v_th_delWord, v_th_fillWord, .int w_23.2.2, .int w_27, .int (0 : Int32), .int w_23.1, v_th_isOver])), (h_row, .inl (cyI, 1824, .inl row))] := hD
      refine lv_istore_n (lv' := [(3, .int u_32), (2, .int (0 : Int32)), (5, .int u_30), (4, .int u_28), (0, .ref h_th), (1, .int x0)]) hx hb dX7_seek_146 rfl hl (by decide) rfl (fun ls hl => ?_)
      obtain ⟨w_53, hw_54, h⟩ := obd_e h
      have J : ∀ (H : Heap) (locs : List Loc) (ls : Array Slot), va_P (dC, dI) vwCl [(h_th, .inr (7, [.ref h_row, v_th_undos, v_th_isKept, v_th_text, v_th_length, v_th_sizes, v_th_values, v_th_asked, v_th_first, v_th_behind, v_th_readBits, v_th_clauses, v_th_doing, v_th_numbers, v_th_planWord, v_th_addWord, v_th_delWord, v_th_fillWord, .int w_23.2.2, .int w_27, .int w_53.2.2, .int w_23.1, v_th_isOver])), (h_row, .inl (cyI, 1824, .inl row))] H → va_D A [(h_th, .inr (7, [.ref h_row, v_th_undos, v_th_isKept, v_th_text, v_th_length, v_th_sizes, v_th_values, v_th_asked, v_th_first, v_th_behind, v_th_readBits, v_th_clauses, v_th_doing, v_th_numbers, v_th_planWord, v_th_addWord, v_th_delWord, v_th_fillWord, .int w_23.2.2, .int w_27, .int w_53.2.2, .int w_23.1, v_th_isOver])), (h_row, .inl (cyI, 1824, .inl row))] → va_S A s.heap H locs → lv_has ls 8 [] → W p l e ({ frames := 3, cells := 0, slots := 0, locals := 67 }) s m args below meth c H locs 0 0 Q (F0 m 222 ls []) := by
        intro H locs ls hP hD hS hl
        obtain rfl := Option.some.inj h
        exact hret _ _ _ _ dX7_seek_222 hP hD hS
      have LL : ∀ (n : Nat) (m2 : Int32) (m3 : Int32) (zlooks : Int32) (H : Heap) (locs : List Loc) (ls : Array Slot), lpX7_seek_147 x0 u_30 row n m2 m3 zlooks = some w_53 → va_P (dC, dI) vwCl [(h_th, .inr (7, [.ref h_row, v_th_undos, v_th_isKept, v_th_text, v_th_length, v_th_sizes, v_th_values, v_th_asked, v_th_first, v_th_behind, v_th_readBits, v_th_clauses, v_th_doing, v_th_numbers, v_th_planWord, v_th_addWord, v_th_delWord, v_th_fillWord, .int w_23.2.2, .int w_27, .int zlooks, .int w_23.1, v_th_isOver])), (h_row, .inl (cyI, 1824, .inl row))] H → va_D A [(h_th, .inr (7, [.ref h_row, v_th_undos, v_th_isKept, v_th_text, v_th_length, v_th_sizes, v_th_values, v_th_asked, v_th_first, v_th_behind, v_th_readBits, v_th_clauses, v_th_doing, v_th_numbers, v_th_planWord, v_th_addWord, v_th_delWord, v_th_fillWord, .int w_23.2.2, .int w_27, .int zlooks, .int w_23.1, v_th_isOver])), (h_row, .inl (cyI, 1824, .inl row))] → va_S A s.heap H locs → lv_has ls 8 [(0, .ref h_th), (1, .int x0), (2, .int m2), (3, .int m3), (5, .int u_30)] → W p l e ({ frames := 3, cells := 0, slots := 0, locals := 67 }) s m args below meth c H locs 0 0 Q (F0 m 147 ls []) := by
        intro n
        induction n with
        | zero =>
          intro m2 m3 zlooks H locs ls h
          exact absurd h (by rw [lpX7_seek_147]; exact fun q => by cases q)
        | succ n ih =>
          intro m2 m3 zlooks H locs ls h hP hD hS hl
          rw [lpX7_seek_147] at h
          refine lv_iload_n hx hb dX7_seek_147 rfl (lv_at hl 2 rfl) ?_
          refine lv_iload_n hx hb dX7_seek_148 rfl (lv_at hl 3 rfl) ?_
          refine lv_icmp_ge (tgt := 222) hx hb dX7_seek_149 (by decide) (fun c_44 => ?_) (fun c_44 => ?_)
          · have h := og_ite_t c_44 h
            obtain rfl := Option.some.inj h
            exact J _ _ _ hP hD hS (lv_sub hl [] rfl)
          · have h := og_ite_f c_44 h
            refine lv_iload_n hx hb dX7_seek_152 rfl (lv_at hl 2 rfl) ?_
            refine lv_iload_n hx hb dX7_seek_153 rfl (lv_at hl 3 rfl) ?_
            refine lv_iadd hx hb dX7_seek_154 ?_
            refine lv_iconst (v := 2) hx hb dX7_seek_155 (by decide) ?_
            refine lv_idiv hx hb dX7_seek_156 (by decide) ?_
            refine lv_istore (lv' := [(6, .int ((m2 + m3) / (2 : Int32))), (0, .ref h_th), (1, .int x0), (2, .int m2), (3, .int m3), (5, .int u_30)]) hx hb dX7_seek_157 hl (by decide) rfl (fun ls hl => ?_)
            refine lv_aload_n hx hb dX7_seek_159 rfl (lv_at hl 1 rfl) ?_
            refine va_get (D := (dC, dI)) (ci := 7) (v := .ref h_row) (C := RX7) (T := TX7) (N := 23) hx hb hts (fun _ hw => List.mem_cons_of_mem _ (List.mem_append_right _ hw)) hown hK hP 0 rfl rfl 0 (by decide) (hts (.fieldLink RX7 7 "PrefixIndexModel" "row" "[I") (List.mem_of_getElem? (i := 1) rfl)) (fun _ h9 => h9) rfl dX7_seek_160 ?_
            refine lv_bipush (v := 6) hx hb dX7_seek_163 (by decide) ?_
            refine lv_iload hx hb dX7_seek_165 (lv_at hl 5 rfl) ?_
            refine lv_iadd hx hb dX7_seek_167 ?_
            refine lv_iload hx hb dX7_seek_168 (lv_at hl 0 rfl) ?_
            refine lv_iadd hx hb dX7_seek_170 ?_
            obtain ⟨hi_46, h⟩ := oin_e h
            refine va_iald hx hb hK hP 1 0 rfl rfl hi_46 dX7_seek_171 ?_
            refine lv_iload_n hx hb dX7_seek_172 rfl (lv_at hl 2 rfl) ?_
            obtain ⟨y_48, ey_48, h⟩ := olet_e h
            have J : ∀ (H : Heap) (locs : List Loc) (ls : Array Slot), va_P (dC, dI) vwCl [(h_th, .inr (7, [.ref h_row, v_th_undos, v_th_isKept, v_th_text, v_th_length, v_th_sizes, v_th_values, v_th_asked, v_th_first, v_th_behind, v_th_readBits, v_th_clauses, v_th_doing, v_th_numbers, v_th_planWord, v_th_addWord, v_th_delWord, v_th_fillWord, .int w_23.2.2, .int w_27, .int zlooks, .int w_23.1, v_th_isOver])), (h_row, .inl (cyI, 1824, .inl row))] H → va_D A [(h_th, .inr (7, [.ref h_row, v_th_undos, v_th_isKept, v_th_text, v_th_length, v_th_sizes, v_th_values, v_th_asked, v_th_first, v_th_behind, v_th_readBits, v_th_clauses, v_th_doing, v_th_numbers, v_th_planWord, v_th_addWord, v_th_delWord, v_th_fillWord, .int w_23.2.2, .int w_27, .int zlooks, .int w_23.1, v_th_isOver])), (h_row, .inl (cyI, 1824, .inl row))] → va_S A s.heap H locs → lv_has ls 8 [(0, .ref h_th), (1, .int x0), (2, .int m2), (3, .int m3), (5, .int u_30), (6, .int ((m2 + m3) / (2 : Int32)))] → W p l e ({ frames := 3, cells := 0, slots := 0, locals := 67 }) s m args below meth c H locs 0 0 Q (F0 m 181 ls [.int y_48]) := by
              intro H locs ls hP hD hS hl
              refine lv_istore (lv' := [(7, .int y_48), (0, .ref h_th), (1, .int x0), (2, .int m2), (3, .int m3), (5, .int u_30), (6, .int ((m2 + m3) / (2 : Int32)))]) hx hb dX7_seek_181 hl (by decide) rfl (fun ls hl => ?_)
              refine lv_iload hx hb dX7_seek_183 (lv_at hl 0 rfl) ?_
              obtain ⟨y_50, ey_50, h⟩ := olet_e h
              have J : ∀ (H : Heap) (locs : List Loc) (ls : Array Slot), va_P (dC, dI) vwCl [(h_th, .inr (7, [.ref h_row, v_th_undos, v_th_isKept, v_th_text, v_th_length, v_th_sizes, v_th_values, v_th_asked, v_th_first, v_th_behind, v_th_readBits, v_th_clauses, v_th_doing, v_th_numbers, v_th_planWord, v_th_addWord, v_th_delWord, v_th_fillWord, .int w_23.2.2, .int w_27, .int zlooks, .int w_23.1, v_th_isOver])), (h_row, .inl (cyI, 1824, .inl row))] H → va_D A [(h_th, .inr (7, [.ref h_row, v_th_undos, v_th_isKept, v_th_text, v_th_length, v_th_sizes, v_th_values, v_th_asked, v_th_first, v_th_behind, v_th_readBits, v_th_clauses, v_th_doing, v_th_numbers, v_th_planWord, v_th_addWord, v_th_delWord, v_th_fillWord, .int w_23.2.2, .int w_27, .int zlooks, .int w_23.1, v_th_isOver])), (h_row, .inl (cyI, 1824, .inl row))] → va_S A s.heap H locs → lv_has ls 8 [(0, .ref h_th), (1, .int x0), (3, .int m3), (5, .int u_30), (6, .int ((m2 + m3) / (2 : Int32))), (7, .int y_48)] → W p l e ({ frames := 3, cells := 0, slots := 0, locals := 67 }) s m args below meth c H locs 0 0 Q (F0 m 196 ls [.int y_50]) := by
                intro H locs ls hP hD hS hl
                refine lv_istore_n (lv' := [(2, .int y_50), (0, .ref h_th), (1, .int x0), (3, .int m3), (5, .int u_30), (6, .int ((m2 + m3) / (2 : Int32))), (7, .int y_48)]) hx hb dX7_seek_196 rfl hl (by decide) rfl (fun ls hl => ?_)
                refine lv_iload hx hb dX7_seek_197 (lv_at hl 6 rfl) ?_
                obtain ⟨y_52, ey_52, h⟩ := olet_e h
                have J : ∀ (H : Heap) (locs : List Loc) (ls : Array Slot), va_P (dC, dI) vwCl [(h_th, .inr (7, [.ref h_row, v_th_undos, v_th_isKept, v_th_text, v_th_length, v_th_sizes, v_th_values, v_th_asked, v_th_first, v_th_behind, v_th_readBits, v_th_clauses, v_th_doing, v_th_numbers, v_th_planWord, v_th_addWord, v_th_delWord, v_th_fillWord, .int w_23.2.2, .int w_27, .int zlooks, .int w_23.1, v_th_isOver])), (h_row, .inl (cyI, 1824, .inl row))] H → va_D A [(h_th, .inr (7, [.ref h_row, v_th_undos, v_th_isKept, v_th_text, v_th_length, v_th_sizes, v_th_values, v_th_asked, v_th_first, v_th_behind, v_th_readBits, v_th_clauses, v_th_doing, v_th_numbers, v_th_planWord, v_th_addWord, v_th_delWord, v_th_fillWord, .int w_23.2.2, .int w_27, .int zlooks, .int w_23.1, v_th_isOver])), (h_row, .inl (cyI, 1824, .inl row))] → va_S A s.heap H locs → lv_has ls 8 [(0, .ref h_th), (1, .int x0), (2, .int y_50), (5, .int u_30)] → W p l e ({ frames := 3, cells := 0, slots := 0, locals := 67 }) s m args below meth c H locs 0 0 Q (F0 m 208 ls [.int y_52]) := by
                  intro H locs ls hP hD hS hl
                  refine lv_istore_n (lv' := [(3, .int y_52), (0, .ref h_th), (1, .int x0), (2, .int y_50), (5, .int u_30)]) hx hb dX7_seek_208 rfl hl (by decide) rfl (fun ls hl => ?_)
                  refine lv_aload_n hx hb dX7_seek_209 rfl (lv_at hl 1 rfl) ?_
                  refine lv_dup hx hb dX7_seek_210 rfl ?_
                  refine va_get (D := (dC, dI)) (ci := 7) (v := .int zlooks) (C := RX7) (T := TX7) (N := 23) hx hb hts (fun _ hw => List.mem_cons_of_mem _ (List.mem_append_right _ hw)) hown hK hP 0 rfl rfl 20 (by decide) (hts (.fieldLink RX7 169 "PrefixIndexModel" "looks" "I") (List.mem_of_getElem? (i := 3) rfl)) (fun _ h9 => h9) rfl dX7_seek_211 ?_
                  refine lv_iconst (v := 1) hx hb dX7_seek_214 (by decide) ?_
                  refine lv_iadd hx hb dX7_seek_215 ?_
                  refine va_put (D := (dC, dI)) (ci := 7) (v := .int (zlooks + (1 : Int32))) (ty := .int) (C := RX7) (T := TX7) (N := 23) hx hb hts (fun _ hw => List.mem_cons_of_mem _ (List.mem_append_right _ hw)) tyX7 tyX7_ok nmX7 hown hK hP hD hS 0 rfl rfl 20 (by decide) (hts (.fieldLink RX7 169 "PrefixIndexModel" "looks" "I") (List.mem_of_getElem? (i := 3) rfl)) (fun _ h9 => h9) rfl (by decide +kernel) rfl rfl (Nat.le_of_ble_eq_true rfl) dX7_seek_216 (fun H locs hP hD hS => ?_)
                  have hP : va_P (dC, dI) vwCl [(h_th, .inr (7, [.ref h_row, v_th_undos, v_th_isKept, v_th_text, v_th_length, v_th_sizes, v_th_values, v_th_asked, v_th_first, v_th_behind, v_th_readBits, v_th_clauses, v_th_doing, v_th_numbers, v_th_planWord, v_th_addWord, v_th_delWord, v_th_fillWord, .int w_23.2.2, .int w_27, .int (zlooks + (1 : Int32)), .int w_23.1, v_th_isOver])), (h_row, .inl (cyI, 1824, .inl row))] H := hP
                  have hD : va_D A [(h_th, .inr (7, [.ref h_row, v_th_undos, v_th_isKept, v_th_text, v_th_length, v_th_sizes, v_th_values, v_th_asked, v_th_first, v_th_behind, v_th_readBits, v_th_clauses, v_th_doing, v_th_numbers, v_th_planWord, v_th_addWord, v_th_delWord, v_th_fillWord, .int w_23.2.2, .int w_27, .int (zlooks + (1 : Int32)), .int w_23.1, v_th_isOver])), (h_row, .inl (cyI, 1824, .inl row))] := hD
                  refine lv_goto (tgt := 147) hx hb dX7_seek_219 (by decide) ?_
                  exact ih y_50 y_52 (zlooks + (1 : Int32)) _ _ _ h hP hD hS (lv_sub hl [1, 2, 3, 0, 4] rfl)
                clear h
                refine lv_if_eq (tgt := 206) hx hb dX7_seek_199 (by decide) (fun c_51 => ?_) (fun c_51 => ?_)
                · refine lv_iload hx hb dX7_seek_206 (lv_at hl 5 rfl) ?_
                  rw [if_pos c_51] at ey_52
                  subst ey_52
                  exact J H locs _ hP hD hS (lv_sub hl [1, 2, 0, 4] rfl)
                · refine lv_iload_n hx hb dX7_seek_202 rfl (lv_at hl 3 rfl) ?_
                  refine lv_goto (tgt := 208) hx hb dX7_seek_203 (by decide) ?_
                  rw [if_neg c_51] at ey_52
                  subst ey_52
                  exact J H locs _ hP hD hS (lv_sub hl [1, 2, 0, 4] rfl)
              clear h
              refine lv_if_eq (tgt := 195) hx hb dX7_seek_185 (by decide) (fun c_49 => ?_) (fun c_49 => ?_)
              · refine lv_iload_n hx hb dX7_seek_195 rfl (lv_at hl 3 rfl) ?_
                rw [if_pos c_49] at ey_50
                subst ey_50
                exact J H locs _ hP hD hS (lv_sub hl [1, 2, 4, 5, 6, 0] rfl)
              · refine lv_iload hx hb dX7_seek_188 (lv_at hl 6 rfl) ?_
                refine lv_iconst (v := 1) hx hb dX7_seek_190 (by decide) ?_
                refine lv_iadd hx hb dX7_seek_191 ?_
                refine lv_goto (tgt := 196) hx hb dX7_seek_192 (by decide) ?_
                rw [if_neg c_49] at ey_50
                subst ey_50
                exact J H locs _ hP hD hS (lv_sub hl [1, 2, 4, 5, 6, 0] rfl)
            clear h
            refine lv_icmp_ge (tgt := 180) hx hb dX7_seek_173 (by decide) (fun c_47 => ?_) (fun c_47 => ?_)
            · refine lv_iconst (v := 0) hx hb dX7_seek_180 (by decide) ?_
              rw [if_pos c_47] at ey_48
              subst ey_48
              exact J H locs _ hP hD hS (lv_sub hl [1, 2, 3, 4, 5, 0] rfl)
            · refine lv_iconst (v := 1) hx hb dX7_seek_176 (by decide) ?_
              refine lv_goto (tgt := 181) hx hb dX7_seek_177 (by decide) ?_
              rw [if_neg c_47] at ey_48
              subst ey_48
              exact J H locs _ hP hD hS (lv_sub hl [1, 2, 3, 4, 5, 0] rfl)
      exact LL _ (0 : Int32) u_32 (0 : Int32) _ _ _ hw_54 hP hD hS (lv_sub hl [4, 5, 1, 0, 2] rfl)
    replace h := hm_57
    refine lv_icmp_ge (tgt := 116) hx hb dX7_seek_100 (by decide) (fun c_26 => ?_) (fun c_26 => ?_)
    · have h := og_ite_t c_26 h
      refine lv_iconst (v := 0) hx hb dX7_seek_116 (by decide) ?_
      obtain rfl := Option.some.inj h
      exact J _ _ _ hP hD hS (lv_sub hl [0, 1] rfl)
    · have h := og_ite_f c_26 h
      refine lv_aload_n hx hb dX7_seek_103 rfl (lv_at hl 0 rfl) ?_
      refine lv_iload_n hx hb dX7_seek_104 rfl (lv_at hl 1 rfl) ?_
      refine lv_iload_n hx hb dX7_seek_105 rfl (lv_at hl 2 rfl) ?_
      refine lv_iconst (v := 1) hx hb dX7_seek_106 (by decide) ?_
      refine lv_iadd hx hb dX7_seek_107 ?_
      obtain ⟨u_55, hc_56, h⟩ := obd_e h
      refine Gci (wr := []) (va_runV (As := [.int x0, .int (w_23.1 + (1 : Int32))]) (rest := [.ref h_th]) ⟨hx, hb, hml, hown, hts⟩ (tX7_beginning l dC dI cyI cyJ cyZ cyO H.size h_th h_row v_th_undos v_th_isKept v_th_text v_th_length v_th_sizes v_th_values v_th_asked v_th_first v_th_behind v_th_readBits v_th_clauses v_th_doing v_th_numbers v_th_planWord v_th_addWord v_th_delWord v_th_fillWord (.int w_23.2.2) (.int links) (.int (0 : Int32)) (.int w_23.1) v_th_isOver row x0 (w_23.1 + (1 : Int32)) u_55 hc_56) (cwV 2 hts gX7_seek_X7_beginning rfl rfl rfl (by decide +kernel) ⟨Nat.le_of_ble_eq_true rfl, Nat.le_of_ble_eq_true rfl⟩) (GpreV hP hD hK hN [0, 1] rfl (by decide) 7 0 rfl rfl rfl) rfl rfl hl.1 rfl (lv_room (Nat.le_of_ble_eq_true rfl)) dX7_seek_108 ⟨Nat.zero_le _, Nat.zero_le _⟩) hP hD hS hA [0, 1] [] rfl rfl (by decide) (by decide) (fun H locs hP hD hS => ?_)
      have hP : va_P (dC, dI) vwCl [(h_th, .inr (7, [.ref h_row, v_th_undos, v_th_isKept, v_th_text, v_th_length, v_th_sizes, v_th_values, v_th_asked, v_th_first, v_th_behind, v_th_readBits, v_th_clauses, v_th_doing, v_th_numbers, v_th_planWord, v_th_addWord, v_th_delWord, v_th_fillWord, .int w_23.2.2, .int links, .int (0 : Int32), .int w_23.1, v_th_isOver])), (h_row, .inl (cyI, 1824, .inl row))] H := hP
      have hD : va_D A [(h_th, .inr (7, [.ref h_row, v_th_undos, v_th_isKept, v_th_text, v_th_length, v_th_sizes, v_th_values, v_th_asked, v_th_first, v_th_behind, v_th_readBits, v_th_clauses, v_th_doing, v_th_numbers, v_th_planWord, v_th_addWord, v_th_delWord, v_th_fillWord, .int w_23.2.2, .int links, .int (0 : Int32), .int w_23.1, v_th_isOver])), (h_row, .inl (cyI, 1824, .inl row))] := hD
      refine lv_iconst (v := 1) hx hb dX7_seek_111 (by decide) ?_
      refine lv_iand hx hb dX7_seek_112 ?_
      refine lv_goto (tgt := 117) hx hb dX7_seek_113 (by decide) ?_
      obtain rfl := Option.some.inj h
      exact J _ _ _ hP hD hS (lv_sub hl [0, 1] rfl)
  have LL : ∀ (n : Nat) (m2 : Int32) (m3 : Int32) (zprobes : Int32) (H : Heap) (locs : List Loc) (ls : Array Slot), lpX7_seek_19 x0 row n m2 m3 zprobes = some w_23 → va_P (dC, dI) vwCl [(h_th, .inr (7, [.ref h_row, v_th_undos, v_th_isKept, v_th_text, v_th_length, v_th_sizes, v_th_values, v_th_asked, v_th_first, v_th_behind, v_th_readBits, v_th_clauses, v_th_doing, v_th_numbers, v_th_planWord, v_th_addWord, v_th_delWord, v_th_fillWord, .int zprobes, .int links, .int (0 : Int32), .int found, v_th_isOver])), (h_row, .inl (cyI, 1824, .inl row))] H → va_D A [(h_th, .inr (7, [.ref h_row, v_th_undos, v_th_isKept, v_th_text, v_th_length, v_th_sizes, v_th_values, v_th_asked, v_th_first, v_th_behind, v_th_readBits, v_th_clauses, v_th_doing, v_th_numbers, v_th_planWord, v_th_addWord, v_th_delWord, v_th_fillWord, .int zprobes, .int links, .int (0 : Int32), .int found, v_th_isOver])), (h_row, .inl (cyI, 1824, .inl row))] → va_S A s.heap H locs → lv_has ls 8 [(0, .ref h_th), (1, .int x0), (2, .int m2), (3, .int m3)] → W p l e ({ frames := 3, cells := 0, slots := 0, locals := 67 }) s m args below meth c H locs 0 0 Q (F0 m 19 ls []) := by
    intro n
    induction n with
    | zero =>
      intro m2 m3 zprobes H locs ls h
      exact absurd h (by rw [lpX7_seek_19]; exact fun q => by cases q)
    | succ n ih =>
      intro m2 m3 zprobes H locs ls h hP hD hS hl
      rw [lpX7_seek_19] at h
      refine lv_iload_n hx hb dX7_seek_19 rfl (lv_at hl 2 rfl) ?_
      refine lv_iload_n hx hb dX7_seek_20 rfl (lv_at hl 3 rfl) ?_
      refine lv_icmp_ge (tgt := 87) hx hb dX7_seek_21 (by decide) (fun c_13 => ?_) (fun c_13 => ?_)
      · have h := og_ite_t c_13 h
        obtain rfl := Option.some.inj h
        exact J _ _ _ hP hD hS (lv_sub hl [0, 1, 2] rfl)
      · have h := og_ite_f c_13 h
        refine lv_iload_n hx hb dX7_seek_24 rfl (lv_at hl 2 rfl) ?_
        refine lv_iload_n hx hb dX7_seek_25 rfl (lv_at hl 3 rfl) ?_
        refine lv_iadd hx hb dX7_seek_26 ?_
        refine lv_iconst (v := 1) hx hb dX7_seek_27 (by decide) ?_
        refine lv_iadd hx hb dX7_seek_28 ?_
        refine lv_iconst (v := 2) hx hb dX7_seek_29 (by decide) ?_
        refine lv_idiv hx hb dX7_seek_30 (by decide) ?_
        refine lv_istore (lv' := [(4, .int (((m2 + m3) + (1 : Int32)) / (2 : Int32))), (0, .ref h_th), (1, .int x0), (2, .int m2), (3, .int m3)]) hx hb dX7_seek_31 hl (by decide) rfl (fun ls hl => ?_)
        refine lv_aload_n hx hb dX7_seek_33 rfl (lv_at hl 1 rfl) ?_
        refine lv_iload hx hb dX7_seek_34 (lv_at hl 0 rfl) ?_
        refine lv_aload_n hx hb dX7_seek_36 rfl (lv_at hl 1 rfl) ?_
        refine lv_iload_n hx hb dX7_seek_37 rfl (lv_at hl 2 rfl) ?_
        refine lv_iload hx hb dX7_seek_38 (lv_at hl 0 rfl) ?_
        obtain ⟨u_15, hc_16, h⟩ := obd_e h
        refine Gci (wr := []) (va_runV (As := [.int x0, .int (((m2 + m3) + (1 : Int32)) / (2 : Int32))]) (rest := [.int (((m2 + m3) + (1 : Int32)) / (2 : Int32)), .ref h_th]) ⟨hx, hb, hml, hown, hts⟩ (tX7_beginning l dC dI cyI cyJ cyZ cyO H.size h_th h_row v_th_undos v_th_isKept v_th_text v_th_length v_th_sizes v_th_values v_th_asked v_th_first v_th_behind v_th_readBits v_th_clauses v_th_doing v_th_numbers v_th_planWord v_th_addWord v_th_delWord v_th_fillWord (.int zprobes) (.int links) (.int (0 : Int32)) (.int found) v_th_isOver row x0 (((m2 + m3) + (1 : Int32)) / (2 : Int32)) u_15 hc_16) (cwV 2 hts gX7_seek_X7_beginning rfl rfl rfl (by decide +kernel) ⟨Nat.le_of_ble_eq_true rfl, Nat.le_of_ble_eq_true rfl⟩) (GpreV hP hD hK hN [0, 1] rfl (by decide) 7 0 rfl rfl rfl) rfl rfl hl.1 rfl (lv_room (Nat.le_of_ble_eq_true rfl)) dX7_seek_40 ⟨Nat.zero_le _, Nat.zero_le _⟩) hP hD hS hA [0, 1] [] rfl rfl (by decide) (by decide) (fun H locs hP hD hS => ?_)
        have hP : va_P (dC, dI) vwCl [(h_th, .inr (7, [.ref h_row, v_th_undos, v_th_isKept, v_th_text, v_th_length, v_th_sizes, v_th_values, v_th_asked, v_th_first, v_th_behind, v_th_readBits, v_th_clauses, v_th_doing, v_th_numbers, v_th_planWord, v_th_addWord, v_th_delWord, v_th_fillWord, .int zprobes, .int links, .int (0 : Int32), .int found, v_th_isOver])), (h_row, .inl (cyI, 1824, .inl row))] H := hP
        have hD : va_D A [(h_th, .inr (7, [.ref h_row, v_th_undos, v_th_isKept, v_th_text, v_th_length, v_th_sizes, v_th_values, v_th_asked, v_th_first, v_th_behind, v_th_readBits, v_th_clauses, v_th_doing, v_th_numbers, v_th_planWord, v_th_addWord, v_th_delWord, v_th_fillWord, .int zprobes, .int links, .int (0 : Int32), .int found, v_th_isOver])), (h_row, .inl (cyI, 1824, .inl row))] := hD
        obtain ⟨u_17, hc_18, h⟩ := obd_e h
        refine Gci (wr := []) (va_runV (As := [.int (((m2 + m3) + (1 : Int32)) / (2 : Int32)), .int u_15]) (rest := []) ⟨hx, hb, hml, hown, hts⟩ (tX7_isBeginning l dC dI cyI cyJ cyZ cyO H.size h_th h_row v_th_undos v_th_isKept v_th_text v_th_length v_th_sizes v_th_values v_th_asked v_th_first v_th_behind v_th_readBits v_th_clauses v_th_doing v_th_numbers v_th_planWord v_th_addWord v_th_delWord v_th_fillWord (.int zprobes) (.int links) (.int (0 : Int32)) (.int found) v_th_isOver row (((m2 + m3) + (1 : Int32)) / (2 : Int32)) u_15 u_17 hc_18) (cwV 2 hts gX7_seek_X7_isBeginning rfl rfl rfl (by decide +kernel) ⟨Nat.le_of_ble_eq_true rfl, Nat.le_of_ble_eq_true rfl⟩) (GpreV hP hD hK hN [0, 1] rfl (by decide) 7 0 rfl rfl rfl) rfl rfl hl.1 rfl (lv_room (Nat.le_of_ble_eq_true rfl)) dX7_seek_43 ⟨Nat.zero_le _, Nat.zero_le _⟩) hP hD hS hA [0, 1] [] rfl rfl (by decide) (by decide) (fun H locs hP hD hS => ?_)
        have hP : va_P (dC, dI) vwCl [(h_th, .inr (7, [.ref h_row, v_th_undos, v_th_isKept, v_th_text, v_th_length, v_th_sizes, v_th_values, v_th_asked, v_th_first, v_th_behind, v_th_readBits, v_th_clauses, v_th_doing, v_th_numbers, v_th_planWord, v_th_addWord, v_th_delWord, v_th_fillWord, .int zprobes, .int links, .int (0 : Int32), .int found, v_th_isOver])), (h_row, .inl (cyI, 1824, .inl row))] H := hP
        have hD : va_D A [(h_th, .inr (7, [.ref h_row, v_th_undos, v_th_isKept, v_th_text, v_th_length, v_th_sizes, v_th_values, v_th_asked, v_th_first, v_th_behind, v_th_readBits, v_th_clauses, v_th_doing, v_th_numbers, v_th_planWord, v_th_addWord, v_th_delWord, v_th_fillWord, .int zprobes, .int links, .int (0 : Int32), .int found, v_th_isOver])), (h_row, .inl (cyI, 1824, .inl row))] := hD
        refine lv_istore (lv' := [(5, .int u_17), (4, .int (((m2 + m3) + (1 : Int32)) / (2 : Int32))), (0, .ref h_th), (1, .int x0), (2, .int m2), (3, .int m3)]) hx hb dX7_seek_46 hl (by decide) rfl (fun ls hl => ?_)
        refine lv_iload hx hb dX7_seek_48 (lv_at hl 0 rfl) ?_
        obtain ⟨y_20, ey_20, h⟩ := olet_e h
        have J : ∀ (H : Heap) (locs : List Loc) (ls : Array Slot), va_P (dC, dI) vwCl [(h_th, .inr (7, [.ref h_row, v_th_undos, v_th_isKept, v_th_text, v_th_length, v_th_sizes, v_th_values, v_th_asked, v_th_first, v_th_behind, v_th_readBits, v_th_clauses, v_th_doing, v_th_numbers, v_th_planWord, v_th_addWord, v_th_delWord, v_th_fillWord, .int zprobes, .int links, .int (0 : Int32), .int found, v_th_isOver])), (h_row, .inl (cyI, 1824, .inl row))] H → va_D A [(h_th, .inr (7, [.ref h_row, v_th_undos, v_th_isKept, v_th_text, v_th_length, v_th_sizes, v_th_values, v_th_asked, v_th_first, v_th_behind, v_th_readBits, v_th_clauses, v_th_doing, v_th_numbers, v_th_planWord, v_th_addWord, v_th_delWord, v_th_fillWord, .int zprobes, .int links, .int (0 : Int32), .int found, v_th_isOver])), (h_row, .inl (cyI, 1824, .inl row))] → va_S A s.heap H locs → lv_has ls 8 [(0, .ref h_th), (1, .int x0), (3, .int m3), (4, .int (((m2 + m3) + (1 : Int32)) / (2 : Int32))), (5, .int u_17)] → W p l e ({ frames := 3, cells := 0, slots := 0, locals := 67 }) s m args below meth c H locs 0 0 Q (F0 m 59 ls [.int y_20]) := by
          intro H locs ls hP hD hS hl
          refine lv_istore_n (lv' := [(2, .int y_20), (0, .ref h_th), (1, .int x0), (3, .int m3), (4, .int (((m2 + m3) + (1 : Int32)) / (2 : Int32))), (5, .int u_17)]) hx hb dX7_seek_59 rfl hl (by decide) rfl (fun ls hl => ?_)
          refine lv_iload hx hb dX7_seek_60 (lv_at hl 5 rfl) ?_
          obtain ⟨y_22, ey_22, h⟩ := olet_e h
          have J : ∀ (H : Heap) (locs : List Loc) (ls : Array Slot), va_P (dC, dI) vwCl [(h_th, .inr (7, [.ref h_row, v_th_undos, v_th_isKept, v_th_text, v_th_length, v_th_sizes, v_th_values, v_th_asked, v_th_first, v_th_behind, v_th_readBits, v_th_clauses, v_th_doing, v_th_numbers, v_th_planWord, v_th_addWord, v_th_delWord, v_th_fillWord, .int zprobes, .int links, .int (0 : Int32), .int found, v_th_isOver])), (h_row, .inl (cyI, 1824, .inl row))] H → va_D A [(h_th, .inr (7, [.ref h_row, v_th_undos, v_th_isKept, v_th_text, v_th_length, v_th_sizes, v_th_values, v_th_asked, v_th_first, v_th_behind, v_th_readBits, v_th_clauses, v_th_doing, v_th_numbers, v_th_planWord, v_th_addWord, v_th_delWord, v_th_fillWord, .int zprobes, .int links, .int (0 : Int32), .int found, v_th_isOver])), (h_row, .inl (cyI, 1824, .inl row))] → va_S A s.heap H locs → lv_has ls 8 [(0, .ref h_th), (1, .int x0), (2, .int y_20)] → W p l e ({ frames := 3, cells := 0, slots := 0, locals := 67 }) s m args below meth c H locs 0 0 Q (F0 m 73 ls [.int y_22]) := by
            intro H locs ls hP hD hS hl
            refine lv_istore_n (lv' := [(3, .int y_22), (0, .ref h_th), (1, .int x0), (2, .int y_20)]) hx hb dX7_seek_73 rfl hl (by decide) rfl (fun ls hl => ?_)
            refine lv_aload_n hx hb dX7_seek_74 rfl (lv_at hl 1 rfl) ?_
            refine lv_dup hx hb dX7_seek_75 rfl ?_
            refine va_get (D := (dC, dI)) (ci := 7) (v := .int zprobes) (C := RX7) (T := TX7) (N := 23) hx hb hts (fun _ hw => List.mem_cons_of_mem _ (List.mem_append_right _ hw)) hown hK hP 0 rfl rfl 18 (by decide) (hts (.fieldLink RX7 166 "PrefixIndexModel" "probes" "I") (List.mem_of_getElem? (i := 2) rfl)) (fun _ h9 => h9) rfl dX7_seek_76 ?_
            refine lv_iconst (v := 1) hx hb dX7_seek_79 (by decide) ?_
            refine lv_iadd hx hb dX7_seek_80 ?_
            refine va_put (D := (dC, dI)) (ci := 7) (v := .int (zprobes + (1 : Int32))) (ty := .int) (C := RX7) (T := TX7) (N := 23) hx hb hts (fun _ hw => List.mem_cons_of_mem _ (List.mem_append_right _ hw)) tyX7 tyX7_ok nmX7 hown hK hP hD hS 0 rfl rfl 18 (by decide) (hts (.fieldLink RX7 166 "PrefixIndexModel" "probes" "I") (List.mem_of_getElem? (i := 2) rfl)) (fun _ h9 => h9) rfl (by decide +kernel) rfl rfl (Nat.le_of_ble_eq_true rfl) dX7_seek_81 (fun H locs hP hD hS => ?_)
            have hP : va_P (dC, dI) vwCl [(h_th, .inr (7, [.ref h_row, v_th_undos, v_th_isKept, v_th_text, v_th_length, v_th_sizes, v_th_values, v_th_asked, v_th_first, v_th_behind, v_th_readBits, v_th_clauses, v_th_doing, v_th_numbers, v_th_planWord, v_th_addWord, v_th_delWord, v_th_fillWord, .int (zprobes + (1 : Int32)), .int links, .int (0 : Int32), .int found, v_th_isOver])), (h_row, .inl (cyI, 1824, .inl row))] H := hP
            have hD : va_D A [(h_th, .inr (7, [.ref h_row, v_th_undos, v_th_isKept, v_th_text, v_th_length, v_th_sizes, v_th_values, v_th_asked, v_th_first, v_th_behind, v_th_readBits, v_th_clauses, v_th_doing, v_th_numbers, v_th_planWord, v_th_addWord, v_th_delWord, v_th_fillWord, .int (zprobes + (1 : Int32)), .int links, .int (0 : Int32), .int found, v_th_isOver])), (h_row, .inl (cyI, 1824, .inl row))] := hD
            refine lv_goto (tgt := 19) hx hb dX7_seek_84 (by decide) ?_
            exact ih y_20 y_22 (zprobes + (1 : Int32)) _ _ _ h hP hD hS (lv_sub hl [1, 2, 3, 0] rfl)
          clear h
          refine lv_if_eq (tgt := 69) hx hb dX7_seek_62 (by decide) (fun c_21 => ?_) (fun c_21 => ?_)
          · refine lv_iload hx hb dX7_seek_69 (lv_at hl 4 rfl) ?_
            refine lv_iconst (v := 1) hx hb dX7_seek_71 (by decide) ?_
            refine lv_isub hx hb dX7_seek_72 ?_
            rw [if_pos c_21] at ey_22
            subst ey_22
            exact J H locs _ hP hD hS (lv_sub hl [1, 2, 0] rfl)
          · refine lv_iload_n hx hb dX7_seek_65 rfl (lv_at hl 3 rfl) ?_
            refine lv_goto (tgt := 73) hx hb dX7_seek_66 (by decide) ?_
            rw [if_neg c_21] at ey_22
            subst ey_22
            exact J H locs _ hP hD hS (lv_sub hl [1, 2, 0] rfl)
        clear h
        refine lv_if_eq (tgt := 58) hx hb dX7_seek_50 (by decide) (fun c_19 => ?_) (fun c_19 => ?_)
        · refine lv_iload_n hx hb dX7_seek_58 rfl (lv_at hl 4 rfl) ?_
          rw [if_pos c_19] at ey_20
          subst ey_20
          exact J H locs _ hP hD hS (lv_sub hl [2, 3, 5, 1, 0] rfl)
        · refine lv_iload hx hb dX7_seek_53 (lv_at hl 1 rfl) ?_
          refine lv_goto (tgt := 59) hx hb dX7_seek_55 (by decide) ?_
          rw [if_neg c_19] at ey_20
          subst ey_20
          exact J H locs _ hP hD hS (lv_sub hl [2, 3, 5, 1, 0] rfl)
  exact LL _ (0 : Int32) (row (0 : Int32).toNatClampNeg) (0 : Int32) _ _ _ hw_24 hP hD hS (lv_sub hl [2, 3, 1, 0] rfl)

def fX7_search (probes : Int32) (links : Int32) (looks : Int32) (found : Int32) (row : (Nat → Int32)) (x0 : Int32) (x1 : Int32) : Option (Int32 × Int32 × Int32 × Int32 × Int32) := obd (fX7_isNumber row x0) fun u_1 => if u_1 = 0 then (some ((-3 : Int32), probes, links, looks, found)) else (obd (fX7_in x1.toInt64 (0 : Int64) (4 : Int64)) fun u_4 => if u_4 = 0 then (some ((-3 : Int32), probes, links, looks, found)) else (obd (fX7_seek probes links looks found row x0) fun u_7 => obd (if x1 = 0 then (some u_7.1) else (if x1 = (1 : Int32) then (some u_7.2.1) else (if x1 = (2 : Int32) then (some u_7.2.2.1) else (if x1 = (3 : Int32) then (some u_7.2.2.2) else (obd (fX7_bucketOf row (0 : Int32) x0) fun u_14 => some u_14))))) fun w_10 => some (w_10, u_7.1, u_7.2.1, u_7.2.2.1, u_7.2.2.2)))

set_option maxHeartbeats 4000000 in
set_option maxRecDepth 100000 in
theorem tX7_search (l : Launch) (dC : Nat → ClassId) (dI : Nat → Nat → Nat) (cyI cyJ cyZ cyO : ClassId) (sz : Nat) (h_th h_row : Nat) (v_th_undos : Value) (v_th_isKept : Value) (v_th_text : Value) (v_th_length : Value) (v_th_sizes : Value) (v_th_values : Value) (v_th_asked : Value) (v_th_first : Value) (v_th_behind : Value) (v_th_readBits : Value) (v_th_clauses : Value) (v_th_doing : Value) (v_th_numbers : Value) (v_th_planWord : Value) (v_th_addWord : Value) (v_th_delWord : Value) (v_th_fillWord : Value) (v_th_isOver : Value) (probes : Int32) (links : Int32) (looks : Int32) (found : Int32) (row : (Nat → Int32)) (x0 : Int32) (x1 : Int32) (u : Int32 × Int32 × Int32 × Int32 × Int32) (hf : fX7_search probes links looks found row x0 x1 = some u) : Met l yX7_search wsX7_search ({ frames := 4, cells := 0, slots := 0, locals := 94 }) (va_Pc [.ref h_th, .int x0, .int x1] (GP (dC, dI) (T4 cyI cyJ cyZ cyO) sz [(h_th, .inr (7, [.ref h_row, v_th_undos, v_th_isKept, v_th_text, v_th_length, v_th_sizes, v_th_values, v_th_asked, v_th_first, v_th_behind, v_th_readBits, v_th_clauses, v_th_doing, v_th_numbers, v_th_planWord, v_th_addWord, v_th_delWord, v_th_fillWord, .int probes, .int links, .int looks, .int found, v_th_isOver])), (h_row, .inl (cyI, 1824, .inl row))])) (va_Qi (fun (r : Int32) (_ : Unit) => r = u.1) (GB (dC, dI) [(h_th, .inr (7, [.ref h_row, v_th_undos, v_th_isKept, v_th_text, v_th_length, v_th_sizes, v_th_values, v_th_asked, v_th_first, v_th_behind, v_th_readBits, v_th_clauses, v_th_doing, v_th_numbers, v_th_planWord, v_th_addWord, v_th_delWord, v_th_fillWord, .int u.2.1, .int u.2.2.1, .int u.2.2.2.1, .int u.2.2.2.2, v_th_isOver])), (h_row, .inl (cyI, 1824, .inl row))] (va_A [(h_th, .inr (7, [.ref h_row, v_th_undos, v_th_isKept, v_th_text, v_th_length, v_th_sizes, v_th_values, v_th_asked, v_th_first, v_th_behind, v_th_readBits, v_th_clauses, v_th_doing, v_th_numbers, v_th_planWord, v_th_addWord, v_th_delWord, v_th_fillWord, .int probes, .int links, .int looks, .int found, v_th_isOver])), (h_row, .inl (cyI, 1824, .inl row))] sz)) (va_A [(h_th, .inr (7, [.ref h_row, v_th_undos, v_th_isKept, v_th_text, v_th_length, v_th_sizes, v_th_values, v_th_asked, v_th_first, v_th_behind, v_th_readBits, v_th_clauses, v_th_doing, v_th_numbers, v_th_planWord, v_th_addWord, v_th_delWord, v_th_fillWord, .int probes, .int links, .int looks, .int found, v_th_isOver])), (h_row, .inl (cyI, 1824, .inl row))] sz)) 0 0 (va_A [(h_th, .inr (7, [.ref h_row, v_th_undos, v_th_isKept, v_th_text, v_th_length, v_th_sizes, v_th_values, v_th_asked, v_th_first, v_th_behind, v_th_readBits, v_th_clauses, v_th_doing, v_th_numbers, v_th_planWord, v_th_addWord, v_th_delWord, v_th_fillWord, .int probes, .int links, .int looks, .int found, v_th_isOver])), (h_row, .inl (cyI, 1824, .inl row))] sz) := by
  refine GMetI (by decide) rfl (Nat.le_of_ble_eq_true rfl) ?_
  intro p e s m args below meth c A Q ls hx hb hml hts hown hN hK hA hret hP hD hS hl
  have h := hf
  clear hf
  unfold fX7_search at h
  have hown : s.vm.findClass RX7 = some m.cls := hown
  have hl : lv_has ls 3 [(0, .ref h_th), (1, .int x0), (2, .int x1)] := hl
  refine lv_aload_n hx hb dX7_search_0 rfl (lv_at hl 0 rfl) ?_
  refine lv_iload_n hx hb dX7_search_1 rfl (lv_at hl 1 rfl) ?_
  obtain ⟨u_1, hc_2, h⟩ := obd_e h
  refine Gci (wr := []) (va_runV (As := [.int x0]) (rest := []) ⟨hx, hb, hml, hown, hts⟩ (tX7_isNumber l dC dI cyI cyJ cyZ cyO s.heap.size h_th h_row v_th_undos v_th_isKept v_th_text v_th_length v_th_sizes v_th_values v_th_asked v_th_first v_th_behind v_th_readBits v_th_clauses v_th_doing v_th_numbers v_th_planWord v_th_addWord v_th_delWord v_th_fillWord (.int probes) (.int links) (.int looks) (.int found) v_th_isOver row x0 u_1 hc_2) (cwV 1 hts gX7_search_X7_isNumber rfl rfl rfl (by decide +kernel) ⟨Nat.le_of_ble_eq_true rfl, Nat.le_of_ble_eq_true rfl⟩) (GpreV hP hD hK hN [0, 1] rfl (by decide) 7 0 rfl rfl rfl) rfl rfl hl.1 rfl (lv_room (Nat.le_of_ble_eq_true rfl)) dX7_search_2 ⟨Nat.zero_le _, Nat.zero_le _⟩) hP hD hS hA [0, 1] [] rfl rfl (by decide) (by decide) (fun H locs hP hD hS => ?_)
  have hP : va_P (dC, dI) vwCl [(h_th, .inr (7, [.ref h_row, v_th_undos, v_th_isKept, v_th_text, v_th_length, v_th_sizes, v_th_values, v_th_asked, v_th_first, v_th_behind, v_th_readBits, v_th_clauses, v_th_doing, v_th_numbers, v_th_planWord, v_th_addWord, v_th_delWord, v_th_fillWord, .int probes, .int links, .int looks, .int found, v_th_isOver])), (h_row, .inl (cyI, 1824, .inl row))] H := hP
  have hD : va_D A [(h_th, .inr (7, [.ref h_row, v_th_undos, v_th_isKept, v_th_text, v_th_length, v_th_sizes, v_th_values, v_th_asked, v_th_first, v_th_behind, v_th_readBits, v_th_clauses, v_th_doing, v_th_numbers, v_th_planWord, v_th_addWord, v_th_delWord, v_th_fillWord, .int probes, .int links, .int looks, .int found, v_th_isOver])), (h_row, .inl (cyI, 1824, .inl row))] := hD
  refine lv_if_eq (tgt := 20) hx hb dX7_search_5 (by decide) (fun c_3 => ?_) (fun c_3 => ?_)
  · have h := og_ite_t c_3 h
    refine lv_bipush (v := (-3)) hx hb dX7_search_20 (by decide) ?_
    obtain rfl := Option.some.inj h
    exact hret _ _ _ _ dX7_search_22 hP hD hS
  · have h := og_ite_f c_3 h
    refine lv_iload_n hx hb dX7_search_8 rfl (lv_at hl 2 rfl) ?_
    refine lv_i2l (v := x1.toInt64) hx hb dX7_search_9 rfl ?_
    refine lv_lconst (v := 0) hx hb dX7_search_10 (by decide) ?_
    refine lv_ldc2 hx hb hown (hts (.constantLong RX7 181 (4)) (List.mem_of_getElem? (i := 1) rfl)) dX7_search_11 ?_
    obtain ⟨u_4, hc_5, h⟩ := obd_e h
    refine Gci (wr := [(h_th, .inr (7, [.ref h_row, v_th_undos, v_th_isKept, v_th_text, v_th_length, v_th_sizes, v_th_values, v_th_asked, v_th_first, v_th_behind, v_th_readBits, v_th_clauses, v_th_doing, v_th_numbers, v_th_planWord, v_th_addWord, v_th_delWord, v_th_fillWord, .int probes, .int links, .int looks, .int found, v_th_isOver])), (h_row, .inl (cyI, 1824, .inl row))]) (va_runS (As := [.long x1.toInt64, .long (0 : Int64), .long (4 : Int64)]) (rest := []) ⟨hx, hb, hml, hown, hts⟩ (tX7_in l dC dI cyI cyJ cyZ cyO H.size x1.toInt64 (0 : Int64) (4 : Int64) u_4 hc_5) (cwS 3 hts gX7_search_X7_in rfl rfl rfl (by decide +kernel) ⟨Nat.le_of_ble_eq_true rfl, Nat.le_of_ble_eq_true rfl⟩) (GpreS hP hD hK hN [] rfl (by decide)) rfl rfl hl.1 rfl (lv_room (Nat.le_of_ble_eq_true rfl)) dX7_search_14 ⟨Nat.zero_le _, Nat.zero_le _⟩) hP hD hS hA [] [0, 1] rfl rfl (by decide) (by decide) (fun H locs hP hD hS => ?_)
    have hP : va_P (dC, dI) vwCl [(h_th, .inr (7, [.ref h_row, v_th_undos, v_th_isKept, v_th_text, v_th_length, v_th_sizes, v_th_values, v_th_asked, v_th_first, v_th_behind, v_th_readBits, v_th_clauses, v_th_doing, v_th_numbers, v_th_planWord, v_th_addWord, v_th_delWord, v_th_fillWord, .int probes, .int links, .int looks, .int found, v_th_isOver])), (h_row, .inl (cyI, 1824, .inl row))] H := hP
    have hD : va_D A [(h_th, .inr (7, [.ref h_row, v_th_undos, v_th_isKept, v_th_text, v_th_length, v_th_sizes, v_th_values, v_th_asked, v_th_first, v_th_behind, v_th_readBits, v_th_clauses, v_th_doing, v_th_numbers, v_th_planWord, v_th_addWord, v_th_delWord, v_th_fillWord, .int probes, .int links, .int looks, .int found, v_th_isOver])), (h_row, .inl (cyI, 1824, .inl row))] := hD
    refine lv_if_ne (tgt := 23) hx hb dX7_search_17 (by decide) (fun c_6 => ?_) (fun c_6 => ?_)
    · have h := og_ite_f c_6 h
      refine lv_aload_n hx hb dX7_search_23 rfl (lv_at hl 0 rfl) ?_
      refine lv_iload_n hx hb dX7_search_24 rfl (lv_at hl 1 rfl) ?_
      obtain ⟨u_7, hc_8, h⟩ := obd_e h
      refine Gcv (wr := []) (va_runV (As := [.int x0]) (rest := []) ⟨hx, hb, hml, hown, hts⟩ (tX7_seek l dC dI cyI cyJ cyZ cyO H.size h_th h_row v_th_undos v_th_isKept v_th_text v_th_length v_th_sizes v_th_values v_th_asked v_th_first v_th_behind v_th_readBits v_th_clauses v_th_doing v_th_numbers v_th_planWord v_th_addWord v_th_delWord v_th_fillWord v_th_isOver probes links looks found row x0 u_7 hc_8) (cwV 1 hts gX7_search_X7_seek rfl rfl rfl (by decide +kernel) ⟨Nat.le_of_ble_eq_true rfl, Nat.le_of_ble_eq_true rfl⟩) (GpreV hP hD hK hN [0, 1] rfl (by decide) 7 0 rfl rfl rfl) rfl rfl hl.1 rfl (lv_room (Nat.le_of_ble_eq_true rfl)) dX7_search_25 ⟨Nat.zero_le _, Nat.zero_le _⟩) hP hD hS hA [0, 1] [] rfl rfl (by decide) (by decide) (fun H locs hP hD hS => ?_)
      have hP : va_P (dC, dI) vwCl [(h_th, .inr (7, [.ref h_row, v_th_undos, v_th_isKept, v_th_text, v_th_length, v_th_sizes, v_th_values, v_th_asked, v_th_first, v_th_behind, v_th_readBits, v_th_clauses, v_th_doing, v_th_numbers, v_th_planWord, v_th_addWord, v_th_delWord, v_th_fillWord, .int u_7.1, .int u_7.2.1, .int u_7.2.2.1, .int u_7.2.2.2, v_th_isOver])), (h_row, .inl (cyI, 1824, .inl row))] H := hP
      have hD : va_D A [(h_th, .inr (7, [.ref h_row, v_th_undos, v_th_isKept, v_th_text, v_th_length, v_th_sizes, v_th_values, v_th_asked, v_th_first, v_th_behind, v_th_readBits, v_th_clauses, v_th_doing, v_th_numbers, v_th_planWord, v_th_addWord, v_th_delWord, v_th_fillWord, .int u_7.1, .int u_7.2.1, .int u_7.2.2.1, .int u_7.2.2.2, v_th_isOver])), (h_row, .inl (cyI, 1824, .inl row))] := hD
      refine lv_iload_n hx hb dX7_search_28 rfl (lv_at hl 2 rfl) ?_
      obtain ⟨w_10, hm_16, h⟩ := obd_e h
      have J : ∀ (H : Heap) (locs : List Loc) (ls : Array Slot), va_P (dC, dI) vwCl [(h_th, .inr (7, [.ref h_row, v_th_undos, v_th_isKept, v_th_text, v_th_length, v_th_sizes, v_th_values, v_th_asked, v_th_first, v_th_behind, v_th_readBits, v_th_clauses, v_th_doing, v_th_numbers, v_th_planWord, v_th_addWord, v_th_delWord, v_th_fillWord, .int u_7.1, .int u_7.2.1, .int u_7.2.2.1, .int u_7.2.2.2, v_th_isOver])), (h_row, .inl (cyI, 1824, .inl row))] H → va_D A [(h_th, .inr (7, [.ref h_row, v_th_undos, v_th_isKept, v_th_text, v_th_length, v_th_sizes, v_th_values, v_th_asked, v_th_first, v_th_behind, v_th_readBits, v_th_clauses, v_th_doing, v_th_numbers, v_th_planWord, v_th_addWord, v_th_delWord, v_th_fillWord, .int u_7.1, .int u_7.2.1, .int u_7.2.2.1, .int u_7.2.2.2, v_th_isOver])), (h_row, .inl (cyI, 1824, .inl row))] → va_S A s.heap H locs → lv_has ls 3 [] → W p l e ({ frames := 4, cells := 0, slots := 0, locals := 94 }) s m args below meth c H locs 0 0 Q (F0 m 81 ls [.int w_10]) := by
        intro H locs ls hP hD hS hl
        obtain rfl := Option.some.inj h
        exact hret _ _ _ _ dX7_search_81 hP hD hS
      replace h := hm_16
      refine lv_if_ne (tgt := 39) hx hb dX7_search_29 (by decide) (fun c_9 => ?_) (fun c_9 => ?_)
      · have h := og_ite_f c_9 h
        refine lv_iload_n hx hb dX7_search_39 rfl (lv_at hl 2 rfl) ?_
        refine lv_iconst (v := 1) hx hb dX7_search_40 (by decide) ?_
        refine lv_icmp_ne (tgt := 51) hx hb dX7_search_41 (by decide) (fun c_11 => ?_) (fun c_11 => ?_)
        · have h := og_ite_f c_11 h
          refine lv_iload_n hx hb dX7_search_51 rfl (lv_at hl 2 rfl) ?_
          refine lv_iconst (v := 2) hx hb dX7_search_52 (by decide) ?_
          refine lv_icmp_ne (tgt := 63) hx hb dX7_search_53 (by decide) (fun c_12 => ?_) (fun c_12 => ?_)
          · have h := og_ite_f c_12 h
            refine lv_iload_n hx hb dX7_search_63 rfl (lv_at hl 2 rfl) ?_
            refine lv_iconst (v := 3) hx hb dX7_search_64 (by decide) ?_
            refine lv_icmp_ne (tgt := 75) hx hb dX7_search_65 (by decide) (fun c_13 => ?_) (fun c_13 => ?_)
            · have h := og_ite_f c_13 h
              refine lv_aload_n hx hb dX7_search_75 rfl (lv_at hl 0 rfl) ?_
              refine lv_iconst (v := 0) hx hb dX7_search_76 (by decide) ?_
              refine lv_iload_n hx hb dX7_search_77 rfl (lv_at hl 1 rfl) ?_
              obtain ⟨u_14, hc_15, h⟩ := obd_e h
              refine Gci (wr := []) (va_runV (As := [.int (0 : Int32), .int x0]) (rest := []) ⟨hx, hb, hml, hown, hts⟩ (tX7_bucketOf l dC dI cyI cyJ cyZ cyO H.size h_th h_row v_th_undos v_th_isKept v_th_text v_th_length v_th_sizes v_th_values v_th_asked v_th_first v_th_behind v_th_readBits v_th_clauses v_th_doing v_th_numbers v_th_planWord v_th_addWord v_th_delWord v_th_fillWord (.int u_7.1) (.int u_7.2.1) (.int u_7.2.2.1) (.int u_7.2.2.2) v_th_isOver row (0 : Int32) x0 u_14 hc_15) (cwV 2 hts gX7_search_X7_bucketOf rfl rfl rfl (by decide +kernel) ⟨Nat.le_of_ble_eq_true rfl, Nat.le_of_ble_eq_true rfl⟩) (GpreV hP hD hK hN [0, 1] rfl (by decide) 7 0 rfl rfl rfl) rfl rfl hl.1 rfl (lv_room (Nat.le_of_ble_eq_true rfl)) dX7_search_78 ⟨Nat.zero_le _, Nat.zero_le _⟩) hP hD hS hA [0, 1] [] rfl rfl (by decide) (by decide) (fun H locs hP hD hS => ?_)
              have hP : va_P (dC, dI) vwCl [(h_th, .inr (7, [.ref h_row, v_th_undos, v_th_isKept, v_th_text, v_th_length, v_th_sizes, v_th_values, v_th_asked, v_th_first, v_th_behind, v_th_readBits, v_th_clauses, v_th_doing, v_th_numbers, v_th_planWord, v_th_addWord, v_th_delWord, v_th_fillWord, .int u_7.1, .int u_7.2.1, .int u_7.2.2.1, .int u_7.2.2.2, v_th_isOver])), (h_row, .inl (cyI, 1824, .inl row))] H := hP
              have hD : va_D A [(h_th, .inr (7, [.ref h_row, v_th_undos, v_th_isKept, v_th_text, v_th_length, v_th_sizes, v_th_values, v_th_asked, v_th_first, v_th_behind, v_th_readBits, v_th_clauses, v_th_doing, v_th_numbers, v_th_planWord, v_th_addWord, v_th_delWord, v_th_fillWord, .int u_7.1, .int u_7.2.1, .int u_7.2.2.1, .int u_7.2.2.2, v_th_isOver])), (h_row, .inl (cyI, 1824, .inl row))] := hD
              obtain rfl := Option.some.inj h
              exact J _ _ _ hP hD hS (lv_sub hl [] rfl)
            · have h := og_ite_t c_13 h
              refine lv_aload_n hx hb dX7_search_68 rfl (lv_at hl 0 rfl) ?_
              refine va_get (D := (dC, dI)) (ci := 7) (v := .int u_7.2.2.2) (C := RX7) (T := TX7) (N := 23) hx hb hts (fun _ hw => List.mem_cons_of_mem _ (List.mem_append_right _ hw)) hown hK hP 0 rfl rfl 21 (by decide) (hts (.fieldLink RX7 175 "PrefixIndexModel" "found" "I") (List.mem_of_getElem? (i := 5) rfl)) (fun _ h9 => h9) rfl dX7_search_69 ?_
              refine lv_goto (tgt := 81) hx hb dX7_search_72 (by decide) ?_
              obtain rfl := Option.some.inj h
              exact J _ _ _ hP hD hS (lv_sub hl [] rfl)
          · have h := og_ite_t c_12 h
            refine lv_aload_n hx hb dX7_search_56 rfl (lv_at hl 0 rfl) ?_
            refine va_get (D := (dC, dI)) (ci := 7) (v := .int u_7.2.2.1) (C := RX7) (T := TX7) (N := 23) hx hb hts (fun _ hw => List.mem_cons_of_mem _ (List.mem_append_right _ hw)) hown hK hP 0 rfl rfl 20 (by decide) (hts (.fieldLink RX7 169 "PrefixIndexModel" "looks" "I") (List.mem_of_getElem? (i := 4) rfl)) (fun _ h9 => h9) rfl dX7_search_57 ?_
            refine lv_goto (tgt := 81) hx hb dX7_search_60 (by decide) ?_
            obtain rfl := Option.some.inj h
            exact J _ _ _ hP hD hS (lv_sub hl [] rfl)
        · have h := og_ite_t c_11 h
          refine lv_aload_n hx hb dX7_search_44 rfl (lv_at hl 0 rfl) ?_
          refine va_get (D := (dC, dI)) (ci := 7) (v := .int u_7.2.1) (C := RX7) (T := TX7) (N := 23) hx hb hts (fun _ hw => List.mem_cons_of_mem _ (List.mem_append_right _ hw)) hown hK hP 0 rfl rfl 19 (by decide) (hts (.fieldLink RX7 178 "PrefixIndexModel" "links" "I") (List.mem_of_getElem? (i := 3) rfl)) (fun _ h9 => h9) rfl dX7_search_45 ?_
          refine lv_goto (tgt := 81) hx hb dX7_search_48 (by decide) ?_
          obtain rfl := Option.some.inj h
          exact J _ _ _ hP hD hS (lv_sub hl [] rfl)
      · have h := og_ite_t c_9 h
        refine lv_aload_n hx hb dX7_search_32 rfl (lv_at hl 0 rfl) ?_
        refine va_get (D := (dC, dI)) (ci := 7) (v := .int u_7.1) (C := RX7) (T := TX7) (N := 23) hx hb hts (fun _ hw => List.mem_cons_of_mem _ (List.mem_append_right _ hw)) hown hK hP 0 rfl rfl 18 (by decide) (hts (.fieldLink RX7 166 "PrefixIndexModel" "probes" "I") (List.mem_of_getElem? (i := 2) rfl)) (fun _ h9 => h9) rfl dX7_search_33 ?_
        refine lv_goto (tgt := 81) hx hb dX7_search_36 (by decide) ?_
        obtain rfl := Option.some.inj h
        exact J _ _ _ hP hD hS (lv_sub hl [] rfl)
    · have h := og_ite_t c_6 h
      refine lv_bipush (v := (-3)) hx hb dX7_search_20 (by decide) ?_
      obtain rfl := Option.some.inj h
      exact hret _ _ _ _ dX7_search_22 hP hD hS

def fX7_bucket (row : (Nat → Int32)) (x0 : Int32) (x1 : Int32) : Option (Int32) := oin (3 : Int32) 1824 (obd (fX7_in x0.toInt64 (0 : Int64) (((row (3 : Int32).toNatClampNeg) - (1 : Int32)).toInt64)) fun u_2 => if u_2 = 0 then (some (-2 : Int32)) else (obd (fX7_aheadOf row (0 : Int32) x0) fun u_5 => obd (fX7_keysIn row (0 : Int32) x0) fun u_7 => if x1 = (0 : Int32) then (some u_7) else (if x1 = (1 : Int32) then (oin ((102 : Int32) + x0) 1824 (some (row ((102 : Int32) + x0).toNatClampNeg))) else (if x1 = (2 : Int32) then (obd (if u_7 = 0 then (some (-1 : Int32)) else (oin ((6 : Int32) + u_5) 1824 (some (row ((6 : Int32) + u_5).toNatClampNeg)))) fun w_14 => some w_14) else (if x1 = (3 : Int32) then (obd (if u_7 = 0 then (some (-1 : Int32)) else (oin ((((6 : Int32) + u_5) + u_7) - (1 : Int32)) 1824 (some (row ((((6 : Int32) + u_5) + u_7) - (1 : Int32)).toNatClampNeg)))) fun w_19 => some w_19) else (some (-3 : Int32)))))))

set_option maxHeartbeats 4000000 in
set_option maxRecDepth 100000 in
theorem tX7_bucket (l : Launch) (dC : Nat → ClassId) (dI : Nat → Nat → Nat) (cyI cyJ cyZ cyO : ClassId) (sz : Nat) (h_th h_row : Nat) (v_th_undos : Value) (v_th_isKept : Value) (v_th_text : Value) (v_th_length : Value) (v_th_sizes : Value) (v_th_values : Value) (v_th_asked : Value) (v_th_first : Value) (v_th_behind : Value) (v_th_readBits : Value) (v_th_clauses : Value) (v_th_doing : Value) (v_th_numbers : Value) (v_th_planWord : Value) (v_th_addWord : Value) (v_th_delWord : Value) (v_th_fillWord : Value) (v_th_probes : Value) (v_th_links : Value) (v_th_looks : Value) (v_th_found : Value) (v_th_isOver : Value) (row : (Nat → Int32)) (x0 : Int32) (x1 : Int32) (u : Int32) (hf : fX7_bucket row x0 x1 = some u) : Met l yX7_bucket wsX7_bucket ({ frames := 3, cells := 0, slots := 0, locals := 67 }) (va_Pc [.ref h_th, .int x0, .int x1] (GP (dC, dI) (T4 cyI cyJ cyZ cyO) sz [(h_th, .inr (7, [.ref h_row, v_th_undos, v_th_isKept, v_th_text, v_th_length, v_th_sizes, v_th_values, v_th_asked, v_th_first, v_th_behind, v_th_readBits, v_th_clauses, v_th_doing, v_th_numbers, v_th_planWord, v_th_addWord, v_th_delWord, v_th_fillWord, v_th_probes, v_th_links, v_th_looks, v_th_found, v_th_isOver])), (h_row, .inl (cyI, 1824, .inl row))])) (va_Qi (fun (r : Int32) (_ : Unit) => r = u) (GB (dC, dI) [(h_th, .inr (7, [.ref h_row, v_th_undos, v_th_isKept, v_th_text, v_th_length, v_th_sizes, v_th_values, v_th_asked, v_th_first, v_th_behind, v_th_readBits, v_th_clauses, v_th_doing, v_th_numbers, v_th_planWord, v_th_addWord, v_th_delWord, v_th_fillWord, v_th_probes, v_th_links, v_th_looks, v_th_found, v_th_isOver])), (h_row, .inl (cyI, 1824, .inl row))] (va_A [(h_th, .inr (7, [.ref h_row, v_th_undos, v_th_isKept, v_th_text, v_th_length, v_th_sizes, v_th_values, v_th_asked, v_th_first, v_th_behind, v_th_readBits, v_th_clauses, v_th_doing, v_th_numbers, v_th_planWord, v_th_addWord, v_th_delWord, v_th_fillWord, v_th_probes, v_th_links, v_th_looks, v_th_found, v_th_isOver])), (h_row, .inl (cyI, 1824, .inl row))] sz)) (va_A [(h_th, .inr (7, [.ref h_row, v_th_undos, v_th_isKept, v_th_text, v_th_length, v_th_sizes, v_th_values, v_th_asked, v_th_first, v_th_behind, v_th_readBits, v_th_clauses, v_th_doing, v_th_numbers, v_th_planWord, v_th_addWord, v_th_delWord, v_th_fillWord, v_th_probes, v_th_links, v_th_looks, v_th_found, v_th_isOver])), (h_row, .inl (cyI, 1824, .inl row))] sz)) 0 0 (va_A [(h_th, .inr (7, [.ref h_row, v_th_undos, v_th_isKept, v_th_text, v_th_length, v_th_sizes, v_th_values, v_th_asked, v_th_first, v_th_behind, v_th_readBits, v_th_clauses, v_th_doing, v_th_numbers, v_th_planWord, v_th_addWord, v_th_delWord, v_th_fillWord, v_th_probes, v_th_links, v_th_looks, v_th_found, v_th_isOver])), (h_row, .inl (cyI, 1824, .inl row))] sz) := by
  refine GMetI (by decide) rfl (Nat.le_of_ble_eq_true rfl) ?_
  intro p e s m args below meth c A Q ls hx hb hml hts hown hN hK hA hret hP hD hS hl
  have h := hf
  clear hf
  unfold fX7_bucket at h
  have hown : s.vm.findClass RX7 = some m.cls := hown
  have hl : lv_has ls 5 [(0, .ref h_th), (1, .int x0), (2, .int x1)] := hl
  refine lv_iload_n hx hb dX7_bucket_0 rfl (lv_at hl 1 rfl) ?_
  refine lv_i2l (v := x0.toInt64) hx hb dX7_bucket_1 rfl ?_
  refine lv_lconst (v := 0) hx hb dX7_bucket_2 (by decide) ?_
  refine lv_aload_n hx hb dX7_bucket_3 rfl (lv_at hl 0 rfl) ?_
  refine va_get (D := (dC, dI)) (ci := 7) (v := .ref h_row) (C := RX7) (T := TX7) (N := 23) hx hb hts (fun _ hw => List.mem_cons_of_mem _ (List.mem_append_right _ hw)) hown hK hP 0 rfl rfl 0 (by decide) (hts (.fieldLink RX7 7 "PrefixIndexModel" "row" "[I") (List.mem_of_getElem? (i := 1) rfl)) (fun _ h9 => h9) rfl dX7_bucket_4 ?_
  refine lv_iconst (v := 3) hx hb dX7_bucket_7 (by decide) ?_
  obtain ⟨hi_1, h⟩ := oin_e h
  refine va_iald hx hb hK hP 1 0 rfl rfl hi_1 dX7_bucket_8 ?_
  refine lv_iconst (v := 1) hx hb dX7_bucket_9 (by decide) ?_
  refine lv_isub hx hb dX7_bucket_10 ?_
  refine lv_i2l (v := ((row (3 : Int32).toNatClampNeg) - (1 : Int32)).toInt64) hx hb dX7_bucket_11 rfl ?_
  obtain ⟨u_2, hc_3, h⟩ := obd_e h
  refine Gci (wr := [(h_th, .inr (7, [.ref h_row, v_th_undos, v_th_isKept, v_th_text, v_th_length, v_th_sizes, v_th_values, v_th_asked, v_th_first, v_th_behind, v_th_readBits, v_th_clauses, v_th_doing, v_th_numbers, v_th_planWord, v_th_addWord, v_th_delWord, v_th_fillWord, v_th_probes, v_th_links, v_th_looks, v_th_found, v_th_isOver])), (h_row, .inl (cyI, 1824, .inl row))]) (va_runS (As := [.long x0.toInt64, .long (0 : Int64), .long (((row (3 : Int32).toNatClampNeg) - (1 : Int32)).toInt64)]) (rest := []) ⟨hx, hb, hml, hown, hts⟩ (tX7_in l dC dI cyI cyJ cyZ cyO s.heap.size x0.toInt64 (0 : Int64) (((row (3 : Int32).toNatClampNeg) - (1 : Int32)).toInt64) u_2 hc_3) (cwS 3 hts gX7_bucket_X7_in rfl rfl rfl (by decide +kernel) ⟨Nat.le_of_ble_eq_true rfl, Nat.le_of_ble_eq_true rfl⟩) (GpreS hP hD hK hN [] rfl (by decide)) rfl rfl hl.1 rfl (lv_room (Nat.le_of_ble_eq_true rfl)) dX7_bucket_12 ⟨Nat.zero_le _, Nat.zero_le _⟩) hP hD hS hA [] [0, 1] rfl rfl (by decide) (by decide) (fun H locs hP hD hS => ?_)
  have hP : va_P (dC, dI) vwCl [(h_th, .inr (7, [.ref h_row, v_th_undos, v_th_isKept, v_th_text, v_th_length, v_th_sizes, v_th_values, v_th_asked, v_th_first, v_th_behind, v_th_readBits, v_th_clauses, v_th_doing, v_th_numbers, v_th_planWord, v_th_addWord, v_th_delWord, v_th_fillWord, v_th_probes, v_th_links, v_th_looks, v_th_found, v_th_isOver])), (h_row, .inl (cyI, 1824, .inl row))] H := hP
  have hD : va_D A [(h_th, .inr (7, [.ref h_row, v_th_undos, v_th_isKept, v_th_text, v_th_length, v_th_sizes, v_th_values, v_th_asked, v_th_first, v_th_behind, v_th_readBits, v_th_clauses, v_th_doing, v_th_numbers, v_th_planWord, v_th_addWord, v_th_delWord, v_th_fillWord, v_th_probes, v_th_links, v_th_looks, v_th_found, v_th_isOver])), (h_row, .inl (cyI, 1824, .inl row))] := hD
  refine lv_if_ne (tgt := 21) hx hb dX7_bucket_15 (by decide) (fun c_4 => ?_) (fun c_4 => ?_)
  · have h := og_ite_f c_4 h
    refine lv_aload_n hx hb dX7_bucket_21 rfl (lv_at hl 0 rfl) ?_
    refine lv_iconst (v := 0) hx hb dX7_bucket_22 (by decide) ?_
    refine lv_iload_n hx hb dX7_bucket_23 rfl (lv_at hl 1 rfl) ?_
    obtain ⟨u_5, hc_6, h⟩ := obd_e h
    refine Gci (wr := []) (va_runV (As := [.int (0 : Int32), .int x0]) (rest := []) ⟨hx, hb, hml, hown, hts⟩ (tX7_aheadOf l dC dI cyI cyJ cyZ cyO H.size h_th h_row v_th_undos v_th_isKept v_th_text v_th_length v_th_sizes v_th_values v_th_asked v_th_first v_th_behind v_th_readBits v_th_clauses v_th_doing v_th_numbers v_th_planWord v_th_addWord v_th_delWord v_th_fillWord v_th_probes v_th_links v_th_looks v_th_found v_th_isOver row (0 : Int32) x0 u_5 hc_6) (cwV 2 hts gX7_bucket_X7_aheadOf rfl rfl rfl (by decide +kernel) ⟨Nat.le_of_ble_eq_true rfl, Nat.le_of_ble_eq_true rfl⟩) (GpreV hP hD hK hN [0, 1] rfl (by decide) 7 0 rfl rfl rfl) rfl rfl hl.1 rfl (lv_room (Nat.le_of_ble_eq_true rfl)) dX7_bucket_24 ⟨Nat.zero_le _, Nat.zero_le _⟩) hP hD hS hA [0, 1] [] rfl rfl (by decide) (by decide) (fun H locs hP hD hS => ?_)
    have hP : va_P (dC, dI) vwCl [(h_th, .inr (7, [.ref h_row, v_th_undos, v_th_isKept, v_th_text, v_th_length, v_th_sizes, v_th_values, v_th_asked, v_th_first, v_th_behind, v_th_readBits, v_th_clauses, v_th_doing, v_th_numbers, v_th_planWord, v_th_addWord, v_th_delWord, v_th_fillWord, v_th_probes, v_th_links, v_th_looks, v_th_found, v_th_isOver])), (h_row, .inl (cyI, 1824, .inl row))] H := hP
    have hD : va_D A [(h_th, .inr (7, [.ref h_row, v_th_undos, v_th_isKept, v_th_text, v_th_length, v_th_sizes, v_th_values, v_th_asked, v_th_first, v_th_behind, v_th_readBits, v_th_clauses, v_th_doing, v_th_numbers, v_th_planWord, v_th_addWord, v_th_delWord, v_th_fillWord, v_th_probes, v_th_links, v_th_looks, v_th_found, v_th_isOver])), (h_row, .inl (cyI, 1824, .inl row))] := hD
    refine lv_istore_n (lv' := [(3, .int u_5), (0, .ref h_th), (1, .int x0), (2, .int x1)]) hx hb dX7_bucket_27 rfl hl (by decide) rfl (fun ls hl => ?_)
    refine lv_aload_n hx hb dX7_bucket_28 rfl (lv_at hl 1 rfl) ?_
    refine lv_iconst (v := 0) hx hb dX7_bucket_29 (by decide) ?_
    refine lv_iload_n hx hb dX7_bucket_30 rfl (lv_at hl 2 rfl) ?_
    obtain ⟨u_7, hc_8, h⟩ := obd_e h
    refine Gci (wr := []) (va_runV (As := [.int (0 : Int32), .int x0]) (rest := []) ⟨hx, hb, hml, hown, hts⟩ (tX7_keysIn l dC dI cyI cyJ cyZ cyO H.size h_th h_row v_th_undos v_th_isKept v_th_text v_th_length v_th_sizes v_th_values v_th_asked v_th_first v_th_behind v_th_readBits v_th_clauses v_th_doing v_th_numbers v_th_planWord v_th_addWord v_th_delWord v_th_fillWord v_th_probes v_th_links v_th_looks v_th_found v_th_isOver row (0 : Int32) x0 u_7 hc_8) (cwV 2 hts gX7_bucket_X7_keysIn rfl rfl rfl (by decide +kernel) ⟨Nat.le_of_ble_eq_true rfl, Nat.le_of_ble_eq_true rfl⟩) (GpreV hP hD hK hN [0, 1] rfl (by decide) 7 0 rfl rfl rfl) rfl rfl hl.1 rfl (lv_room (Nat.le_of_ble_eq_true rfl)) dX7_bucket_31 ⟨Nat.zero_le _, Nat.zero_le _⟩) hP hD hS hA [0, 1] [] rfl rfl (by decide) (by decide) (fun H locs hP hD hS => ?_)
    have hP : va_P (dC, dI) vwCl [(h_th, .inr (7, [.ref h_row, v_th_undos, v_th_isKept, v_th_text, v_th_length, v_th_sizes, v_th_values, v_th_asked, v_th_first, v_th_behind, v_th_readBits, v_th_clauses, v_th_doing, v_th_numbers, v_th_planWord, v_th_addWord, v_th_delWord, v_th_fillWord, v_th_probes, v_th_links, v_th_looks, v_th_found, v_th_isOver])), (h_row, .inl (cyI, 1824, .inl row))] H := hP
    have hD : va_D A [(h_th, .inr (7, [.ref h_row, v_th_undos, v_th_isKept, v_th_text, v_th_length, v_th_sizes, v_th_values, v_th_asked, v_th_first, v_th_behind, v_th_readBits, v_th_clauses, v_th_doing, v_th_numbers, v_th_planWord, v_th_addWord, v_th_delWord, v_th_fillWord, v_th_probes, v_th_links, v_th_looks, v_th_found, v_th_isOver])), (h_row, .inl (cyI, 1824, .inl row))] := hD
    refine lv_istore (lv' := [(4, .int u_7), (3, .int u_5), (0, .ref h_th), (1, .int x0), (2, .int x1)]) hx hb dX7_bucket_34 hl (by decide) rfl (fun ls hl => ?_)
    refine lv_iload_n hx hb dX7_bucket_36 rfl (lv_at hl 4 rfl) ?_
    by_cases c_9 : x1 = (0 : Int32)
    · have h := og_ite_t c_9 h
      refine lv_tableIn (off := 31) (tgt := 68) hx hb dX7_bucket_37 (by rw [c_9]; decide) (by rw [c_9]; decide) (by rw [c_9]; rfl) (by decide) ?_
      refine lv_iload hx hb dX7_bucket_68 (lv_at hl 0 rfl) ?_
      obtain rfl := Option.some.inj h
      exact hret _ _ _ _ dX7_bucket_70 hP hD hS
    have h := og_ite_f c_9 h
    by_cases c_10 : x1 = (1 : Int32)
    · have h := og_ite_t c_10 h
      refine lv_tableIn (off := 34) (tgt := 71) hx hb dX7_bucket_37 (by rw [c_10]; decide) (by rw [c_10]; decide) (by rw [c_10]; rfl) (by decide) ?_
      refine lv_aload_n hx hb dX7_bucket_71 rfl (lv_at hl 2 rfl) ?_
      refine va_get (D := (dC, dI)) (ci := 7) (v := .ref h_row) (C := RX7) (T := TX7) (N := 23) hx hb hts (fun _ hw => List.mem_cons_of_mem _ (List.mem_append_right _ hw)) hown hK hP 0 rfl rfl 0 (by decide) (hts (.fieldLink RX7 7 "PrefixIndexModel" "row" "[I") (List.mem_of_getElem? (i := 1) rfl)) (fun _ h9 => h9) rfl dX7_bucket_72 ?_
      refine lv_bipush (v := 102) hx hb dX7_bucket_75 (by decide) ?_
      refine lv_iload_n hx hb dX7_bucket_77 rfl (lv_at hl 3 rfl) ?_
      refine lv_iadd hx hb dX7_bucket_78 ?_
      obtain ⟨hi_11, h⟩ := oin_e h
      refine va_iald hx hb hK hP 1 0 rfl rfl hi_11 dX7_bucket_79 ?_
      obtain rfl := Option.some.inj h
      exact hret _ _ _ _ dX7_bucket_80 hP hD hS
    have h := og_ite_f c_10 h
    by_cases c_12 : x1 = (2 : Int32)
    · have h := og_ite_t c_12 h
      refine lv_tableIn (off := 44) (tgt := 81) hx hb dX7_bucket_37 (by rw [c_12]; decide) (by rw [c_12]; decide) (by rw [c_12]; rfl) (by decide) ?_
      refine lv_iload hx hb dX7_bucket_81 (lv_at hl 0 rfl) ?_
      obtain ⟨w_14, hm_16, h⟩ := obd_e h
      have J : ∀ (H : Heap) (locs : List Loc) (ls : Array Slot), va_P (dC, dI) vwCl [(h_th, .inr (7, [.ref h_row, v_th_undos, v_th_isKept, v_th_text, v_th_length, v_th_sizes, v_th_values, v_th_asked, v_th_first, v_th_behind, v_th_readBits, v_th_clauses, v_th_doing, v_th_numbers, v_th_planWord, v_th_addWord, v_th_delWord, v_th_fillWord, v_th_probes, v_th_links, v_th_looks, v_th_found, v_th_isOver])), (h_row, .inl (cyI, 1824, .inl row))] H → va_D A [(h_th, .inr (7, [.ref h_row, v_th_undos, v_th_isKept, v_th_text, v_th_length, v_th_sizes, v_th_values, v_th_asked, v_th_first, v_th_behind, v_th_readBits, v_th_clauses, v_th_doing, v_th_numbers, v_th_planWord, v_th_addWord, v_th_delWord, v_th_fillWord, v_th_probes, v_th_links, v_th_looks, v_th_found, v_th_isOver])), (h_row, .inl (cyI, 1824, .inl row))] → va_S A s.heap H locs → lv_has ls 5 [] → W p l e ({ frames := 3, cells := 0, slots := 0, locals := 67 }) s m args below meth c H locs 0 0 Q (F0 m 99 ls [.int w_14]) := by
        intro H locs ls hP hD hS hl
        obtain rfl := Option.some.inj h
        exact hret _ _ _ _ dX7_bucket_99 hP hD hS
      replace h := hm_16
      refine lv_if_ne (tgt := 90) hx hb dX7_bucket_83 (by decide) (fun c_13 => ?_) (fun c_13 => ?_)
      · have h := og_ite_f c_13 h
        refine lv_aload_n hx hb dX7_bucket_90 rfl (lv_at hl 2 rfl) ?_
        refine va_get (D := (dC, dI)) (ci := 7) (v := .ref h_row) (C := RX7) (T := TX7) (N := 23) hx hb hts (fun _ hw => List.mem_cons_of_mem _ (List.mem_append_right _ hw)) hown hK hP 0 rfl rfl 0 (by decide) (hts (.fieldLink RX7 7 "PrefixIndexModel" "row" "[I") (List.mem_of_getElem? (i := 1) rfl)) (fun _ h9 => h9) rfl dX7_bucket_91 ?_
        refine lv_bipush (v := 6) hx hb dX7_bucket_94 (by decide) ?_
        refine lv_iload_n hx hb dX7_bucket_96 rfl (lv_at hl 1 rfl) ?_
        refine lv_iadd hx hb dX7_bucket_97 ?_
        obtain ⟨hi_15, h⟩ := oin_e h
        refine va_iald hx hb hK hP 1 0 rfl rfl hi_15 dX7_bucket_98 ?_
        obtain rfl := Option.some.inj h
        exact J _ _ _ hP hD hS (lv_sub hl [] rfl)
      · have h := og_ite_t c_13 h
        refine lv_iconst (v := (-1)) hx hb dX7_bucket_86 (by decide) ?_
        refine lv_goto (tgt := 99) hx hb dX7_bucket_87 (by decide) ?_
        obtain rfl := Option.some.inj h
        exact J _ _ _ hP hD hS (lv_sub hl [] rfl)
    have h := og_ite_f c_12 h
    by_cases c_17 : x1 = (3 : Int32)
    · have h := og_ite_t c_17 h
      refine lv_tableIn (off := 63) (tgt := 100) hx hb dX7_bucket_37 (by rw [c_17]; decide) (by rw [c_17]; decide) (by rw [c_17]; rfl) (by decide) ?_
      refine lv_iload hx hb dX7_bucket_100 (lv_at hl 0 rfl) ?_
      obtain ⟨w_19, hm_21, h⟩ := obd_e h
      have J : ∀ (H : Heap) (locs : List Loc) (ls : Array Slot), va_P (dC, dI) vwCl [(h_th, .inr (7, [.ref h_row, v_th_undos, v_th_isKept, v_th_text, v_th_length, v_th_sizes, v_th_values, v_th_asked, v_th_first, v_th_behind, v_th_readBits, v_th_clauses, v_th_doing, v_th_numbers, v_th_planWord, v_th_addWord, v_th_delWord, v_th_fillWord, v_th_probes, v_th_links, v_th_looks, v_th_found, v_th_isOver])), (h_row, .inl (cyI, 1824, .inl row))] H → va_D A [(h_th, .inr (7, [.ref h_row, v_th_undos, v_th_isKept, v_th_text, v_th_length, v_th_sizes, v_th_values, v_th_asked, v_th_first, v_th_behind, v_th_readBits, v_th_clauses, v_th_doing, v_th_numbers, v_th_planWord, v_th_addWord, v_th_delWord, v_th_fillWord, v_th_probes, v_th_links, v_th_looks, v_th_found, v_th_isOver])), (h_row, .inl (cyI, 1824, .inl row))] → va_S A s.heap H locs → lv_has ls 5 [] → W p l e ({ frames := 3, cells := 0, slots := 0, locals := 67 }) s m args below meth c H locs 0 0 Q (F0 m 123 ls [.int w_19]) := by
        intro H locs ls hP hD hS hl
        obtain rfl := Option.some.inj h
        exact hret _ _ _ _ dX7_bucket_123 hP hD hS
      replace h := hm_21
      refine lv_if_ne (tgt := 109) hx hb dX7_bucket_102 (by decide) (fun c_18 => ?_) (fun c_18 => ?_)
      · have h := og_ite_f c_18 h
        refine lv_aload_n hx hb dX7_bucket_109 rfl (lv_at hl 2 rfl) ?_
        refine va_get (D := (dC, dI)) (ci := 7) (v := .ref h_row) (C := RX7) (T := TX7) (N := 23) hx hb hts (fun _ hw => List.mem_cons_of_mem _ (List.mem_append_right _ hw)) hown hK hP 0 rfl rfl 0 (by decide) (hts (.fieldLink RX7 7 "PrefixIndexModel" "row" "[I") (List.mem_of_getElem? (i := 1) rfl)) (fun _ h9 => h9) rfl dX7_bucket_110 ?_
        refine lv_bipush (v := 6) hx hb dX7_bucket_113 (by decide) ?_
        refine lv_iload_n hx hb dX7_bucket_115 rfl (lv_at hl 1 rfl) ?_
        refine lv_iadd hx hb dX7_bucket_116 ?_
        refine lv_iload hx hb dX7_bucket_117 (lv_at hl 0 rfl) ?_
        refine lv_iadd hx hb dX7_bucket_119 ?_
        refine lv_iconst (v := 1) hx hb dX7_bucket_120 (by decide) ?_
        refine lv_isub hx hb dX7_bucket_121 ?_
        obtain ⟨hi_20, h⟩ := oin_e h
        refine va_iald hx hb hK hP 1 0 rfl rfl hi_20 dX7_bucket_122 ?_
        obtain rfl := Option.some.inj h
        exact J _ _ _ hP hD hS (lv_sub hl [] rfl)
      · have h := og_ite_t c_18 h
        refine lv_iconst (v := (-1)) hx hb dX7_bucket_105 (by decide) ?_
        refine lv_goto (tgt := 123) hx hb dX7_bucket_106 (by decide) ?_
        obtain rfl := Option.some.inj h
        exact J _ _ _ hP hD hS (lv_sub hl [] rfl)
    have h := og_ite_f c_17 h
    have ec_9 : (x1).toInt ≠ 0 := fun q => c_9 (Int32.toInt_inj.mp (q.trans (by decide)))
    have ec_10 : (x1).toInt ≠ 1 := fun q => c_10 (Int32.toInt_inj.mp (q.trans (by decide)))
    have ec_12 : (x1).toInt ≠ 2 := fun q => c_12 (Int32.toInt_inj.mp (q.trans (by decide)))
    have ec_17 : (x1).toInt ≠ 3 := fun q => c_17 (Int32.toInt_inj.mp (q.trans (by decide)))
    refine lv_tableOut (tgt := 124) hx hb dX7_bucket_37 (by omega) (by decide) ?_
    refine lv_bipush (v := (-3)) hx hb dX7_bucket_124 (by decide) ?_
    obtain rfl := Option.some.inj h
    exact hret _ _ _ _ dX7_bucket_126 hP hD hS
  · have h := og_ite_t c_4 h
    refine lv_bipush (v := (-2)) hx hb dX7_bucket_18 (by decide) ?_
    obtain rfl := Option.some.inj h
    exact hret _ _ _ _ dX7_bucket_20 hP hD hS

def fX7_isLevel (row : (Nat → Int32)) (x0 : Int32) : Option (Int32) := oin (0 : Int32) 1824 (obd (fX7_in x0.toInt64 (0 : Int64) ((row (0 : Int32).toNatClampNeg).toInt64)) fun u_2 => obl u_2 (some u_2))

set_option maxHeartbeats 4000000 in
set_option maxRecDepth 100000 in
theorem tX7_isLevel (l : Launch) (dC : Nat → ClassId) (dI : Nat → Nat → Nat) (cyI cyJ cyZ cyO : ClassId) (sz : Nat) (h_th h_row : Nat) (v_th_undos : Value) (v_th_isKept : Value) (v_th_text : Value) (v_th_length : Value) (v_th_sizes : Value) (v_th_values : Value) (v_th_asked : Value) (v_th_first : Value) (v_th_behind : Value) (v_th_readBits : Value) (v_th_clauses : Value) (v_th_doing : Value) (v_th_numbers : Value) (v_th_planWord : Value) (v_th_addWord : Value) (v_th_delWord : Value) (v_th_fillWord : Value) (v_th_probes : Value) (v_th_links : Value) (v_th_looks : Value) (v_th_found : Value) (v_th_isOver : Value) (row : (Nat → Int32)) (x0 : Int32) (u : Int32) (hf : fX7_isLevel row x0 = some u) : Met l yX7_isLevel wsX7_isLevel ({ frames := 1, cells := 0, slots := 0, locals := 25 }) (va_Pc [.ref h_th, .int x0] (GP (dC, dI) (T4 cyI cyJ cyZ cyO) sz [(h_th, .inr (7, [.ref h_row, v_th_undos, v_th_isKept, v_th_text, v_th_length, v_th_sizes, v_th_values, v_th_asked, v_th_first, v_th_behind, v_th_readBits, v_th_clauses, v_th_doing, v_th_numbers, v_th_planWord, v_th_addWord, v_th_delWord, v_th_fillWord, v_th_probes, v_th_links, v_th_looks, v_th_found, v_th_isOver])), (h_row, .inl (cyI, 1824, .inl row))])) (va_Qi (fun (r : Int32) (_ : Unit) => r = u) (GB (dC, dI) [(h_th, .inr (7, [.ref h_row, v_th_undos, v_th_isKept, v_th_text, v_th_length, v_th_sizes, v_th_values, v_th_asked, v_th_first, v_th_behind, v_th_readBits, v_th_clauses, v_th_doing, v_th_numbers, v_th_planWord, v_th_addWord, v_th_delWord, v_th_fillWord, v_th_probes, v_th_links, v_th_looks, v_th_found, v_th_isOver])), (h_row, .inl (cyI, 1824, .inl row))] (va_A [(h_th, .inr (7, [.ref h_row, v_th_undos, v_th_isKept, v_th_text, v_th_length, v_th_sizes, v_th_values, v_th_asked, v_th_first, v_th_behind, v_th_readBits, v_th_clauses, v_th_doing, v_th_numbers, v_th_planWord, v_th_addWord, v_th_delWord, v_th_fillWord, v_th_probes, v_th_links, v_th_looks, v_th_found, v_th_isOver])), (h_row, .inl (cyI, 1824, .inl row))] sz)) (va_A [(h_th, .inr (7, [.ref h_row, v_th_undos, v_th_isKept, v_th_text, v_th_length, v_th_sizes, v_th_values, v_th_asked, v_th_first, v_th_behind, v_th_readBits, v_th_clauses, v_th_doing, v_th_numbers, v_th_planWord, v_th_addWord, v_th_delWord, v_th_fillWord, v_th_probes, v_th_links, v_th_looks, v_th_found, v_th_isOver])), (h_row, .inl (cyI, 1824, .inl row))] sz)) 0 0 (va_A [(h_th, .inr (7, [.ref h_row, v_th_undos, v_th_isKept, v_th_text, v_th_length, v_th_sizes, v_th_values, v_th_asked, v_th_first, v_th_behind, v_th_readBits, v_th_clauses, v_th_doing, v_th_numbers, v_th_planWord, v_th_addWord, v_th_delWord, v_th_fillWord, v_th_probes, v_th_links, v_th_looks, v_th_found, v_th_isOver])), (h_row, .inl (cyI, 1824, .inl row))] sz) := by
  refine GMetZ (by decide) rfl (Nat.le_of_ble_eq_true rfl) ?_
  intro p e s m args below meth c A Q ls hx hb hml hts hown hN hK hA hret hP hD hS hl
  have h := hf
  clear hf
  unfold fX7_isLevel at h
  have hown : s.vm.findClass RX7 = some m.cls := hown
  have hl : lv_has ls 2 [(0, .ref h_th), (1, .int x0)] := hl
  refine lv_iload_n hx hb dX7_isLevel_0 rfl (lv_at hl 1 rfl) ?_
  refine lv_i2l (v := x0.toInt64) hx hb dX7_isLevel_1 rfl ?_
  refine lv_lconst (v := 0) hx hb dX7_isLevel_2 (by decide) ?_
  refine lv_aload_n hx hb dX7_isLevel_3 rfl (lv_at hl 0 rfl) ?_
  refine va_get (D := (dC, dI)) (ci := 7) (v := .ref h_row) (C := RX7) (T := TX7) (N := 23) hx hb hts (fun _ hw => List.mem_cons_of_mem _ (List.mem_append_right _ hw)) hown hK hP 0 rfl rfl 0 (by decide) (hts (.fieldLink RX7 7 "PrefixIndexModel" "row" "[I") (List.mem_of_getElem? (i := 1) rfl)) (fun _ h9 => h9) rfl dX7_isLevel_4 ?_
  refine lv_iconst (v := 0) hx hb dX7_isLevel_7 (by decide) ?_
  obtain ⟨hi_1, h⟩ := oin_e h
  refine va_iald hx hb hK hP 1 0 rfl rfl hi_1 dX7_isLevel_8 ?_
  refine lv_i2l (v := (row (0 : Int32).toNatClampNeg).toInt64) hx hb dX7_isLevel_9 rfl ?_
  obtain ⟨u_2, hc_3, h⟩ := obd_e h
  refine Gci (wr := [(h_th, .inr (7, [.ref h_row, v_th_undos, v_th_isKept, v_th_text, v_th_length, v_th_sizes, v_th_values, v_th_asked, v_th_first, v_th_behind, v_th_readBits, v_th_clauses, v_th_doing, v_th_numbers, v_th_planWord, v_th_addWord, v_th_delWord, v_th_fillWord, v_th_probes, v_th_links, v_th_looks, v_th_found, v_th_isOver])), (h_row, .inl (cyI, 1824, .inl row))]) (va_runS (As := [.long x0.toInt64, .long (0 : Int64), .long ((row (0 : Int32).toNatClampNeg).toInt64)]) (rest := []) ⟨hx, hb, hml, hown, hts⟩ (tX7_in l dC dI cyI cyJ cyZ cyO s.heap.size x0.toInt64 (0 : Int64) ((row (0 : Int32).toNatClampNeg).toInt64) u_2 hc_3) (cwS 3 hts gX7_isLevel_X7_in rfl rfl rfl (by decide +kernel) ⟨Nat.le_of_ble_eq_true rfl, Nat.le_of_ble_eq_true rfl⟩) (GpreS hP hD hK hN [] rfl (by decide)) rfl rfl hl.1 rfl (lv_room (Nat.le_of_ble_eq_true rfl)) dX7_isLevel_10 ⟨Nat.zero_le _, Nat.zero_le _⟩) hP hD hS hA [] [0, 1] rfl rfl (by decide) (by decide) (fun H locs hP hD hS => ?_)
  have hP : va_P (dC, dI) vwCl [(h_th, .inr (7, [.ref h_row, v_th_undos, v_th_isKept, v_th_text, v_th_length, v_th_sizes, v_th_values, v_th_asked, v_th_first, v_th_behind, v_th_readBits, v_th_clauses, v_th_doing, v_th_numbers, v_th_planWord, v_th_addWord, v_th_delWord, v_th_fillWord, v_th_probes, v_th_links, v_th_looks, v_th_found, v_th_isOver])), (h_row, .inl (cyI, 1824, .inl row))] H := hP
  have hD : va_D A [(h_th, .inr (7, [.ref h_row, v_th_undos, v_th_isKept, v_th_text, v_th_length, v_th_sizes, v_th_values, v_th_asked, v_th_first, v_th_behind, v_th_readBits, v_th_clauses, v_th_doing, v_th_numbers, v_th_planWord, v_th_addWord, v_th_delWord, v_th_fillWord, v_th_probes, v_th_links, v_th_looks, v_th_found, v_th_isOver])), (h_row, .inl (cyI, 1824, .inl row))] := hD
  obtain ⟨hz, h⟩ := obl_e h
  obtain rfl := Option.some.inj h
  exact hret _ _ _ _ dX7_isLevel_13 hz hP hD hS

def lpX7_levelOf_4 (q1 : Int32) (row : (Nat → Int32)) : Nat → Int32 → Int32 → Option (Int32 × Int32)
  | 0, _, _ => none
  | n + 1, m2, m3 => oin (3 : Int32) 1824 (if (row (3 : Int32).toNatClampNeg) ≤ m3 then (some (m2, m3)) else (oin ((102 : Int32) + m3) 1824 (obd (fX7_beginning row (row ((102 : Int32) + m3).toNatClampNeg) q1) fun u_5 => oin (((102 : Int32) + m3) - (1 : Int32)) 1824 (obd (fX7_beginning row (row (((102 : Int32) + m3) - (1 : Int32)).toNatClampNeg) q1) fun u_8 => olet (if u_5 = u_8 then ((0 : Int32)) else ((1 : Int32))) fun y_11 => lpX7_levelOf_4 q1 row n (m2 + y_11) (m3 + (1 : Int32))))))

def fX7_levelOf (row : (Nat → Int32)) (x0 : Int32) : Option (Int32) := obd (lpX7_levelOf_4 x0 row 100000 (1 : Int32) (1 : Int32)) fun w_22 => some w_22.1

set_option maxHeartbeats 4000000 in
set_option maxRecDepth 100000 in
theorem tX7_levelOf (l : Launch) (dC : Nat → ClassId) (dI : Nat → Nat → Nat) (cyI cyJ cyZ cyO : ClassId) (sz : Nat) (h_th h_row : Nat) (v_th_undos : Value) (v_th_isKept : Value) (v_th_text : Value) (v_th_length : Value) (v_th_sizes : Value) (v_th_values : Value) (v_th_asked : Value) (v_th_first : Value) (v_th_behind : Value) (v_th_readBits : Value) (v_th_clauses : Value) (v_th_doing : Value) (v_th_numbers : Value) (v_th_planWord : Value) (v_th_addWord : Value) (v_th_delWord : Value) (v_th_fillWord : Value) (v_th_probes : Value) (v_th_links : Value) (v_th_looks : Value) (v_th_found : Value) (v_th_isOver : Value) (row : (Nat → Int32)) (x0 : Int32) (u : Int32) (hf : fX7_levelOf row x0 = some u) : Met l yX7_levelOf wsX7_levelOf ({ frames := 1, cells := 0, slots := 0, locals := 22 }) (va_Pc [.ref h_th, .int x0] (GP (dC, dI) (T4 cyI cyJ cyZ cyO) sz [(h_th, .inr (7, [.ref h_row, v_th_undos, v_th_isKept, v_th_text, v_th_length, v_th_sizes, v_th_values, v_th_asked, v_th_first, v_th_behind, v_th_readBits, v_th_clauses, v_th_doing, v_th_numbers, v_th_planWord, v_th_addWord, v_th_delWord, v_th_fillWord, v_th_probes, v_th_links, v_th_looks, v_th_found, v_th_isOver])), (h_row, .inl (cyI, 1824, .inl row))])) (va_Qi (fun (r : Int32) (_ : Unit) => r = u) (GB (dC, dI) [(h_th, .inr (7, [.ref h_row, v_th_undos, v_th_isKept, v_th_text, v_th_length, v_th_sizes, v_th_values, v_th_asked, v_th_first, v_th_behind, v_th_readBits, v_th_clauses, v_th_doing, v_th_numbers, v_th_planWord, v_th_addWord, v_th_delWord, v_th_fillWord, v_th_probes, v_th_links, v_th_looks, v_th_found, v_th_isOver])), (h_row, .inl (cyI, 1824, .inl row))] (va_A [(h_th, .inr (7, [.ref h_row, v_th_undos, v_th_isKept, v_th_text, v_th_length, v_th_sizes, v_th_values, v_th_asked, v_th_first, v_th_behind, v_th_readBits, v_th_clauses, v_th_doing, v_th_numbers, v_th_planWord, v_th_addWord, v_th_delWord, v_th_fillWord, v_th_probes, v_th_links, v_th_looks, v_th_found, v_th_isOver])), (h_row, .inl (cyI, 1824, .inl row))] sz)) (va_A [(h_th, .inr (7, [.ref h_row, v_th_undos, v_th_isKept, v_th_text, v_th_length, v_th_sizes, v_th_values, v_th_asked, v_th_first, v_th_behind, v_th_readBits, v_th_clauses, v_th_doing, v_th_numbers, v_th_planWord, v_th_addWord, v_th_delWord, v_th_fillWord, v_th_probes, v_th_links, v_th_looks, v_th_found, v_th_isOver])), (h_row, .inl (cyI, 1824, .inl row))] sz)) 0 0 (va_A [(h_th, .inr (7, [.ref h_row, v_th_undos, v_th_isKept, v_th_text, v_th_length, v_th_sizes, v_th_values, v_th_asked, v_th_first, v_th_behind, v_th_readBits, v_th_clauses, v_th_doing, v_th_numbers, v_th_planWord, v_th_addWord, v_th_delWord, v_th_fillWord, v_th_probes, v_th_links, v_th_looks, v_th_found, v_th_isOver])), (h_row, .inl (cyI, 1824, .inl row))] sz) := by
  refine GMetI (by decide) rfl (Nat.le_of_ble_eq_true rfl) ?_
  intro p e s m args below meth c A Q ls hx hb hml hts hown hN hK hA hret hP hD hS hl
  have h := hf
  clear hf
  unfold fX7_levelOf at h
  have hown : s.vm.findClass RX7 = some m.cls := hown
  have hl : lv_has ls 4 [(0, .ref h_th), (1, .int x0)] := hl
  refine lv_iconst (v := 1) hx hb dX7_levelOf_0 (by decide) ?_
  refine lv_istore_n (lv' := [(2, .int (1 : Int32)), (0, .ref h_th), (1, .int x0)]) hx hb dX7_levelOf_1 rfl hl (by decide) rfl (fun ls hl => ?_)
  refine lv_iconst (v := 1) hx hb dX7_levelOf_2 (by decide) ?_
  refine lv_istore_n (lv' := [(3, .int (1 : Int32)), (2, .int (1 : Int32)), (0, .ref h_th), (1, .int x0)]) hx hb dX7_levelOf_3 rfl hl (by decide) rfl (fun ls hl => ?_)
  obtain ⟨w_22, hw_23, h⟩ := obd_e h
  have J : ∀ (H : Heap) (locs : List Loc) (ls : Array Slot), va_P (dC, dI) vwCl [(h_th, .inr (7, [.ref h_row, v_th_undos, v_th_isKept, v_th_text, v_th_length, v_th_sizes, v_th_values, v_th_asked, v_th_first, v_th_behind, v_th_readBits, v_th_clauses, v_th_doing, v_th_numbers, v_th_planWord, v_th_addWord, v_th_delWord, v_th_fillWord, v_th_probes, v_th_links, v_th_looks, v_th_found, v_th_isOver])), (h_row, .inl (cyI, 1824, .inl row))] H → va_D A [(h_th, .inr (7, [.ref h_row, v_th_undos, v_th_isKept, v_th_text, v_th_length, v_th_sizes, v_th_values, v_th_asked, v_th_first, v_th_behind, v_th_readBits, v_th_clauses, v_th_doing, v_th_numbers, v_th_planWord, v_th_addWord, v_th_delWord, v_th_fillWord, v_th_probes, v_th_links, v_th_looks, v_th_found, v_th_isOver])), (h_row, .inl (cyI, 1824, .inl row))] → va_S A s.heap H locs → lv_has ls 4 [(2, .int w_22.1)] → W p l e ({ frames := 1, cells := 0, slots := 0, locals := 22 }) s m args below meth c H locs 0 0 Q (F0 m 61 ls []) := by
    intro H locs ls hP hD hS hl
    refine lv_iload_n hx hb dX7_levelOf_61 rfl (lv_at hl 0 rfl) ?_
    obtain rfl := Option.some.inj h
    exact hret _ _ _ _ dX7_levelOf_62 hP hD hS
  have LL : ∀ (n : Nat) (m2 : Int32) (m3 : Int32) (H : Heap) (locs : List Loc) (ls : Array Slot), lpX7_levelOf_4 x0 row n m2 m3 = some w_22 → va_P (dC, dI) vwCl [(h_th, .inr (7, [.ref h_row, v_th_undos, v_th_isKept, v_th_text, v_th_length, v_th_sizes, v_th_values, v_th_asked, v_th_first, v_th_behind, v_th_readBits, v_th_clauses, v_th_doing, v_th_numbers, v_th_planWord, v_th_addWord, v_th_delWord, v_th_fillWord, v_th_probes, v_th_links, v_th_looks, v_th_found, v_th_isOver])), (h_row, .inl (cyI, 1824, .inl row))] H → va_D A [(h_th, .inr (7, [.ref h_row, v_th_undos, v_th_isKept, v_th_text, v_th_length, v_th_sizes, v_th_values, v_th_asked, v_th_first, v_th_behind, v_th_readBits, v_th_clauses, v_th_doing, v_th_numbers, v_th_planWord, v_th_addWord, v_th_delWord, v_th_fillWord, v_th_probes, v_th_links, v_th_looks, v_th_found, v_th_isOver])), (h_row, .inl (cyI, 1824, .inl row))] → va_S A s.heap H locs → lv_has ls 4 [(0, .ref h_th), (1, .int x0), (2, .int m2), (3, .int m3)] → W p l e ({ frames := 1, cells := 0, slots := 0, locals := 22 }) s m args below meth c H locs 0 0 Q (F0 m 4 ls []) := by
    intro n
    induction n with
    | zero =>
      intro m2 m3 H locs ls h
      exact absurd h (by rw [lpX7_levelOf_4]; exact fun q => by cases q)
    | succ n ih =>
      intro m2 m3 H locs ls h hP hD hS hl
      rw [lpX7_levelOf_4] at h
      refine lv_iload_n hx hb dX7_levelOf_4 rfl (lv_at hl 3 rfl) ?_
      refine lv_aload_n hx hb dX7_levelOf_5 rfl (lv_at hl 0 rfl) ?_
      refine va_get (D := (dC, dI)) (ci := 7) (v := .ref h_row) (C := RX7) (T := TX7) (N := 23) hx hb hts (fun _ hw => List.mem_cons_of_mem _ (List.mem_append_right _ hw)) hown hK hP 0 rfl rfl 0 (by decide) (hts (.fieldLink RX7 7 "PrefixIndexModel" "row" "[I") (List.mem_of_getElem? (i := 1) rfl)) (fun _ h9 => h9) rfl dX7_levelOf_6 ?_
      refine lv_iconst (v := 3) hx hb dX7_levelOf_9 (by decide) ?_
      obtain ⟨hi_12, h⟩ := oin_e h
      refine va_iald hx hb hK hP 1 0 rfl rfl hi_12 dX7_levelOf_10 ?_
      refine lv_icmp_ge (tgt := 61) hx hb dX7_levelOf_11 (by decide) (fun c_13 => ?_) (fun c_13 => ?_)
      · have h := og_ite_t c_13 h
        obtain rfl := Option.some.inj h
        exact J _ _ _ hP hD hS (lv_sub hl [2] rfl)
      · have h := og_ite_f c_13 h
        refine lv_iload_n hx hb dX7_levelOf_14 rfl (lv_at hl 2 rfl) ?_
        refine lv_aload_n hx hb dX7_levelOf_15 rfl (lv_at hl 0 rfl) ?_
        refine lv_aload_n hx hb dX7_levelOf_16 rfl (lv_at hl 0 rfl) ?_
        refine va_get (D := (dC, dI)) (ci := 7) (v := .ref h_row) (C := RX7) (T := TX7) (N := 23) hx hb hts (fun _ hw => List.mem_cons_of_mem _ (List.mem_append_right _ hw)) hown hK hP 0 rfl rfl 0 (by decide) (hts (.fieldLink RX7 7 "PrefixIndexModel" "row" "[I") (List.mem_of_getElem? (i := 1) rfl)) (fun _ h9 => h9) rfl dX7_levelOf_17 ?_
        refine lv_bipush (v := 102) hx hb dX7_levelOf_20 (by decide) ?_
        refine lv_iload_n hx hb dX7_levelOf_22 rfl (lv_at hl 3 rfl) ?_
        refine lv_iadd hx hb dX7_levelOf_23 ?_
        obtain ⟨hi_14, h⟩ := oin_e h
        refine va_iald hx hb hK hP 1 0 rfl rfl hi_14 dX7_levelOf_24 ?_
        refine lv_iload_n hx hb dX7_levelOf_25 rfl (lv_at hl 1 rfl) ?_
        obtain ⟨u_15, hc_16, h⟩ := obd_e h
        refine Gci (wr := []) (va_runV (As := [.int (row ((102 : Int32) + m3).toNatClampNeg), .int x0]) (rest := [.int m2]) ⟨hx, hb, hml, hown, hts⟩ (tX7_beginning l dC dI cyI cyJ cyZ cyO H.size h_th h_row v_th_undos v_th_isKept v_th_text v_th_length v_th_sizes v_th_values v_th_asked v_th_first v_th_behind v_th_readBits v_th_clauses v_th_doing v_th_numbers v_th_planWord v_th_addWord v_th_delWord v_th_fillWord v_th_probes v_th_links v_th_looks v_th_found v_th_isOver row (row ((102 : Int32) + m3).toNatClampNeg) x0 u_15 hc_16) (cwV 2 hts gX7_levelOf_X7_beginning rfl rfl rfl (by decide +kernel) ⟨Nat.le_of_ble_eq_true rfl, Nat.le_of_ble_eq_true rfl⟩) (GpreV hP hD hK hN [0, 1] rfl (by decide) 7 0 rfl rfl rfl) rfl rfl hl.1 rfl (lv_room (Nat.le_of_ble_eq_true rfl)) dX7_levelOf_26 ⟨Nat.zero_le _, Nat.zero_le _⟩) hP hD hS hA [0, 1] [] rfl rfl (by decide) (by decide) (fun H locs hP hD hS => ?_)
        have hP : va_P (dC, dI) vwCl [(h_th, .inr (7, [.ref h_row, v_th_undos, v_th_isKept, v_th_text, v_th_length, v_th_sizes, v_th_values, v_th_asked, v_th_first, v_th_behind, v_th_readBits, v_th_clauses, v_th_doing, v_th_numbers, v_th_planWord, v_th_addWord, v_th_delWord, v_th_fillWord, v_th_probes, v_th_links, v_th_looks, v_th_found, v_th_isOver])), (h_row, .inl (cyI, 1824, .inl row))] H := hP
        have hD : va_D A [(h_th, .inr (7, [.ref h_row, v_th_undos, v_th_isKept, v_th_text, v_th_length, v_th_sizes, v_th_values, v_th_asked, v_th_first, v_th_behind, v_th_readBits, v_th_clauses, v_th_doing, v_th_numbers, v_th_planWord, v_th_addWord, v_th_delWord, v_th_fillWord, v_th_probes, v_th_links, v_th_looks, v_th_found, v_th_isOver])), (h_row, .inl (cyI, 1824, .inl row))] := hD
        refine lv_aload_n hx hb dX7_levelOf_29 rfl (lv_at hl 0 rfl) ?_
        refine lv_aload_n hx hb dX7_levelOf_30 rfl (lv_at hl 0 rfl) ?_
        refine va_get (D := (dC, dI)) (ci := 7) (v := .ref h_row) (C := RX7) (T := TX7) (N := 23) hx hb hts (fun _ hw => List.mem_cons_of_mem _ (List.mem_append_right _ hw)) hown hK hP 0 rfl rfl 0 (by decide) (hts (.fieldLink RX7 7 "PrefixIndexModel" "row" "[I") (List.mem_of_getElem? (i := 1) rfl)) (fun _ h9 => h9) rfl dX7_levelOf_31 ?_
        refine lv_bipush (v := 102) hx hb dX7_levelOf_34 (by decide) ?_
        refine lv_iload_n hx hb dX7_levelOf_36 rfl (lv_at hl 3 rfl) ?_
        refine lv_iadd hx hb dX7_levelOf_37 ?_
        refine lv_iconst (v := 1) hx hb dX7_levelOf_38 (by decide) ?_
        refine lv_isub hx hb dX7_levelOf_39 ?_
        obtain ⟨hi_17, h⟩ := oin_e h
        refine va_iald hx hb hK hP 1 0 rfl rfl hi_17 dX7_levelOf_40 ?_
        refine lv_iload_n hx hb dX7_levelOf_41 rfl (lv_at hl 1 rfl) ?_
        obtain ⟨u_18, hc_19, h⟩ := obd_e h
        refine Gci (wr := []) (va_runV (As := [.int (row (((102 : Int32) + m3) - (1 : Int32)).toNatClampNeg), .int x0]) (rest := [.int u_15, .int m2]) ⟨hx, hb, hml, hown, hts⟩ (tX7_beginning l dC dI cyI cyJ cyZ cyO H.size h_th h_row v_th_undos v_th_isKept v_th_text v_th_length v_th_sizes v_th_values v_th_asked v_th_first v_th_behind v_th_readBits v_th_clauses v_th_doing v_th_numbers v_th_planWord v_th_addWord v_th_delWord v_th_fillWord v_th_probes v_th_links v_th_looks v_th_found v_th_isOver row (row (((102 : Int32) + m3) - (1 : Int32)).toNatClampNeg) x0 u_18 hc_19) (cwV 2 hts gX7_levelOf_X7_beginning rfl rfl rfl (by decide +kernel) ⟨Nat.le_of_ble_eq_true rfl, Nat.le_of_ble_eq_true rfl⟩) (GpreV hP hD hK hN [0, 1] rfl (by decide) 7 0 rfl rfl rfl) rfl rfl hl.1 rfl (lv_room (Nat.le_of_ble_eq_true rfl)) dX7_levelOf_42 ⟨Nat.zero_le _, Nat.zero_le _⟩) hP hD hS hA [0, 1] [] rfl rfl (by decide) (by decide) (fun H locs hP hD hS => ?_)
        have hP : va_P (dC, dI) vwCl [(h_th, .inr (7, [.ref h_row, v_th_undos, v_th_isKept, v_th_text, v_th_length, v_th_sizes, v_th_values, v_th_asked, v_th_first, v_th_behind, v_th_readBits, v_th_clauses, v_th_doing, v_th_numbers, v_th_planWord, v_th_addWord, v_th_delWord, v_th_fillWord, v_th_probes, v_th_links, v_th_looks, v_th_found, v_th_isOver])), (h_row, .inl (cyI, 1824, .inl row))] H := hP
        have hD : va_D A [(h_th, .inr (7, [.ref h_row, v_th_undos, v_th_isKept, v_th_text, v_th_length, v_th_sizes, v_th_values, v_th_asked, v_th_first, v_th_behind, v_th_readBits, v_th_clauses, v_th_doing, v_th_numbers, v_th_planWord, v_th_addWord, v_th_delWord, v_th_fillWord, v_th_probes, v_th_links, v_th_looks, v_th_found, v_th_isOver])), (h_row, .inl (cyI, 1824, .inl row))] := hD
        obtain ⟨y_21, ey_21, h⟩ := olet_e h
        have J : ∀ (H : Heap) (locs : List Loc) (ls : Array Slot), va_P (dC, dI) vwCl [(h_th, .inr (7, [.ref h_row, v_th_undos, v_th_isKept, v_th_text, v_th_length, v_th_sizes, v_th_values, v_th_asked, v_th_first, v_th_behind, v_th_readBits, v_th_clauses, v_th_doing, v_th_numbers, v_th_planWord, v_th_addWord, v_th_delWord, v_th_fillWord, v_th_probes, v_th_links, v_th_looks, v_th_found, v_th_isOver])), (h_row, .inl (cyI, 1824, .inl row))] H → va_D A [(h_th, .inr (7, [.ref h_row, v_th_undos, v_th_isKept, v_th_text, v_th_length, v_th_sizes, v_th_values, v_th_asked, v_th_first, v_th_behind, v_th_readBits, v_th_clauses, v_th_doing, v_th_numbers, v_th_planWord, v_th_addWord, v_th_delWord, v_th_fillWord, v_th_probes, v_th_links, v_th_looks, v_th_found, v_th_isOver])), (h_row, .inl (cyI, 1824, .inl row))] → va_S A s.heap H locs → lv_has ls 4 [(0, .ref h_th), (1, .int x0), (3, .int m3)] → W p l e ({ frames := 1, cells := 0, slots := 0, locals := 22 }) s m args below meth c H locs 0 0 Q (F0 m 53 ls [.int y_21, .int m2]) := by
          intro H locs ls hP hD hS hl
          refine lv_iadd hx hb dX7_levelOf_53 ?_
          refine lv_istore_n (lv' := [(2, .int (m2 + y_21)), (0, .ref h_th), (1, .int x0), (3, .int m3)]) hx hb dX7_levelOf_54 rfl hl (by decide) rfl (fun ls hl => ?_)
          refine lv_iinc (v := m3 + (1 : Int32)) (lv' := [(3, .int (m3 + (1 : Int32))), (2, .int (m2 + y_21)), (0, .ref h_th), (1, .int x0)]) hx hb dX7_levelOf_55 hl (k := 3) rfl rfl (by decide) rfl (fun ls hl => ?_)
          refine lv_goto (tgt := 4) hx hb dX7_levelOf_58 (by decide) ?_
          exact ih (m2 + y_21) (m3 + (1 : Int32)) _ _ _ h hP hD hS (lv_sub hl [2, 3, 1, 0] rfl)
        clear h
        refine lv_icmp_ne (tgt := 52) hx hb dX7_levelOf_45 (by decide) (fun c_20 => ?_) (fun c_20 => ?_)
        · refine lv_iconst (v := 1) hx hb dX7_levelOf_52 (by decide) ?_
          rw [if_neg c_20] at ey_21
          subst ey_21
          exact J H locs _ hP hD hS (lv_sub hl [0, 1, 3] rfl)
        · refine lv_iconst (v := 0) hx hb dX7_levelOf_48 (by decide) ?_
          refine lv_goto (tgt := 53) hx hb dX7_levelOf_49 (by decide) ?_
          rw [if_pos c_20] at ey_21
          subst ey_21
          exact J H locs _ hP hD hS (lv_sub hl [0, 1, 3] rfl)
  exact LL _ (1 : Int32) (1 : Int32) _ _ _ hw_23 hP hD hS (lv_sub hl [2, 3, 1, 0] rfl)

def fX7_level (row : (Nat → Int32)) (x0 : Int32) : Option (Int32) := obd (fX7_isLevel row x0) fun u_1 => obd (if u_1 = 0 then (some (-2 : Int32)) else (obd (fX7_levelOf row x0) fun u_5 => some u_5)) fun w_4 => some w_4

set_option maxHeartbeats 4000000 in
set_option maxRecDepth 100000 in
theorem tX7_level (l : Launch) (dC : Nat → ClassId) (dI : Nat → Nat → Nat) (cyI cyJ cyZ cyO : ClassId) (sz : Nat) (h_th h_row : Nat) (v_th_undos : Value) (v_th_isKept : Value) (v_th_text : Value) (v_th_length : Value) (v_th_sizes : Value) (v_th_values : Value) (v_th_asked : Value) (v_th_first : Value) (v_th_behind : Value) (v_th_readBits : Value) (v_th_clauses : Value) (v_th_doing : Value) (v_th_numbers : Value) (v_th_planWord : Value) (v_th_addWord : Value) (v_th_delWord : Value) (v_th_fillWord : Value) (v_th_probes : Value) (v_th_links : Value) (v_th_looks : Value) (v_th_found : Value) (v_th_isOver : Value) (row : (Nat → Int32)) (x0 : Int32) (u : Int32) (hf : fX7_level row x0 = some u) : Met l yX7_level wsX7_level ({ frames := 2, cells := 0, slots := 0, locals := 46 }) (va_Pc [.ref h_th, .int x0] (GP (dC, dI) (T4 cyI cyJ cyZ cyO) sz [(h_th, .inr (7, [.ref h_row, v_th_undos, v_th_isKept, v_th_text, v_th_length, v_th_sizes, v_th_values, v_th_asked, v_th_first, v_th_behind, v_th_readBits, v_th_clauses, v_th_doing, v_th_numbers, v_th_planWord, v_th_addWord, v_th_delWord, v_th_fillWord, v_th_probes, v_th_links, v_th_looks, v_th_found, v_th_isOver])), (h_row, .inl (cyI, 1824, .inl row))])) (va_Qi (fun (r : Int32) (_ : Unit) => r = u) (GB (dC, dI) [(h_th, .inr (7, [.ref h_row, v_th_undos, v_th_isKept, v_th_text, v_th_length, v_th_sizes, v_th_values, v_th_asked, v_th_first, v_th_behind, v_th_readBits, v_th_clauses, v_th_doing, v_th_numbers, v_th_planWord, v_th_addWord, v_th_delWord, v_th_fillWord, v_th_probes, v_th_links, v_th_looks, v_th_found, v_th_isOver])), (h_row, .inl (cyI, 1824, .inl row))] (va_A [(h_th, .inr (7, [.ref h_row, v_th_undos, v_th_isKept, v_th_text, v_th_length, v_th_sizes, v_th_values, v_th_asked, v_th_first, v_th_behind, v_th_readBits, v_th_clauses, v_th_doing, v_th_numbers, v_th_planWord, v_th_addWord, v_th_delWord, v_th_fillWord, v_th_probes, v_th_links, v_th_looks, v_th_found, v_th_isOver])), (h_row, .inl (cyI, 1824, .inl row))] sz)) (va_A [(h_th, .inr (7, [.ref h_row, v_th_undos, v_th_isKept, v_th_text, v_th_length, v_th_sizes, v_th_values, v_th_asked, v_th_first, v_th_behind, v_th_readBits, v_th_clauses, v_th_doing, v_th_numbers, v_th_planWord, v_th_addWord, v_th_delWord, v_th_fillWord, v_th_probes, v_th_links, v_th_looks, v_th_found, v_th_isOver])), (h_row, .inl (cyI, 1824, .inl row))] sz)) 0 0 (va_A [(h_th, .inr (7, [.ref h_row, v_th_undos, v_th_isKept, v_th_text, v_th_length, v_th_sizes, v_th_values, v_th_asked, v_th_first, v_th_behind, v_th_readBits, v_th_clauses, v_th_doing, v_th_numbers, v_th_planWord, v_th_addWord, v_th_delWord, v_th_fillWord, v_th_probes, v_th_links, v_th_looks, v_th_found, v_th_isOver])), (h_row, .inl (cyI, 1824, .inl row))] sz) := by
  refine GMetI (by decide) rfl (Nat.le_of_ble_eq_true rfl) ?_
  intro p e s m args below meth c A Q ls hx hb hml hts hown hN hK hA hret hP hD hS hl
  have h := hf
  clear hf
  unfold fX7_level at h
  have hown : s.vm.findClass RX7 = some m.cls := hown
  have hl : lv_has ls 2 [(0, .ref h_th), (1, .int x0)] := hl
  refine lv_aload_n hx hb dX7_level_0 rfl (lv_at hl 0 rfl) ?_
  refine lv_iload_n hx hb dX7_level_1 rfl (lv_at hl 1 rfl) ?_
  obtain ⟨u_1, hc_2, h⟩ := obd_e h
  refine Gci (wr := []) (va_runV (As := [.int x0]) (rest := []) ⟨hx, hb, hml, hown, hts⟩ (tX7_isLevel l dC dI cyI cyJ cyZ cyO s.heap.size h_th h_row v_th_undos v_th_isKept v_th_text v_th_length v_th_sizes v_th_values v_th_asked v_th_first v_th_behind v_th_readBits v_th_clauses v_th_doing v_th_numbers v_th_planWord v_th_addWord v_th_delWord v_th_fillWord v_th_probes v_th_links v_th_looks v_th_found v_th_isOver row x0 u_1 hc_2) (cwV 1 hts gX7_level_X7_isLevel rfl rfl rfl (by decide +kernel) ⟨Nat.le_of_ble_eq_true rfl, Nat.le_of_ble_eq_true rfl⟩) (GpreV hP hD hK hN [0, 1] rfl (by decide) 7 0 rfl rfl rfl) rfl rfl hl.1 rfl (lv_room (Nat.le_of_ble_eq_true rfl)) dX7_level_2 ⟨Nat.zero_le _, Nat.zero_le _⟩) hP hD hS hA [0, 1] [] rfl rfl (by decide) (by decide) (fun H locs hP hD hS => ?_)
  have hP : va_P (dC, dI) vwCl [(h_th, .inr (7, [.ref h_row, v_th_undos, v_th_isKept, v_th_text, v_th_length, v_th_sizes, v_th_values, v_th_asked, v_th_first, v_th_behind, v_th_readBits, v_th_clauses, v_th_doing, v_th_numbers, v_th_planWord, v_th_addWord, v_th_delWord, v_th_fillWord, v_th_probes, v_th_links, v_th_looks, v_th_found, v_th_isOver])), (h_row, .inl (cyI, 1824, .inl row))] H := hP
  have hD : va_D A [(h_th, .inr (7, [.ref h_row, v_th_undos, v_th_isKept, v_th_text, v_th_length, v_th_sizes, v_th_values, v_th_asked, v_th_first, v_th_behind, v_th_readBits, v_th_clauses, v_th_doing, v_th_numbers, v_th_planWord, v_th_addWord, v_th_delWord, v_th_fillWord, v_th_probes, v_th_links, v_th_looks, v_th_found, v_th_isOver])), (h_row, .inl (cyI, 1824, .inl row))] := hD
  obtain ⟨w_4, hm_7, h⟩ := obd_e h
  have J : ∀ (H : Heap) (locs : List Loc) (ls : Array Slot), va_P (dC, dI) vwCl [(h_th, .inr (7, [.ref h_row, v_th_undos, v_th_isKept, v_th_text, v_th_length, v_th_sizes, v_th_values, v_th_asked, v_th_first, v_th_behind, v_th_readBits, v_th_clauses, v_th_doing, v_th_numbers, v_th_planWord, v_th_addWord, v_th_delWord, v_th_fillWord, v_th_probes, v_th_links, v_th_looks, v_th_found, v_th_isOver])), (h_row, .inl (cyI, 1824, .inl row))] H → va_D A [(h_th, .inr (7, [.ref h_row, v_th_undos, v_th_isKept, v_th_text, v_th_length, v_th_sizes, v_th_values, v_th_asked, v_th_first, v_th_behind, v_th_readBits, v_th_clauses, v_th_doing, v_th_numbers, v_th_planWord, v_th_addWord, v_th_delWord, v_th_fillWord, v_th_probes, v_th_links, v_th_looks, v_th_found, v_th_isOver])), (h_row, .inl (cyI, 1824, .inl row))] → va_S A s.heap H locs → lv_has ls 2 [] → W p l e ({ frames := 2, cells := 0, slots := 0, locals := 46 }) s m args below meth c H locs 0 0 Q (F0 m 18 ls [.int w_4]) := by
    intro H locs ls hP hD hS hl
    obtain rfl := Option.some.inj h
    exact hret _ _ _ _ dX7_level_18 hP hD hS
  replace h := hm_7
  refine lv_if_eq (tgt := 16) hx hb dX7_level_5 (by decide) (fun c_3 => ?_) (fun c_3 => ?_)
  · have h := og_ite_t c_3 h
    refine lv_bipush (v := (-2)) hx hb dX7_level_16 (by decide) ?_
    obtain rfl := Option.some.inj h
    exact J _ _ _ hP hD hS (lv_sub hl [] rfl)
  · have h := og_ite_f c_3 h
    refine lv_aload_n hx hb dX7_level_8 rfl (lv_at hl 0 rfl) ?_
    refine lv_iload_n hx hb dX7_level_9 rfl (lv_at hl 1 rfl) ?_
    obtain ⟨u_5, hc_6, h⟩ := obd_e h
    refine Gci (wr := []) (va_runV (As := [.int x0]) (rest := []) ⟨hx, hb, hml, hown, hts⟩ (tX7_levelOf l dC dI cyI cyJ cyZ cyO H.size h_th h_row v_th_undos v_th_isKept v_th_text v_th_length v_th_sizes v_th_values v_th_asked v_th_first v_th_behind v_th_readBits v_th_clauses v_th_doing v_th_numbers v_th_planWord v_th_addWord v_th_delWord v_th_fillWord v_th_probes v_th_links v_th_looks v_th_found v_th_isOver row x0 u_5 hc_6) (cwV 1 hts gX7_level_X7_levelOf rfl rfl rfl (by decide +kernel) ⟨Nat.le_of_ble_eq_true rfl, Nat.le_of_ble_eq_true rfl⟩) (GpreV hP hD hK hN [0, 1] rfl (by decide) 7 0 rfl rfl rfl) rfl rfl hl.1 rfl (lv_room (Nat.le_of_ble_eq_true rfl)) dX7_level_10 ⟨Nat.zero_le _, Nat.zero_le _⟩) hP hD hS hA [0, 1] [] rfl rfl (by decide) (by decide) (fun H locs hP hD hS => ?_)
    have hP : va_P (dC, dI) vwCl [(h_th, .inr (7, [.ref h_row, v_th_undos, v_th_isKept, v_th_text, v_th_length, v_th_sizes, v_th_values, v_th_asked, v_th_first, v_th_behind, v_th_readBits, v_th_clauses, v_th_doing, v_th_numbers, v_th_planWord, v_th_addWord, v_th_delWord, v_th_fillWord, v_th_probes, v_th_links, v_th_looks, v_th_found, v_th_isOver])), (h_row, .inl (cyI, 1824, .inl row))] H := hP
    have hD : va_D A [(h_th, .inr (7, [.ref h_row, v_th_undos, v_th_isKept, v_th_text, v_th_length, v_th_sizes, v_th_values, v_th_asked, v_th_first, v_th_behind, v_th_readBits, v_th_clauses, v_th_doing, v_th_numbers, v_th_planWord, v_th_addWord, v_th_delWord, v_th_fillWord, v_th_probes, v_th_links, v_th_looks, v_th_found, v_th_isOver])), (h_row, .inl (cyI, 1824, .inl row))] := hD
    refine lv_goto (tgt := 18) hx hb dX7_level_13 (by decide) ?_
    obtain rfl := Option.some.inj h
    exact J _ _ _ hP hD hS (lv_sub hl [] rfl)

def lpX7_marks_34 (q1 : Int32) (q2 : Int32) (row : (Nat → Int32)) : Nat → Int32 → Int32 → Option (Int32 × Int32)
  | 0, _, _ => none
  | n + 1, m3, m4 => oin (3 : Int32) 1824 (if (row (3 : Int32).toNatClampNeg) ≤ m4 then (some (m3, m4)) else (oin ((102 : Int32) + m4) 1824 (obd (fX7_beginning row (row ((102 : Int32) + m4).toNatClampNeg) q1) fun u_11 => olet (if u_11 = q2 then ((1 : Int32)) else ((0 : Int32))) fun y_14 => lpX7_marks_34 q1 q2 row n (m3 + y_14) (m4 + (1 : Int32)))))

def fX7_marks (row : (Nat → Int32)) (x0 : Int32) (x1 : Int32) : Option (Int32) := obd (fX7_isLevel row x0) fun u_1 => if u_1 = 0 then (some (-2 : Int32)) else (obd (fX7_in x1.toInt64 (0 : Int64) ((((1 : Int32) <<< (x0 &&& 31)) - (1 : Int32)).toInt64)) fun u_4 => if u_4 = 0 then (some (-3 : Int32)) else (obd (lpX7_marks_34 x0 x1 row 100000 (0 : Int32) (0 : Int32)) fun w_22 => some w_22.1))

set_option maxHeartbeats 4000000 in
set_option maxRecDepth 100000 in
theorem tX7_marks (l : Launch) (dC : Nat → ClassId) (dI : Nat → Nat → Nat) (cyI cyJ cyZ cyO : ClassId) (sz : Nat) (h_th h_row : Nat) (v_th_undos : Value) (v_th_isKept : Value) (v_th_text : Value) (v_th_length : Value) (v_th_sizes : Value) (v_th_values : Value) (v_th_asked : Value) (v_th_first : Value) (v_th_behind : Value) (v_th_readBits : Value) (v_th_clauses : Value) (v_th_doing : Value) (v_th_numbers : Value) (v_th_planWord : Value) (v_th_addWord : Value) (v_th_delWord : Value) (v_th_fillWord : Value) (v_th_probes : Value) (v_th_links : Value) (v_th_looks : Value) (v_th_found : Value) (v_th_isOver : Value) (row : (Nat → Int32)) (x0 : Int32) (x1 : Int32) (u : Int32) (hf : fX7_marks row x0 x1 = some u) : Met l yX7_marks wsX7_marks ({ frames := 2, cells := 0, slots := 0, locals := 46 }) (va_Pc [.ref h_th, .int x0, .int x1] (GP (dC, dI) (T4 cyI cyJ cyZ cyO) sz [(h_th, .inr (7, [.ref h_row, v_th_undos, v_th_isKept, v_th_text, v_th_length, v_th_sizes, v_th_values, v_th_asked, v_th_first, v_th_behind, v_th_readBits, v_th_clauses, v_th_doing, v_th_numbers, v_th_planWord, v_th_addWord, v_th_delWord, v_th_fillWord, v_th_probes, v_th_links, v_th_looks, v_th_found, v_th_isOver])), (h_row, .inl (cyI, 1824, .inl row))])) (va_Qi (fun (r : Int32) (_ : Unit) => r = u) (GB (dC, dI) [(h_th, .inr (7, [.ref h_row, v_th_undos, v_th_isKept, v_th_text, v_th_length, v_th_sizes, v_th_values, v_th_asked, v_th_first, v_th_behind, v_th_readBits, v_th_clauses, v_th_doing, v_th_numbers, v_th_planWord, v_th_addWord, v_th_delWord, v_th_fillWord, v_th_probes, v_th_links, v_th_looks, v_th_found, v_th_isOver])), (h_row, .inl (cyI, 1824, .inl row))] (va_A [(h_th, .inr (7, [.ref h_row, v_th_undos, v_th_isKept, v_th_text, v_th_length, v_th_sizes, v_th_values, v_th_asked, v_th_first, v_th_behind, v_th_readBits, v_th_clauses, v_th_doing, v_th_numbers, v_th_planWord, v_th_addWord, v_th_delWord, v_th_fillWord, v_th_probes, v_th_links, v_th_looks, v_th_found, v_th_isOver])), (h_row, .inl (cyI, 1824, .inl row))] sz)) (va_A [(h_th, .inr (7, [.ref h_row, v_th_undos, v_th_isKept, v_th_text, v_th_length, v_th_sizes, v_th_values, v_th_asked, v_th_first, v_th_behind, v_th_readBits, v_th_clauses, v_th_doing, v_th_numbers, v_th_planWord, v_th_addWord, v_th_delWord, v_th_fillWord, v_th_probes, v_th_links, v_th_looks, v_th_found, v_th_isOver])), (h_row, .inl (cyI, 1824, .inl row))] sz)) 0 0 (va_A [(h_th, .inr (7, [.ref h_row, v_th_undos, v_th_isKept, v_th_text, v_th_length, v_th_sizes, v_th_values, v_th_asked, v_th_first, v_th_behind, v_th_readBits, v_th_clauses, v_th_doing, v_th_numbers, v_th_planWord, v_th_addWord, v_th_delWord, v_th_fillWord, v_th_probes, v_th_links, v_th_looks, v_th_found, v_th_isOver])), (h_row, .inl (cyI, 1824, .inl row))] sz) := by
  refine GMetI (by decide) rfl (Nat.le_of_ble_eq_true rfl) ?_
  intro p e s m args below meth c A Q ls hx hb hml hts hown hN hK hA hret hP hD hS hl
  have h := hf
  clear hf
  unfold fX7_marks at h
  have hown : s.vm.findClass RX7 = some m.cls := hown
  have hl : lv_has ls 5 [(0, .ref h_th), (1, .int x0), (2, .int x1)] := hl
  refine lv_aload_n hx hb dX7_marks_0 rfl (lv_at hl 0 rfl) ?_
  refine lv_iload_n hx hb dX7_marks_1 rfl (lv_at hl 1 rfl) ?_
  obtain ⟨u_1, hc_2, h⟩ := obd_e h
  refine Gci (wr := []) (va_runV (As := [.int x0]) (rest := []) ⟨hx, hb, hml, hown, hts⟩ (tX7_isLevel l dC dI cyI cyJ cyZ cyO s.heap.size h_th h_row v_th_undos v_th_isKept v_th_text v_th_length v_th_sizes v_th_values v_th_asked v_th_first v_th_behind v_th_readBits v_th_clauses v_th_doing v_th_numbers v_th_planWord v_th_addWord v_th_delWord v_th_fillWord v_th_probes v_th_links v_th_looks v_th_found v_th_isOver row x0 u_1 hc_2) (cwV 1 hts gX7_marks_X7_isLevel rfl rfl rfl (by decide +kernel) ⟨Nat.le_of_ble_eq_true rfl, Nat.le_of_ble_eq_true rfl⟩) (GpreV hP hD hK hN [0, 1] rfl (by decide) 7 0 rfl rfl rfl) rfl rfl hl.1 rfl (lv_room (Nat.le_of_ble_eq_true rfl)) dX7_marks_2 ⟨Nat.zero_le _, Nat.zero_le _⟩) hP hD hS hA [0, 1] [] rfl rfl (by decide) (by decide) (fun H locs hP hD hS => ?_)
  have hP : va_P (dC, dI) vwCl [(h_th, .inr (7, [.ref h_row, v_th_undos, v_th_isKept, v_th_text, v_th_length, v_th_sizes, v_th_values, v_th_asked, v_th_first, v_th_behind, v_th_readBits, v_th_clauses, v_th_doing, v_th_numbers, v_th_planWord, v_th_addWord, v_th_delWord, v_th_fillWord, v_th_probes, v_th_links, v_th_looks, v_th_found, v_th_isOver])), (h_row, .inl (cyI, 1824, .inl row))] H := hP
  have hD : va_D A [(h_th, .inr (7, [.ref h_row, v_th_undos, v_th_isKept, v_th_text, v_th_length, v_th_sizes, v_th_values, v_th_asked, v_th_first, v_th_behind, v_th_readBits, v_th_clauses, v_th_doing, v_th_numbers, v_th_planWord, v_th_addWord, v_th_delWord, v_th_fillWord, v_th_probes, v_th_links, v_th_looks, v_th_found, v_th_isOver])), (h_row, .inl (cyI, 1824, .inl row))] := hD
  refine lv_if_ne (tgt := 11) hx hb dX7_marks_5 (by decide) (fun c_3 => ?_) (fun c_3 => ?_)
  · have h := og_ite_f c_3 h
    refine lv_iload_n hx hb dX7_marks_11 rfl (lv_at hl 2 rfl) ?_
    refine lv_i2l (v := x1.toInt64) hx hb dX7_marks_12 rfl ?_
    refine lv_lconst (v := 0) hx hb dX7_marks_13 (by decide) ?_
    refine lv_iconst (v := 1) hx hb dX7_marks_14 (by decide) ?_
    refine lv_iload_n hx hb dX7_marks_15 rfl (lv_at hl 1 rfl) ?_
    refine lv_ishl hx hb dX7_marks_16 ?_
    refine lv_iconst (v := 1) hx hb dX7_marks_17 (by decide) ?_
    refine lv_isub hx hb dX7_marks_18 ?_
    refine lv_i2l (v := (((1 : Int32) <<< (x0 &&& 31)) - (1 : Int32)).toInt64) hx hb dX7_marks_19 rfl ?_
    obtain ⟨u_4, hc_5, h⟩ := obd_e h
    refine Gci (wr := [(h_th, .inr (7, [.ref h_row, v_th_undos, v_th_isKept, v_th_text, v_th_length, v_th_sizes, v_th_values, v_th_asked, v_th_first, v_th_behind, v_th_readBits, v_th_clauses, v_th_doing, v_th_numbers, v_th_planWord, v_th_addWord, v_th_delWord, v_th_fillWord, v_th_probes, v_th_links, v_th_looks, v_th_found, v_th_isOver])), (h_row, .inl (cyI, 1824, .inl row))]) (va_runS (As := [.long x1.toInt64, .long (0 : Int64), .long ((((1 : Int32) <<< (x0 &&& 31)) - (1 : Int32)).toInt64)]) (rest := []) ⟨hx, hb, hml, hown, hts⟩ (tX7_in l dC dI cyI cyJ cyZ cyO H.size x1.toInt64 (0 : Int64) ((((1 : Int32) <<< (x0 &&& 31)) - (1 : Int32)).toInt64) u_4 hc_5) (cwS 3 hts gX7_marks_X7_in rfl rfl rfl (by decide +kernel) ⟨Nat.le_of_ble_eq_true rfl, Nat.le_of_ble_eq_true rfl⟩) (GpreS hP hD hK hN [] rfl (by decide)) rfl rfl hl.1 rfl (lv_room (Nat.le_of_ble_eq_true rfl)) dX7_marks_20 ⟨Nat.zero_le _, Nat.zero_le _⟩) hP hD hS hA [] [0, 1] rfl rfl (by decide) (by decide) (fun H locs hP hD hS => ?_)
    have hP : va_P (dC, dI) vwCl [(h_th, .inr (7, [.ref h_row, v_th_undos, v_th_isKept, v_th_text, v_th_length, v_th_sizes, v_th_values, v_th_asked, v_th_first, v_th_behind, v_th_readBits, v_th_clauses, v_th_doing, v_th_numbers, v_th_planWord, v_th_addWord, v_th_delWord, v_th_fillWord, v_th_probes, v_th_links, v_th_looks, v_th_found, v_th_isOver])), (h_row, .inl (cyI, 1824, .inl row))] H := hP
    have hD : va_D A [(h_th, .inr (7, [.ref h_row, v_th_undos, v_th_isKept, v_th_text, v_th_length, v_th_sizes, v_th_values, v_th_asked, v_th_first, v_th_behind, v_th_readBits, v_th_clauses, v_th_doing, v_th_numbers, v_th_planWord, v_th_addWord, v_th_delWord, v_th_fillWord, v_th_probes, v_th_links, v_th_looks, v_th_found, v_th_isOver])), (h_row, .inl (cyI, 1824, .inl row))] := hD
    refine lv_if_ne (tgt := 29) hx hb dX7_marks_23 (by decide) (fun c_6 => ?_) (fun c_6 => ?_)
    · have h := og_ite_f c_6 h
      refine lv_iconst (v := 0) hx hb dX7_marks_29 (by decide) ?_
      refine lv_istore_n (lv' := [(3, .int (0 : Int32)), (0, .ref h_th), (1, .int x0), (2, .int x1)]) hx hb dX7_marks_30 rfl hl (by decide) rfl (fun ls hl => ?_)
      refine lv_iconst (v := 0) hx hb dX7_marks_31 (by decide) ?_
      refine lv_istore (lv' := [(4, .int (0 : Int32)), (3, .int (0 : Int32)), (0, .ref h_th), (1, .int x0), (2, .int x1)]) hx hb dX7_marks_32 hl (by decide) rfl (fun ls hl => ?_)
      obtain ⟨w_22, hw_23, h⟩ := obd_e h
      have J : ∀ (H : Heap) (locs : List Loc) (ls : Array Slot), va_P (dC, dI) vwCl [(h_th, .inr (7, [.ref h_row, v_th_undos, v_th_isKept, v_th_text, v_th_length, v_th_sizes, v_th_values, v_th_asked, v_th_first, v_th_behind, v_th_readBits, v_th_clauses, v_th_doing, v_th_numbers, v_th_planWord, v_th_addWord, v_th_delWord, v_th_fillWord, v_th_probes, v_th_links, v_th_looks, v_th_found, v_th_isOver])), (h_row, .inl (cyI, 1824, .inl row))] H → va_D A [(h_th, .inr (7, [.ref h_row, v_th_undos, v_th_isKept, v_th_text, v_th_length, v_th_sizes, v_th_values, v_th_asked, v_th_first, v_th_behind, v_th_readBits, v_th_clauses, v_th_doing, v_th_numbers, v_th_planWord, v_th_addWord, v_th_delWord, v_th_fillWord, v_th_probes, v_th_links, v_th_looks, v_th_found, v_th_isOver])), (h_row, .inl (cyI, 1824, .inl row))] → va_S A s.heap H locs → lv_has ls 5 [(3, .int w_22.1)] → W p l e ({ frames := 2, cells := 0, slots := 0, locals := 46 }) s m args below meth c H locs 0 0 Q (F0 m 78 ls []) := by
        intro H locs ls hP hD hS hl
        refine lv_iload_n hx hb dX7_marks_78 rfl (lv_at hl 0 rfl) ?_
        obtain rfl := Option.some.inj h
        exact hret _ _ _ _ dX7_marks_79 hP hD hS
      have LL : ∀ (n : Nat) (m3 : Int32) (m4 : Int32) (H : Heap) (locs : List Loc) (ls : Array Slot), lpX7_marks_34 x0 x1 row n m3 m4 = some w_22 → va_P (dC, dI) vwCl [(h_th, .inr (7, [.ref h_row, v_th_undos, v_th_isKept, v_th_text, v_th_length, v_th_sizes, v_th_values, v_th_asked, v_th_first, v_th_behind, v_th_readBits, v_th_clauses, v_th_doing, v_th_numbers, v_th_planWord, v_th_addWord, v_th_delWord, v_th_fillWord, v_th_probes, v_th_links, v_th_looks, v_th_found, v_th_isOver])), (h_row, .inl (cyI, 1824, .inl row))] H → va_D A [(h_th, .inr (7, [.ref h_row, v_th_undos, v_th_isKept, v_th_text, v_th_length, v_th_sizes, v_th_values, v_th_asked, v_th_first, v_th_behind, v_th_readBits, v_th_clauses, v_th_doing, v_th_numbers, v_th_planWord, v_th_addWord, v_th_delWord, v_th_fillWord, v_th_probes, v_th_links, v_th_looks, v_th_found, v_th_isOver])), (h_row, .inl (cyI, 1824, .inl row))] → va_S A s.heap H locs → lv_has ls 5 [(0, .ref h_th), (1, .int x0), (2, .int x1), (3, .int m3), (4, .int m4)] → W p l e ({ frames := 2, cells := 0, slots := 0, locals := 46 }) s m args below meth c H locs 0 0 Q (F0 m 34 ls []) := by
        intro n
        induction n with
        | zero =>
          intro m3 m4 H locs ls h
          exact absurd h (by rw [lpX7_marks_34]; exact fun q => by cases q)
        | succ n ih =>
          intro m3 m4 H locs ls h hP hD hS hl
          rw [lpX7_marks_34] at h
          refine lv_iload hx hb dX7_marks_34 (lv_at hl 4 rfl) ?_
          refine lv_aload_n hx hb dX7_marks_36 rfl (lv_at hl 0 rfl) ?_
          refine va_get (D := (dC, dI)) (ci := 7) (v := .ref h_row) (C := RX7) (T := TX7) (N := 23) hx hb hts (fun _ hw => List.mem_cons_of_mem _ (List.mem_append_right _ hw)) hown hK hP 0 rfl rfl 0 (by decide) (hts (.fieldLink RX7 7 "PrefixIndexModel" "row" "[I") (List.mem_of_getElem? (i := 1) rfl)) (fun _ h9 => h9) rfl dX7_marks_37 ?_
          refine lv_iconst (v := 3) hx hb dX7_marks_40 (by decide) ?_
          obtain ⟨hi_15, h⟩ := oin_e h
          refine va_iald hx hb hK hP 1 0 rfl rfl hi_15 dX7_marks_41 ?_
          refine lv_icmp_ge (tgt := 78) hx hb dX7_marks_42 (by decide) (fun c_16 => ?_) (fun c_16 => ?_)
          · have h := og_ite_t c_16 h
            obtain rfl := Option.some.inj h
            exact J _ _ _ hP hD hS (lv_sub hl [3] rfl)
          · have h := og_ite_f c_16 h
            refine lv_iload_n hx hb dX7_marks_45 rfl (lv_at hl 3 rfl) ?_
            refine lv_aload_n hx hb dX7_marks_46 rfl (lv_at hl 0 rfl) ?_
            refine lv_aload_n hx hb dX7_marks_47 rfl (lv_at hl 0 rfl) ?_
            refine va_get (D := (dC, dI)) (ci := 7) (v := .ref h_row) (C := RX7) (T := TX7) (N := 23) hx hb hts (fun _ hw => List.mem_cons_of_mem _ (List.mem_append_right _ hw)) hown hK hP 0 rfl rfl 0 (by decide) (hts (.fieldLink RX7 7 "PrefixIndexModel" "row" "[I") (List.mem_of_getElem? (i := 1) rfl)) (fun _ h9 => h9) rfl dX7_marks_48 ?_
            refine lv_bipush (v := 102) hx hb dX7_marks_51 (by decide) ?_
            refine lv_iload hx hb dX7_marks_53 (lv_at hl 4 rfl) ?_
            refine lv_iadd hx hb dX7_marks_55 ?_
            obtain ⟨hi_17, h⟩ := oin_e h
            refine va_iald hx hb hK hP 1 0 rfl rfl hi_17 dX7_marks_56 ?_
            refine lv_iload_n hx hb dX7_marks_57 rfl (lv_at hl 1 rfl) ?_
            obtain ⟨u_18, hc_19, h⟩ := obd_e h
            refine Gci (wr := []) (va_runV (As := [.int (row ((102 : Int32) + m4).toNatClampNeg), .int x0]) (rest := [.int m3]) ⟨hx, hb, hml, hown, hts⟩ (tX7_beginning l dC dI cyI cyJ cyZ cyO H.size h_th h_row v_th_undos v_th_isKept v_th_text v_th_length v_th_sizes v_th_values v_th_asked v_th_first v_th_behind v_th_readBits v_th_clauses v_th_doing v_th_numbers v_th_planWord v_th_addWord v_th_delWord v_th_fillWord v_th_probes v_th_links v_th_looks v_th_found v_th_isOver row (row ((102 : Int32) + m4).toNatClampNeg) x0 u_18 hc_19) (cwV 2 hts gX7_marks_X7_beginning rfl rfl rfl (by decide +kernel) ⟨Nat.le_of_ble_eq_true rfl, Nat.le_of_ble_eq_true rfl⟩) (GpreV hP hD hK hN [0, 1] rfl (by decide) 7 0 rfl rfl rfl) rfl rfl hl.1 rfl (lv_room (Nat.le_of_ble_eq_true rfl)) dX7_marks_58 ⟨Nat.zero_le _, Nat.zero_le _⟩) hP hD hS hA [0, 1] [] rfl rfl (by decide) (by decide) (fun H locs hP hD hS => ?_)
            have hP : va_P (dC, dI) vwCl [(h_th, .inr (7, [.ref h_row, v_th_undos, v_th_isKept, v_th_text, v_th_length, v_th_sizes, v_th_values, v_th_asked, v_th_first, v_th_behind, v_th_readBits, v_th_clauses, v_th_doing, v_th_numbers, v_th_planWord, v_th_addWord, v_th_delWord, v_th_fillWord, v_th_probes, v_th_links, v_th_looks, v_th_found, v_th_isOver])), (h_row, .inl (cyI, 1824, .inl row))] H := hP
            have hD : va_D A [(h_th, .inr (7, [.ref h_row, v_th_undos, v_th_isKept, v_th_text, v_th_length, v_th_sizes, v_th_values, v_th_asked, v_th_first, v_th_behind, v_th_readBits, v_th_clauses, v_th_doing, v_th_numbers, v_th_planWord, v_th_addWord, v_th_delWord, v_th_fillWord, v_th_probes, v_th_links, v_th_looks, v_th_found, v_th_isOver])), (h_row, .inl (cyI, 1824, .inl row))] := hD
            refine lv_iload_n hx hb dX7_marks_61 rfl (lv_at hl 2 rfl) ?_
            obtain ⟨y_21, ey_21, h⟩ := olet_e h
            have J : ∀ (H : Heap) (locs : List Loc) (ls : Array Slot), va_P (dC, dI) vwCl [(h_th, .inr (7, [.ref h_row, v_th_undos, v_th_isKept, v_th_text, v_th_length, v_th_sizes, v_th_values, v_th_asked, v_th_first, v_th_behind, v_th_readBits, v_th_clauses, v_th_doing, v_th_numbers, v_th_planWord, v_th_addWord, v_th_delWord, v_th_fillWord, v_th_probes, v_th_links, v_th_looks, v_th_found, v_th_isOver])), (h_row, .inl (cyI, 1824, .inl row))] H → va_D A [(h_th, .inr (7, [.ref h_row, v_th_undos, v_th_isKept, v_th_text, v_th_length, v_th_sizes, v_th_values, v_th_asked, v_th_first, v_th_behind, v_th_readBits, v_th_clauses, v_th_doing, v_th_numbers, v_th_planWord, v_th_addWord, v_th_delWord, v_th_fillWord, v_th_probes, v_th_links, v_th_looks, v_th_found, v_th_isOver])), (h_row, .inl (cyI, 1824, .inl row))] → va_S A s.heap H locs → lv_has ls 5 [(0, .ref h_th), (1, .int x0), (2, .int x1), (4, .int m4)] → W p l e ({ frames := 2, cells := 0, slots := 0, locals := 46 }) s m args below meth c H locs 0 0 Q (F0 m 70 ls [.int y_21, .int m3]) := by
              intro H locs ls hP hD hS hl
              refine lv_iadd hx hb dX7_marks_70 ?_
              refine lv_istore_n (lv' := [(3, .int (m3 + y_21)), (0, .ref h_th), (1, .int x0), (2, .int x1), (4, .int m4)]) hx hb dX7_marks_71 rfl hl (by decide) rfl (fun ls hl => ?_)
              refine lv_iinc (v := m4 + (1 : Int32)) (lv' := [(4, .int (m4 + (1 : Int32))), (3, .int (m3 + y_21)), (0, .ref h_th), (1, .int x0), (2, .int x1)]) hx hb dX7_marks_72 hl (k := 4) rfl rfl (by decide) rfl (fun ls hl => ?_)
              refine lv_goto (tgt := 34) hx hb dX7_marks_75 (by decide) ?_
              exact ih (m3 + y_21) (m4 + (1 : Int32)) _ _ _ h hP hD hS (lv_sub hl [2, 3, 4, 1, 0] rfl)
            clear h
            refine lv_icmp_ne (tgt := 69) hx hb dX7_marks_62 (by decide) (fun c_20 => ?_) (fun c_20 => ?_)
            · refine lv_iconst (v := 0) hx hb dX7_marks_69 (by decide) ?_
              rw [if_neg c_20] at ey_21
              subst ey_21
              exact J H locs _ hP hD hS (lv_sub hl [0, 1, 2, 4] rfl)
            · refine lv_iconst (v := 1) hx hb dX7_marks_65 (by decide) ?_
              refine lv_goto (tgt := 70) hx hb dX7_marks_66 (by decide) ?_
              rw [if_pos c_20] at ey_21
              subst ey_21
              exact J H locs _ hP hD hS (lv_sub hl [0, 1, 2, 4] rfl)
      exact LL _ (0 : Int32) (0 : Int32) _ _ _ hw_23 hP hD hS (lv_sub hl [2, 3, 4, 1, 0] rfl)
    · have h := og_ite_t c_6 h
      refine lv_bipush (v := (-3)) hx hb dX7_marks_26 (by decide) ?_
      obtain rfl := Option.some.inj h
      exact hret _ _ _ _ dX7_marks_28 hP hD hS
  · have h := og_ite_t c_3 h
    refine lv_bipush (v := (-2)) hx hb dX7_marks_8 (by decide) ?_
    obtain rfl := Option.some.inj h
    exact hret _ _ _ _ dX7_marks_10 hP hD hS

def lpX7_under_48 (q1 : Int32) (q2 : Int32) (q3 : Int32) (row : (Nat → Int32)) : Nat → Int32 → Int32 → Int32 → Option (Int32 × Int32 × Int32)
  | 0, _, _, _ => none
  | n + 1, m4, m5, m6 => oin (3 : Int32) 1824 (if (row (3 : Int32).toNatClampNeg) ≤ m6 then (some (m4, m5, m6)) else (oin ((102 : Int32) + m6) 1824 (obd (fX7_beginning row (row ((102 : Int32) + m6).toNatClampNeg) q1) fun u_14 => olet (if u_14 = q2 then ((1 : Int32)) else ((0 : Int32))) fun y_17 => obd (if y_17 = 0 then (some m4) else (if m4 = (-1 : Int32) then (oin ((102 : Int32) + m6) 1824 (some (row ((102 : Int32) + m6).toNatClampNeg))) else (some m4))) fun w_19 => obd (if y_17 = 0 then (some m5) else (oin ((102 : Int32) + m6) 1824 (some (row ((102 : Int32) + m6).toNatClampNeg)))) fun w_21 => lpX7_under_48 q1 q2 q3 row n w_19 w_21 (m6 + (1 : Int32)))))

def fX7_under (row : (Nat → Int32)) (x0 : Int32) (x1 : Int32) (x2 : Int32) : Option (Int32) := obd (fX7_isLevel row x0) fun u_1 => if u_1 = 0 then (some (-2 : Int32)) else (obd (fX7_in x1.toInt64 (0 : Int64) ((((1 : Int32) <<< (x0 &&& 31)) - (1 : Int32)).toInt64)) fun u_4 => if u_4 = 0 then (some (-3 : Int32)) else (obd (fX7_in x2.toInt64 (0 : Int64) (1 : Int64)) fun u_7 => if u_7 = 0 then (some (-3 : Int32)) else (obd (lpX7_under_48 x0 x1 x2 row 100000 (-1 : Int32) (-1 : Int32) (0 : Int32)) fun w_43 => olet (if x2 = 0 then (w_43.1) else (w_43.2.1)) fun y_46 => some y_46)))

set_option maxHeartbeats 4000000 in
set_option maxRecDepth 100000 in
theorem tX7_under (l : Launch) (dC : Nat → ClassId) (dI : Nat → Nat → Nat) (cyI cyJ cyZ cyO : ClassId) (sz : Nat) (h_th h_row : Nat) (v_th_undos : Value) (v_th_isKept : Value) (v_th_text : Value) (v_th_length : Value) (v_th_sizes : Value) (v_th_values : Value) (v_th_asked : Value) (v_th_first : Value) (v_th_behind : Value) (v_th_readBits : Value) (v_th_clauses : Value) (v_th_doing : Value) (v_th_numbers : Value) (v_th_planWord : Value) (v_th_addWord : Value) (v_th_delWord : Value) (v_th_fillWord : Value) (v_th_probes : Value) (v_th_links : Value) (v_th_looks : Value) (v_th_found : Value) (v_th_isOver : Value) (row : (Nat → Int32)) (x0 : Int32) (x1 : Int32) (x2 : Int32) (u : Int32) (hf : fX7_under row x0 x1 x2 = some u) : Met l yX7_under wsX7_under ({ frames := 2, cells := 0, slots := 0, locals := 46 }) (va_Pc [.ref h_th, .int x0, .int x1, .int x2] (GP (dC, dI) (T4 cyI cyJ cyZ cyO) sz [(h_th, .inr (7, [.ref h_row, v_th_undos, v_th_isKept, v_th_text, v_th_length, v_th_sizes, v_th_values, v_th_asked, v_th_first, v_th_behind, v_th_readBits, v_th_clauses, v_th_doing, v_th_numbers, v_th_planWord, v_th_addWord, v_th_delWord, v_th_fillWord, v_th_probes, v_th_links, v_th_looks, v_th_found, v_th_isOver])), (h_row, .inl (cyI, 1824, .inl row))])) (va_Qi (fun (r : Int32) (_ : Unit) => r = u) (GB (dC, dI) [(h_th, .inr (7, [.ref h_row, v_th_undos, v_th_isKept, v_th_text, v_th_length, v_th_sizes, v_th_values, v_th_asked, v_th_first, v_th_behind, v_th_readBits, v_th_clauses, v_th_doing, v_th_numbers, v_th_planWord, v_th_addWord, v_th_delWord, v_th_fillWord, v_th_probes, v_th_links, v_th_looks, v_th_found, v_th_isOver])), (h_row, .inl (cyI, 1824, .inl row))] (va_A [(h_th, .inr (7, [.ref h_row, v_th_undos, v_th_isKept, v_th_text, v_th_length, v_th_sizes, v_th_values, v_th_asked, v_th_first, v_th_behind, v_th_readBits, v_th_clauses, v_th_doing, v_th_numbers, v_th_planWord, v_th_addWord, v_th_delWord, v_th_fillWord, v_th_probes, v_th_links, v_th_looks, v_th_found, v_th_isOver])), (h_row, .inl (cyI, 1824, .inl row))] sz)) (va_A [(h_th, .inr (7, [.ref h_row, v_th_undos, v_th_isKept, v_th_text, v_th_length, v_th_sizes, v_th_values, v_th_asked, v_th_first, v_th_behind, v_th_readBits, v_th_clauses, v_th_doing, v_th_numbers, v_th_planWord, v_th_addWord, v_th_delWord, v_th_fillWord, v_th_probes, v_th_links, v_th_looks, v_th_found, v_th_isOver])), (h_row, .inl (cyI, 1824, .inl row))] sz)) 0 0 (va_A [(h_th, .inr (7, [.ref h_row, v_th_undos, v_th_isKept, v_th_text, v_th_length, v_th_sizes, v_th_values, v_th_asked, v_th_first, v_th_behind, v_th_readBits, v_th_clauses, v_th_doing, v_th_numbers, v_th_planWord, v_th_addWord, v_th_delWord, v_th_fillWord, v_th_probes, v_th_links, v_th_looks, v_th_found, v_th_isOver])), (h_row, .inl (cyI, 1824, .inl row))] sz) := by
  refine GMetI (by decide) rfl (Nat.le_of_ble_eq_true rfl) ?_
  intro p e s m args below meth c A Q ls hx hb hml hts hown hN hK hA hret hP hD hS hl
  have h := hf
  clear hf
  unfold fX7_under at h
  have hown : s.vm.findClass RX7 = some m.cls := hown
  have hl : lv_has ls 8 [(0, .ref h_th), (1, .int x0), (2, .int x1), (3, .int x2)] := hl
  refine lv_aload_n hx hb dX7_under_0 rfl (lv_at hl 0 rfl) ?_
  refine lv_iload_n hx hb dX7_under_1 rfl (lv_at hl 1 rfl) ?_
  obtain ⟨u_1, hc_2, h⟩ := obd_e h
  refine Gci (wr := []) (va_runV (As := [.int x0]) (rest := []) ⟨hx, hb, hml, hown, hts⟩ (tX7_isLevel l dC dI cyI cyJ cyZ cyO s.heap.size h_th h_row v_th_undos v_th_isKept v_th_text v_th_length v_th_sizes v_th_values v_th_asked v_th_first v_th_behind v_th_readBits v_th_clauses v_th_doing v_th_numbers v_th_planWord v_th_addWord v_th_delWord v_th_fillWord v_th_probes v_th_links v_th_looks v_th_found v_th_isOver row x0 u_1 hc_2) (cwV 1 hts gX7_under_X7_isLevel rfl rfl rfl (by decide +kernel) ⟨Nat.le_of_ble_eq_true rfl, Nat.le_of_ble_eq_true rfl⟩) (GpreV hP hD hK hN [0, 1] rfl (by decide) 7 0 rfl rfl rfl) rfl rfl hl.1 rfl (lv_room (Nat.le_of_ble_eq_true rfl)) dX7_under_2 ⟨Nat.zero_le _, Nat.zero_le _⟩) hP hD hS hA [0, 1] [] rfl rfl (by decide) (by decide) (fun H locs hP hD hS => ?_)
  have hP : va_P (dC, dI) vwCl [(h_th, .inr (7, [.ref h_row, v_th_undos, v_th_isKept, v_th_text, v_th_length, v_th_sizes, v_th_values, v_th_asked, v_th_first, v_th_behind, v_th_readBits, v_th_clauses, v_th_doing, v_th_numbers, v_th_planWord, v_th_addWord, v_th_delWord, v_th_fillWord, v_th_probes, v_th_links, v_th_looks, v_th_found, v_th_isOver])), (h_row, .inl (cyI, 1824, .inl row))] H := hP
  have hD : va_D A [(h_th, .inr (7, [.ref h_row, v_th_undos, v_th_isKept, v_th_text, v_th_length, v_th_sizes, v_th_values, v_th_asked, v_th_first, v_th_behind, v_th_readBits, v_th_clauses, v_th_doing, v_th_numbers, v_th_planWord, v_th_addWord, v_th_delWord, v_th_fillWord, v_th_probes, v_th_links, v_th_looks, v_th_found, v_th_isOver])), (h_row, .inl (cyI, 1824, .inl row))] := hD
  refine lv_if_ne (tgt := 11) hx hb dX7_under_5 (by decide) (fun c_3 => ?_) (fun c_3 => ?_)
  · have h := og_ite_f c_3 h
    refine lv_iload_n hx hb dX7_under_11 rfl (lv_at hl 2 rfl) ?_
    refine lv_i2l (v := x1.toInt64) hx hb dX7_under_12 rfl ?_
    refine lv_lconst (v := 0) hx hb dX7_under_13 (by decide) ?_
    refine lv_iconst (v := 1) hx hb dX7_under_14 (by decide) ?_
    refine lv_iload_n hx hb dX7_under_15 rfl (lv_at hl 1 rfl) ?_
    refine lv_ishl hx hb dX7_under_16 ?_
    refine lv_iconst (v := 1) hx hb dX7_under_17 (by decide) ?_
    refine lv_isub hx hb dX7_under_18 ?_
    refine lv_i2l (v := (((1 : Int32) <<< (x0 &&& 31)) - (1 : Int32)).toInt64) hx hb dX7_under_19 rfl ?_
    obtain ⟨u_4, hc_5, h⟩ := obd_e h
    refine Gci (wr := [(h_th, .inr (7, [.ref h_row, v_th_undos, v_th_isKept, v_th_text, v_th_length, v_th_sizes, v_th_values, v_th_asked, v_th_first, v_th_behind, v_th_readBits, v_th_clauses, v_th_doing, v_th_numbers, v_th_planWord, v_th_addWord, v_th_delWord, v_th_fillWord, v_th_probes, v_th_links, v_th_looks, v_th_found, v_th_isOver])), (h_row, .inl (cyI, 1824, .inl row))]) (va_runS (As := [.long x1.toInt64, .long (0 : Int64), .long ((((1 : Int32) <<< (x0 &&& 31)) - (1 : Int32)).toInt64)]) (rest := []) ⟨hx, hb, hml, hown, hts⟩ (tX7_in l dC dI cyI cyJ cyZ cyO H.size x1.toInt64 (0 : Int64) ((((1 : Int32) <<< (x0 &&& 31)) - (1 : Int32)).toInt64) u_4 hc_5) (cwS 3 hts gX7_under_X7_in rfl rfl rfl (by decide +kernel) ⟨Nat.le_of_ble_eq_true rfl, Nat.le_of_ble_eq_true rfl⟩) (GpreS hP hD hK hN [] rfl (by decide)) rfl rfl hl.1 rfl (lv_room (Nat.le_of_ble_eq_true rfl)) dX7_under_20 ⟨Nat.zero_le _, Nat.zero_le _⟩) hP hD hS hA [] [0, 1] rfl rfl (by decide) (by decide) (fun H locs hP hD hS => ?_)
    have hP : va_P (dC, dI) vwCl [(h_th, .inr (7, [.ref h_row, v_th_undos, v_th_isKept, v_th_text, v_th_length, v_th_sizes, v_th_values, v_th_asked, v_th_first, v_th_behind, v_th_readBits, v_th_clauses, v_th_doing, v_th_numbers, v_th_planWord, v_th_addWord, v_th_delWord, v_th_fillWord, v_th_probes, v_th_links, v_th_looks, v_th_found, v_th_isOver])), (h_row, .inl (cyI, 1824, .inl row))] H := hP
    have hD : va_D A [(h_th, .inr (7, [.ref h_row, v_th_undos, v_th_isKept, v_th_text, v_th_length, v_th_sizes, v_th_values, v_th_asked, v_th_first, v_th_behind, v_th_readBits, v_th_clauses, v_th_doing, v_th_numbers, v_th_planWord, v_th_addWord, v_th_delWord, v_th_fillWord, v_th_probes, v_th_links, v_th_looks, v_th_found, v_th_isOver])), (h_row, .inl (cyI, 1824, .inl row))] := hD
    refine lv_if_eq (tgt := 36) hx hb dX7_under_23 (by decide) (fun c_6 => ?_) (fun c_6 => ?_)
    · have h := og_ite_t c_6 h
      refine lv_bipush (v := (-3)) hx hb dX7_under_36 (by decide) ?_
      obtain rfl := Option.some.inj h
      exact hret _ _ _ _ dX7_under_38 hP hD hS
    · have h := og_ite_f c_6 h
      refine lv_iload_n hx hb dX7_under_26 rfl (lv_at hl 3 rfl) ?_
      refine lv_i2l (v := x2.toInt64) hx hb dX7_under_27 rfl ?_
      refine lv_lconst (v := 0) hx hb dX7_under_28 (by decide) ?_
      refine lv_lconst (v := 1) hx hb dX7_under_29 (by decide) ?_
      obtain ⟨u_7, hc_8, h⟩ := obd_e h
      refine Gci (wr := [(h_th, .inr (7, [.ref h_row, v_th_undos, v_th_isKept, v_th_text, v_th_length, v_th_sizes, v_th_values, v_th_asked, v_th_first, v_th_behind, v_th_readBits, v_th_clauses, v_th_doing, v_th_numbers, v_th_planWord, v_th_addWord, v_th_delWord, v_th_fillWord, v_th_probes, v_th_links, v_th_looks, v_th_found, v_th_isOver])), (h_row, .inl (cyI, 1824, .inl row))]) (va_runS (As := [.long x2.toInt64, .long (0 : Int64), .long (1 : Int64)]) (rest := []) ⟨hx, hb, hml, hown, hts⟩ (tX7_in l dC dI cyI cyJ cyZ cyO H.size x2.toInt64 (0 : Int64) (1 : Int64) u_7 hc_8) (cwS 3 hts gX7_under_X7_in rfl rfl rfl (by decide +kernel) ⟨Nat.le_of_ble_eq_true rfl, Nat.le_of_ble_eq_true rfl⟩) (GpreS hP hD hK hN [] rfl (by decide)) rfl rfl hl.1 rfl (lv_room (Nat.le_of_ble_eq_true rfl)) dX7_under_30 ⟨Nat.zero_le _, Nat.zero_le _⟩) hP hD hS hA [] [0, 1] rfl rfl (by decide) (by decide) (fun H locs hP hD hS => ?_)
      have hP : va_P (dC, dI) vwCl [(h_th, .inr (7, [.ref h_row, v_th_undos, v_th_isKept, v_th_text, v_th_length, v_th_sizes, v_th_values, v_th_asked, v_th_first, v_th_behind, v_th_readBits, v_th_clauses, v_th_doing, v_th_numbers, v_th_planWord, v_th_addWord, v_th_delWord, v_th_fillWord, v_th_probes, v_th_links, v_th_looks, v_th_found, v_th_isOver])), (h_row, .inl (cyI, 1824, .inl row))] H := hP
      have hD : va_D A [(h_th, .inr (7, [.ref h_row, v_th_undos, v_th_isKept, v_th_text, v_th_length, v_th_sizes, v_th_values, v_th_asked, v_th_first, v_th_behind, v_th_readBits, v_th_clauses, v_th_doing, v_th_numbers, v_th_planWord, v_th_addWord, v_th_delWord, v_th_fillWord, v_th_probes, v_th_links, v_th_looks, v_th_found, v_th_isOver])), (h_row, .inl (cyI, 1824, .inl row))] := hD
      refine lv_if_ne (tgt := 39) hx hb dX7_under_33 (by decide) (fun c_9 => ?_) (fun c_9 => ?_)
      · have h := og_ite_f c_9 h
        refine lv_iconst (v := (-1)) hx hb dX7_under_39 (by decide) ?_
        refine lv_istore (lv' := [(4, .int (-1 : Int32)), (0, .ref h_th), (1, .int x0), (2, .int x1), (3, .int x2)]) hx hb dX7_under_40 hl (by decide) rfl (fun ls hl => ?_)
        refine lv_iconst (v := (-1)) hx hb dX7_under_42 (by decide) ?_
        refine lv_istore (lv' := [(5, .int (-1 : Int32)), (4, .int (-1 : Int32)), (0, .ref h_th), (1, .int x0), (2, .int x1), (3, .int x2)]) hx hb dX7_under_43 hl (by decide) rfl (fun ls hl => ?_)
        refine lv_iconst (v := 0) hx hb dX7_under_45 (by decide) ?_
        refine lv_istore (lv' := [(6, .int (0 : Int32)), (5, .int (-1 : Int32)), (4, .int (-1 : Int32)), (0, .ref h_th), (1, .int x0), (2, .int x1), (3, .int x2)]) hx hb dX7_under_46 hl (by decide) rfl (fun ls hl => ?_)
        obtain ⟨w_43, hw_44, h⟩ := obd_e h
        have J : ∀ (H : Heap) (locs : List Loc) (ls : Array Slot), va_P (dC, dI) vwCl [(h_th, .inr (7, [.ref h_row, v_th_undos, v_th_isKept, v_th_text, v_th_length, v_th_sizes, v_th_values, v_th_asked, v_th_first, v_th_behind, v_th_readBits, v_th_clauses, v_th_doing, v_th_numbers, v_th_planWord, v_th_addWord, v_th_delWord, v_th_fillWord, v_th_probes, v_th_links, v_th_looks, v_th_found, v_th_isOver])), (h_row, .inl (cyI, 1824, .inl row))] H → va_D A [(h_th, .inr (7, [.ref h_row, v_th_undos, v_th_isKept, v_th_text, v_th_length, v_th_sizes, v_th_values, v_th_asked, v_th_first, v_th_behind, v_th_readBits, v_th_clauses, v_th_doing, v_th_numbers, v_th_planWord, v_th_addWord, v_th_delWord, v_th_fillWord, v_th_probes, v_th_links, v_th_looks, v_th_found, v_th_isOver])), (h_row, .inl (cyI, 1824, .inl row))] → va_S A s.heap H locs → lv_has ls 8 [(3, .int x2), (4, .int w_43.1), (5, .int w_43.2.1)] → W p l e ({ frames := 2, cells := 0, slots := 0, locals := 46 }) s m args below meth c H locs 0 0 Q (F0 m 141 ls []) := by
          intro H locs ls hP hD hS hl
          refine lv_iload_n hx hb dX7_under_141 rfl (lv_at hl 0 rfl) ?_
          obtain ⟨y_46, ey_46, h⟩ := olet_e h
          have J : ∀ (H : Heap) (locs : List Loc) (ls : Array Slot), va_P (dC, dI) vwCl [(h_th, .inr (7, [.ref h_row, v_th_undos, v_th_isKept, v_th_text, v_th_length, v_th_sizes, v_th_values, v_th_asked, v_th_first, v_th_behind, v_th_readBits, v_th_clauses, v_th_doing, v_th_numbers, v_th_planWord, v_th_addWord, v_th_delWord, v_th_fillWord, v_th_probes, v_th_links, v_th_looks, v_th_found, v_th_isOver])), (h_row, .inl (cyI, 1824, .inl row))] H → va_D A [(h_th, .inr (7, [.ref h_row, v_th_undos, v_th_isKept, v_th_text, v_th_length, v_th_sizes, v_th_values, v_th_asked, v_th_first, v_th_behind, v_th_readBits, v_th_clauses, v_th_doing, v_th_numbers, v_th_planWord, v_th_addWord, v_th_delWord, v_th_fillWord, v_th_probes, v_th_links, v_th_looks, v_th_found, v_th_isOver])), (h_row, .inl (cyI, 1824, .inl row))] → va_S A s.heap H locs → lv_has ls 8 [] → W p l e ({ frames := 2, cells := 0, slots := 0, locals := 46 }) s m args below meth c H locs 0 0 Q (F0 m 152 ls [.int y_46]) := by
            intro H locs ls hP hD hS hl
            obtain rfl := Option.some.inj h
            exact hret _ _ _ _ dX7_under_152 hP hD hS
          clear h
          refine lv_if_ne (tgt := 150) hx hb dX7_under_142 (by decide) (fun c_45 => ?_) (fun c_45 => ?_)
          · refine lv_iload hx hb dX7_under_150 (lv_at hl 2 rfl) ?_
            rw [if_neg c_45] at ey_46
            subst ey_46
            exact J H locs _ hP hD hS (lv_sub hl [] rfl)
          · refine lv_iload hx hb dX7_under_145 (lv_at hl 1 rfl) ?_
            refine lv_goto (tgt := 152) hx hb dX7_under_147 (by decide) ?_
            rw [if_pos c_45] at ey_46
            subst ey_46
            exact J H locs _ hP hD hS (lv_sub hl [] rfl)
        have LL : ∀ (n : Nat) (m4 : Int32) (m5 : Int32) (m6 : Int32) (H : Heap) (locs : List Loc) (ls : Array Slot), lpX7_under_48 x0 x1 x2 row n m4 m5 m6 = some w_43 → va_P (dC, dI) vwCl [(h_th, .inr (7, [.ref h_row, v_th_undos, v_th_isKept, v_th_text, v_th_length, v_th_sizes, v_th_values, v_th_asked, v_th_first, v_th_behind, v_th_readBits, v_th_clauses, v_th_doing, v_th_numbers, v_th_planWord, v_th_addWord, v_th_delWord, v_th_fillWord, v_th_probes, v_th_links, v_th_looks, v_th_found, v_th_isOver])), (h_row, .inl (cyI, 1824, .inl row))] H → va_D A [(h_th, .inr (7, [.ref h_row, v_th_undos, v_th_isKept, v_th_text, v_th_length, v_th_sizes, v_th_values, v_th_asked, v_th_first, v_th_behind, v_th_readBits, v_th_clauses, v_th_doing, v_th_numbers, v_th_planWord, v_th_addWord, v_th_delWord, v_th_fillWord, v_th_probes, v_th_links, v_th_looks, v_th_found, v_th_isOver])), (h_row, .inl (cyI, 1824, .inl row))] → va_S A s.heap H locs → lv_has ls 8 [(0, .ref h_th), (1, .int x0), (2, .int x1), (3, .int x2), (4, .int m4), (5, .int m5), (6, .int m6)] → W p l e ({ frames := 2, cells := 0, slots := 0, locals := 46 }) s m args below meth c H locs 0 0 Q (F0 m 48 ls []) := by
          intro n
          induction n with
          | zero =>
            intro m4 m5 m6 H locs ls h
            exact absurd h (by rw [lpX7_under_48]; exact fun q => by cases q)
          | succ n ih =>
            intro m4 m5 m6 H locs ls h hP hD hS hl
            rw [lpX7_under_48] at h
            refine lv_iload hx hb dX7_under_48 (lv_at hl 6 rfl) ?_
            refine lv_aload_n hx hb dX7_under_50 rfl (lv_at hl 0 rfl) ?_
            refine va_get (D := (dC, dI)) (ci := 7) (v := .ref h_row) (C := RX7) (T := TX7) (N := 23) hx hb hts (fun _ hw => List.mem_cons_of_mem _ (List.mem_append_right _ hw)) hown hK hP 0 rfl rfl 0 (by decide) (hts (.fieldLink RX7 7 "PrefixIndexModel" "row" "[I") (List.mem_of_getElem? (i := 1) rfl)) (fun _ h9 => h9) rfl dX7_under_51 ?_
            refine lv_iconst (v := 3) hx hb dX7_under_54 (by decide) ?_
            obtain ⟨hi_27, h⟩ := oin_e h
            refine va_iald hx hb hK hP 1 0 rfl rfl hi_27 dX7_under_55 ?_
            refine lv_icmp_ge (tgt := 141) hx hb dX7_under_56 (by decide) (fun c_28 => ?_) (fun c_28 => ?_)
            · have h := og_ite_t c_28 h
              obtain rfl := Option.some.inj h
              exact J _ _ _ hP hD hS (lv_sub hl [3, 4, 5] rfl)
            · have h := og_ite_f c_28 h
              refine lv_aload_n hx hb dX7_under_59 rfl (lv_at hl 0 rfl) ?_
              refine lv_aload_n hx hb dX7_under_60 rfl (lv_at hl 0 rfl) ?_
              refine va_get (D := (dC, dI)) (ci := 7) (v := .ref h_row) (C := RX7) (T := TX7) (N := 23) hx hb hts (fun _ hw => List.mem_cons_of_mem _ (List.mem_append_right _ hw)) hown hK hP 0 rfl rfl 0 (by decide) (hts (.fieldLink RX7 7 "PrefixIndexModel" "row" "[I") (List.mem_of_getElem? (i := 1) rfl)) (fun _ h9 => h9) rfl dX7_under_61 ?_
              refine lv_bipush (v := 102) hx hb dX7_under_64 (by decide) ?_
              refine lv_iload hx hb dX7_under_66 (lv_at hl 6 rfl) ?_
              refine lv_iadd hx hb dX7_under_68 ?_
              obtain ⟨hi_29, h⟩ := oin_e h
              refine va_iald hx hb hK hP 1 0 rfl rfl hi_29 dX7_under_69 ?_
              refine lv_iload_n hx hb dX7_under_70 rfl (lv_at hl 1 rfl) ?_
              obtain ⟨u_30, hc_31, h⟩ := obd_e h
              refine Gci (wr := []) (va_runV (As := [.int (row ((102 : Int32) + m6).toNatClampNeg), .int x0]) (rest := []) ⟨hx, hb, hml, hown, hts⟩ (tX7_beginning l dC dI cyI cyJ cyZ cyO H.size h_th h_row v_th_undos v_th_isKept v_th_text v_th_length v_th_sizes v_th_values v_th_asked v_th_first v_th_behind v_th_readBits v_th_clauses v_th_doing v_th_numbers v_th_planWord v_th_addWord v_th_delWord v_th_fillWord v_th_probes v_th_links v_th_looks v_th_found v_th_isOver row (row ((102 : Int32) + m6).toNatClampNeg) x0 u_30 hc_31) (cwV 2 hts gX7_under_X7_beginning rfl rfl rfl (by decide +kernel) ⟨Nat.le_of_ble_eq_true rfl, Nat.le_of_ble_eq_true rfl⟩) (GpreV hP hD hK hN [0, 1] rfl (by decide) 7 0 rfl rfl rfl) rfl rfl hl.1 rfl (lv_room (Nat.le_of_ble_eq_true rfl)) dX7_under_71 ⟨Nat.zero_le _, Nat.zero_le _⟩) hP hD hS hA [0, 1] [] rfl rfl (by decide) (by decide) (fun H locs hP hD hS => ?_)
              have hP : va_P (dC, dI) vwCl [(h_th, .inr (7, [.ref h_row, v_th_undos, v_th_isKept, v_th_text, v_th_length, v_th_sizes, v_th_values, v_th_asked, v_th_first, v_th_behind, v_th_readBits, v_th_clauses, v_th_doing, v_th_numbers, v_th_planWord, v_th_addWord, v_th_delWord, v_th_fillWord, v_th_probes, v_th_links, v_th_looks, v_th_found, v_th_isOver])), (h_row, .inl (cyI, 1824, .inl row))] H := hP
              have hD : va_D A [(h_th, .inr (7, [.ref h_row, v_th_undos, v_th_isKept, v_th_text, v_th_length, v_th_sizes, v_th_values, v_th_asked, v_th_first, v_th_behind, v_th_readBits, v_th_clauses, v_th_doing, v_th_numbers, v_th_planWord, v_th_addWord, v_th_delWord, v_th_fillWord, v_th_probes, v_th_links, v_th_looks, v_th_found, v_th_isOver])), (h_row, .inl (cyI, 1824, .inl row))] := hD
              refine lv_iload_n hx hb dX7_under_74 rfl (lv_at hl 2 rfl) ?_
              obtain ⟨y_33, ey_33, h⟩ := olet_e h
              have J : ∀ (H : Heap) (locs : List Loc) (ls : Array Slot), va_P (dC, dI) vwCl [(h_th, .inr (7, [.ref h_row, v_th_undos, v_th_isKept, v_th_text, v_th_length, v_th_sizes, v_th_values, v_th_asked, v_th_first, v_th_behind, v_th_readBits, v_th_clauses, v_th_doing, v_th_numbers, v_th_planWord, v_th_addWord, v_th_delWord, v_th_fillWord, v_th_probes, v_th_links, v_th_looks, v_th_found, v_th_isOver])), (h_row, .inl (cyI, 1824, .inl row))] H → va_D A [(h_th, .inr (7, [.ref h_row, v_th_undos, v_th_isKept, v_th_text, v_th_length, v_th_sizes, v_th_values, v_th_asked, v_th_first, v_th_behind, v_th_readBits, v_th_clauses, v_th_doing, v_th_numbers, v_th_planWord, v_th_addWord, v_th_delWord, v_th_fillWord, v_th_probes, v_th_links, v_th_looks, v_th_found, v_th_isOver])), (h_row, .inl (cyI, 1824, .inl row))] → va_S A s.heap H locs → lv_has ls 8 [(0, .ref h_th), (1, .int x0), (2, .int x1), (3, .int x2), (4, .int m4), (5, .int m5), (6, .int m6)] → W p l e ({ frames := 2, cells := 0, slots := 0, locals := 46 }) s m args below meth c H locs 0 0 Q (F0 m 83 ls [.int y_33]) := by
                intro H locs ls hP hD hS hl
                refine lv_istore (lv' := [(7, .int y_33), (0, .ref h_th), (1, .int x0), (2, .int x1), (3, .int x2), (4, .int m4), (5, .int m5), (6, .int m6)]) hx hb dX7_under_83 hl (by decide) rfl (fun ls hl => ?_)
                refine lv_iload hx hb dX7_under_85 (lv_at hl 0 rfl) ?_
                obtain ⟨w_35, hm_42, h⟩ := obd_e h
                have J : ∀ (H : Heap) (locs : List Loc) (ls : Array Slot), va_P (dC, dI) vwCl [(h_th, .inr (7, [.ref h_row, v_th_undos, v_th_isKept, v_th_text, v_th_length, v_th_sizes, v_th_values, v_th_asked, v_th_first, v_th_behind, v_th_readBits, v_th_clauses, v_th_doing, v_th_numbers, v_th_planWord, v_th_addWord, v_th_delWord, v_th_fillWord, v_th_probes, v_th_links, v_th_looks, v_th_found, v_th_isOver])), (h_row, .inl (cyI, 1824, .inl row))] H → va_D A [(h_th, .inr (7, [.ref h_row, v_th_undos, v_th_isKept, v_th_text, v_th_length, v_th_sizes, v_th_values, v_th_asked, v_th_first, v_th_behind, v_th_readBits, v_th_clauses, v_th_doing, v_th_numbers, v_th_planWord, v_th_addWord, v_th_delWord, v_th_fillWord, v_th_probes, v_th_links, v_th_looks, v_th_found, v_th_isOver])), (h_row, .inl (cyI, 1824, .inl row))] → va_S A s.heap H locs → lv_has ls 8 [(0, .ref h_th), (1, .int x0), (2, .int x1), (3, .int x2), (5, .int m5), (6, .int m6), (7, .int y_33)] → W p l e ({ frames := 2, cells := 0, slots := 0, locals := 46 }) s m args below meth c H locs 0 0 Q (F0 m 111 ls [.int w_35]) := by
                  intro H locs ls hP hD hS hl
                  refine lv_istore (lv' := [(4, .int w_35), (0, .ref h_th), (1, .int x0), (2, .int x1), (3, .int x2), (5, .int m5), (6, .int m6), (7, .int y_33)]) hx hb dX7_under_111 hl (by decide) rfl (fun ls hl => ?_)
                  refine lv_iload hx hb dX7_under_113 (lv_at hl 7 rfl) ?_
                  obtain ⟨w_37, hm_39, h⟩ := obd_e h
                  have J : ∀ (H : Heap) (locs : List Loc) (ls : Array Slot), va_P (dC, dI) vwCl [(h_th, .inr (7, [.ref h_row, v_th_undos, v_th_isKept, v_th_text, v_th_length, v_th_sizes, v_th_values, v_th_asked, v_th_first, v_th_behind, v_th_readBits, v_th_clauses, v_th_doing, v_th_numbers, v_th_planWord, v_th_addWord, v_th_delWord, v_th_fillWord, v_th_probes, v_th_links, v_th_looks, v_th_found, v_th_isOver])), (h_row, .inl (cyI, 1824, .inl row))] H → va_D A [(h_th, .inr (7, [.ref h_row, v_th_undos, v_th_isKept, v_th_text, v_th_length, v_th_sizes, v_th_values, v_th_asked, v_th_first, v_th_behind, v_th_readBits, v_th_clauses, v_th_doing, v_th_numbers, v_th_planWord, v_th_addWord, v_th_delWord, v_th_fillWord, v_th_probes, v_th_links, v_th_looks, v_th_found, v_th_isOver])), (h_row, .inl (cyI, 1824, .inl row))] → va_S A s.heap H locs → lv_has ls 8 [(0, .ref h_th), (1, .int x0), (2, .int x1), (3, .int x2), (4, .int w_35), (6, .int m6)] → W p l e ({ frames := 2, cells := 0, slots := 0, locals := 46 }) s m args below meth c H locs 0 0 Q (F0 m 133 ls [.int w_37]) := by
                    intro H locs ls hP hD hS hl
                    refine lv_istore (lv' := [(5, .int w_37), (0, .ref h_th), (1, .int x0), (2, .int x1), (3, .int x2), (4, .int w_35), (6, .int m6)]) hx hb dX7_under_133 hl (by decide) rfl (fun ls hl => ?_)
                    refine lv_iinc (v := m6 + (1 : Int32)) (lv' := [(6, .int (m6 + (1 : Int32))), (5, .int w_37), (0, .ref h_th), (1, .int x0), (2, .int x1), (3, .int x2), (4, .int w_35)]) hx hb dX7_under_135 hl (k := 6) rfl rfl (by decide) rfl (fun ls hl => ?_)
                    refine lv_goto (tgt := 48) hx hb dX7_under_138 (by decide) ?_
                    exact ih w_35 w_37 (m6 + (1 : Int32)) _ _ _ h hP hD hS (lv_sub hl [2, 3, 4, 5, 6, 1, 0] rfl)
                  replace h := hm_39
                  refine lv_if_eq (tgt := 131) hx hb dX7_under_115 (by decide) (fun c_36 => ?_) (fun c_36 => ?_)
                  · have h := og_ite_t c_36 h
                    refine lv_iload hx hb dX7_under_131 (lv_at hl 5 rfl) ?_
                    obtain rfl := Option.some.inj h
                    exact J _ _ _ hP hD hS (lv_sub hl [1, 2, 3, 4, 0, 6] rfl)
                  · have h := og_ite_f c_36 h
                    refine lv_aload_n hx hb dX7_under_118 rfl (lv_at hl 1 rfl) ?_
                    refine va_get (D := (dC, dI)) (ci := 7) (v := .ref h_row) (C := RX7) (T := TX7) (N := 23) hx hb hts (fun _ hw => List.mem_cons_of_mem _ (List.mem_append_right _ hw)) hown hK hP 0 rfl rfl 0 (by decide) (hts (.fieldLink RX7 7 "PrefixIndexModel" "row" "[I") (List.mem_of_getElem? (i := 1) rfl)) (fun _ h9 => h9) rfl dX7_under_119 ?_
                    refine lv_bipush (v := 102) hx hb dX7_under_122 (by decide) ?_
                    refine lv_iload hx hb dX7_under_124 (lv_at hl 6 rfl) ?_
                    refine lv_iadd hx hb dX7_under_126 ?_
                    obtain ⟨hi_38, h⟩ := oin_e h
                    refine va_iald hx hb hK hP 1 0 rfl rfl hi_38 dX7_under_127 ?_
                    refine lv_goto (tgt := 133) hx hb dX7_under_128 (by decide) ?_
                    obtain rfl := Option.some.inj h
                    exact J _ _ _ hP hD hS (lv_sub hl [1, 2, 3, 4, 0, 6] rfl)
                replace h := hm_42
                refine lv_if_eq (tgt := 109) hx hb dX7_under_87 (by decide) (fun c_34 => ?_) (fun c_34 => ?_)
                · have h := og_ite_t c_34 h
                  refine lv_iload hx hb dX7_under_109 (lv_at hl 5 rfl) ?_
                  obtain rfl := Option.some.inj h
                  exact J _ _ _ hP hD hS (lv_sub hl [1, 2, 3, 4, 6, 7, 0] rfl)
                · have h := og_ite_f c_34 h
                  refine lv_iload hx hb dX7_under_90 (lv_at hl 5 rfl) ?_
                  refine lv_iconst (v := (-1)) hx hb dX7_under_92 (by decide) ?_
                  refine lv_icmp_ne (tgt := 109) hx hb dX7_under_93 (by decide) (fun c_40 => ?_) (fun c_40 => ?_)
                  · have h := og_ite_f c_40 h
                    refine lv_iload hx hb dX7_under_109 (lv_at hl 5 rfl) ?_
                    obtain rfl := Option.some.inj h
                    exact J _ _ _ hP hD hS (lv_sub hl [1, 2, 3, 4, 6, 7, 0] rfl)
                  · have h := og_ite_t c_40 h
                    refine lv_aload_n hx hb dX7_under_96 rfl (lv_at hl 1 rfl) ?_
                    refine va_get (D := (dC, dI)) (ci := 7) (v := .ref h_row) (C := RX7) (T := TX7) (N := 23) hx hb hts (fun _ hw => List.mem_cons_of_mem _ (List.mem_append_right _ hw)) hown hK hP 0 rfl rfl 0 (by decide) (hts (.fieldLink RX7 7 "PrefixIndexModel" "row" "[I") (List.mem_of_getElem? (i := 1) rfl)) (fun _ h9 => h9) rfl dX7_under_97 ?_
                    refine lv_bipush (v := 102) hx hb dX7_under_100 (by decide) ?_
                    refine lv_iload hx hb dX7_under_102 (lv_at hl 7 rfl) ?_
                    refine lv_iadd hx hb dX7_under_104 ?_
                    obtain ⟨hi_41, h⟩ := oin_e h
                    refine va_iald hx hb hK hP 1 0 rfl rfl hi_41 dX7_under_105 ?_
                    refine lv_goto (tgt := 111) hx hb dX7_under_106 (by decide) ?_
                    obtain rfl := Option.some.inj h
                    exact J _ _ _ hP hD hS (lv_sub hl [1, 2, 3, 4, 6, 7, 0] rfl)
              clear h
              refine lv_icmp_ne (tgt := 82) hx hb dX7_under_75 (by decide) (fun c_32 => ?_) (fun c_32 => ?_)
              · refine lv_iconst (v := 0) hx hb dX7_under_82 (by decide) ?_
                rw [if_neg c_32] at ey_33
                subst ey_33
                exact J H locs _ hP hD hS hl
              · refine lv_iconst (v := 1) hx hb dX7_under_78 (by decide) ?_
                refine lv_goto (tgt := 83) hx hb dX7_under_79 (by decide) ?_
                rw [if_pos c_32] at ey_33
                subst ey_33
                exact J H locs _ hP hD hS hl
        exact LL _ (-1 : Int32) (-1 : Int32) (0 : Int32) _ _ _ hw_44 hP hD hS (lv_sub hl [3, 4, 5, 6, 2, 1, 0] rfl)
      · have h := og_ite_t c_9 h
        refine lv_bipush (v := (-3)) hx hb dX7_under_36 (by decide) ?_
        obtain rfl := Option.some.inj h
        exact hret _ _ _ _ dX7_under_38 hP hD hS
  · have h := og_ite_t c_3 h
    refine lv_bipush (v := (-2)) hx hb dX7_under_8 (by decide) ?_
    obtain rfl := Option.some.inj h
    exact hret _ _ _ _ dX7_under_10 hP hD hS

def lpX7_sweep_54 (q2 : Int32) (q3 : Int32) (q4 : Int32) : Nat → (Nat → Int32) → Option ((Nat → Int32))
  | 0, _ => none
  | n + 1, zrow => oin (1674 : Int32) 1824 (if (zrow (1674 : Int32).toNatClampNeg) ≤ q4 then (some zrow) else (oin ((1678 : Int32) + q4) 1824 (if q2 < (zrow ((1678 : Int32) + q4).toNatClampNeg) then (some zrow) else (oin ((1678 : Int32) + q4) 1824 (obd (fX7_takeOut zrow (1672 : Int32) (zrow ((1678 : Int32) + q4).toNatClampNeg)) fun u_21 => lpX7_sweep_54 q2 q3 q4 n u_21)))))

def fX7_sweep (row : (Nat → Int32)) (x0 : Int32) (x1 : Int32) (x2 : Int32) : Option (Int32 × (Nat → Int32)) := obd (fX7_isNumber row x0) fun u_1 => if u_1 = 0 then (some ((-3 : Int32), row)) else (obd (fX7_isNumber row x1) fun u_4 => if u_4 = 0 then (some ((-3 : Int32), row)) else (if x1 < x0 then (some ((-3 : Int32), row)) else (obd (fX7_in x2.toInt64 (0 : Int64) (2 : Int64)) fun u_8 => if u_8 = 0 then (some ((-3 : Int32), row)) else (obd (fX7_copyRow row (0 : Int32) (1672 : Int32)) fun u_11 => obd (fX7_below u_11 (1672 : Int32) x0) fun u_13 => obd (lpX7_sweep_54 x1 x2 u_13 100000 u_11) fun w_30 => obd (if x2 = 0 then (oin (1675 : Int32) 1824 (some (w_30 (1675 : Int32).toNatClampNeg))) else (if x2 = (1 : Int32) then (oin (1676 : Int32) 1824 (oin (4 : Int32) 1824 (some ((w_30 (1676 : Int32).toNatClampNeg) - (w_30 (4 : Int32).toNatClampNeg))))) else (oin (1677 : Int32) 1824 (oin (5 : Int32) 1824 (some ((w_30 (1677 : Int32).toNatClampNeg) - (w_30 (5 : Int32).toNatClampNeg))))))) fun w_33 => some (w_33, w_30)))))

set_option maxHeartbeats 4000000 in
set_option maxRecDepth 100000 in
theorem tX7_sweep (l : Launch) (dC : Nat → ClassId) (dI : Nat → Nat → Nat) (cyI cyJ cyZ cyO : ClassId) (sz : Nat) (h_th h_row : Nat) (v_th_undos : Value) (v_th_isKept : Value) (v_th_text : Value) (v_th_length : Value) (v_th_sizes : Value) (v_th_values : Value) (v_th_asked : Value) (v_th_first : Value) (v_th_behind : Value) (v_th_readBits : Value) (v_th_clauses : Value) (v_th_doing : Value) (v_th_numbers : Value) (v_th_planWord : Value) (v_th_addWord : Value) (v_th_delWord : Value) (v_th_fillWord : Value) (v_th_probes : Value) (v_th_links : Value) (v_th_looks : Value) (v_th_found : Value) (v_th_isOver : Value) (row : (Nat → Int32)) (x0 : Int32) (x1 : Int32) (x2 : Int32) (u : Int32 × (Nat → Int32)) (hf : fX7_sweep row x0 x1 x2 = some u) : Met l yX7_sweep wsX7_sweep ({ frames := 5, cells := 0, slots := 0, locals := 116 }) (va_Pc [.ref h_th, .int x0, .int x1, .int x2] (GP (dC, dI) (T4 cyI cyJ cyZ cyO) sz [(h_th, .inr (7, [.ref h_row, v_th_undos, v_th_isKept, v_th_text, v_th_length, v_th_sizes, v_th_values, v_th_asked, v_th_first, v_th_behind, v_th_readBits, v_th_clauses, v_th_doing, v_th_numbers, v_th_planWord, v_th_addWord, v_th_delWord, v_th_fillWord, v_th_probes, v_th_links, v_th_looks, v_th_found, v_th_isOver])), (h_row, .inl (cyI, 1824, .inl row))])) (va_Qi (fun (r : Int32) (_ : Unit) => r = u.1) (GB (dC, dI) [(h_th, .inr (7, [.ref h_row, v_th_undos, v_th_isKept, v_th_text, v_th_length, v_th_sizes, v_th_values, v_th_asked, v_th_first, v_th_behind, v_th_readBits, v_th_clauses, v_th_doing, v_th_numbers, v_th_planWord, v_th_addWord, v_th_delWord, v_th_fillWord, v_th_probes, v_th_links, v_th_looks, v_th_found, v_th_isOver])), (h_row, .inl (cyI, 1824, .inl u.2))] (va_A [(h_th, .inr (7, [.ref h_row, v_th_undos, v_th_isKept, v_th_text, v_th_length, v_th_sizes, v_th_values, v_th_asked, v_th_first, v_th_behind, v_th_readBits, v_th_clauses, v_th_doing, v_th_numbers, v_th_planWord, v_th_addWord, v_th_delWord, v_th_fillWord, v_th_probes, v_th_links, v_th_looks, v_th_found, v_th_isOver])), (h_row, .inl (cyI, 1824, .inl row))] sz)) (va_A [(h_th, .inr (7, [.ref h_row, v_th_undos, v_th_isKept, v_th_text, v_th_length, v_th_sizes, v_th_values, v_th_asked, v_th_first, v_th_behind, v_th_readBits, v_th_clauses, v_th_doing, v_th_numbers, v_th_planWord, v_th_addWord, v_th_delWord, v_th_fillWord, v_th_probes, v_th_links, v_th_looks, v_th_found, v_th_isOver])), (h_row, .inl (cyI, 1824, .inl row))] sz)) 0 0 (va_A [(h_th, .inr (7, [.ref h_row, v_th_undos, v_th_isKept, v_th_text, v_th_length, v_th_sizes, v_th_values, v_th_asked, v_th_first, v_th_behind, v_th_readBits, v_th_clauses, v_th_doing, v_th_numbers, v_th_planWord, v_th_addWord, v_th_delWord, v_th_fillWord, v_th_probes, v_th_links, v_th_looks, v_th_found, v_th_isOver])), (h_row, .inl (cyI, 1824, .inl row))] sz) := by
  refine GMetI (by decide) rfl (Nat.le_of_ble_eq_true rfl) ?_
  intro p e s m args below meth c A Q ls hx hb hml hts hown hN hK hA hret hP hD hS hl
  have h := hf
  clear hf
  unfold fX7_sweep at h
  have hown : s.vm.findClass RX7 = some m.cls := hown
  have hl : lv_has ls 5 [(0, .ref h_th), (1, .int x0), (2, .int x1), (3, .int x2)] := hl
  refine lv_aload_n hx hb dX7_sweep_0 rfl (lv_at hl 0 rfl) ?_
  refine lv_iload_n hx hb dX7_sweep_1 rfl (lv_at hl 1 rfl) ?_
  obtain ⟨u_1, hc_2, h⟩ := obd_e h
  refine Gci (wr := []) (va_runV (As := [.int x0]) (rest := []) ⟨hx, hb, hml, hown, hts⟩ (tX7_isNumber l dC dI cyI cyJ cyZ cyO s.heap.size h_th h_row v_th_undos v_th_isKept v_th_text v_th_length v_th_sizes v_th_values v_th_asked v_th_first v_th_behind v_th_readBits v_th_clauses v_th_doing v_th_numbers v_th_planWord v_th_addWord v_th_delWord v_th_fillWord v_th_probes v_th_links v_th_looks v_th_found v_th_isOver row x0 u_1 hc_2) (cwV 1 hts gX7_sweep_X7_isNumber rfl rfl rfl (by decide +kernel) ⟨Nat.le_of_ble_eq_true rfl, Nat.le_of_ble_eq_true rfl⟩) (GpreV hP hD hK hN [0, 1] rfl (by decide) 7 0 rfl rfl rfl) rfl rfl hl.1 rfl (lv_room (Nat.le_of_ble_eq_true rfl)) dX7_sweep_2 ⟨Nat.zero_le _, Nat.zero_le _⟩) hP hD hS hA [0, 1] [] rfl rfl (by decide) (by decide) (fun H locs hP hD hS => ?_)
  have hP : va_P (dC, dI) vwCl [(h_th, .inr (7, [.ref h_row, v_th_undos, v_th_isKept, v_th_text, v_th_length, v_th_sizes, v_th_values, v_th_asked, v_th_first, v_th_behind, v_th_readBits, v_th_clauses, v_th_doing, v_th_numbers, v_th_planWord, v_th_addWord, v_th_delWord, v_th_fillWord, v_th_probes, v_th_links, v_th_looks, v_th_found, v_th_isOver])), (h_row, .inl (cyI, 1824, .inl row))] H := hP
  have hD : va_D A [(h_th, .inr (7, [.ref h_row, v_th_undos, v_th_isKept, v_th_text, v_th_length, v_th_sizes, v_th_values, v_th_asked, v_th_first, v_th_behind, v_th_readBits, v_th_clauses, v_th_doing, v_th_numbers, v_th_planWord, v_th_addWord, v_th_delWord, v_th_fillWord, v_th_probes, v_th_links, v_th_looks, v_th_found, v_th_isOver])), (h_row, .inl (cyI, 1824, .inl row))] := hD
  refine lv_if_eq (tgt := 33) hx hb dX7_sweep_5 (by decide) (fun c_3 => ?_) (fun c_3 => ?_)
  · have h := og_ite_t c_3 h
    refine lv_bipush (v := (-3)) hx hb dX7_sweep_33 (by decide) ?_
    obtain rfl := Option.some.inj h
    exact hret _ _ _ _ dX7_sweep_35 hP hD hS
  · have h := og_ite_f c_3 h
    refine lv_aload_n hx hb dX7_sweep_8 rfl (lv_at hl 0 rfl) ?_
    refine lv_iload_n hx hb dX7_sweep_9 rfl (lv_at hl 2 rfl) ?_
    obtain ⟨u_4, hc_5, h⟩ := obd_e h
    refine Gci (wr := []) (va_runV (As := [.int x1]) (rest := []) ⟨hx, hb, hml, hown, hts⟩ (tX7_isNumber l dC dI cyI cyJ cyZ cyO H.size h_th h_row v_th_undos v_th_isKept v_th_text v_th_length v_th_sizes v_th_values v_th_asked v_th_first v_th_behind v_th_readBits v_th_clauses v_th_doing v_th_numbers v_th_planWord v_th_addWord v_th_delWord v_th_fillWord v_th_probes v_th_links v_th_looks v_th_found v_th_isOver row x1 u_4 hc_5) (cwV 1 hts gX7_sweep_X7_isNumber rfl rfl rfl (by decide +kernel) ⟨Nat.le_of_ble_eq_true rfl, Nat.le_of_ble_eq_true rfl⟩) (GpreV hP hD hK hN [0, 1] rfl (by decide) 7 0 rfl rfl rfl) rfl rfl hl.1 rfl (lv_room (Nat.le_of_ble_eq_true rfl)) dX7_sweep_10 ⟨Nat.zero_le _, Nat.zero_le _⟩) hP hD hS hA [0, 1] [] rfl rfl (by decide) (by decide) (fun H locs hP hD hS => ?_)
    have hP : va_P (dC, dI) vwCl [(h_th, .inr (7, [.ref h_row, v_th_undos, v_th_isKept, v_th_text, v_th_length, v_th_sizes, v_th_values, v_th_asked, v_th_first, v_th_behind, v_th_readBits, v_th_clauses, v_th_doing, v_th_numbers, v_th_planWord, v_th_addWord, v_th_delWord, v_th_fillWord, v_th_probes, v_th_links, v_th_looks, v_th_found, v_th_isOver])), (h_row, .inl (cyI, 1824, .inl row))] H := hP
    have hD : va_D A [(h_th, .inr (7, [.ref h_row, v_th_undos, v_th_isKept, v_th_text, v_th_length, v_th_sizes, v_th_values, v_th_asked, v_th_first, v_th_behind, v_th_readBits, v_th_clauses, v_th_doing, v_th_numbers, v_th_planWord, v_th_addWord, v_th_delWord, v_th_fillWord, v_th_probes, v_th_links, v_th_looks, v_th_found, v_th_isOver])), (h_row, .inl (cyI, 1824, .inl row))] := hD
    refine lv_if_eq (tgt := 33) hx hb dX7_sweep_13 (by decide) (fun c_6 => ?_) (fun c_6 => ?_)
    · have h := og_ite_t c_6 h
      refine lv_bipush (v := (-3)) hx hb dX7_sweep_33 (by decide) ?_
      obtain rfl := Option.some.inj h
      exact hret _ _ _ _ dX7_sweep_35 hP hD hS
    · have h := og_ite_f c_6 h
      refine lv_iload_n hx hb dX7_sweep_16 rfl (lv_at hl 1 rfl) ?_
      refine lv_iload_n hx hb dX7_sweep_17 rfl (lv_at hl 2 rfl) ?_
      refine lv_icmp_gt (tgt := 33) hx hb dX7_sweep_18 (by decide) (fun c_7 => ?_) (fun c_7 => ?_)
      · have h := og_ite_t c_7 h
        refine lv_bipush (v := (-3)) hx hb dX7_sweep_33 (by decide) ?_
        obtain rfl := Option.some.inj h
        exact hret _ _ _ _ dX7_sweep_35 hP hD hS
      · have h := og_ite_f c_7 h
        refine lv_iload_n hx hb dX7_sweep_21 rfl (lv_at hl 3 rfl) ?_
        refine lv_i2l (v := x2.toInt64) hx hb dX7_sweep_22 rfl ?_
        refine lv_lconst (v := 0) hx hb dX7_sweep_23 (by decide) ?_
        refine lv_ldc2 hx hb hown (hts (.constantLong RX7 193 (2)) (List.mem_of_getElem? (i := 1) rfl)) dX7_sweep_24 ?_
        obtain ⟨u_8, hc_9, h⟩ := obd_e h
        refine Gci (wr := [(h_th, .inr (7, [.ref h_row, v_th_undos, v_th_isKept, v_th_text, v_th_length, v_th_sizes, v_th_values, v_th_asked, v_th_first, v_th_behind, v_th_readBits, v_th_clauses, v_th_doing, v_th_numbers, v_th_planWord, v_th_addWord, v_th_delWord, v_th_fillWord, v_th_probes, v_th_links, v_th_looks, v_th_found, v_th_isOver])), (h_row, .inl (cyI, 1824, .inl row))]) (va_runS (As := [.long x2.toInt64, .long (0 : Int64), .long (2 : Int64)]) (rest := []) ⟨hx, hb, hml, hown, hts⟩ (tX7_in l dC dI cyI cyJ cyZ cyO H.size x2.toInt64 (0 : Int64) (2 : Int64) u_8 hc_9) (cwS 3 hts gX7_sweep_X7_in rfl rfl rfl (by decide +kernel) ⟨Nat.le_of_ble_eq_true rfl, Nat.le_of_ble_eq_true rfl⟩) (GpreS hP hD hK hN [] rfl (by decide)) rfl rfl hl.1 rfl (lv_room (Nat.le_of_ble_eq_true rfl)) dX7_sweep_27 ⟨Nat.zero_le _, Nat.zero_le _⟩) hP hD hS hA [] [0, 1] rfl rfl (by decide) (by decide) (fun H locs hP hD hS => ?_)
        have hP : va_P (dC, dI) vwCl [(h_th, .inr (7, [.ref h_row, v_th_undos, v_th_isKept, v_th_text, v_th_length, v_th_sizes, v_th_values, v_th_asked, v_th_first, v_th_behind, v_th_readBits, v_th_clauses, v_th_doing, v_th_numbers, v_th_planWord, v_th_addWord, v_th_delWord, v_th_fillWord, v_th_probes, v_th_links, v_th_looks, v_th_found, v_th_isOver])), (h_row, .inl (cyI, 1824, .inl row))] H := hP
        have hD : va_D A [(h_th, .inr (7, [.ref h_row, v_th_undos, v_th_isKept, v_th_text, v_th_length, v_th_sizes, v_th_values, v_th_asked, v_th_first, v_th_behind, v_th_readBits, v_th_clauses, v_th_doing, v_th_numbers, v_th_planWord, v_th_addWord, v_th_delWord, v_th_fillWord, v_th_probes, v_th_links, v_th_looks, v_th_found, v_th_isOver])), (h_row, .inl (cyI, 1824, .inl row))] := hD
        refine lv_if_ne (tgt := 36) hx hb dX7_sweep_30 (by decide) (fun c_10 => ?_) (fun c_10 => ?_)
        · have h := og_ite_f c_10 h
          refine lv_aload_n hx hb dX7_sweep_36 rfl (lv_at hl 0 rfl) ?_
          refine lv_iconst (v := 0) hx hb dX7_sweep_37 (by decide) ?_
          refine lv_sipush (v := 1672) hx hb dX7_sweep_38 (by decide) ?_
          obtain ⟨u_11, hc_12, h⟩ := obd_e h
          refine Gcv (wr := []) (va_runV (As := [.int (0 : Int32), .int (1672 : Int32)]) (rest := []) ⟨hx, hb, hml, hown, hts⟩ (tX7_copyRow l dC dI cyI cyJ cyZ cyO H.size h_th h_row v_th_undos v_th_isKept v_th_text v_th_length v_th_sizes v_th_values v_th_asked v_th_first v_th_behind v_th_readBits v_th_clauses v_th_doing v_th_numbers v_th_planWord v_th_addWord v_th_delWord v_th_fillWord v_th_probes v_th_links v_th_looks v_th_found v_th_isOver row (0 : Int32) (1672 : Int32) u_11 hc_12) (cwV 2 hts gX7_sweep_X7_copyRow rfl rfl rfl (by decide +kernel) ⟨Nat.le_of_ble_eq_true rfl, Nat.le_of_ble_eq_true rfl⟩) (GpreV hP hD hK hN [0, 1] rfl (by decide) 7 0 rfl rfl rfl) rfl rfl hl.1 rfl (lv_room (Nat.le_of_ble_eq_true rfl)) dX7_sweep_41 ⟨Nat.zero_le _, Nat.zero_le _⟩) hP hD hS hA [0, 1] [] rfl rfl (by decide) (by decide) (fun H locs hP hD hS => ?_)
          have hP : va_P (dC, dI) vwCl [(h_th, .inr (7, [.ref h_row, v_th_undos, v_th_isKept, v_th_text, v_th_length, v_th_sizes, v_th_values, v_th_asked, v_th_first, v_th_behind, v_th_readBits, v_th_clauses, v_th_doing, v_th_numbers, v_th_planWord, v_th_addWord, v_th_delWord, v_th_fillWord, v_th_probes, v_th_links, v_th_looks, v_th_found, v_th_isOver])), (h_row, .inl (cyI, 1824, .inl u_11))] H := hP
          have hD : va_D A [(h_th, .inr (7, [.ref h_row, v_th_undos, v_th_isKept, v_th_text, v_th_length, v_th_sizes, v_th_values, v_th_asked, v_th_first, v_th_behind, v_th_readBits, v_th_clauses, v_th_doing, v_th_numbers, v_th_planWord, v_th_addWord, v_th_delWord, v_th_fillWord, v_th_probes, v_th_links, v_th_looks, v_th_found, v_th_isOver])), (h_row, .inl (cyI, 1824, .inl u_11))] := hD
          refine lv_aload_n hx hb dX7_sweep_44 rfl (lv_at hl 0 rfl) ?_
          refine lv_sipush (v := 1672) hx hb dX7_sweep_45 (by decide) ?_
          refine lv_iload_n hx hb dX7_sweep_48 rfl (lv_at hl 1 rfl) ?_
          obtain ⟨u_13, hc_14, h⟩ := obd_e h
          refine Gci (wr := []) (va_runV (As := [.int (1672 : Int32), .int x0]) (rest := []) ⟨hx, hb, hml, hown, hts⟩ (tX7_below l dC dI cyI cyJ cyZ cyO H.size h_th h_row v_th_undos v_th_isKept v_th_text v_th_length v_th_sizes v_th_values v_th_asked v_th_first v_th_behind v_th_readBits v_th_clauses v_th_doing v_th_numbers v_th_planWord v_th_addWord v_th_delWord v_th_fillWord v_th_probes v_th_links v_th_looks v_th_found v_th_isOver u_11 (1672 : Int32) x0 u_13 hc_14) (cwV 2 hts gX7_sweep_X7_below rfl rfl rfl (by decide +kernel) ⟨Nat.le_of_ble_eq_true rfl, Nat.le_of_ble_eq_true rfl⟩) (GpreV hP hD hK hN [0, 1] rfl (by decide) 7 0 rfl rfl rfl) rfl rfl hl.1 rfl (lv_room (Nat.le_of_ble_eq_true rfl)) dX7_sweep_49 ⟨Nat.zero_le _, Nat.zero_le _⟩) hP hD hS hA [0, 1] [] rfl rfl (by decide) (by decide) (fun H locs hP hD hS => ?_)
          have hP : va_P (dC, dI) vwCl [(h_th, .inr (7, [.ref h_row, v_th_undos, v_th_isKept, v_th_text, v_th_length, v_th_sizes, v_th_values, v_th_asked, v_th_first, v_th_behind, v_th_readBits, v_th_clauses, v_th_doing, v_th_numbers, v_th_planWord, v_th_addWord, v_th_delWord, v_th_fillWord, v_th_probes, v_th_links, v_th_looks, v_th_found, v_th_isOver])), (h_row, .inl (cyI, 1824, .inl u_11))] H := hP
          have hD : va_D A [(h_th, .inr (7, [.ref h_row, v_th_undos, v_th_isKept, v_th_text, v_th_length, v_th_sizes, v_th_values, v_th_asked, v_th_first, v_th_behind, v_th_readBits, v_th_clauses, v_th_doing, v_th_numbers, v_th_planWord, v_th_addWord, v_th_delWord, v_th_fillWord, v_th_probes, v_th_links, v_th_looks, v_th_found, v_th_isOver])), (h_row, .inl (cyI, 1824, .inl u_11))] := hD
          refine lv_istore (lv' := [(4, .int u_13), (0, .ref h_th), (1, .int x0), (2, .int x1), (3, .int x2)]) hx hb dX7_sweep_52 hl (by decide) rfl (fun ls hl => ?_)
          obtain ⟨w_30, hw_31, h⟩ := obd_e h
          have J : ∀ (H : Heap) (locs : List Loc) (ls : Array Slot), va_P (dC, dI) vwCl [(h_th, .inr (7, [.ref h_row, v_th_undos, v_th_isKept, v_th_text, v_th_length, v_th_sizes, v_th_values, v_th_asked, v_th_first, v_th_behind, v_th_readBits, v_th_clauses, v_th_doing, v_th_numbers, v_th_planWord, v_th_addWord, v_th_delWord, v_th_fillWord, v_th_probes, v_th_links, v_th_looks, v_th_found, v_th_isOver])), (h_row, .inl (cyI, 1824, .inl w_30))] H → va_D A [(h_th, .inr (7, [.ref h_row, v_th_undos, v_th_isKept, v_th_text, v_th_length, v_th_sizes, v_th_values, v_th_asked, v_th_first, v_th_behind, v_th_readBits, v_th_clauses, v_th_doing, v_th_numbers, v_th_planWord, v_th_addWord, v_th_delWord, v_th_fillWord, v_th_probes, v_th_links, v_th_looks, v_th_found, v_th_isOver])), (h_row, .inl (cyI, 1824, .inl w_30))] → va_S A s.heap H locs → lv_has ls 5 [(0, .ref h_th), (3, .int x2)] → W p l e ({ frames := 5, cells := 0, slots := 0, locals := 116 }) s m args below meth c H locs 0 0 Q (F0 m 103 ls []) := by
            intro H locs ls hP hD hS hl
            refine lv_iload_n hx hb dX7_sweep_103 rfl (lv_at hl 1 rfl) ?_
            obtain ⟨w_33, hm_40, h⟩ := obd_e h
            have J : ∀ (H : Heap) (locs : List Loc) (ls : Array Slot), va_P (dC, dI) vwCl [(h_th, .inr (7, [.ref h_row, v_th_undos, v_th_isKept, v_th_text, v_th_length, v_th_sizes, v_th_values, v_th_asked, v_th_first, v_th_behind, v_th_readBits, v_th_clauses, v_th_doing, v_th_numbers, v_th_planWord, v_th_addWord, v_th_delWord, v_th_fillWord, v_th_probes, v_th_links, v_th_looks, v_th_found, v_th_isOver])), (h_row, .inl (cyI, 1824, .inl w_30))] H → va_D A [(h_th, .inr (7, [.ref h_row, v_th_undos, v_th_isKept, v_th_text, v_th_length, v_th_sizes, v_th_values, v_th_asked, v_th_first, v_th_behind, v_th_readBits, v_th_clauses, v_th_doing, v_th_numbers, v_th_planWord, v_th_addWord, v_th_delWord, v_th_fillWord, v_th_probes, v_th_links, v_th_looks, v_th_found, v_th_isOver])), (h_row, .inl (cyI, 1824, .inl w_30))] → va_S A s.heap H locs → lv_has ls 5 [] → W p l e ({ frames := 5, cells := 0, slots := 0, locals := 116 }) s m args below meth c H locs 0 0 Q (F0 m 156 ls [.int w_33]) := by
              intro H locs ls hP hD hS hl
              obtain rfl := Option.some.inj h
              exact hret _ _ _ _ dX7_sweep_156 hP hD hS
            replace h := hm_40
            refine lv_if_ne (tgt := 118) hx hb dX7_sweep_104 (by decide) (fun c_32 => ?_) (fun c_32 => ?_)
            · have h := og_ite_f c_32 h
              refine lv_iload_n hx hb dX7_sweep_118 rfl (lv_at hl 1 rfl) ?_
              refine lv_iconst (v := 1) hx hb dX7_sweep_119 (by decide) ?_
              refine lv_icmp_ne (tgt := 141) hx hb dX7_sweep_120 (by decide) (fun c_34 => ?_) (fun c_34 => ?_)
              · have h := og_ite_f c_34 h
                refine lv_aload_n hx hb dX7_sweep_141 rfl (lv_at hl 0 rfl) ?_
                refine va_get (D := (dC, dI)) (ci := 7) (v := .ref h_row) (C := RX7) (T := TX7) (N := 23) hx hb hts (fun _ hw => List.mem_cons_of_mem _ (List.mem_append_right _ hw)) hown hK hP 0 rfl rfl 0 (by decide) (hts (.fieldLink RX7 7 "PrefixIndexModel" "row" "[I") (List.mem_of_getElem? (i := 2) rfl)) (fun _ h9 => h9) rfl dX7_sweep_142 ?_
                refine lv_sipush (v := 1677) hx hb dX7_sweep_145 (by decide) ?_
                obtain ⟨hi_35, h⟩ := oin_e h
                refine va_iald hx hb hK hP 1 0 rfl rfl hi_35 dX7_sweep_148 ?_
                refine lv_aload_n hx hb dX7_sweep_149 rfl (lv_at hl 0 rfl) ?_
                refine va_get (D := (dC, dI)) (ci := 7) (v := .ref h_row) (C := RX7) (T := TX7) (N := 23) hx hb hts (fun _ hw => List.mem_cons_of_mem _ (List.mem_append_right _ hw)) hown hK hP 0 rfl rfl 0 (by decide) (hts (.fieldLink RX7 7 "PrefixIndexModel" "row" "[I") (List.mem_of_getElem? (i := 2) rfl)) (fun _ h9 => h9) rfl dX7_sweep_150 ?_
                refine lv_iconst (v := 5) hx hb dX7_sweep_153 (by decide) ?_
                obtain ⟨hi_36, h⟩ := oin_e h
                refine va_iald hx hb hK hP 1 0 rfl rfl hi_36 dX7_sweep_154 ?_
                refine lv_isub hx hb dX7_sweep_155 ?_
                obtain rfl := Option.some.inj h
                exact J _ _ _ hP hD hS (lv_sub hl [] rfl)
              · have h := og_ite_t c_34 h
                refine lv_aload_n hx hb dX7_sweep_123 rfl (lv_at hl 0 rfl) ?_
                refine va_get (D := (dC, dI)) (ci := 7) (v := .ref h_row) (C := RX7) (T := TX7) (N := 23) hx hb hts (fun _ hw => List.mem_cons_of_mem _ (List.mem_append_right _ hw)) hown hK hP 0 rfl rfl 0 (by decide) (hts (.fieldLink RX7 7 "PrefixIndexModel" "row" "[I") (List.mem_of_getElem? (i := 2) rfl)) (fun _ h9 => h9) rfl dX7_sweep_124 ?_
                refine lv_sipush (v := 1676) hx hb dX7_sweep_127 (by decide) ?_
                obtain ⟨hi_37, h⟩ := oin_e h
                refine va_iald hx hb hK hP 1 0 rfl rfl hi_37 dX7_sweep_130 ?_
                refine lv_aload_n hx hb dX7_sweep_131 rfl (lv_at hl 0 rfl) ?_
                refine va_get (D := (dC, dI)) (ci := 7) (v := .ref h_row) (C := RX7) (T := TX7) (N := 23) hx hb hts (fun _ hw => List.mem_cons_of_mem _ (List.mem_append_right _ hw)) hown hK hP 0 rfl rfl 0 (by decide) (hts (.fieldLink RX7 7 "PrefixIndexModel" "row" "[I") (List.mem_of_getElem? (i := 2) rfl)) (fun _ h9 => h9) rfl dX7_sweep_132 ?_
                refine lv_iconst (v := 4) hx hb dX7_sweep_135 (by decide) ?_
                obtain ⟨hi_38, h⟩ := oin_e h
                refine va_iald hx hb hK hP 1 0 rfl rfl hi_38 dX7_sweep_136 ?_
                refine lv_isub hx hb dX7_sweep_137 ?_
                refine lv_goto (tgt := 156) hx hb dX7_sweep_138 (by decide) ?_
                obtain rfl := Option.some.inj h
                exact J _ _ _ hP hD hS (lv_sub hl [] rfl)
            · have h := og_ite_t c_32 h
              refine lv_aload_n hx hb dX7_sweep_107 rfl (lv_at hl 0 rfl) ?_
              refine va_get (D := (dC, dI)) (ci := 7) (v := .ref h_row) (C := RX7) (T := TX7) (N := 23) hx hb hts (fun _ hw => List.mem_cons_of_mem _ (List.mem_append_right _ hw)) hown hK hP 0 rfl rfl 0 (by decide) (hts (.fieldLink RX7 7 "PrefixIndexModel" "row" "[I") (List.mem_of_getElem? (i := 2) rfl)) (fun _ h9 => h9) rfl dX7_sweep_108 ?_
              refine lv_sipush (v := 1675) hx hb dX7_sweep_111 (by decide) ?_
              obtain ⟨hi_39, h⟩ := oin_e h
              refine va_iald hx hb hK hP 1 0 rfl rfl hi_39 dX7_sweep_114 ?_
              refine lv_goto (tgt := 156) hx hb dX7_sweep_115 (by decide) ?_
              obtain rfl := Option.some.inj h
              exact J _ _ _ hP hD hS (lv_sub hl [] rfl)
          have LL : ∀ (n : Nat) (zrow : (Nat → Int32)) (H : Heap) (locs : List Loc) (ls : Array Slot), lpX7_sweep_54 x1 x2 u_13 n zrow = some w_30 → va_P (dC, dI) vwCl [(h_th, .inr (7, [.ref h_row, v_th_undos, v_th_isKept, v_th_text, v_th_length, v_th_sizes, v_th_values, v_th_asked, v_th_first, v_th_behind, v_th_readBits, v_th_clauses, v_th_doing, v_th_numbers, v_th_planWord, v_th_addWord, v_th_delWord, v_th_fillWord, v_th_probes, v_th_links, v_th_looks, v_th_found, v_th_isOver])), (h_row, .inl (cyI, 1824, .inl zrow))] H → va_D A [(h_th, .inr (7, [.ref h_row, v_th_undos, v_th_isKept, v_th_text, v_th_length, v_th_sizes, v_th_values, v_th_asked, v_th_first, v_th_behind, v_th_readBits, v_th_clauses, v_th_doing, v_th_numbers, v_th_planWord, v_th_addWord, v_th_delWord, v_th_fillWord, v_th_probes, v_th_links, v_th_looks, v_th_found, v_th_isOver])), (h_row, .inl (cyI, 1824, .inl zrow))] → va_S A s.heap H locs → lv_has ls 5 [(0, .ref h_th), (2, .int x1), (3, .int x2), (4, .int u_13)] → W p l e ({ frames := 5, cells := 0, slots := 0, locals := 116 }) s m args below meth c H locs 0 0 Q (F0 m 54 ls []) := by
            intro n
            induction n with
            | zero =>
              intro zrow H locs ls h
              exact absurd h (by rw [lpX7_sweep_54]; exact fun q => by cases q)
            | succ n ih =>
              intro zrow H locs ls h hP hD hS hl
              rw [lpX7_sweep_54] at h
              refine lv_iload hx hb dX7_sweep_54 (lv_at hl 3 rfl) ?_
              refine lv_aload_n hx hb dX7_sweep_56 rfl (lv_at hl 0 rfl) ?_
              refine va_get (D := (dC, dI)) (ci := 7) (v := .ref h_row) (C := RX7) (T := TX7) (N := 23) hx hb hts (fun _ hw => List.mem_cons_of_mem _ (List.mem_append_right _ hw)) hown hK hP 0 rfl rfl 0 (by decide) (hts (.fieldLink RX7 7 "PrefixIndexModel" "row" "[I") (List.mem_of_getElem? (i := 2) rfl)) (fun _ h9 => h9) rfl dX7_sweep_57 ?_
              refine lv_sipush (v := 1674) hx hb dX7_sweep_60 (by decide) ?_
              obtain ⟨hi_23, h⟩ := oin_e h
              refine va_iald hx hb hK hP 1 0 rfl rfl hi_23 dX7_sweep_63 ?_
              refine lv_icmp_ge (tgt := 103) hx hb dX7_sweep_64 (by decide) (fun c_24 => ?_) (fun c_24 => ?_)
              · have h := og_ite_t c_24 h
                obtain rfl := Option.some.inj h
                exact J _ _ _ hP hD hS (lv_sub hl [0, 2] rfl)
              · have h := og_ite_f c_24 h
                refine lv_aload_n hx hb dX7_sweep_67 rfl (lv_at hl 0 rfl) ?_
                refine va_get (D := (dC, dI)) (ci := 7) (v := .ref h_row) (C := RX7) (T := TX7) (N := 23) hx hb hts (fun _ hw => List.mem_cons_of_mem _ (List.mem_append_right _ hw)) hown hK hP 0 rfl rfl 0 (by decide) (hts (.fieldLink RX7 7 "PrefixIndexModel" "row" "[I") (List.mem_of_getElem? (i := 2) rfl)) (fun _ h9 => h9) rfl dX7_sweep_68 ?_
                refine lv_sipush (v := 1678) hx hb dX7_sweep_71 (by decide) ?_
                refine lv_iload hx hb dX7_sweep_74 (lv_at hl 3 rfl) ?_
                refine lv_iadd hx hb dX7_sweep_76 ?_
                obtain ⟨hi_25, h⟩ := oin_e h
                refine va_iald hx hb hK hP 1 0 rfl rfl hi_25 dX7_sweep_77 ?_
                refine lv_iload_n hx hb dX7_sweep_78 rfl (lv_at hl 1 rfl) ?_
                refine lv_icmp_gt (tgt := 103) hx hb dX7_sweep_79 (by decide) (fun c_26 => ?_) (fun c_26 => ?_)
                · have h := og_ite_t c_26 h
                  obtain rfl := Option.some.inj h
                  exact J _ _ _ hP hD hS (lv_sub hl [0, 2] rfl)
                · have h := og_ite_f c_26 h
                  refine lv_aload_n hx hb dX7_sweep_82 rfl (lv_at hl 0 rfl) ?_
                  refine lv_sipush (v := 1672) hx hb dX7_sweep_83 (by decide) ?_
                  refine lv_aload_n hx hb dX7_sweep_86 rfl (lv_at hl 0 rfl) ?_
                  refine va_get (D := (dC, dI)) (ci := 7) (v := .ref h_row) (C := RX7) (T := TX7) (N := 23) hx hb hts (fun _ hw => List.mem_cons_of_mem _ (List.mem_append_right _ hw)) hown hK hP 0 rfl rfl 0 (by decide) (hts (.fieldLink RX7 7 "PrefixIndexModel" "row" "[I") (List.mem_of_getElem? (i := 2) rfl)) (fun _ h9 => h9) rfl dX7_sweep_87 ?_
                  refine lv_sipush (v := 1678) hx hb dX7_sweep_90 (by decide) ?_
                  refine lv_iload hx hb dX7_sweep_93 (lv_at hl 3 rfl) ?_
                  refine lv_iadd hx hb dX7_sweep_95 ?_
                  obtain ⟨hi_27, h⟩ := oin_e h
                  refine va_iald hx hb hK hP 1 0 rfl rfl hi_27 dX7_sweep_96 ?_
                  obtain ⟨u_28, hc_29, h⟩ := obd_e h
                  refine Gcv (wr := []) (va_runV (As := [.int (1672 : Int32), .int (zrow ((1678 : Int32) + u_13).toNatClampNeg)]) (rest := []) ⟨hx, hb, hml, hown, hts⟩ (tX7_takeOut l dC dI cyI cyJ cyZ cyO H.size h_th h_row v_th_undos v_th_isKept v_th_text v_th_length v_th_sizes v_th_values v_th_asked v_th_first v_th_behind v_th_readBits v_th_clauses v_th_doing v_th_numbers v_th_planWord v_th_addWord v_th_delWord v_th_fillWord v_th_probes v_th_links v_th_looks v_th_found v_th_isOver zrow (1672 : Int32) (zrow ((1678 : Int32) + u_13).toNatClampNeg) u_28 hc_29) (cwV 2 hts gX7_sweep_X7_takeOut rfl rfl rfl (by decide +kernel) ⟨Nat.le_of_ble_eq_true rfl, Nat.le_of_ble_eq_true rfl⟩) (GpreV hP hD hK hN [0, 1] rfl (by decide) 7 0 rfl rfl rfl) rfl rfl hl.1 rfl (lv_room (Nat.le_of_ble_eq_true rfl)) dX7_sweep_97 ⟨Nat.zero_le _, Nat.zero_le _⟩) hP hD hS hA [0, 1] [] rfl rfl (by decide) (by decide) (fun H locs hP hD hS => ?_)
                  have hP : va_P (dC, dI) vwCl [(h_th, .inr (7, [.ref h_row, v_th_undos, v_th_isKept, v_th_text, v_th_length, v_th_sizes, v_th_values, v_th_asked, v_th_first, v_th_behind, v_th_readBits, v_th_clauses, v_th_doing, v_th_numbers, v_th_planWord, v_th_addWord, v_th_delWord, v_th_fillWord, v_th_probes, v_th_links, v_th_looks, v_th_found, v_th_isOver])), (h_row, .inl (cyI, 1824, .inl u_28))] H := hP
                  have hD : va_D A [(h_th, .inr (7, [.ref h_row, v_th_undos, v_th_isKept, v_th_text, v_th_length, v_th_sizes, v_th_values, v_th_asked, v_th_first, v_th_behind, v_th_readBits, v_th_clauses, v_th_doing, v_th_numbers, v_th_planWord, v_th_addWord, v_th_delWord, v_th_fillWord, v_th_probes, v_th_links, v_th_looks, v_th_found, v_th_isOver])), (h_row, .inl (cyI, 1824, .inl u_28))] := hD
                  refine lv_goto (tgt := 54) hx hb dX7_sweep_100 (by decide) ?_
                  exact ih u_28 _ _ _ h hP hD hS hl
          exact LL _ u_11 _ _ _ hw_31 hP hD hS (lv_sub hl [1, 3, 4, 0] rfl)
        · have h := og_ite_t c_10 h
          refine lv_bipush (v := (-3)) hx hb dX7_sweep_33 (by decide) ?_
          obtain rfl := Option.some.inj h
          exact hret _ _ _ _ dX7_sweep_35 hP hD hS

def fX7_flood (row : (Nat → Int32)) (x0 : Int32) (x1 : Int32) (x2 : Int32) (x3 : Int32) : Option (Int32 × (Nat → Int32)) := obd (fX7_isNumber row x0) fun u_1 => if u_1 = 0 then (some ((-3 : Int32), row)) else (obd (fX7_in x1.toInt64 (1 : Int64) (999 : Int64)) fun u_4 => if u_4 = 0 then (some ((-3 : Int32), row)) else (obd (fX7_in x2.toInt64 (1 : Int64) (96 : Int64)) fun u_7 => if u_7 = 0 then (some ((-3 : Int32), row)) else (obd (fX7_in x3.toInt64 (0 : Int64) (2 : Int64)) fun u_10 => if u_10 = 0 then (some ((-3 : Int32), row)) else (obd (fX7_copyRow row (0 : Int32) (1672 : Int32)) fun u_13 => obd (fX7_fill u_13 (1672 : Int32) x0 x1 x2) fun u_15 => obd (if x3 = 0 then (oin (1675 : Int32) 1824 (some (u_15 (1675 : Int32).toNatClampNeg))) else (if x3 = (1 : Int32) then (oin (1676 : Int32) 1824 (oin (4 : Int32) 1824 (some ((u_15 (1676 : Int32).toNatClampNeg) - (u_15 (4 : Int32).toNatClampNeg))))) else (oin (1674 : Int32) 1824 (some (u_15 (1674 : Int32).toNatClampNeg))))) fun w_18 => some (w_18, u_15)))))

set_option maxHeartbeats 4000000 in
set_option maxRecDepth 100000 in
theorem tX7_flood (l : Launch) (dC : Nat → ClassId) (dI : Nat → Nat → Nat) (cyI cyJ cyZ cyO : ClassId) (sz : Nat) (h_th h_row : Nat) (v_th_undos : Value) (v_th_isKept : Value) (v_th_text : Value) (v_th_length : Value) (v_th_sizes : Value) (v_th_values : Value) (v_th_asked : Value) (v_th_first : Value) (v_th_behind : Value) (v_th_readBits : Value) (v_th_clauses : Value) (v_th_doing : Value) (v_th_numbers : Value) (v_th_planWord : Value) (v_th_addWord : Value) (v_th_delWord : Value) (v_th_fillWord : Value) (v_th_probes : Value) (v_th_links : Value) (v_th_looks : Value) (v_th_found : Value) (v_th_isOver : Value) (row : (Nat → Int32)) (x0 : Int32) (x1 : Int32) (x2 : Int32) (x3 : Int32) (u : Int32 × (Nat → Int32)) (hf : fX7_flood row x0 x1 x2 x3 = some u) : Met l yX7_flood wsX7_flood ({ frames := 7, cells := 0, slots := 0, locals := 162 }) (va_Pc [.ref h_th, .int x0, .int x1, .int x2, .int x3] (GP (dC, dI) (T4 cyI cyJ cyZ cyO) sz [(h_th, .inr (7, [.ref h_row, v_th_undos, v_th_isKept, v_th_text, v_th_length, v_th_sizes, v_th_values, v_th_asked, v_th_first, v_th_behind, v_th_readBits, v_th_clauses, v_th_doing, v_th_numbers, v_th_planWord, v_th_addWord, v_th_delWord, v_th_fillWord, v_th_probes, v_th_links, v_th_looks, v_th_found, v_th_isOver])), (h_row, .inl (cyI, 1824, .inl row))])) (va_Qi (fun (r : Int32) (_ : Unit) => r = u.1) (GB (dC, dI) [(h_th, .inr (7, [.ref h_row, v_th_undos, v_th_isKept, v_th_text, v_th_length, v_th_sizes, v_th_values, v_th_asked, v_th_first, v_th_behind, v_th_readBits, v_th_clauses, v_th_doing, v_th_numbers, v_th_planWord, v_th_addWord, v_th_delWord, v_th_fillWord, v_th_probes, v_th_links, v_th_looks, v_th_found, v_th_isOver])), (h_row, .inl (cyI, 1824, .inl u.2))] (va_A [(h_th, .inr (7, [.ref h_row, v_th_undos, v_th_isKept, v_th_text, v_th_length, v_th_sizes, v_th_values, v_th_asked, v_th_first, v_th_behind, v_th_readBits, v_th_clauses, v_th_doing, v_th_numbers, v_th_planWord, v_th_addWord, v_th_delWord, v_th_fillWord, v_th_probes, v_th_links, v_th_looks, v_th_found, v_th_isOver])), (h_row, .inl (cyI, 1824, .inl row))] sz)) (va_A [(h_th, .inr (7, [.ref h_row, v_th_undos, v_th_isKept, v_th_text, v_th_length, v_th_sizes, v_th_values, v_th_asked, v_th_first, v_th_behind, v_th_readBits, v_th_clauses, v_th_doing, v_th_numbers, v_th_planWord, v_th_addWord, v_th_delWord, v_th_fillWord, v_th_probes, v_th_links, v_th_looks, v_th_found, v_th_isOver])), (h_row, .inl (cyI, 1824, .inl row))] sz)) 0 0 (va_A [(h_th, .inr (7, [.ref h_row, v_th_undos, v_th_isKept, v_th_text, v_th_length, v_th_sizes, v_th_values, v_th_asked, v_th_first, v_th_behind, v_th_readBits, v_th_clauses, v_th_doing, v_th_numbers, v_th_planWord, v_th_addWord, v_th_delWord, v_th_fillWord, v_th_probes, v_th_links, v_th_looks, v_th_found, v_th_isOver])), (h_row, .inl (cyI, 1824, .inl row))] sz) := by
  refine GMetI (by decide) rfl (Nat.le_of_ble_eq_true rfl) ?_
  intro p e s m args below meth c A Q ls hx hb hml hts hown hN hK hA hret hP hD hS hl
  have h := hf
  clear hf
  unfold fX7_flood at h
  have hown : s.vm.findClass RX7 = some m.cls := hown
  have hl : lv_has ls 5 [(0, .ref h_th), (1, .int x0), (2, .int x1), (3, .int x2), (4, .int x3)] := hl
  refine lv_aload_n hx hb dX7_flood_0 rfl (lv_at hl 0 rfl) ?_
  refine lv_iload_n hx hb dX7_flood_1 rfl (lv_at hl 1 rfl) ?_
  obtain ⟨u_1, hc_2, h⟩ := obd_e h
  refine Gci (wr := []) (va_runV (As := [.int x0]) (rest := []) ⟨hx, hb, hml, hown, hts⟩ (tX7_isNumber l dC dI cyI cyJ cyZ cyO s.heap.size h_th h_row v_th_undos v_th_isKept v_th_text v_th_length v_th_sizes v_th_values v_th_asked v_th_first v_th_behind v_th_readBits v_th_clauses v_th_doing v_th_numbers v_th_planWord v_th_addWord v_th_delWord v_th_fillWord v_th_probes v_th_links v_th_looks v_th_found v_th_isOver row x0 u_1 hc_2) (cwV 1 hts gX7_flood_X7_isNumber rfl rfl rfl (by decide +kernel) ⟨Nat.le_of_ble_eq_true rfl, Nat.le_of_ble_eq_true rfl⟩) (GpreV hP hD hK hN [0, 1] rfl (by decide) 7 0 rfl rfl rfl) rfl rfl hl.1 rfl (lv_room (Nat.le_of_ble_eq_true rfl)) dX7_flood_2 ⟨Nat.zero_le _, Nat.zero_le _⟩) hP hD hS hA [0, 1] [] rfl rfl (by decide) (by decide) (fun H locs hP hD hS => ?_)
  have hP : va_P (dC, dI) vwCl [(h_th, .inr (7, [.ref h_row, v_th_undos, v_th_isKept, v_th_text, v_th_length, v_th_sizes, v_th_values, v_th_asked, v_th_first, v_th_behind, v_th_readBits, v_th_clauses, v_th_doing, v_th_numbers, v_th_planWord, v_th_addWord, v_th_delWord, v_th_fillWord, v_th_probes, v_th_links, v_th_looks, v_th_found, v_th_isOver])), (h_row, .inl (cyI, 1824, .inl row))] H := hP
  have hD : va_D A [(h_th, .inr (7, [.ref h_row, v_th_undos, v_th_isKept, v_th_text, v_th_length, v_th_sizes, v_th_values, v_th_asked, v_th_first, v_th_behind, v_th_readBits, v_th_clauses, v_th_doing, v_th_numbers, v_th_planWord, v_th_addWord, v_th_delWord, v_th_fillWord, v_th_probes, v_th_links, v_th_looks, v_th_found, v_th_isOver])), (h_row, .inl (cyI, 1824, .inl row))] := hD
  refine lv_if_eq (tgt := 45) hx hb dX7_flood_5 (by decide) (fun c_3 => ?_) (fun c_3 => ?_)
  · have h := og_ite_t c_3 h
    refine lv_bipush (v := (-3)) hx hb dX7_flood_45 (by decide) ?_
    obtain rfl := Option.some.inj h
    exact hret _ _ _ _ dX7_flood_47 hP hD hS
  · have h := og_ite_f c_3 h
    refine lv_iload_n hx hb dX7_flood_8 rfl (lv_at hl 2 rfl) ?_
    refine lv_i2l (v := x1.toInt64) hx hb dX7_flood_9 rfl ?_
    refine lv_lconst (v := 1) hx hb dX7_flood_10 (by decide) ?_
    refine lv_ldc2 hx hb hown (hts (.constantLong RX7 195 (999)) (List.mem_of_getElem? (i := 1) rfl)) dX7_flood_11 ?_
    obtain ⟨u_4, hc_5, h⟩ := obd_e h
    refine Gci (wr := [(h_th, .inr (7, [.ref h_row, v_th_undos, v_th_isKept, v_th_text, v_th_length, v_th_sizes, v_th_values, v_th_asked, v_th_first, v_th_behind, v_th_readBits, v_th_clauses, v_th_doing, v_th_numbers, v_th_planWord, v_th_addWord, v_th_delWord, v_th_fillWord, v_th_probes, v_th_links, v_th_looks, v_th_found, v_th_isOver])), (h_row, .inl (cyI, 1824, .inl row))]) (va_runS (As := [.long x1.toInt64, .long (1 : Int64), .long (999 : Int64)]) (rest := []) ⟨hx, hb, hml, hown, hts⟩ (tX7_in l dC dI cyI cyJ cyZ cyO H.size x1.toInt64 (1 : Int64) (999 : Int64) u_4 hc_5) (cwS 3 hts gX7_flood_X7_in rfl rfl rfl (by decide +kernel) ⟨Nat.le_of_ble_eq_true rfl, Nat.le_of_ble_eq_true rfl⟩) (GpreS hP hD hK hN [] rfl (by decide)) rfl rfl hl.1 rfl (lv_room (Nat.le_of_ble_eq_true rfl)) dX7_flood_14 ⟨Nat.zero_le _, Nat.zero_le _⟩) hP hD hS hA [] [0, 1] rfl rfl (by decide) (by decide) (fun H locs hP hD hS => ?_)
    have hP : va_P (dC, dI) vwCl [(h_th, .inr (7, [.ref h_row, v_th_undos, v_th_isKept, v_th_text, v_th_length, v_th_sizes, v_th_values, v_th_asked, v_th_first, v_th_behind, v_th_readBits, v_th_clauses, v_th_doing, v_th_numbers, v_th_planWord, v_th_addWord, v_th_delWord, v_th_fillWord, v_th_probes, v_th_links, v_th_looks, v_th_found, v_th_isOver])), (h_row, .inl (cyI, 1824, .inl row))] H := hP
    have hD : va_D A [(h_th, .inr (7, [.ref h_row, v_th_undos, v_th_isKept, v_th_text, v_th_length, v_th_sizes, v_th_values, v_th_asked, v_th_first, v_th_behind, v_th_readBits, v_th_clauses, v_th_doing, v_th_numbers, v_th_planWord, v_th_addWord, v_th_delWord, v_th_fillWord, v_th_probes, v_th_links, v_th_looks, v_th_found, v_th_isOver])), (h_row, .inl (cyI, 1824, .inl row))] := hD
    refine lv_if_eq (tgt := 45) hx hb dX7_flood_17 (by decide) (fun c_6 => ?_) (fun c_6 => ?_)
    · have h := og_ite_t c_6 h
      refine lv_bipush (v := (-3)) hx hb dX7_flood_45 (by decide) ?_
      obtain rfl := Option.some.inj h
      exact hret _ _ _ _ dX7_flood_47 hP hD hS
    · have h := og_ite_f c_6 h
      refine lv_iload_n hx hb dX7_flood_20 rfl (lv_at hl 3 rfl) ?_
      refine lv_i2l (v := x2.toInt64) hx hb dX7_flood_21 rfl ?_
      refine lv_lconst (v := 1) hx hb dX7_flood_22 (by decide) ?_
      refine lv_ldc2 hx hb hown (hts (.constantLong RX7 197 (96)) (List.mem_of_getElem? (i := 2) rfl)) dX7_flood_23 ?_
      obtain ⟨u_7, hc_8, h⟩ := obd_e h
      refine Gci (wr := [(h_th, .inr (7, [.ref h_row, v_th_undos, v_th_isKept, v_th_text, v_th_length, v_th_sizes, v_th_values, v_th_asked, v_th_first, v_th_behind, v_th_readBits, v_th_clauses, v_th_doing, v_th_numbers, v_th_planWord, v_th_addWord, v_th_delWord, v_th_fillWord, v_th_probes, v_th_links, v_th_looks, v_th_found, v_th_isOver])), (h_row, .inl (cyI, 1824, .inl row))]) (va_runS (As := [.long x2.toInt64, .long (1 : Int64), .long (96 : Int64)]) (rest := []) ⟨hx, hb, hml, hown, hts⟩ (tX7_in l dC dI cyI cyJ cyZ cyO H.size x2.toInt64 (1 : Int64) (96 : Int64) u_7 hc_8) (cwS 3 hts gX7_flood_X7_in rfl rfl rfl (by decide +kernel) ⟨Nat.le_of_ble_eq_true rfl, Nat.le_of_ble_eq_true rfl⟩) (GpreS hP hD hK hN [] rfl (by decide)) rfl rfl hl.1 rfl (lv_room (Nat.le_of_ble_eq_true rfl)) dX7_flood_26 ⟨Nat.zero_le _, Nat.zero_le _⟩) hP hD hS hA [] [0, 1] rfl rfl (by decide) (by decide) (fun H locs hP hD hS => ?_)
      have hP : va_P (dC, dI) vwCl [(h_th, .inr (7, [.ref h_row, v_th_undos, v_th_isKept, v_th_text, v_th_length, v_th_sizes, v_th_values, v_th_asked, v_th_first, v_th_behind, v_th_readBits, v_th_clauses, v_th_doing, v_th_numbers, v_th_planWord, v_th_addWord, v_th_delWord, v_th_fillWord, v_th_probes, v_th_links, v_th_looks, v_th_found, v_th_isOver])), (h_row, .inl (cyI, 1824, .inl row))] H := hP
      have hD : va_D A [(h_th, .inr (7, [.ref h_row, v_th_undos, v_th_isKept, v_th_text, v_th_length, v_th_sizes, v_th_values, v_th_asked, v_th_first, v_th_behind, v_th_readBits, v_th_clauses, v_th_doing, v_th_numbers, v_th_planWord, v_th_addWord, v_th_delWord, v_th_fillWord, v_th_probes, v_th_links, v_th_looks, v_th_found, v_th_isOver])), (h_row, .inl (cyI, 1824, .inl row))] := hD
      refine lv_if_eq (tgt := 45) hx hb dX7_flood_29 (by decide) (fun c_9 => ?_) (fun c_9 => ?_)
      · have h := og_ite_t c_9 h
        refine lv_bipush (v := (-3)) hx hb dX7_flood_45 (by decide) ?_
        obtain rfl := Option.some.inj h
        exact hret _ _ _ _ dX7_flood_47 hP hD hS
      · have h := og_ite_f c_9 h
        refine lv_iload hx hb dX7_flood_32 (lv_at hl 4 rfl) ?_
        refine lv_i2l (v := x3.toInt64) hx hb dX7_flood_34 rfl ?_
        refine lv_lconst (v := 0) hx hb dX7_flood_35 (by decide) ?_
        refine lv_ldc2 hx hb hown (hts (.constantLong RX7 193 (2)) (List.mem_of_getElem? (i := 3) rfl)) dX7_flood_36 ?_
        obtain ⟨u_10, hc_11, h⟩ := obd_e h
        refine Gci (wr := [(h_th, .inr (7, [.ref h_row, v_th_undos, v_th_isKept, v_th_text, v_th_length, v_th_sizes, v_th_values, v_th_asked, v_th_first, v_th_behind, v_th_readBits, v_th_clauses, v_th_doing, v_th_numbers, v_th_planWord, v_th_addWord, v_th_delWord, v_th_fillWord, v_th_probes, v_th_links, v_th_looks, v_th_found, v_th_isOver])), (h_row, .inl (cyI, 1824, .inl row))]) (va_runS (As := [.long x3.toInt64, .long (0 : Int64), .long (2 : Int64)]) (rest := []) ⟨hx, hb, hml, hown, hts⟩ (tX7_in l dC dI cyI cyJ cyZ cyO H.size x3.toInt64 (0 : Int64) (2 : Int64) u_10 hc_11) (cwS 3 hts gX7_flood_X7_in rfl rfl rfl (by decide +kernel) ⟨Nat.le_of_ble_eq_true rfl, Nat.le_of_ble_eq_true rfl⟩) (GpreS hP hD hK hN [] rfl (by decide)) rfl rfl hl.1 rfl (lv_room (Nat.le_of_ble_eq_true rfl)) dX7_flood_39 ⟨Nat.zero_le _, Nat.zero_le _⟩) hP hD hS hA [] [0, 1] rfl rfl (by decide) (by decide) (fun H locs hP hD hS => ?_)
        have hP : va_P (dC, dI) vwCl [(h_th, .inr (7, [.ref h_row, v_th_undos, v_th_isKept, v_th_text, v_th_length, v_th_sizes, v_th_values, v_th_asked, v_th_first, v_th_behind, v_th_readBits, v_th_clauses, v_th_doing, v_th_numbers, v_th_planWord, v_th_addWord, v_th_delWord, v_th_fillWord, v_th_probes, v_th_links, v_th_looks, v_th_found, v_th_isOver])), (h_row, .inl (cyI, 1824, .inl row))] H := hP
        have hD : va_D A [(h_th, .inr (7, [.ref h_row, v_th_undos, v_th_isKept, v_th_text, v_th_length, v_th_sizes, v_th_values, v_th_asked, v_th_first, v_th_behind, v_th_readBits, v_th_clauses, v_th_doing, v_th_numbers, v_th_planWord, v_th_addWord, v_th_delWord, v_th_fillWord, v_th_probes, v_th_links, v_th_looks, v_th_found, v_th_isOver])), (h_row, .inl (cyI, 1824, .inl row))] := hD
        refine lv_if_ne (tgt := 48) hx hb dX7_flood_42 (by decide) (fun c_12 => ?_) (fun c_12 => ?_)
        · have h := og_ite_f c_12 h
          refine lv_aload_n hx hb dX7_flood_48 rfl (lv_at hl 0 rfl) ?_
          refine lv_iconst (v := 0) hx hb dX7_flood_49 (by decide) ?_
          refine lv_sipush (v := 1672) hx hb dX7_flood_50 (by decide) ?_
          obtain ⟨u_13, hc_14, h⟩ := obd_e h
          refine Gcv (wr := []) (va_runV (As := [.int (0 : Int32), .int (1672 : Int32)]) (rest := []) ⟨hx, hb, hml, hown, hts⟩ (tX7_copyRow l dC dI cyI cyJ cyZ cyO H.size h_th h_row v_th_undos v_th_isKept v_th_text v_th_length v_th_sizes v_th_values v_th_asked v_th_first v_th_behind v_th_readBits v_th_clauses v_th_doing v_th_numbers v_th_planWord v_th_addWord v_th_delWord v_th_fillWord v_th_probes v_th_links v_th_looks v_th_found v_th_isOver row (0 : Int32) (1672 : Int32) u_13 hc_14) (cwV 2 hts gX7_flood_X7_copyRow rfl rfl rfl (by decide +kernel) ⟨Nat.le_of_ble_eq_true rfl, Nat.le_of_ble_eq_true rfl⟩) (GpreV hP hD hK hN [0, 1] rfl (by decide) 7 0 rfl rfl rfl) rfl rfl hl.1 rfl (lv_room (Nat.le_of_ble_eq_true rfl)) dX7_flood_53 ⟨Nat.zero_le _, Nat.zero_le _⟩) hP hD hS hA [0, 1] [] rfl rfl (by decide) (by decide) (fun H locs hP hD hS => ?_)
          have hP : va_P (dC, dI) vwCl [(h_th, .inr (7, [.ref h_row, v_th_undos, v_th_isKept, v_th_text, v_th_length, v_th_sizes, v_th_values, v_th_asked, v_th_first, v_th_behind, v_th_readBits, v_th_clauses, v_th_doing, v_th_numbers, v_th_planWord, v_th_addWord, v_th_delWord, v_th_fillWord, v_th_probes, v_th_links, v_th_looks, v_th_found, v_th_isOver])), (h_row, .inl (cyI, 1824, .inl u_13))] H := hP
          have hD : va_D A [(h_th, .inr (7, [.ref h_row, v_th_undos, v_th_isKept, v_th_text, v_th_length, v_th_sizes, v_th_values, v_th_asked, v_th_first, v_th_behind, v_th_readBits, v_th_clauses, v_th_doing, v_th_numbers, v_th_planWord, v_th_addWord, v_th_delWord, v_th_fillWord, v_th_probes, v_th_links, v_th_looks, v_th_found, v_th_isOver])), (h_row, .inl (cyI, 1824, .inl u_13))] := hD
          refine lv_aload_n hx hb dX7_flood_56 rfl (lv_at hl 0 rfl) ?_
          refine lv_sipush (v := 1672) hx hb dX7_flood_57 (by decide) ?_
          refine lv_iload_n hx hb dX7_flood_60 rfl (lv_at hl 1 rfl) ?_
          refine lv_iload_n hx hb dX7_flood_61 rfl (lv_at hl 2 rfl) ?_
          refine lv_iload_n hx hb dX7_flood_62 rfl (lv_at hl 3 rfl) ?_
          obtain ⟨u_15, hc_16, h⟩ := obd_e h
          refine Gcv (wr := []) (va_runV (As := [.int (1672 : Int32), .int x0, .int x1, .int x2]) (rest := []) ⟨hx, hb, hml, hown, hts⟩ (tX7_fill l dC dI cyI cyJ cyZ cyO H.size h_th h_row v_th_undos v_th_isKept v_th_text v_th_length v_th_sizes v_th_values v_th_asked v_th_first v_th_behind v_th_readBits v_th_clauses v_th_doing v_th_numbers v_th_planWord v_th_addWord v_th_delWord v_th_fillWord v_th_probes v_th_links v_th_looks v_th_found v_th_isOver u_13 (1672 : Int32) x0 x1 x2 u_15 hc_16) (cwV 4 hts gX7_flood_X7_fill rfl rfl rfl (by decide +kernel) ⟨Nat.le_of_ble_eq_true rfl, Nat.le_of_ble_eq_true rfl⟩) (GpreV hP hD hK hN [0, 1] rfl (by decide) 7 0 rfl rfl rfl) rfl rfl hl.1 rfl (lv_room (Nat.le_of_ble_eq_true rfl)) dX7_flood_63 ⟨Nat.zero_le _, Nat.zero_le _⟩) hP hD hS hA [0, 1] [] rfl rfl (by decide) (by decide) (fun H locs hP hD hS => ?_)
          have hP : va_P (dC, dI) vwCl [(h_th, .inr (7, [.ref h_row, v_th_undos, v_th_isKept, v_th_text, v_th_length, v_th_sizes, v_th_values, v_th_asked, v_th_first, v_th_behind, v_th_readBits, v_th_clauses, v_th_doing, v_th_numbers, v_th_planWord, v_th_addWord, v_th_delWord, v_th_fillWord, v_th_probes, v_th_links, v_th_looks, v_th_found, v_th_isOver])), (h_row, .inl (cyI, 1824, .inl u_15))] H := hP
          have hD : va_D A [(h_th, .inr (7, [.ref h_row, v_th_undos, v_th_isKept, v_th_text, v_th_length, v_th_sizes, v_th_values, v_th_asked, v_th_first, v_th_behind, v_th_readBits, v_th_clauses, v_th_doing, v_th_numbers, v_th_planWord, v_th_addWord, v_th_delWord, v_th_fillWord, v_th_probes, v_th_links, v_th_looks, v_th_found, v_th_isOver])), (h_row, .inl (cyI, 1824, .inl u_15))] := hD
          refine lv_iload hx hb dX7_flood_66 (lv_at hl 4 rfl) ?_
          obtain ⟨w_18, hm_24, h⟩ := obd_e h
          have J : ∀ (H : Heap) (locs : List Loc) (ls : Array Slot), va_P (dC, dI) vwCl [(h_th, .inr (7, [.ref h_row, v_th_undos, v_th_isKept, v_th_text, v_th_length, v_th_sizes, v_th_values, v_th_asked, v_th_first, v_th_behind, v_th_readBits, v_th_clauses, v_th_doing, v_th_numbers, v_th_planWord, v_th_addWord, v_th_delWord, v_th_fillWord, v_th_probes, v_th_links, v_th_looks, v_th_found, v_th_isOver])), (h_row, .inl (cyI, 1824, .inl u_15))] H → va_D A [(h_th, .inr (7, [.ref h_row, v_th_undos, v_th_isKept, v_th_text, v_th_length, v_th_sizes, v_th_values, v_th_asked, v_th_first, v_th_behind, v_th_readBits, v_th_clauses, v_th_doing, v_th_numbers, v_th_planWord, v_th_addWord, v_th_delWord, v_th_fillWord, v_th_probes, v_th_links, v_th_looks, v_th_found, v_th_isOver])), (h_row, .inl (cyI, 1824, .inl u_15))] → va_S A s.heap H locs → lv_has ls 5 [] → W p l e ({ frames := 7, cells := 0, slots := 0, locals := 162 }) s m args below meth c H locs 0 0 Q (F0 m 114 ls [.int w_18]) := by
            intro H locs ls hP hD hS hl
            obtain rfl := Option.some.inj h
            exact hret _ _ _ _ dX7_flood_114 hP hD hS
          replace h := hm_24
          refine lv_if_ne (tgt := 82) hx hb dX7_flood_68 (by decide) (fun c_17 => ?_) (fun c_17 => ?_)
          · have h := og_ite_f c_17 h
            refine lv_iload hx hb dX7_flood_82 (lv_at hl 4 rfl) ?_
            refine lv_iconst (v := 1) hx hb dX7_flood_84 (by decide) ?_
            refine lv_icmp_ne (tgt := 106) hx hb dX7_flood_85 (by decide) (fun c_19 => ?_) (fun c_19 => ?_)
            · have h := og_ite_f c_19 h
              refine lv_aload_n hx hb dX7_flood_106 rfl (lv_at hl 0 rfl) ?_
              refine va_get (D := (dC, dI)) (ci := 7) (v := .ref h_row) (C := RX7) (T := TX7) (N := 23) hx hb hts (fun _ hw => List.mem_cons_of_mem _ (List.mem_append_right _ hw)) hown hK hP 0 rfl rfl 0 (by decide) (hts (.fieldLink RX7 7 "PrefixIndexModel" "row" "[I") (List.mem_of_getElem? (i := 4) rfl)) (fun _ h9 => h9) rfl dX7_flood_107 ?_
              refine lv_sipush (v := 1674) hx hb dX7_flood_110 (by decide) ?_
              obtain ⟨hi_20, h⟩ := oin_e h
              refine va_iald hx hb hK hP 1 0 rfl rfl hi_20 dX7_flood_113 ?_
              obtain rfl := Option.some.inj h
              exact J _ _ _ hP hD hS (lv_sub hl [] rfl)
            · have h := og_ite_t c_19 h
              refine lv_aload_n hx hb dX7_flood_88 rfl (lv_at hl 0 rfl) ?_
              refine va_get (D := (dC, dI)) (ci := 7) (v := .ref h_row) (C := RX7) (T := TX7) (N := 23) hx hb hts (fun _ hw => List.mem_cons_of_mem _ (List.mem_append_right _ hw)) hown hK hP 0 rfl rfl 0 (by decide) (hts (.fieldLink RX7 7 "PrefixIndexModel" "row" "[I") (List.mem_of_getElem? (i := 4) rfl)) (fun _ h9 => h9) rfl dX7_flood_89 ?_
              refine lv_sipush (v := 1676) hx hb dX7_flood_92 (by decide) ?_
              obtain ⟨hi_21, h⟩ := oin_e h
              refine va_iald hx hb hK hP 1 0 rfl rfl hi_21 dX7_flood_95 ?_
              refine lv_aload_n hx hb dX7_flood_96 rfl (lv_at hl 0 rfl) ?_
              refine va_get (D := (dC, dI)) (ci := 7) (v := .ref h_row) (C := RX7) (T := TX7) (N := 23) hx hb hts (fun _ hw => List.mem_cons_of_mem _ (List.mem_append_right _ hw)) hown hK hP 0 rfl rfl 0 (by decide) (hts (.fieldLink RX7 7 "PrefixIndexModel" "row" "[I") (List.mem_of_getElem? (i := 4) rfl)) (fun _ h9 => h9) rfl dX7_flood_97 ?_
              refine lv_iconst (v := 4) hx hb dX7_flood_100 (by decide) ?_
              obtain ⟨hi_22, h⟩ := oin_e h
              refine va_iald hx hb hK hP 1 0 rfl rfl hi_22 dX7_flood_101 ?_
              refine lv_isub hx hb dX7_flood_102 ?_
              refine lv_goto (tgt := 114) hx hb dX7_flood_103 (by decide) ?_
              obtain rfl := Option.some.inj h
              exact J _ _ _ hP hD hS (lv_sub hl [] rfl)
          · have h := og_ite_t c_17 h
            refine lv_aload_n hx hb dX7_flood_71 rfl (lv_at hl 0 rfl) ?_
            refine va_get (D := (dC, dI)) (ci := 7) (v := .ref h_row) (C := RX7) (T := TX7) (N := 23) hx hb hts (fun _ hw => List.mem_cons_of_mem _ (List.mem_append_right _ hw)) hown hK hP 0 rfl rfl 0 (by decide) (hts (.fieldLink RX7 7 "PrefixIndexModel" "row" "[I") (List.mem_of_getElem? (i := 4) rfl)) (fun _ h9 => h9) rfl dX7_flood_72 ?_
            refine lv_sipush (v := 1675) hx hb dX7_flood_75 (by decide) ?_
            obtain ⟨hi_23, h⟩ := oin_e h
            refine va_iald hx hb hK hP 1 0 rfl rfl hi_23 dX7_flood_78 ?_
            refine lv_goto (tgt := 114) hx hb dX7_flood_79 (by decide) ?_
            obtain rfl := Option.some.inj h
            exact J _ _ _ hP hD hS (lv_sub hl [] rfl)
        · have h := og_ite_t c_12 h
          refine lv_bipush (v := (-3)) hx hb dX7_flood_45 (by decide) ?_
          obtain rfl := Option.some.inj h
          exact hret _ _ _ _ dX7_flood_47 hP hD hS

def fX7_costOf (probes : Int32) (links : Int32) (looks : Int32) (found : Int32) (row : (Nat → Int32)) (x0 : Int32) : Option (Int32 × Int32 × Int32 × Int32 × Int32) := obd (fX7_seek probes links looks found row x0) fun u_1 => some (((u_1.1 + u_1.2.1) + u_1.2.2.1), u_1.1, u_1.2.1, u_1.2.2.1, u_1.2.2.2)

set_option maxHeartbeats 4000000 in
set_option maxRecDepth 100000 in
theorem tX7_costOf (l : Launch) (dC : Nat → ClassId) (dI : Nat → Nat → Nat) (cyI cyJ cyZ cyO : ClassId) (sz : Nat) (h_th h_row : Nat) (v_th_undos : Value) (v_th_isKept : Value) (v_th_text : Value) (v_th_length : Value) (v_th_sizes : Value) (v_th_values : Value) (v_th_asked : Value) (v_th_first : Value) (v_th_behind : Value) (v_th_readBits : Value) (v_th_clauses : Value) (v_th_doing : Value) (v_th_numbers : Value) (v_th_planWord : Value) (v_th_addWord : Value) (v_th_delWord : Value) (v_th_fillWord : Value) (v_th_isOver : Value) (probes : Int32) (links : Int32) (looks : Int32) (found : Int32) (row : (Nat → Int32)) (x0 : Int32) (u : Int32 × Int32 × Int32 × Int32 × Int32) (hf : fX7_costOf probes links looks found row x0 = some u) : Met l yX7_costOf wsX7_costOf ({ frames := 4, cells := 0, slots := 0, locals := 94 }) (va_Pc [.ref h_th, .int x0] (GP (dC, dI) (T4 cyI cyJ cyZ cyO) sz [(h_th, .inr (7, [.ref h_row, v_th_undos, v_th_isKept, v_th_text, v_th_length, v_th_sizes, v_th_values, v_th_asked, v_th_first, v_th_behind, v_th_readBits, v_th_clauses, v_th_doing, v_th_numbers, v_th_planWord, v_th_addWord, v_th_delWord, v_th_fillWord, .int probes, .int links, .int looks, .int found, v_th_isOver])), (h_row, .inl (cyI, 1824, .inl row))])) (va_Qi (fun (r : Int32) (_ : Unit) => r = u.1) (GB (dC, dI) [(h_th, .inr (7, [.ref h_row, v_th_undos, v_th_isKept, v_th_text, v_th_length, v_th_sizes, v_th_values, v_th_asked, v_th_first, v_th_behind, v_th_readBits, v_th_clauses, v_th_doing, v_th_numbers, v_th_planWord, v_th_addWord, v_th_delWord, v_th_fillWord, .int u.2.1, .int u.2.2.1, .int u.2.2.2.1, .int u.2.2.2.2, v_th_isOver])), (h_row, .inl (cyI, 1824, .inl row))] (va_A [(h_th, .inr (7, [.ref h_row, v_th_undos, v_th_isKept, v_th_text, v_th_length, v_th_sizes, v_th_values, v_th_asked, v_th_first, v_th_behind, v_th_readBits, v_th_clauses, v_th_doing, v_th_numbers, v_th_planWord, v_th_addWord, v_th_delWord, v_th_fillWord, .int probes, .int links, .int looks, .int found, v_th_isOver])), (h_row, .inl (cyI, 1824, .inl row))] sz)) (va_A [(h_th, .inr (7, [.ref h_row, v_th_undos, v_th_isKept, v_th_text, v_th_length, v_th_sizes, v_th_values, v_th_asked, v_th_first, v_th_behind, v_th_readBits, v_th_clauses, v_th_doing, v_th_numbers, v_th_planWord, v_th_addWord, v_th_delWord, v_th_fillWord, .int probes, .int links, .int looks, .int found, v_th_isOver])), (h_row, .inl (cyI, 1824, .inl row))] sz)) 0 0 (va_A [(h_th, .inr (7, [.ref h_row, v_th_undos, v_th_isKept, v_th_text, v_th_length, v_th_sizes, v_th_values, v_th_asked, v_th_first, v_th_behind, v_th_readBits, v_th_clauses, v_th_doing, v_th_numbers, v_th_planWord, v_th_addWord, v_th_delWord, v_th_fillWord, .int probes, .int links, .int looks, .int found, v_th_isOver])), (h_row, .inl (cyI, 1824, .inl row))] sz) := by
  refine GMetI (by decide) rfl (Nat.le_of_ble_eq_true rfl) ?_
  intro p e s m args below meth c A Q ls hx hb hml hts hown hN hK hA hret hP hD hS hl
  have h := hf
  clear hf
  unfold fX7_costOf at h
  have hown : s.vm.findClass RX7 = some m.cls := hown
  have hl : lv_has ls 2 [(0, .ref h_th), (1, .int x0)] := hl
  refine lv_aload_n hx hb dX7_costOf_0 rfl (lv_at hl 0 rfl) ?_
  refine lv_iload_n hx hb dX7_costOf_1 rfl (lv_at hl 1 rfl) ?_
  obtain ⟨u_1, hc_2, h⟩ := obd_e h
  refine Gcv (wr := []) (va_runV (As := [.int x0]) (rest := []) ⟨hx, hb, hml, hown, hts⟩ (tX7_seek l dC dI cyI cyJ cyZ cyO s.heap.size h_th h_row v_th_undos v_th_isKept v_th_text v_th_length v_th_sizes v_th_values v_th_asked v_th_first v_th_behind v_th_readBits v_th_clauses v_th_doing v_th_numbers v_th_planWord v_th_addWord v_th_delWord v_th_fillWord v_th_isOver probes links looks found row x0 u_1 hc_2) (cwV 1 hts gX7_costOf_X7_seek rfl rfl rfl (by decide +kernel) ⟨Nat.le_of_ble_eq_true rfl, Nat.le_of_ble_eq_true rfl⟩) (GpreV hP hD hK hN [0, 1] rfl (by decide) 7 0 rfl rfl rfl) rfl rfl hl.1 rfl (lv_room (Nat.le_of_ble_eq_true rfl)) dX7_costOf_2 ⟨Nat.zero_le _, Nat.zero_le _⟩) hP hD hS hA [0, 1] [] rfl rfl (by decide) (by decide) (fun H locs hP hD hS => ?_)
  have hP : va_P (dC, dI) vwCl [(h_th, .inr (7, [.ref h_row, v_th_undos, v_th_isKept, v_th_text, v_th_length, v_th_sizes, v_th_values, v_th_asked, v_th_first, v_th_behind, v_th_readBits, v_th_clauses, v_th_doing, v_th_numbers, v_th_planWord, v_th_addWord, v_th_delWord, v_th_fillWord, .int u_1.1, .int u_1.2.1, .int u_1.2.2.1, .int u_1.2.2.2, v_th_isOver])), (h_row, .inl (cyI, 1824, .inl row))] H := hP
  have hD : va_D A [(h_th, .inr (7, [.ref h_row, v_th_undos, v_th_isKept, v_th_text, v_th_length, v_th_sizes, v_th_values, v_th_asked, v_th_first, v_th_behind, v_th_readBits, v_th_clauses, v_th_doing, v_th_numbers, v_th_planWord, v_th_addWord, v_th_delWord, v_th_fillWord, .int u_1.1, .int u_1.2.1, .int u_1.2.2.1, .int u_1.2.2.2, v_th_isOver])), (h_row, .inl (cyI, 1824, .inl row))] := hD
  refine lv_aload_n hx hb dX7_costOf_5 rfl (lv_at hl 0 rfl) ?_
  refine va_get (D := (dC, dI)) (ci := 7) (v := .int u_1.1) (C := RX7) (T := TX7) (N := 23) hx hb hts (fun _ hw => List.mem_cons_of_mem _ (List.mem_append_right _ hw)) hown hK hP 0 rfl rfl 18 (by decide) (hts (.fieldLink RX7 166 "PrefixIndexModel" "probes" "I") (List.mem_of_getElem? (i := 1) rfl)) (fun _ h9 => h9) rfl dX7_costOf_6 ?_
  refine lv_aload_n hx hb dX7_costOf_9 rfl (lv_at hl 0 rfl) ?_
  refine va_get (D := (dC, dI)) (ci := 7) (v := .int u_1.2.1) (C := RX7) (T := TX7) (N := 23) hx hb hts (fun _ hw => List.mem_cons_of_mem _ (List.mem_append_right _ hw)) hown hK hP 0 rfl rfl 19 (by decide) (hts (.fieldLink RX7 178 "PrefixIndexModel" "links" "I") (List.mem_of_getElem? (i := 2) rfl)) (fun _ h9 => h9) rfl dX7_costOf_10 ?_
  refine lv_iadd hx hb dX7_costOf_13 ?_
  refine lv_aload_n hx hb dX7_costOf_14 rfl (lv_at hl 0 rfl) ?_
  refine va_get (D := (dC, dI)) (ci := 7) (v := .int u_1.2.2.1) (C := RX7) (T := TX7) (N := 23) hx hb hts (fun _ hw => List.mem_cons_of_mem _ (List.mem_append_right _ hw)) hown hK hP 0 rfl rfl 20 (by decide) (hts (.fieldLink RX7 169 "PrefixIndexModel" "looks" "I") (List.mem_of_getElem? (i := 3) rfl)) (fun _ h9 => h9) rfl dX7_costOf_15 ?_
  refine lv_iadd hx hb dX7_costOf_18 ?_
  obtain rfl := Option.some.inj h
  exact hret _ _ _ _ dX7_costOf_19 hP hD hS

def lpX7_dearest_20 (q1 : Int32) (row : (Nat → Int32)) : Nat → Int32 → Int32 → Int32 → Int32 → Int32 → Int32 → Int32 → Option (Int32 × Int32 × Int32 × Int32 × Int32 × Int32 × Int32)
  | 0, _, _, _, _, _, _, _ => none
  | n + 1, m2, m3, m4, zprobes, zlinks, zlooks, zfound => oin (2 : Int32) 1824 (if (row (2 : Int32).toNatClampNeg) ≤ m4 then (some (m2, m3, m4, zprobes, zlinks, zlooks, zfound)) else (oin ((6 : Int32) + m4) 1824 (obd (fX7_costOf zprobes zlinks zlooks zfound row (row ((6 : Int32) + m4).toNatClampNeg)) fun u_8 => obd (if u_8.1 ≤ m2 then (some m3) else (oin ((6 : Int32) + m4) 1824 (some (row ((6 : Int32) + m4).toNatClampNeg)))) fun w_11 => olet (if u_8.1 ≤ m2 then (m2) else (u_8.1)) fun y_13 => lpX7_dearest_20 q1 row n y_13 w_11 (m4 + (1 : Int32)) u_8.2.1 u_8.2.2.1 u_8.2.2.2.1 u_8.2.2.2.2)))

def fX7_dearest (probes : Int32) (links : Int32) (looks : Int32) (found : Int32) (row : (Nat → Int32)) (x0 : Int32) : Option (Int32 × Int32 × Int32 × Int32 × Int32) := obd (fX7_in x0.toInt64 (0 : Int64) (1 : Int64)) fun u_1 => if u_1 = 0 then (some ((-3 : Int32), probes, links, looks, found)) else (obd (lpX7_dearest_20 x0 row 100000 (-1 : Int32) (-1 : Int32) (0 : Int32) probes links looks found) fun w_27 => olet (if x0 = 0 then (w_27.2.1) else (w_27.1)) fun y_30 => some (y_30, w_27.2.2.2.1, w_27.2.2.2.2.1, w_27.2.2.2.2.2.1, w_27.2.2.2.2.2.2))

set_option maxHeartbeats 4000000 in
set_option maxRecDepth 100000 in
theorem tX7_dearest (l : Launch) (dC : Nat → ClassId) (dI : Nat → Nat → Nat) (cyI cyJ cyZ cyO : ClassId) (sz : Nat) (h_th h_row : Nat) (v_th_undos : Value) (v_th_isKept : Value) (v_th_text : Value) (v_th_length : Value) (v_th_sizes : Value) (v_th_values : Value) (v_th_asked : Value) (v_th_first : Value) (v_th_behind : Value) (v_th_readBits : Value) (v_th_clauses : Value) (v_th_doing : Value) (v_th_numbers : Value) (v_th_planWord : Value) (v_th_addWord : Value) (v_th_delWord : Value) (v_th_fillWord : Value) (v_th_isOver : Value) (probes : Int32) (links : Int32) (looks : Int32) (found : Int32) (row : (Nat → Int32)) (x0 : Int32) (u : Int32 × Int32 × Int32 × Int32 × Int32) (hf : fX7_dearest probes links looks found row x0 = some u) : Met l yX7_dearest wsX7_dearest ({ frames := 5, cells := 0, slots := 0, locals := 115 }) (va_Pc [.ref h_th, .int x0] (GP (dC, dI) (T4 cyI cyJ cyZ cyO) sz [(h_th, .inr (7, [.ref h_row, v_th_undos, v_th_isKept, v_th_text, v_th_length, v_th_sizes, v_th_values, v_th_asked, v_th_first, v_th_behind, v_th_readBits, v_th_clauses, v_th_doing, v_th_numbers, v_th_planWord, v_th_addWord, v_th_delWord, v_th_fillWord, .int probes, .int links, .int looks, .int found, v_th_isOver])), (h_row, .inl (cyI, 1824, .inl row))])) (va_Qi (fun (r : Int32) (_ : Unit) => r = u.1) (GB (dC, dI) [(h_th, .inr (7, [.ref h_row, v_th_undos, v_th_isKept, v_th_text, v_th_length, v_th_sizes, v_th_values, v_th_asked, v_th_first, v_th_behind, v_th_readBits, v_th_clauses, v_th_doing, v_th_numbers, v_th_planWord, v_th_addWord, v_th_delWord, v_th_fillWord, .int u.2.1, .int u.2.2.1, .int u.2.2.2.1, .int u.2.2.2.2, v_th_isOver])), (h_row, .inl (cyI, 1824, .inl row))] (va_A [(h_th, .inr (7, [.ref h_row, v_th_undos, v_th_isKept, v_th_text, v_th_length, v_th_sizes, v_th_values, v_th_asked, v_th_first, v_th_behind, v_th_readBits, v_th_clauses, v_th_doing, v_th_numbers, v_th_planWord, v_th_addWord, v_th_delWord, v_th_fillWord, .int probes, .int links, .int looks, .int found, v_th_isOver])), (h_row, .inl (cyI, 1824, .inl row))] sz)) (va_A [(h_th, .inr (7, [.ref h_row, v_th_undos, v_th_isKept, v_th_text, v_th_length, v_th_sizes, v_th_values, v_th_asked, v_th_first, v_th_behind, v_th_readBits, v_th_clauses, v_th_doing, v_th_numbers, v_th_planWord, v_th_addWord, v_th_delWord, v_th_fillWord, .int probes, .int links, .int looks, .int found, v_th_isOver])), (h_row, .inl (cyI, 1824, .inl row))] sz)) 0 0 (va_A [(h_th, .inr (7, [.ref h_row, v_th_undos, v_th_isKept, v_th_text, v_th_length, v_th_sizes, v_th_values, v_th_asked, v_th_first, v_th_behind, v_th_readBits, v_th_clauses, v_th_doing, v_th_numbers, v_th_planWord, v_th_addWord, v_th_delWord, v_th_fillWord, .int probes, .int links, .int looks, .int found, v_th_isOver])), (h_row, .inl (cyI, 1824, .inl row))] sz) := by
  refine GMetI (by decide) rfl (Nat.le_of_ble_eq_true rfl) ?_
  intro p e s m args below meth c A Q ls hx hb hml hts hown hN hK hA hret hP hD hS hl
  have h := hf
  clear hf
  unfold fX7_dearest at h
  have hown : s.vm.findClass RX7 = some m.cls := hown
  have hl : lv_has ls 6 [(0, .ref h_th), (1, .int x0)] := hl
  refine lv_iload_n hx hb dX7_dearest_0 rfl (lv_at hl 1 rfl) ?_
  refine lv_i2l (v := x0.toInt64) hx hb dX7_dearest_1 rfl ?_
  refine lv_lconst (v := 0) hx hb dX7_dearest_2 (by decide) ?_
  refine lv_lconst (v := 1) hx hb dX7_dearest_3 (by decide) ?_
  obtain ⟨u_1, hc_2, h⟩ := obd_e h
  refine Gci (wr := [(h_th, .inr (7, [.ref h_row, v_th_undos, v_th_isKept, v_th_text, v_th_length, v_th_sizes, v_th_values, v_th_asked, v_th_first, v_th_behind, v_th_readBits, v_th_clauses, v_th_doing, v_th_numbers, v_th_planWord, v_th_addWord, v_th_delWord, v_th_fillWord, .int probes, .int links, .int looks, .int found, v_th_isOver])), (h_row, .inl (cyI, 1824, .inl row))]) (va_runS (As := [.long x0.toInt64, .long (0 : Int64), .long (1 : Int64)]) (rest := []) ⟨hx, hb, hml, hown, hts⟩ (tX7_in l dC dI cyI cyJ cyZ cyO s.heap.size x0.toInt64 (0 : Int64) (1 : Int64) u_1 hc_2) (cwS 3 hts gX7_dearest_X7_in rfl rfl rfl (by decide +kernel) ⟨Nat.le_of_ble_eq_true rfl, Nat.le_of_ble_eq_true rfl⟩) (GpreS hP hD hK hN [] rfl (by decide)) rfl rfl hl.1 rfl (lv_room (Nat.le_of_ble_eq_true rfl)) dX7_dearest_4 ⟨Nat.zero_le _, Nat.zero_le _⟩) hP hD hS hA [] [0, 1] rfl rfl (by decide) (by decide) (fun H locs hP hD hS => ?_)
  have hP : va_P (dC, dI) vwCl [(h_th, .inr (7, [.ref h_row, v_th_undos, v_th_isKept, v_th_text, v_th_length, v_th_sizes, v_th_values, v_th_asked, v_th_first, v_th_behind, v_th_readBits, v_th_clauses, v_th_doing, v_th_numbers, v_th_planWord, v_th_addWord, v_th_delWord, v_th_fillWord, .int probes, .int links, .int looks, .int found, v_th_isOver])), (h_row, .inl (cyI, 1824, .inl row))] H := hP
  have hD : va_D A [(h_th, .inr (7, [.ref h_row, v_th_undos, v_th_isKept, v_th_text, v_th_length, v_th_sizes, v_th_values, v_th_asked, v_th_first, v_th_behind, v_th_readBits, v_th_clauses, v_th_doing, v_th_numbers, v_th_planWord, v_th_addWord, v_th_delWord, v_th_fillWord, .int probes, .int links, .int looks, .int found, v_th_isOver])), (h_row, .inl (cyI, 1824, .inl row))] := hD
  refine lv_if_ne (tgt := 13) hx hb dX7_dearest_7 (by decide) (fun c_3 => ?_) (fun c_3 => ?_)
  · have h := og_ite_f c_3 h
    refine lv_iconst (v := (-1)) hx hb dX7_dearest_13 (by decide) ?_
    refine lv_istore_n (lv' := [(2, .int (-1 : Int32)), (0, .ref h_th), (1, .int x0)]) hx hb dX7_dearest_14 rfl hl (by decide) rfl (fun ls hl => ?_)
    refine lv_iconst (v := (-1)) hx hb dX7_dearest_15 (by decide) ?_
    refine lv_istore_n (lv' := [(3, .int (-1 : Int32)), (2, .int (-1 : Int32)), (0, .ref h_th), (1, .int x0)]) hx hb dX7_dearest_16 rfl hl (by decide) rfl (fun ls hl => ?_)
    refine lv_iconst (v := 0) hx hb dX7_dearest_17 (by decide) ?_
    refine lv_istore (lv' := [(4, .int (0 : Int32)), (3, .int (-1 : Int32)), (2, .int (-1 : Int32)), (0, .ref h_th), (1, .int x0)]) hx hb dX7_dearest_18 hl (by decide) rfl (fun ls hl => ?_)
    obtain ⟨w_27, hw_28, h⟩ := obd_e h
    have J : ∀ (H : Heap) (locs : List Loc) (ls : Array Slot), va_P (dC, dI) vwCl [(h_th, .inr (7, [.ref h_row, v_th_undos, v_th_isKept, v_th_text, v_th_length, v_th_sizes, v_th_values, v_th_asked, v_th_first, v_th_behind, v_th_readBits, v_th_clauses, v_th_doing, v_th_numbers, v_th_planWord, v_th_addWord, v_th_delWord, v_th_fillWord, .int w_27.2.2.2.1, .int w_27.2.2.2.2.1, .int w_27.2.2.2.2.2.1, .int w_27.2.2.2.2.2.2, v_th_isOver])), (h_row, .inl (cyI, 1824, .inl row))] H → va_D A [(h_th, .inr (7, [.ref h_row, v_th_undos, v_th_isKept, v_th_text, v_th_length, v_th_sizes, v_th_values, v_th_asked, v_th_first, v_th_behind, v_th_readBits, v_th_clauses, v_th_doing, v_th_numbers, v_th_planWord, v_th_addWord, v_th_delWord, v_th_fillWord, .int w_27.2.2.2.1, .int w_27.2.2.2.2.1, .int w_27.2.2.2.2.2.1, .int w_27.2.2.2.2.2.2, v_th_isOver])), (h_row, .inl (cyI, 1824, .inl row))] → va_S A s.heap H locs → lv_has ls 6 [(1, .int x0), (2, .int w_27.1), (3, .int w_27.2.1)] → W p l e ({ frames := 5, cells := 0, slots := 0, locals := 115 }) s m args below meth c H locs 0 0 Q (F0 m 87 ls []) := by
      intro H locs ls hP hD hS hl
      refine lv_iload_n hx hb dX7_dearest_87 rfl (lv_at hl 0 rfl) ?_
      obtain ⟨y_30, ey_30, h⟩ := olet_e h
      have J : ∀ (H : Heap) (locs : List Loc) (ls : Array Slot), va_P (dC, dI) vwCl [(h_th, .inr (7, [.ref h_row, v_th_undos, v_th_isKept, v_th_text, v_th_length, v_th_sizes, v_th_values, v_th_asked, v_th_first, v_th_behind, v_th_readBits, v_th_clauses, v_th_doing, v_th_numbers, v_th_planWord, v_th_addWord, v_th_delWord, v_th_fillWord, .int w_27.2.2.2.1, .int w_27.2.2.2.2.1, .int w_27.2.2.2.2.2.1, .int w_27.2.2.2.2.2.2, v_th_isOver])), (h_row, .inl (cyI, 1824, .inl row))] H → va_D A [(h_th, .inr (7, [.ref h_row, v_th_undos, v_th_isKept, v_th_text, v_th_length, v_th_sizes, v_th_values, v_th_asked, v_th_first, v_th_behind, v_th_readBits, v_th_clauses, v_th_doing, v_th_numbers, v_th_planWord, v_th_addWord, v_th_delWord, v_th_fillWord, .int w_27.2.2.2.1, .int w_27.2.2.2.2.1, .int w_27.2.2.2.2.2.1, .int w_27.2.2.2.2.2.2, v_th_isOver])), (h_row, .inl (cyI, 1824, .inl row))] → va_S A s.heap H locs → lv_has ls 6 [] → W p l e ({ frames := 5, cells := 0, slots := 0, locals := 115 }) s m args below meth c H locs 0 0 Q (F0 m 96 ls [.int y_30]) := by
        intro H locs ls hP hD hS hl
        obtain rfl := Option.some.inj h
        exact hret _ _ _ _ dX7_dearest_96 hP hD hS
      clear h
      refine lv_if_ne (tgt := 95) hx hb dX7_dearest_88 (by decide) (fun c_29 => ?_) (fun c_29 => ?_)
      · refine lv_iload_n hx hb dX7_dearest_95 rfl (lv_at hl 1 rfl) ?_
        rw [if_neg c_29] at ey_30
        subst ey_30
        exact J H locs _ hP hD hS (lv_sub hl [] rfl)
      · refine lv_iload_n hx hb dX7_dearest_91 rfl (lv_at hl 2 rfl) ?_
        refine lv_goto (tgt := 96) hx hb dX7_dearest_92 (by decide) ?_
        rw [if_pos c_29] at ey_30
        subst ey_30
        exact J H locs _ hP hD hS (lv_sub hl [] rfl)
    have LL : ∀ (n : Nat) (m2 : Int32) (m3 : Int32) (m4 : Int32) (zprobes : Int32) (zlinks : Int32) (zlooks : Int32) (zfound : Int32) (H : Heap) (locs : List Loc) (ls : Array Slot), lpX7_dearest_20 x0 row n m2 m3 m4 zprobes zlinks zlooks zfound = some w_27 → va_P (dC, dI) vwCl [(h_th, .inr (7, [.ref h_row, v_th_undos, v_th_isKept, v_th_text, v_th_length, v_th_sizes, v_th_values, v_th_asked, v_th_first, v_th_behind, v_th_readBits, v_th_clauses, v_th_doing, v_th_numbers, v_th_planWord, v_th_addWord, v_th_delWord, v_th_fillWord, .int zprobes, .int zlinks, .int zlooks, .int zfound, v_th_isOver])), (h_row, .inl (cyI, 1824, .inl row))] H → va_D A [(h_th, .inr (7, [.ref h_row, v_th_undos, v_th_isKept, v_th_text, v_th_length, v_th_sizes, v_th_values, v_th_asked, v_th_first, v_th_behind, v_th_readBits, v_th_clauses, v_th_doing, v_th_numbers, v_th_planWord, v_th_addWord, v_th_delWord, v_th_fillWord, .int zprobes, .int zlinks, .int zlooks, .int zfound, v_th_isOver])), (h_row, .inl (cyI, 1824, .inl row))] → va_S A s.heap H locs → lv_has ls 6 [(0, .ref h_th), (1, .int x0), (2, .int m2), (3, .int m3), (4, .int m4)] → W p l e ({ frames := 5, cells := 0, slots := 0, locals := 115 }) s m args below meth c H locs 0 0 Q (F0 m 20 ls []) := by
      intro n
      induction n with
      | zero =>
        intro m2 m3 m4 zprobes zlinks zlooks zfound H locs ls h
        exact absurd h (by rw [lpX7_dearest_20]; exact fun q => by cases q)
      | succ n ih =>
        intro m2 m3 m4 zprobes zlinks zlooks zfound H locs ls h hP hD hS hl
        rw [lpX7_dearest_20] at h
        refine lv_iload hx hb dX7_dearest_20 (lv_at hl 4 rfl) ?_
        refine lv_aload_n hx hb dX7_dearest_22 rfl (lv_at hl 0 rfl) ?_
        refine va_get (D := (dC, dI)) (ci := 7) (v := .ref h_row) (C := RX7) (T := TX7) (N := 23) hx hb hts (fun _ hw => List.mem_cons_of_mem _ (List.mem_append_right _ hw)) hown hK hP 0 rfl rfl 0 (by decide) (hts (.fieldLink RX7 7 "PrefixIndexModel" "row" "[I") (List.mem_of_getElem? (i := 1) rfl)) (fun _ h9 => h9) rfl dX7_dearest_23 ?_
        refine lv_iconst (v := 2) hx hb dX7_dearest_26 (by decide) ?_
        obtain ⟨hi_16, h⟩ := oin_e h
        refine va_iald hx hb hK hP 1 0 rfl rfl hi_16 dX7_dearest_27 ?_
        refine lv_icmp_ge (tgt := 87) hx hb dX7_dearest_28 (by decide) (fun c_17 => ?_) (fun c_17 => ?_)
        · have h := og_ite_t c_17 h
          obtain rfl := Option.some.inj h
          exact J _ _ _ hP hD hS (lv_sub hl [1, 2, 3] rfl)
        · have h := og_ite_f c_17 h
          refine lv_aload_n hx hb dX7_dearest_31 rfl (lv_at hl 0 rfl) ?_
          refine lv_aload_n hx hb dX7_dearest_32 rfl (lv_at hl 0 rfl) ?_
          refine va_get (D := (dC, dI)) (ci := 7) (v := .ref h_row) (C := RX7) (T := TX7) (N := 23) hx hb hts (fun _ hw => List.mem_cons_of_mem _ (List.mem_append_right _ hw)) hown hK hP 0 rfl rfl 0 (by decide) (hts (.fieldLink RX7 7 "PrefixIndexModel" "row" "[I") (List.mem_of_getElem? (i := 1) rfl)) (fun _ h9 => h9) rfl dX7_dearest_33 ?_
          refine lv_bipush (v := 6) hx hb dX7_dearest_36 (by decide) ?_
          refine lv_iload hx hb dX7_dearest_38 (lv_at hl 4 rfl) ?_
          refine lv_iadd hx hb dX7_dearest_40 ?_
          obtain ⟨hi_18, h⟩ := oin_e h
          refine va_iald hx hb hK hP 1 0 rfl rfl hi_18 dX7_dearest_41 ?_
          obtain ⟨u_19, hc_20, h⟩ := obd_e h
          refine Gci (wr := []) (va_runV (As := [.int (row ((6 : Int32) + m4).toNatClampNeg)]) (rest := []) ⟨hx, hb, hml, hown, hts⟩ (tX7_costOf l dC dI cyI cyJ cyZ cyO H.size h_th h_row v_th_undos v_th_isKept v_th_text v_th_length v_th_sizes v_th_values v_th_asked v_th_first v_th_behind v_th_readBits v_th_clauses v_th_doing v_th_numbers v_th_planWord v_th_addWord v_th_delWord v_th_fillWord v_th_isOver zprobes zlinks zlooks zfound row (row ((6 : Int32) + m4).toNatClampNeg) u_19 hc_20) (cwV 1 hts gX7_dearest_X7_costOf rfl rfl rfl (by decide +kernel) ⟨Nat.le_of_ble_eq_true rfl, Nat.le_of_ble_eq_true rfl⟩) (GpreV hP hD hK hN [0, 1] rfl (by decide) 7 0 rfl rfl rfl) rfl rfl hl.1 rfl (lv_room (Nat.le_of_ble_eq_true rfl)) dX7_dearest_42 ⟨Nat.zero_le _, Nat.zero_le _⟩) hP hD hS hA [0, 1] [] rfl rfl (by decide) (by decide) (fun H locs hP hD hS => ?_)
          have hP : va_P (dC, dI) vwCl [(h_th, .inr (7, [.ref h_row, v_th_undos, v_th_isKept, v_th_text, v_th_length, v_th_sizes, v_th_values, v_th_asked, v_th_first, v_th_behind, v_th_readBits, v_th_clauses, v_th_doing, v_th_numbers, v_th_planWord, v_th_addWord, v_th_delWord, v_th_fillWord, .int u_19.2.1, .int u_19.2.2.1, .int u_19.2.2.2.1, .int u_19.2.2.2.2, v_th_isOver])), (h_row, .inl (cyI, 1824, .inl row))] H := hP
          have hD : va_D A [(h_th, .inr (7, [.ref h_row, v_th_undos, v_th_isKept, v_th_text, v_th_length, v_th_sizes, v_th_values, v_th_asked, v_th_first, v_th_behind, v_th_readBits, v_th_clauses, v_th_doing, v_th_numbers, v_th_planWord, v_th_addWord, v_th_delWord, v_th_fillWord, .int u_19.2.1, .int u_19.2.2.1, .int u_19.2.2.2.1, .int u_19.2.2.2.2, v_th_isOver])), (h_row, .inl (cyI, 1824, .inl row))] := hD
          refine lv_istore (lv' := [(5, .int u_19.1), (0, .ref h_th), (1, .int x0), (2, .int m2), (3, .int m3), (4, .int m4)]) hx hb dX7_dearest_45 hl (by decide) rfl (fun ls hl => ?_)
          refine lv_iload hx hb dX7_dearest_47 (lv_at hl 0 rfl) ?_
          refine lv_iload_n hx hb dX7_dearest_49 rfl (lv_at hl 3 rfl) ?_
          obtain ⟨w_22, hm_26, h⟩ := obd_e h
          have J : ∀ (H : Heap) (locs : List Loc) (ls : Array Slot), va_P (dC, dI) vwCl [(h_th, .inr (7, [.ref h_row, v_th_undos, v_th_isKept, v_th_text, v_th_length, v_th_sizes, v_th_values, v_th_asked, v_th_first, v_th_behind, v_th_readBits, v_th_clauses, v_th_doing, v_th_numbers, v_th_planWord, v_th_addWord, v_th_delWord, v_th_fillWord, .int u_19.2.1, .int u_19.2.2.1, .int u_19.2.2.2.1, .int u_19.2.2.2.2, v_th_isOver])), (h_row, .inl (cyI, 1824, .inl row))] H → va_D A [(h_th, .inr (7, [.ref h_row, v_th_undos, v_th_isKept, v_th_text, v_th_length, v_th_sizes, v_th_values, v_th_asked, v_th_first, v_th_behind, v_th_readBits, v_th_clauses, v_th_doing, v_th_numbers, v_th_planWord, v_th_addWord, v_th_delWord, v_th_fillWord, .int u_19.2.1, .int u_19.2.2.1, .int u_19.2.2.2.1, .int u_19.2.2.2.2, v_th_isOver])), (h_row, .inl (cyI, 1824, .inl row))] → va_S A s.heap H locs → lv_has ls 6 [(0, .ref h_th), (1, .int x0), (2, .int m2), (4, .int m4), (5, .int u_19.1)] → W p l e ({ frames := 5, cells := 0, slots := 0, locals := 115 }) s m args below meth c H locs 0 0 Q (F0 m 67 ls [.int w_22]) := by
            intro H locs ls hP hD hS hl
            refine lv_istore_n (lv' := [(3, .int w_22), (0, .ref h_th), (1, .int x0), (2, .int m2), (4, .int m4), (5, .int u_19.1)]) hx hb dX7_dearest_67 rfl hl (by decide) rfl (fun ls hl => ?_)
            refine lv_iload hx hb dX7_dearest_68 (lv_at hl 5 rfl) ?_
            refine lv_iload_n hx hb dX7_dearest_70 rfl (lv_at hl 3 rfl) ?_
            obtain ⟨y_24, ey_24, h⟩ := olet_e h
            have J : ∀ (H : Heap) (locs : List Loc) (ls : Array Slot), va_P (dC, dI) vwCl [(h_th, .inr (7, [.ref h_row, v_th_undos, v_th_isKept, v_th_text, v_th_length, v_th_sizes, v_th_values, v_th_asked, v_th_first, v_th_behind, v_th_readBits, v_th_clauses, v_th_doing, v_th_numbers, v_th_planWord, v_th_addWord, v_th_delWord, v_th_fillWord, .int u_19.2.1, .int u_19.2.2.1, .int u_19.2.2.2.1, .int u_19.2.2.2.2, v_th_isOver])), (h_row, .inl (cyI, 1824, .inl row))] H → va_D A [(h_th, .inr (7, [.ref h_row, v_th_undos, v_th_isKept, v_th_text, v_th_length, v_th_sizes, v_th_values, v_th_asked, v_th_first, v_th_behind, v_th_readBits, v_th_clauses, v_th_doing, v_th_numbers, v_th_planWord, v_th_addWord, v_th_delWord, v_th_fillWord, .int u_19.2.1, .int u_19.2.2.1, .int u_19.2.2.2.1, .int u_19.2.2.2.2, v_th_isOver])), (h_row, .inl (cyI, 1824, .inl row))] → va_S A s.heap H locs → lv_has ls 6 [(0, .ref h_th), (1, .int x0), (3, .int w_22), (4, .int m4)] → W p l e ({ frames := 5, cells := 0, slots := 0, locals := 115 }) s m args below meth c H locs 0 0 Q (F0 m 80 ls [.int y_24]) := by
              intro H locs ls hP hD hS hl
              refine lv_istore_n (lv' := [(2, .int y_24), (0, .ref h_th), (1, .int x0), (3, .int w_22), (4, .int m4)]) hx hb dX7_dearest_80 rfl hl (by decide) rfl (fun ls hl => ?_)
              refine lv_iinc (v := m4 + (1 : Int32)) (lv' := [(4, .int (m4 + (1 : Int32))), (2, .int y_24), (0, .ref h_th), (1, .int x0), (3, .int w_22)]) hx hb dX7_dearest_81 hl (k := 4) rfl rfl (by decide) rfl (fun ls hl => ?_)
              refine lv_goto (tgt := 20) hx hb dX7_dearest_84 (by decide) ?_
              exact ih y_24 w_22 (m4 + (1 : Int32)) u_19.2.1 u_19.2.2.1 u_19.2.2.2.1 u_19.2.2.2.2 _ _ _ h hP hD hS (lv_sub hl [2, 3, 1, 4, 0] rfl)
            clear h
            refine lv_icmp_le (tgt := 79) hx hb dX7_dearest_71 (by decide) (fun c_23 => ?_) (fun c_23 => ?_)
            · refine lv_iload_n hx hb dX7_dearest_79 rfl (lv_at hl 3 rfl) ?_
              rw [if_pos c_23] at ey_24
              subst ey_24
              exact J H locs _ hP hD hS (lv_sub hl [1, 2, 0, 4] rfl)
            · refine lv_iload hx hb dX7_dearest_74 (lv_at hl 5 rfl) ?_
              refine lv_goto (tgt := 80) hx hb dX7_dearest_76 (by decide) ?_
              rw [if_neg c_23] at ey_24
              subst ey_24
              exact J H locs _ hP hD hS (lv_sub hl [1, 2, 0, 4] rfl)
          replace h := hm_26
          refine lv_icmp_le (tgt := 66) hx hb dX7_dearest_50 (by decide) (fun c_21 => ?_) (fun c_21 => ?_)
          · have h := og_ite_t c_21 h
            refine lv_iload_n hx hb dX7_dearest_66 rfl (lv_at hl 4 rfl) ?_
            obtain rfl := Option.some.inj h
            exact J _ _ _ hP hD hS (lv_sub hl [1, 2, 3, 5, 0] rfl)
          · have h := og_ite_f c_21 h
            refine lv_aload_n hx hb dX7_dearest_53 rfl (lv_at hl 1 rfl) ?_
            refine va_get (D := (dC, dI)) (ci := 7) (v := .ref h_row) (C := RX7) (T := TX7) (N := 23) hx hb hts (fun _ hw => List.mem_cons_of_mem _ (List.mem_append_right _ hw)) hown hK hP 0 rfl rfl 0 (by decide) (hts (.fieldLink RX7 7 "PrefixIndexModel" "row" "[I") (List.mem_of_getElem? (i := 1) rfl)) (fun _ h9 => h9) rfl dX7_dearest_54 ?_
            refine lv_bipush (v := 6) hx hb dX7_dearest_57 (by decide) ?_
            refine lv_iload hx hb dX7_dearest_59 (lv_at hl 5 rfl) ?_
            refine lv_iadd hx hb dX7_dearest_61 ?_
            obtain ⟨hi_25, h⟩ := oin_e h
            refine va_iald hx hb hK hP 1 0 rfl rfl hi_25 dX7_dearest_62 ?_
            refine lv_goto (tgt := 67) hx hb dX7_dearest_63 (by decide) ?_
            obtain rfl := Option.some.inj h
            exact J _ _ _ hP hD hS (lv_sub hl [1, 2, 3, 5, 0] rfl)
    exact LL _ (-1 : Int32) (-1 : Int32) (0 : Int32) probes links looks found _ _ _ hw_28 hP hD hS (lv_sub hl [3, 4, 2, 1, 0] rfl)
  · have h := og_ite_t c_3 h
    refine lv_bipush (v := (-3)) hx hb dX7_dearest_10 (by decide) ?_
    obtain rfl := Option.some.inj h
    exact hret _ _ _ _ dX7_dearest_12 hP hD hS

def lpX7_mean_29 (q1 : Int32) (row : (Nat → Int32)) : Nat → Int32 → Int32 → Int32 → Int32 → Int32 → Int32 → Option (Int32 × Int32 × Int32 × Int32 × Int32 × Int32)
  | 0, _, _, _, _, _, _ => none
  | n + 1, m2, m3, zprobes, zlinks, zlooks, zfound => oin (2 : Int32) 1824 (if (row (2 : Int32).toNatClampNeg) ≤ m3 then (some (m2, m3, zprobes, zlinks, zlooks, zfound)) else (oin ((6 : Int32) + m3) 1824 (obd (fX7_costOf zprobes zlinks zlooks zfound row (row ((6 : Int32) + m3).toNatClampNeg)) fun u_10 => lpX7_mean_29 q1 row n (m2 + u_10.1) (m3 + (1 : Int32)) u_10.2.1 u_10.2.2.1 u_10.2.2.2.1 u_10.2.2.2.2)))

def lpX7_mean_71 (q1 : Int32) (q2 : Int32) : Nat → Int32 → Int32 → Option (Int32 × Int32)
  | 0, _, _ => none
  | n + 1, m3, m4 => if m4 = 0 then (some (m3, m4)) else (onz m4 (lpX7_mean_71 q1 q2 n m4 (m3 - m3 / m4 * m4)))

def fX7_mean (probes : Int32) (links : Int32) (looks : Int32) (found : Int32) (row : (Nat → Int32)) (x0 : Int32) : Option (Int32 × Int32 × Int32 × Int32 × Int32) := obd (fX7_in x0.toInt64 (0 : Int64) (1 : Int64)) fun u_1 => if u_1 = 0 then (some ((-3 : Int32), probes, links, looks, found)) else (oin (2 : Int32) 1824 (if (row (2 : Int32).toNatClampNeg) = 0 then (some ((-4 : Int32), probes, links, looks, found)) else (obd (lpX7_mean_29 x0 row 100000 (0 : Int32) (0 : Int32) probes links looks found) fun w_17 => oin (2 : Int32) 1824 (obd (lpX7_mean_71 x0 w_17.1 100000 w_17.1 (row (2 : Int32).toNatClampNeg)) fun w_25 => obd (if x0 = 0 then (onz w_25.1 (some (w_17.1 / w_25.1))) else (oin (2 : Int32) 1824 (onz w_25.1 (some ((row (2 : Int32).toNatClampNeg) / w_25.1))))) fun w_28 => some (w_28, w_17.2.2.1, w_17.2.2.2.1, w_17.2.2.2.2.1, w_17.2.2.2.2.2)))))

set_option maxHeartbeats 4000000 in
set_option maxRecDepth 100000 in
theorem tX7_mean (l : Launch) (dC : Nat → ClassId) (dI : Nat → Nat → Nat) (cyI cyJ cyZ cyO : ClassId) (sz : Nat) (h_th h_row : Nat) (v_th_undos : Value) (v_th_isKept : Value) (v_th_text : Value) (v_th_length : Value) (v_th_sizes : Value) (v_th_values : Value) (v_th_asked : Value) (v_th_first : Value) (v_th_behind : Value) (v_th_readBits : Value) (v_th_clauses : Value) (v_th_doing : Value) (v_th_numbers : Value) (v_th_planWord : Value) (v_th_addWord : Value) (v_th_delWord : Value) (v_th_fillWord : Value) (v_th_isOver : Value) (probes : Int32) (links : Int32) (looks : Int32) (found : Int32) (row : (Nat → Int32)) (x0 : Int32) (u : Int32 × Int32 × Int32 × Int32 × Int32) (hf : fX7_mean probes links looks found row x0 = some u) : Met l yX7_mean wsX7_mean ({ frames := 5, cells := 0, slots := 0, locals := 115 }) (va_Pc [.ref h_th, .int x0] (GP (dC, dI) (T4 cyI cyJ cyZ cyO) sz [(h_th, .inr (7, [.ref h_row, v_th_undos, v_th_isKept, v_th_text, v_th_length, v_th_sizes, v_th_values, v_th_asked, v_th_first, v_th_behind, v_th_readBits, v_th_clauses, v_th_doing, v_th_numbers, v_th_planWord, v_th_addWord, v_th_delWord, v_th_fillWord, .int probes, .int links, .int looks, .int found, v_th_isOver])), (h_row, .inl (cyI, 1824, .inl row))])) (va_Qi (fun (r : Int32) (_ : Unit) => r = u.1) (GB (dC, dI) [(h_th, .inr (7, [.ref h_row, v_th_undos, v_th_isKept, v_th_text, v_th_length, v_th_sizes, v_th_values, v_th_asked, v_th_first, v_th_behind, v_th_readBits, v_th_clauses, v_th_doing, v_th_numbers, v_th_planWord, v_th_addWord, v_th_delWord, v_th_fillWord, .int u.2.1, .int u.2.2.1, .int u.2.2.2.1, .int u.2.2.2.2, v_th_isOver])), (h_row, .inl (cyI, 1824, .inl row))] (va_A [(h_th, .inr (7, [.ref h_row, v_th_undos, v_th_isKept, v_th_text, v_th_length, v_th_sizes, v_th_values, v_th_asked, v_th_first, v_th_behind, v_th_readBits, v_th_clauses, v_th_doing, v_th_numbers, v_th_planWord, v_th_addWord, v_th_delWord, v_th_fillWord, .int probes, .int links, .int looks, .int found, v_th_isOver])), (h_row, .inl (cyI, 1824, .inl row))] sz)) (va_A [(h_th, .inr (7, [.ref h_row, v_th_undos, v_th_isKept, v_th_text, v_th_length, v_th_sizes, v_th_values, v_th_asked, v_th_first, v_th_behind, v_th_readBits, v_th_clauses, v_th_doing, v_th_numbers, v_th_planWord, v_th_addWord, v_th_delWord, v_th_fillWord, .int probes, .int links, .int looks, .int found, v_th_isOver])), (h_row, .inl (cyI, 1824, .inl row))] sz)) 0 0 (va_A [(h_th, .inr (7, [.ref h_row, v_th_undos, v_th_isKept, v_th_text, v_th_length, v_th_sizes, v_th_values, v_th_asked, v_th_first, v_th_behind, v_th_readBits, v_th_clauses, v_th_doing, v_th_numbers, v_th_planWord, v_th_addWord, v_th_delWord, v_th_fillWord, .int probes, .int links, .int looks, .int found, v_th_isOver])), (h_row, .inl (cyI, 1824, .inl row))] sz) := by
  refine GMetI (by decide) rfl (Nat.le_of_ble_eq_true rfl) ?_
  intro p e s m args below meth c A Q ls hx hb hml hts hown hN hK hA hret hP hD hS hl
  have h := hf
  clear hf
  unfold fX7_mean at h
  have hown : s.vm.findClass RX7 = some m.cls := hown
  have hl : lv_has ls 6 [(0, .ref h_th), (1, .int x0)] := hl
  refine lv_iload_n hx hb dX7_mean_0 rfl (lv_at hl 1 rfl) ?_
  refine lv_i2l (v := x0.toInt64) hx hb dX7_mean_1 rfl ?_
  refine lv_lconst (v := 0) hx hb dX7_mean_2 (by decide) ?_
  refine lv_lconst (v := 1) hx hb dX7_mean_3 (by decide) ?_
  obtain ⟨u_1, hc_2, h⟩ := obd_e h
  refine Gci (wr := [(h_th, .inr (7, [.ref h_row, v_th_undos, v_th_isKept, v_th_text, v_th_length, v_th_sizes, v_th_values, v_th_asked, v_th_first, v_th_behind, v_th_readBits, v_th_clauses, v_th_doing, v_th_numbers, v_th_planWord, v_th_addWord, v_th_delWord, v_th_fillWord, .int probes, .int links, .int looks, .int found, v_th_isOver])), (h_row, .inl (cyI, 1824, .inl row))]) (va_runS (As := [.long x0.toInt64, .long (0 : Int64), .long (1 : Int64)]) (rest := []) ⟨hx, hb, hml, hown, hts⟩ (tX7_in l dC dI cyI cyJ cyZ cyO s.heap.size x0.toInt64 (0 : Int64) (1 : Int64) u_1 hc_2) (cwS 3 hts gX7_mean_X7_in rfl rfl rfl (by decide +kernel) ⟨Nat.le_of_ble_eq_true rfl, Nat.le_of_ble_eq_true rfl⟩) (GpreS hP hD hK hN [] rfl (by decide)) rfl rfl hl.1 rfl (lv_room (Nat.le_of_ble_eq_true rfl)) dX7_mean_4 ⟨Nat.zero_le _, Nat.zero_le _⟩) hP hD hS hA [] [0, 1] rfl rfl (by decide) (by decide) (fun H locs hP hD hS => ?_)
  have hP : va_P (dC, dI) vwCl [(h_th, .inr (7, [.ref h_row, v_th_undos, v_th_isKept, v_th_text, v_th_length, v_th_sizes, v_th_values, v_th_asked, v_th_first, v_th_behind, v_th_readBits, v_th_clauses, v_th_doing, v_th_numbers, v_th_planWord, v_th_addWord, v_th_delWord, v_th_fillWord, .int probes, .int links, .int looks, .int found, v_th_isOver])), (h_row, .inl (cyI, 1824, .inl row))] H := hP
  have hD : va_D A [(h_th, .inr (7, [.ref h_row, v_th_undos, v_th_isKept, v_th_text, v_th_length, v_th_sizes, v_th_values, v_th_asked, v_th_first, v_th_behind, v_th_readBits, v_th_clauses, v_th_doing, v_th_numbers, v_th_planWord, v_th_addWord, v_th_delWord, v_th_fillWord, .int probes, .int links, .int looks, .int found, v_th_isOver])), (h_row, .inl (cyI, 1824, .inl row))] := hD
  refine lv_if_ne (tgt := 13) hx hb dX7_mean_7 (by decide) (fun c_3 => ?_) (fun c_3 => ?_)
  · have h := og_ite_f c_3 h
    refine lv_aload_n hx hb dX7_mean_13 rfl (lv_at hl 0 rfl) ?_
    refine va_get (D := (dC, dI)) (ci := 7) (v := .ref h_row) (C := RX7) (T := TX7) (N := 23) hx hb hts (fun _ hw => List.mem_cons_of_mem _ (List.mem_append_right _ hw)) hown hK hP 0 rfl rfl 0 (by decide) (hts (.fieldLink RX7 7 "PrefixIndexModel" "row" "[I") (List.mem_of_getElem? (i := 1) rfl)) (fun _ h9 => h9) rfl dX7_mean_14 ?_
    refine lv_iconst (v := 2) hx hb dX7_mean_17 (by decide) ?_
    obtain ⟨hi_4, h⟩ := oin_e h
    refine va_iald hx hb hK hP 1 0 rfl rfl hi_4 dX7_mean_18 ?_
    refine lv_if_ne (tgt := 25) hx hb dX7_mean_19 (by decide) (fun c_5 => ?_) (fun c_5 => ?_)
    · have h := og_ite_f c_5 h
      refine lv_iconst (v := 0) hx hb dX7_mean_25 (by decide) ?_
      refine lv_istore_n (lv' := [(2, .int (0 : Int32)), (0, .ref h_th), (1, .int x0)]) hx hb dX7_mean_26 rfl hl (by decide) rfl (fun ls hl => ?_)
      refine lv_iconst (v := 0) hx hb dX7_mean_27 (by decide) ?_
      refine lv_istore_n (lv' := [(3, .int (0 : Int32)), (2, .int (0 : Int32)), (0, .ref h_th), (1, .int x0)]) hx hb dX7_mean_28 rfl hl (by decide) rfl (fun ls hl => ?_)
      obtain ⟨w_17, hw_18, h⟩ := obd_e h
      have J : ∀ (H : Heap) (locs : List Loc) (ls : Array Slot), va_P (dC, dI) vwCl [(h_th, .inr (7, [.ref h_row, v_th_undos, v_th_isKept, v_th_text, v_th_length, v_th_sizes, v_th_values, v_th_asked, v_th_first, v_th_behind, v_th_readBits, v_th_clauses, v_th_doing, v_th_numbers, v_th_planWord, v_th_addWord, v_th_delWord, v_th_fillWord, .int w_17.2.2.1, .int w_17.2.2.2.1, .int w_17.2.2.2.2.1, .int w_17.2.2.2.2.2, v_th_isOver])), (h_row, .inl (cyI, 1824, .inl row))] H → va_D A [(h_th, .inr (7, [.ref h_row, v_th_undos, v_th_isKept, v_th_text, v_th_length, v_th_sizes, v_th_values, v_th_asked, v_th_first, v_th_behind, v_th_readBits, v_th_clauses, v_th_doing, v_th_numbers, v_th_planWord, v_th_addWord, v_th_delWord, v_th_fillWord, .int w_17.2.2.1, .int w_17.2.2.2.1, .int w_17.2.2.2.2.1, .int w_17.2.2.2.2.2, v_th_isOver])), (h_row, .inl (cyI, 1824, .inl row))] → va_S A s.heap H locs → lv_has ls 6 [(0, .ref h_th), (1, .int x0), (2, .int w_17.1)] → W p l e ({ frames := 5, cells := 0, slots := 0, locals := 115 }) s m args below meth c H locs 0 0 Q (F0 m 61 ls []) := by
        intro H locs ls hP hD hS hl
        refine lv_iload_n hx hb dX7_mean_61 rfl (lv_at hl 2 rfl) ?_
        refine lv_istore_n (lv' := [(3, .int w_17.1), (0, .ref h_th), (1, .int x0), (2, .int w_17.1)]) hx hb dX7_mean_62 rfl hl (by decide) rfl (fun ls hl => ?_)
        refine lv_aload_n hx hb dX7_mean_63 rfl (lv_at hl 1 rfl) ?_
        refine va_get (D := (dC, dI)) (ci := 7) (v := .ref h_row) (C := RX7) (T := TX7) (N := 23) hx hb hts (fun _ hw => List.mem_cons_of_mem _ (List.mem_append_right _ hw)) hown hK hP 0 rfl rfl 0 (by decide) (hts (.fieldLink RX7 7 "PrefixIndexModel" "row" "[I") (List.mem_of_getElem? (i := 1) rfl)) (fun _ h9 => h9) rfl dX7_mean_64 ?_
        refine lv_iconst (v := 2) hx hb dX7_mean_67 (by decide) ?_
        obtain ⟨hi_19, h⟩ := oin_e h
        refine va_iald hx hb hK hP 1 0 rfl rfl hi_19 dX7_mean_68 ?_
        refine lv_istore (lv' := [(4, .int (row (2 : Int32).toNatClampNeg)), (3, .int w_17.1), (0, .ref h_th), (1, .int x0), (2, .int w_17.1)]) hx hb dX7_mean_69 hl (by decide) rfl (fun ls hl => ?_)
        obtain ⟨w_25, hw_26, h⟩ := obd_e h
        have J : ∀ (H : Heap) (locs : List Loc) (ls : Array Slot), va_P (dC, dI) vwCl [(h_th, .inr (7, [.ref h_row, v_th_undos, v_th_isKept, v_th_text, v_th_length, v_th_sizes, v_th_values, v_th_asked, v_th_first, v_th_behind, v_th_readBits, v_th_clauses, v_th_doing, v_th_numbers, v_th_planWord, v_th_addWord, v_th_delWord, v_th_fillWord, .int w_17.2.2.1, .int w_17.2.2.2.1, .int w_17.2.2.2.2.1, .int w_17.2.2.2.2.2, v_th_isOver])), (h_row, .inl (cyI, 1824, .inl row))] H → va_D A [(h_th, .inr (7, [.ref h_row, v_th_undos, v_th_isKept, v_th_text, v_th_length, v_th_sizes, v_th_values, v_th_asked, v_th_first, v_th_behind, v_th_readBits, v_th_clauses, v_th_doing, v_th_numbers, v_th_planWord, v_th_addWord, v_th_delWord, v_th_fillWord, .int w_17.2.2.1, .int w_17.2.2.2.1, .int w_17.2.2.2.2.1, .int w_17.2.2.2.2.2, v_th_isOver])), (h_row, .inl (cyI, 1824, .inl row))] → va_S A s.heap H locs → lv_has ls 6 [(0, .ref h_th), (1, .int x0), (2, .int w_17.1), (3, .int w_25.1)] → W p l e ({ frames := 5, cells := 0, slots := 0, locals := 115 }) s m args below meth c H locs 0 0 Q (F0 m 92 ls []) := by
          intro H locs ls hP hD hS hl
          refine lv_iload_n hx hb dX7_mean_92 rfl (lv_at hl 1 rfl) ?_
          obtain ⟨w_28, hm_32, h⟩ := obd_e h
          have J : ∀ (H : Heap) (locs : List Loc) (ls : Array Slot), va_P (dC, dI) vwCl [(h_th, .inr (7, [.ref h_row, v_th_undos, v_th_isKept, v_th_text, v_th_length, v_th_sizes, v_th_values, v_th_asked, v_th_first, v_th_behind, v_th_readBits, v_th_clauses, v_th_doing, v_th_numbers, v_th_planWord, v_th_addWord, v_th_delWord, v_th_fillWord, .int w_17.2.2.1, .int w_17.2.2.2.1, .int w_17.2.2.2.2.1, .int w_17.2.2.2.2.2, v_th_isOver])), (h_row, .inl (cyI, 1824, .inl row))] H → va_D A [(h_th, .inr (7, [.ref h_row, v_th_undos, v_th_isKept, v_th_text, v_th_length, v_th_sizes, v_th_values, v_th_asked, v_th_first, v_th_behind, v_th_readBits, v_th_clauses, v_th_doing, v_th_numbers, v_th_planWord, v_th_addWord, v_th_delWord, v_th_fillWord, .int w_17.2.2.1, .int w_17.2.2.2.1, .int w_17.2.2.2.2.1, .int w_17.2.2.2.2.2, v_th_isOver])), (h_row, .inl (cyI, 1824, .inl row))] → va_S A s.heap H locs → lv_has ls 6 [] → W p l e ({ frames := 5, cells := 0, slots := 0, locals := 115 }) s m args below meth c H locs 0 0 Q (F0 m 110 ls [.int w_28]) := by
            intro H locs ls hP hD hS hl
            obtain rfl := Option.some.inj h
            exact hret _ _ _ _ dX7_mean_110 hP hD hS
          replace h := hm_32
          refine lv_if_ne (tgt := 102) hx hb dX7_mean_93 (by decide) (fun c_27 => ?_) (fun c_27 => ?_)
          · have h := og_ite_f c_27 h
            refine lv_aload_n hx hb dX7_mean_102 rfl (lv_at hl 0 rfl) ?_
            refine va_get (D := (dC, dI)) (ci := 7) (v := .ref h_row) (C := RX7) (T := TX7) (N := 23) hx hb hts (fun _ hw => List.mem_cons_of_mem _ (List.mem_append_right _ hw)) hown hK hP 0 rfl rfl 0 (by decide) (hts (.fieldLink RX7 7 "PrefixIndexModel" "row" "[I") (List.mem_of_getElem? (i := 1) rfl)) (fun _ h9 => h9) rfl dX7_mean_103 ?_
            refine lv_iconst (v := 2) hx hb dX7_mean_106 (by decide) ?_
            obtain ⟨hi_29, h⟩ := oin_e h
            refine va_iald hx hb hK hP 1 0 rfl rfl hi_29 dX7_mean_107 ?_
            refine lv_iload_n hx hb dX7_mean_108 rfl (lv_at hl 3 rfl) ?_
            obtain ⟨hz_30, h⟩ := onz_e h
            refine lv_idiv hx hb dX7_mean_109 hz_30 ?_
            obtain rfl := Option.some.inj h
            exact J _ _ _ hP hD hS (lv_sub hl [] rfl)
          · have h := og_ite_t c_27 h
            refine lv_iload_n hx hb dX7_mean_96 rfl (lv_at hl 2 rfl) ?_
            refine lv_iload_n hx hb dX7_mean_97 rfl (lv_at hl 3 rfl) ?_
            obtain ⟨hz_31, h⟩ := onz_e h
            refine lv_idiv hx hb dX7_mean_98 hz_31 ?_
            refine lv_goto (tgt := 110) hx hb dX7_mean_99 (by decide) ?_
            obtain rfl := Option.some.inj h
            exact J _ _ _ hP hD hS (lv_sub hl [] rfl)
        have LL : ∀ (n : Nat) (m3 : Int32) (m4 : Int32) (H : Heap) (locs : List Loc) (ls : Array Slot), lpX7_mean_71 x0 w_17.1 n m3 m4 = some w_25 → va_P (dC, dI) vwCl [(h_th, .inr (7, [.ref h_row, v_th_undos, v_th_isKept, v_th_text, v_th_length, v_th_sizes, v_th_values, v_th_asked, v_th_first, v_th_behind, v_th_readBits, v_th_clauses, v_th_doing, v_th_numbers, v_th_planWord, v_th_addWord, v_th_delWord, v_th_fillWord, .int w_17.2.2.1, .int w_17.2.2.2.1, .int w_17.2.2.2.2.1, .int w_17.2.2.2.2.2, v_th_isOver])), (h_row, .inl (cyI, 1824, .inl row))] H → va_D A [(h_th, .inr (7, [.ref h_row, v_th_undos, v_th_isKept, v_th_text, v_th_length, v_th_sizes, v_th_values, v_th_asked, v_th_first, v_th_behind, v_th_readBits, v_th_clauses, v_th_doing, v_th_numbers, v_th_planWord, v_th_addWord, v_th_delWord, v_th_fillWord, .int w_17.2.2.1, .int w_17.2.2.2.1, .int w_17.2.2.2.2.1, .int w_17.2.2.2.2.2, v_th_isOver])), (h_row, .inl (cyI, 1824, .inl row))] → va_S A s.heap H locs → lv_has ls 6 [(0, .ref h_th), (1, .int x0), (2, .int w_17.1), (3, .int m3), (4, .int m4)] → W p l e ({ frames := 5, cells := 0, slots := 0, locals := 115 }) s m args below meth c H locs 0 0 Q (F0 m 71 ls []) := by
          intro n
          induction n with
          | zero =>
            intro m3 m4 H locs ls h
            exact absurd h (by rw [lpX7_mean_71]; exact fun q => by cases q)
          | succ n ih =>
            intro m3 m4 H locs ls h hP hD hS hl
            rw [lpX7_mean_71] at h
            refine lv_iload hx hb dX7_mean_71 (lv_at hl 4 rfl) ?_
            refine lv_if_eq (tgt := 92) hx hb dX7_mean_73 (by decide) (fun c_23 => ?_) (fun c_23 => ?_)
            · have h := og_ite_t c_23 h
              obtain rfl := Option.some.inj h
              exact J _ _ _ hP hD hS (lv_sub hl [0, 1, 2, 3] rfl)
            · have h := og_ite_f c_23 h
              refine lv_iload_n hx hb dX7_mean_76 rfl (lv_at hl 3 rfl) ?_
              refine lv_iload hx hb dX7_mean_77 (lv_at hl 4 rfl) ?_
              obtain ⟨hz_24, h⟩ := onz_e h
              refine lv_irem hx hb dX7_mean_79 hz_24 ?_
              refine lv_istore (lv' := [(5, .int (m3 - m3 / m4 * m4)), (0, .ref h_th), (1, .int x0), (2, .int w_17.1), (3, .int m3), (4, .int m4)]) hx hb dX7_mean_80 hl (by decide) rfl (fun ls hl => ?_)
              refine lv_iload hx hb dX7_mean_82 (lv_at hl 5 rfl) ?_
              refine lv_istore_n (lv' := [(3, .int m4), (5, .int (m3 - m3 / m4 * m4)), (0, .ref h_th), (1, .int x0), (2, .int w_17.1), (4, .int m4)]) hx hb dX7_mean_84 rfl hl (by decide) rfl (fun ls hl => ?_)
              refine lv_iload hx hb dX7_mean_85 (lv_at hl 1 rfl) ?_
              refine lv_istore (lv' := [(4, .int (m3 - m3 / m4 * m4)), (3, .int m4), (5, .int (m3 - m3 / m4 * m4)), (0, .ref h_th), (1, .int x0), (2, .int w_17.1)]) hx hb dX7_mean_87 hl (by decide) rfl (fun ls hl => ?_)
              refine lv_goto (tgt := 71) hx hb dX7_mean_89 (by decide) ?_
              exact ih m4 (m3 - m3 / m4 * m4) _ _ _ h hP hD hS (lv_sub hl [3, 4, 5, 1, 0] rfl)
        exact LL _ w_17.1 (row (2 : Int32).toNatClampNeg) _ _ _ hw_26 hP hD hS (lv_sub hl [2, 3, 4, 1, 0] rfl)
      have LL : ∀ (n : Nat) (m2 : Int32) (m3 : Int32) (zprobes : Int32) (zlinks : Int32) (zlooks : Int32) (zfound : Int32) (H : Heap) (locs : List Loc) (ls : Array Slot), lpX7_mean_29 x0 row n m2 m3 zprobes zlinks zlooks zfound = some w_17 → va_P (dC, dI) vwCl [(h_th, .inr (7, [.ref h_row, v_th_undos, v_th_isKept, v_th_text, v_th_length, v_th_sizes, v_th_values, v_th_asked, v_th_first, v_th_behind, v_th_readBits, v_th_clauses, v_th_doing, v_th_numbers, v_th_planWord, v_th_addWord, v_th_delWord, v_th_fillWord, .int zprobes, .int zlinks, .int zlooks, .int zfound, v_th_isOver])), (h_row, .inl (cyI, 1824, .inl row))] H → va_D A [(h_th, .inr (7, [.ref h_row, v_th_undos, v_th_isKept, v_th_text, v_th_length, v_th_sizes, v_th_values, v_th_asked, v_th_first, v_th_behind, v_th_readBits, v_th_clauses, v_th_doing, v_th_numbers, v_th_planWord, v_th_addWord, v_th_delWord, v_th_fillWord, .int zprobes, .int zlinks, .int zlooks, .int zfound, v_th_isOver])), (h_row, .inl (cyI, 1824, .inl row))] → va_S A s.heap H locs → lv_has ls 6 [(0, .ref h_th), (1, .int x0), (2, .int m2), (3, .int m3)] → W p l e ({ frames := 5, cells := 0, slots := 0, locals := 115 }) s m args below meth c H locs 0 0 Q (F0 m 29 ls []) := by
        intro n
        induction n with
        | zero =>
          intro m2 m3 zprobes zlinks zlooks zfound H locs ls h
          exact absurd h (by rw [lpX7_mean_29]; exact fun q => by cases q)
        | succ n ih =>
          intro m2 m3 zprobes zlinks zlooks zfound H locs ls h hP hD hS hl
          rw [lpX7_mean_29] at h
          refine lv_iload_n hx hb dX7_mean_29 rfl (lv_at hl 3 rfl) ?_
          refine lv_aload_n hx hb dX7_mean_30 rfl (lv_at hl 0 rfl) ?_
          refine va_get (D := (dC, dI)) (ci := 7) (v := .ref h_row) (C := RX7) (T := TX7) (N := 23) hx hb hts (fun _ hw => List.mem_cons_of_mem _ (List.mem_append_right _ hw)) hown hK hP 0 rfl rfl 0 (by decide) (hts (.fieldLink RX7 7 "PrefixIndexModel" "row" "[I") (List.mem_of_getElem? (i := 1) rfl)) (fun _ h9 => h9) rfl dX7_mean_31 ?_
          refine lv_iconst (v := 2) hx hb dX7_mean_34 (by decide) ?_
          obtain ⟨hi_12, h⟩ := oin_e h
          refine va_iald hx hb hK hP 1 0 rfl rfl hi_12 dX7_mean_35 ?_
          refine lv_icmp_ge (tgt := 61) hx hb dX7_mean_36 (by decide) (fun c_13 => ?_) (fun c_13 => ?_)
          · have h := og_ite_t c_13 h
            obtain rfl := Option.some.inj h
            exact J _ _ _ hP hD hS (lv_sub hl [0, 1, 2] rfl)
          · have h := og_ite_f c_13 h
            refine lv_iload_n hx hb dX7_mean_39 rfl (lv_at hl 2 rfl) ?_
            refine lv_aload_n hx hb dX7_mean_40 rfl (lv_at hl 0 rfl) ?_
            refine lv_aload_n hx hb dX7_mean_41 rfl (lv_at hl 0 rfl) ?_
            refine va_get (D := (dC, dI)) (ci := 7) (v := .ref h_row) (C := RX7) (T := TX7) (N := 23) hx hb hts (fun _ hw => List.mem_cons_of_mem _ (List.mem_append_right _ hw)) hown hK hP 0 rfl rfl 0 (by decide) (hts (.fieldLink RX7 7 "PrefixIndexModel" "row" "[I") (List.mem_of_getElem? (i := 1) rfl)) (fun _ h9 => h9) rfl dX7_mean_42 ?_
            refine lv_bipush (v := 6) hx hb dX7_mean_45 (by decide) ?_
            refine lv_iload_n hx hb dX7_mean_47 rfl (lv_at hl 3 rfl) ?_
            refine lv_iadd hx hb dX7_mean_48 ?_
            obtain ⟨hi_14, h⟩ := oin_e h
            refine va_iald hx hb hK hP 1 0 rfl rfl hi_14 dX7_mean_49 ?_
            obtain ⟨u_15, hc_16, h⟩ := obd_e h
            refine Gci (wr := []) (va_runV (As := [.int (row ((6 : Int32) + m3).toNatClampNeg)]) (rest := [.int m2]) ⟨hx, hb, hml, hown, hts⟩ (tX7_costOf l dC dI cyI cyJ cyZ cyO H.size h_th h_row v_th_undos v_th_isKept v_th_text v_th_length v_th_sizes v_th_values v_th_asked v_th_first v_th_behind v_th_readBits v_th_clauses v_th_doing v_th_numbers v_th_planWord v_th_addWord v_th_delWord v_th_fillWord v_th_isOver zprobes zlinks zlooks zfound row (row ((6 : Int32) + m3).toNatClampNeg) u_15 hc_16) (cwV 1 hts gX7_mean_X7_costOf rfl rfl rfl (by decide +kernel) ⟨Nat.le_of_ble_eq_true rfl, Nat.le_of_ble_eq_true rfl⟩) (GpreV hP hD hK hN [0, 1] rfl (by decide) 7 0 rfl rfl rfl) rfl rfl hl.1 rfl (lv_room (Nat.le_of_ble_eq_true rfl)) dX7_mean_50 ⟨Nat.zero_le _, Nat.zero_le _⟩) hP hD hS hA [0, 1] [] rfl rfl (by decide) (by decide) (fun H locs hP hD hS => ?_)
            have hP : va_P (dC, dI) vwCl [(h_th, .inr (7, [.ref h_row, v_th_undos, v_th_isKept, v_th_text, v_th_length, v_th_sizes, v_th_values, v_th_asked, v_th_first, v_th_behind, v_th_readBits, v_th_clauses, v_th_doing, v_th_numbers, v_th_planWord, v_th_addWord, v_th_delWord, v_th_fillWord, .int u_15.2.1, .int u_15.2.2.1, .int u_15.2.2.2.1, .int u_15.2.2.2.2, v_th_isOver])), (h_row, .inl (cyI, 1824, .inl row))] H := hP
            have hD : va_D A [(h_th, .inr (7, [.ref h_row, v_th_undos, v_th_isKept, v_th_text, v_th_length, v_th_sizes, v_th_values, v_th_asked, v_th_first, v_th_behind, v_th_readBits, v_th_clauses, v_th_doing, v_th_numbers, v_th_planWord, v_th_addWord, v_th_delWord, v_th_fillWord, .int u_15.2.1, .int u_15.2.2.1, .int u_15.2.2.2.1, .int u_15.2.2.2.2, v_th_isOver])), (h_row, .inl (cyI, 1824, .inl row))] := hD
            refine lv_iadd hx hb dX7_mean_53 ?_
            refine lv_istore_n (lv' := [(2, .int (m2 + u_15.1)), (0, .ref h_th), (1, .int x0), (3, .int m3)]) hx hb dX7_mean_54 rfl hl (by decide) rfl (fun ls hl => ?_)
            refine lv_iinc (v := m3 + (1 : Int32)) (lv' := [(3, .int (m3 + (1 : Int32))), (2, .int (m2 + u_15.1)), (0, .ref h_th), (1, .int x0)]) hx hb dX7_mean_55 hl (k := 3) rfl rfl (by decide) rfl (fun ls hl => ?_)
            refine lv_goto (tgt := 29) hx hb dX7_mean_58 (by decide) ?_
            exact ih (m2 + u_15.1) (m3 + (1 : Int32)) u_15.2.1 u_15.2.2.1 u_15.2.2.2.1 u_15.2.2.2.2 _ _ _ h hP hD hS (lv_sub hl [2, 3, 1, 0] rfl)
      exact LL _ (0 : Int32) (0 : Int32) probes links looks found _ _ _ hw_18 hP hD hS (lv_sub hl [2, 3, 1, 0] rfl)
    · have h := og_ite_t c_5 h
      refine lv_bipush (v := (-4)) hx hb dX7_mean_22 (by decide) ?_
      obtain rfl := Option.some.inj h
      exact hret _ _ _ _ dX7_mean_24 hP hD hS
  · have h := og_ite_t c_3 h
    refine lv_bipush (v := (-3)) hx hb dX7_mean_10 (by decide) ?_
    obtain rfl := Option.some.inj h
    exact hret _ _ _ _ dX7_mean_12 hP hD hS

def lpX7_greatestOf_50 (q1 : Int32) (q2 : Int32) (q3 : Int32) (q4 : Int32) (row : (Nat → Int32)) : Nat → Int32 → Option ((Int32) ⊕ (Int32))
  | 0, _ => none
  | n + 1, m5 => if m5 < 0 then (some (.inl m5)) else (obd (fX7_isBeginning row (q1 + (1 : Int32)) (((2 : Int32) * q4) + m5)) fun u_11 => if u_11 = 0 then (some (.inr ((((((2 : Int32) * q4) + m5) + (1 : Int32)) <<< ((q2 - (1 : Int32)) &&& 31)) - (1 : Int32)))) else (lpX7_greatestOf_50 q1 q2 q3 q4 row n (m5 + (-1 : Int32))))

def lpX7_greatestOf_27 (q1 : Int32) (q2 : Int32) (row : (Nat → Int32)) : Nat → Int32 → Option ((Int32) ⊕ (Int32))
  | 0, _ => none
  | n + 1, m3 => if m3 < 0 then (some (.inl m3)) else (oin ((102 : Int32) + m3) 1824 (obd (fX7_beginning row (row ((102 : Int32) + m3).toNatClampNeg) q1) fun u_7 => obx (lpX7_greatestOf_50 q1 q2 m3 u_7 row 100000 (1 : Int32)) fun u_w_18 => lpX7_greatestOf_27 q1 q2 row n (m3 + (-1 : Int32))))

def fX7_greatestOf (row : (Nat → Int32)) (x0 : Int32) : Option (Int32) := oin (0 : Int32) 1824 (if ((row (0 : Int32).toNatClampNeg) - x0) = 0 then (obd (fX7_top row) fun u_37 => some u_37) else (oin (3 : Int32) 1824 (obe (lpX7_greatestOf_27 x0 ((row (0 : Int32).toNatClampNeg) - x0) row 100000 ((row (3 : Int32).toNatClampNeg) - (1 : Int32))) fun u_w_35 => some (-1 : Int32))))

set_option maxHeartbeats 4000000 in
set_option maxRecDepth 100000 in
theorem tX7_greatestOf (l : Launch) (dC : Nat → ClassId) (dI : Nat → Nat → Nat) (cyI cyJ cyZ cyO : ClassId) (sz : Nat) (h_th h_row : Nat) (v_th_undos : Value) (v_th_isKept : Value) (v_th_text : Value) (v_th_length : Value) (v_th_sizes : Value) (v_th_values : Value) (v_th_asked : Value) (v_th_first : Value) (v_th_behind : Value) (v_th_readBits : Value) (v_th_clauses : Value) (v_th_doing : Value) (v_th_numbers : Value) (v_th_planWord : Value) (v_th_addWord : Value) (v_th_delWord : Value) (v_th_fillWord : Value) (v_th_probes : Value) (v_th_links : Value) (v_th_looks : Value) (v_th_found : Value) (v_th_isOver : Value) (row : (Nat → Int32)) (x0 : Int32) (u : Int32) (hf : fX7_greatestOf row x0 = some u) : Met l yX7_greatestOf wsX7_greatestOf ({ frames := 2, cells := 0, slots := 0, locals := 46 }) (va_Pc [.ref h_th, .int x0] (GP (dC, dI) (T4 cyI cyJ cyZ cyO) sz [(h_th, .inr (7, [.ref h_row, v_th_undos, v_th_isKept, v_th_text, v_th_length, v_th_sizes, v_th_values, v_th_asked, v_th_first, v_th_behind, v_th_readBits, v_th_clauses, v_th_doing, v_th_numbers, v_th_planWord, v_th_addWord, v_th_delWord, v_th_fillWord, v_th_probes, v_th_links, v_th_looks, v_th_found, v_th_isOver])), (h_row, .inl (cyI, 1824, .inl row))])) (va_Qi (fun (r : Int32) (_ : Unit) => r = u) (GB (dC, dI) [(h_th, .inr (7, [.ref h_row, v_th_undos, v_th_isKept, v_th_text, v_th_length, v_th_sizes, v_th_values, v_th_asked, v_th_first, v_th_behind, v_th_readBits, v_th_clauses, v_th_doing, v_th_numbers, v_th_planWord, v_th_addWord, v_th_delWord, v_th_fillWord, v_th_probes, v_th_links, v_th_looks, v_th_found, v_th_isOver])), (h_row, .inl (cyI, 1824, .inl row))] (va_A [(h_th, .inr (7, [.ref h_row, v_th_undos, v_th_isKept, v_th_text, v_th_length, v_th_sizes, v_th_values, v_th_asked, v_th_first, v_th_behind, v_th_readBits, v_th_clauses, v_th_doing, v_th_numbers, v_th_planWord, v_th_addWord, v_th_delWord, v_th_fillWord, v_th_probes, v_th_links, v_th_looks, v_th_found, v_th_isOver])), (h_row, .inl (cyI, 1824, .inl row))] sz)) (va_A [(h_th, .inr (7, [.ref h_row, v_th_undos, v_th_isKept, v_th_text, v_th_length, v_th_sizes, v_th_values, v_th_asked, v_th_first, v_th_behind, v_th_readBits, v_th_clauses, v_th_doing, v_th_numbers, v_th_planWord, v_th_addWord, v_th_delWord, v_th_fillWord, v_th_probes, v_th_links, v_th_looks, v_th_found, v_th_isOver])), (h_row, .inl (cyI, 1824, .inl row))] sz)) 0 0 (va_A [(h_th, .inr (7, [.ref h_row, v_th_undos, v_th_isKept, v_th_text, v_th_length, v_th_sizes, v_th_values, v_th_asked, v_th_first, v_th_behind, v_th_readBits, v_th_clauses, v_th_doing, v_th_numbers, v_th_planWord, v_th_addWord, v_th_delWord, v_th_fillWord, v_th_probes, v_th_links, v_th_looks, v_th_found, v_th_isOver])), (h_row, .inl (cyI, 1824, .inl row))] sz) := by
  refine GMetI (by decide) rfl (Nat.le_of_ble_eq_true rfl) ?_
  intro p e s m args below meth c A Q ls hx hb hml hts hown hN hK hA hret hP hD hS hl
  have h := hf
  clear hf
  unfold fX7_greatestOf at h
  have hown : s.vm.findClass RX7 = some m.cls := hown
  have hl : lv_has ls 6 [(0, .ref h_th), (1, .int x0)] := hl
  refine lv_aload_n hx hb dX7_greatestOf_0 rfl (lv_at hl 0 rfl) ?_
  refine va_get (D := (dC, dI)) (ci := 7) (v := .ref h_row) (C := RX7) (T := TX7) (N := 23) hx hb hts (fun _ hw => List.mem_cons_of_mem _ (List.mem_append_right _ hw)) hown hK hP 0 rfl rfl 0 (by decide) (hts (.fieldLink RX7 7 "PrefixIndexModel" "row" "[I") (List.mem_of_getElem? (i := 1) rfl)) (fun _ h9 => h9) rfl dX7_greatestOf_1 ?_
  refine lv_iconst (v := 0) hx hb dX7_greatestOf_4 (by decide) ?_
  obtain ⟨hi_1, h⟩ := oin_e h
  refine va_iald hx hb hK hP 1 0 rfl rfl hi_1 dX7_greatestOf_5 ?_
  refine lv_iload_n hx hb dX7_greatestOf_6 rfl (lv_at hl 1 rfl) ?_
  refine lv_isub hx hb dX7_greatestOf_7 ?_
  refine lv_istore_n (lv' := [(2, .int ((row (0 : Int32).toNatClampNeg) - x0)), (0, .ref h_th), (1, .int x0)]) hx hb dX7_greatestOf_8 rfl hl (by decide) rfl (fun ls hl => ?_)
  refine lv_iload_n hx hb dX7_greatestOf_9 rfl (lv_at hl 0 rfl) ?_
  refine lv_if_ne (tgt := 18) hx hb dX7_greatestOf_10 (by decide) (fun c_2 => ?_) (fun c_2 => ?_)
  · have h := og_ite_f c_2 h
    refine lv_aload_n hx hb dX7_greatestOf_18 rfl (lv_at hl 1 rfl) ?_
    refine va_get (D := (dC, dI)) (ci := 7) (v := .ref h_row) (C := RX7) (T := TX7) (N := 23) hx hb hts (fun _ hw => List.mem_cons_of_mem _ (List.mem_append_right _ hw)) hown hK hP 0 rfl rfl 0 (by decide) (hts (.fieldLink RX7 7 "PrefixIndexModel" "row" "[I") (List.mem_of_getElem? (i := 1) rfl)) (fun _ h9 => h9) rfl dX7_greatestOf_19 ?_
    refine lv_iconst (v := 3) hx hb dX7_greatestOf_22 (by decide) ?_
    obtain ⟨hi_3, h⟩ := oin_e h
    refine va_iald hx hb hK hP 1 0 rfl rfl hi_3 dX7_greatestOf_23 ?_
    refine lv_iconst (v := 1) hx hb dX7_greatestOf_24 (by decide) ?_
    refine lv_isub hx hb dX7_greatestOf_25 ?_
    refine lv_istore_n (lv' := [(3, .int ((row (3 : Int32).toNatClampNeg) - (1 : Int32))), (2, .int ((row (0 : Int32).toNatClampNeg) - x0)), (0, .ref h_th), (1, .int x0)]) hx hb dX7_greatestOf_26 rfl hl (by decide) rfl (fun ls hl => ?_)
    obtain ⟨w_35, hw_36, hk_w_35, hr_4⟩ := obe_e h
    have J : ∀ u_w_35, w_35 = .inl u_w_35 → ∀ (H : Heap) (locs : List Loc) (ls : Array Slot), va_P (dC, dI) vwCl [(h_th, .inr (7, [.ref h_row, v_th_undos, v_th_isKept, v_th_text, v_th_length, v_th_sizes, v_th_values, v_th_asked, v_th_first, v_th_behind, v_th_readBits, v_th_clauses, v_th_doing, v_th_numbers, v_th_planWord, v_th_addWord, v_th_delWord, v_th_fillWord, v_th_probes, v_th_links, v_th_looks, v_th_found, v_th_isOver])), (h_row, .inl (cyI, 1824, .inl row))] H → va_D A [(h_th, .inr (7, [.ref h_row, v_th_undos, v_th_isKept, v_th_text, v_th_length, v_th_sizes, v_th_values, v_th_asked, v_th_first, v_th_behind, v_th_readBits, v_th_clauses, v_th_doing, v_th_numbers, v_th_planWord, v_th_addWord, v_th_delWord, v_th_fillWord, v_th_probes, v_th_links, v_th_looks, v_th_found, v_th_isOver])), (h_row, .inl (cyI, 1824, .inl row))] → va_S A s.heap H locs → lv_has ls 6 [] → W p l e ({ frames := 2, cells := 0, slots := 0, locals := 46 }) s m args below meth c H locs 0 0 Q (F0 m 100 ls []) := by
      intro u_w_35 ew H locs ls hP hD hS hl
      have h := hk_w_35 _ ew
      refine lv_iconst (v := (-1)) hx hb dX7_greatestOf_100 (by decide) ?_
      obtain rfl := Option.some.inj h
      exact hret _ _ _ _ dX7_greatestOf_101 hP hD hS
    have LL : ∀ (n : Nat) (m3 : Int32) (H : Heap) (locs : List Loc) (ls : Array Slot), lpX7_greatestOf_27 x0 ((row (0 : Int32).toNatClampNeg) - x0) row n m3 = some w_35 → va_P (dC, dI) vwCl [(h_th, .inr (7, [.ref h_row, v_th_undos, v_th_isKept, v_th_text, v_th_length, v_th_sizes, v_th_values, v_th_asked, v_th_first, v_th_behind, v_th_readBits, v_th_clauses, v_th_doing, v_th_numbers, v_th_planWord, v_th_addWord, v_th_delWord, v_th_fillWord, v_th_probes, v_th_links, v_th_looks, v_th_found, v_th_isOver])), (h_row, .inl (cyI, 1824, .inl row))] H → va_D A [(h_th, .inr (7, [.ref h_row, v_th_undos, v_th_isKept, v_th_text, v_th_length, v_th_sizes, v_th_values, v_th_asked, v_th_first, v_th_behind, v_th_readBits, v_th_clauses, v_th_doing, v_th_numbers, v_th_planWord, v_th_addWord, v_th_delWord, v_th_fillWord, v_th_probes, v_th_links, v_th_looks, v_th_found, v_th_isOver])), (h_row, .inl (cyI, 1824, .inl row))] → va_S A s.heap H locs → lv_has ls 6 [(0, .ref h_th), (1, .int x0), (2, .int ((row (0 : Int32).toNatClampNeg) - x0)), (3, .int m3)] → W p l e ({ frames := 2, cells := 0, slots := 0, locals := 46 }) s m args below meth c H locs 0 0 Q (F0 m 27 ls []) := by
      intro n
      induction n with
      | zero =>
        intro m3 H locs ls h
        exact absurd h (by rw [lpX7_greatestOf_27]; exact fun q => by cases q)
      | succ n ih =>
        intro m3 H locs ls h hP hD hS hl
        rw [lpX7_greatestOf_27] at h
        refine lv_iload_n hx hb dX7_greatestOf_27 rfl (lv_at hl 3 rfl) ?_
        refine lv_if_lt (tgt := 100) hx hb dX7_greatestOf_28 (by decide) (fun c_20 => ?_) (fun c_20 => ?_)
        · have h := og_ite_t c_20 h
          obtain rfl := Option.some.inj h
          exact J _ rfl _ _ _ hP hD hS (lv_sub hl [] rfl)
        · have h := og_ite_f c_20 h
          refine lv_aload_n hx hb dX7_greatestOf_31 rfl (lv_at hl 0 rfl) ?_
          refine lv_aload_n hx hb dX7_greatestOf_32 rfl (lv_at hl 0 rfl) ?_
          refine va_get (D := (dC, dI)) (ci := 7) (v := .ref h_row) (C := RX7) (T := TX7) (N := 23) hx hb hts (fun _ hw => List.mem_cons_of_mem _ (List.mem_append_right _ hw)) hown hK hP 0 rfl rfl 0 (by decide) (hts (.fieldLink RX7 7 "PrefixIndexModel" "row" "[I") (List.mem_of_getElem? (i := 1) rfl)) (fun _ h9 => h9) rfl dX7_greatestOf_33 ?_
          refine lv_bipush (v := 102) hx hb dX7_greatestOf_36 (by decide) ?_
          refine lv_iload_n hx hb dX7_greatestOf_38 rfl (lv_at hl 3 rfl) ?_
          refine lv_iadd hx hb dX7_greatestOf_39 ?_
          obtain ⟨hi_21, h⟩ := oin_e h
          refine va_iald hx hb hK hP 1 0 rfl rfl hi_21 dX7_greatestOf_40 ?_
          refine lv_iload_n hx hb dX7_greatestOf_41 rfl (lv_at hl 1 rfl) ?_
          obtain ⟨u_22, hc_23, h⟩ := obd_e h
          refine Gci (wr := []) (va_runV (As := [.int (row ((102 : Int32) + m3).toNatClampNeg), .int x0]) (rest := []) ⟨hx, hb, hml, hown, hts⟩ (tX7_beginning l dC dI cyI cyJ cyZ cyO H.size h_th h_row v_th_undos v_th_isKept v_th_text v_th_length v_th_sizes v_th_values v_th_asked v_th_first v_th_behind v_th_readBits v_th_clauses v_th_doing v_th_numbers v_th_planWord v_th_addWord v_th_delWord v_th_fillWord v_th_probes v_th_links v_th_looks v_th_found v_th_isOver row (row ((102 : Int32) + m3).toNatClampNeg) x0 u_22 hc_23) (cwV 2 hts gX7_greatestOf_X7_beginning rfl rfl rfl (by decide +kernel) ⟨Nat.le_of_ble_eq_true rfl, Nat.le_of_ble_eq_true rfl⟩) (GpreV hP hD hK hN [0, 1] rfl (by decide) 7 0 rfl rfl rfl) rfl rfl hl.1 rfl (lv_room (Nat.le_of_ble_eq_true rfl)) dX7_greatestOf_42 ⟨Nat.zero_le _, Nat.zero_le _⟩) hP hD hS hA [0, 1] [] rfl rfl (by decide) (by decide) (fun H locs hP hD hS => ?_)
          have hP : va_P (dC, dI) vwCl [(h_th, .inr (7, [.ref h_row, v_th_undos, v_th_isKept, v_th_text, v_th_length, v_th_sizes, v_th_values, v_th_asked, v_th_first, v_th_behind, v_th_readBits, v_th_clauses, v_th_doing, v_th_numbers, v_th_planWord, v_th_addWord, v_th_delWord, v_th_fillWord, v_th_probes, v_th_links, v_th_looks, v_th_found, v_th_isOver])), (h_row, .inl (cyI, 1824, .inl row))] H := hP
          have hD : va_D A [(h_th, .inr (7, [.ref h_row, v_th_undos, v_th_isKept, v_th_text, v_th_length, v_th_sizes, v_th_values, v_th_asked, v_th_first, v_th_behind, v_th_readBits, v_th_clauses, v_th_doing, v_th_numbers, v_th_planWord, v_th_addWord, v_th_delWord, v_th_fillWord, v_th_probes, v_th_links, v_th_looks, v_th_found, v_th_isOver])), (h_row, .inl (cyI, 1824, .inl row))] := hD
          refine lv_istore (lv' := [(4, .int u_22), (0, .ref h_th), (1, .int x0), (2, .int ((row (0 : Int32).toNatClampNeg) - x0)), (3, .int m3)]) hx hb dX7_greatestOf_45 hl (by decide) rfl (fun ls hl => ?_)
          refine lv_iconst (v := 1) hx hb dX7_greatestOf_47 (by decide) ?_
          refine lv_istore (lv' := [(5, .int (1 : Int32)), (4, .int u_22), (0, .ref h_th), (1, .int x0), (2, .int ((row (0 : Int32).toNatClampNeg) - x0)), (3, .int m3)]) hx hb dX7_greatestOf_48 hl (by decide) rfl (fun ls hl => ?_)
          obtain ⟨w_33, hw_34, hk_w_33, hq_w_33⟩ := obx_e h
          have hr_24 := fun b e => hr_4 b (hq_w_33 b e)
          have J : ∀ u_w_33, w_33 = .inl u_w_33 → ∀ (H : Heap) (locs : List Loc) (ls : Array Slot), va_P (dC, dI) vwCl [(h_th, .inr (7, [.ref h_row, v_th_undos, v_th_isKept, v_th_text, v_th_length, v_th_sizes, v_th_values, v_th_asked, v_th_first, v_th_behind, v_th_readBits, v_th_clauses, v_th_doing, v_th_numbers, v_th_planWord, v_th_addWord, v_th_delWord, v_th_fillWord, v_th_probes, v_th_links, v_th_looks, v_th_found, v_th_isOver])), (h_row, .inl (cyI, 1824, .inl row))] H → va_D A [(h_th, .inr (7, [.ref h_row, v_th_undos, v_th_isKept, v_th_text, v_th_length, v_th_sizes, v_th_values, v_th_asked, v_th_first, v_th_behind, v_th_readBits, v_th_clauses, v_th_doing, v_th_numbers, v_th_planWord, v_th_addWord, v_th_delWord, v_th_fillWord, v_th_probes, v_th_links, v_th_looks, v_th_found, v_th_isOver])), (h_row, .inl (cyI, 1824, .inl row))] → va_S A s.heap H locs → lv_has ls 6 [(0, .ref h_th), (1, .int x0), (2, .int ((row (0 : Int32).toNatClampNeg) - x0)), (3, .int m3)] → W p l e ({ frames := 2, cells := 0, slots := 0, locals := 46 }) s m args below meth c H locs 0 0 Q (F0 m 94 ls []) := by
            intro u_w_33 ew H locs ls hP hD hS hl
            have h := hk_w_33 _ ew
            refine lv_iinc (v := m3 + (-1 : Int32)) (lv' := [(3, .int (m3 + (-1 : Int32))), (0, .ref h_th), (1, .int x0), (2, .int ((row (0 : Int32).toNatClampNeg) - x0))]) hx hb dX7_greatestOf_94 hl (k := 3) rfl rfl (by decide) rfl (fun ls hl => ?_)
            refine lv_goto (tgt := 27) hx hb dX7_greatestOf_97 (by decide) ?_
            exact ih (m3 + (-1 : Int32)) _ _ _ h hP hD hS (lv_sub hl [1, 2, 3, 0] rfl)
          have LL : ∀ (n : Nat) (m5 : Int32) (H : Heap) (locs : List Loc) (ls : Array Slot), lpX7_greatestOf_50 x0 ((row (0 : Int32).toNatClampNeg) - x0) m3 u_22 row n m5 = some w_33 → va_P (dC, dI) vwCl [(h_th, .inr (7, [.ref h_row, v_th_undos, v_th_isKept, v_th_text, v_th_length, v_th_sizes, v_th_values, v_th_asked, v_th_first, v_th_behind, v_th_readBits, v_th_clauses, v_th_doing, v_th_numbers, v_th_planWord, v_th_addWord, v_th_delWord, v_th_fillWord, v_th_probes, v_th_links, v_th_looks, v_th_found, v_th_isOver])), (h_row, .inl (cyI, 1824, .inl row))] H → va_D A [(h_th, .inr (7, [.ref h_row, v_th_undos, v_th_isKept, v_th_text, v_th_length, v_th_sizes, v_th_values, v_th_asked, v_th_first, v_th_behind, v_th_readBits, v_th_clauses, v_th_doing, v_th_numbers, v_th_planWord, v_th_addWord, v_th_delWord, v_th_fillWord, v_th_probes, v_th_links, v_th_looks, v_th_found, v_th_isOver])), (h_row, .inl (cyI, 1824, .inl row))] → va_S A s.heap H locs → lv_has ls 6 [(0, .ref h_th), (1, .int x0), (2, .int ((row (0 : Int32).toNatClampNeg) - x0)), (3, .int m3), (4, .int u_22), (5, .int m5)] → W p l e ({ frames := 2, cells := 0, slots := 0, locals := 46 }) s m args below meth c H locs 0 0 Q (F0 m 50 ls []) := by
            intro n
            induction n with
            | zero =>
              intro m5 H locs ls h
              exact absurd h (by rw [lpX7_greatestOf_50]; exact fun q => by cases q)
            | succ n ih =>
              intro m5 H locs ls h hP hD hS hl
              rw [lpX7_greatestOf_50] at h
              refine lv_iload hx hb dX7_greatestOf_50 (lv_at hl 5 rfl) ?_
              refine lv_if_lt (tgt := 94) hx hb dX7_greatestOf_52 (by decide) (fun c_29 => ?_) (fun c_29 => ?_)
              · have h := og_ite_t c_29 h
                obtain rfl := Option.some.inj h
                exact J _ rfl _ _ _ hP hD hS (lv_sub hl [0, 1, 2, 3] rfl)
              · have h := og_ite_f c_29 h
                refine lv_aload_n hx hb dX7_greatestOf_55 rfl (lv_at hl 0 rfl) ?_
                refine lv_iload_n hx hb dX7_greatestOf_56 rfl (lv_at hl 1 rfl) ?_
                refine lv_iconst (v := 1) hx hb dX7_greatestOf_57 (by decide) ?_
                refine lv_iadd hx hb dX7_greatestOf_58 ?_
                refine lv_iconst (v := 2) hx hb dX7_greatestOf_59 (by decide) ?_
                refine lv_iload hx hb dX7_greatestOf_60 (lv_at hl 4 rfl) ?_
                refine lv_imul hx hb dX7_greatestOf_62 ?_
                refine lv_iload hx hb dX7_greatestOf_63 (lv_at hl 5 rfl) ?_
                refine lv_iadd hx hb dX7_greatestOf_65 ?_
                obtain ⟨u_30, hc_31, h⟩ := obd_e h
                refine Gci (wr := []) (va_runV (As := [.int (x0 + (1 : Int32)), .int (((2 : Int32) * u_22) + m5)]) (rest := []) ⟨hx, hb, hml, hown, hts⟩ (tX7_isBeginning l dC dI cyI cyJ cyZ cyO H.size h_th h_row v_th_undos v_th_isKept v_th_text v_th_length v_th_sizes v_th_values v_th_asked v_th_first v_th_behind v_th_readBits v_th_clauses v_th_doing v_th_numbers v_th_planWord v_th_addWord v_th_delWord v_th_fillWord v_th_probes v_th_links v_th_looks v_th_found v_th_isOver row (x0 + (1 : Int32)) (((2 : Int32) * u_22) + m5) u_30 hc_31) (cwV 2 hts gX7_greatestOf_X7_isBeginning rfl rfl rfl (by decide +kernel) ⟨Nat.le_of_ble_eq_true rfl, Nat.le_of_ble_eq_true rfl⟩) (GpreV hP hD hK hN [0, 1] rfl (by decide) 7 0 rfl rfl rfl) rfl rfl hl.1 rfl (lv_room (Nat.le_of_ble_eq_true rfl)) dX7_greatestOf_66 ⟨Nat.zero_le _, Nat.zero_le _⟩) hP hD hS hA [0, 1] [] rfl rfl (by decide) (by decide) (fun H locs hP hD hS => ?_)
                have hP : va_P (dC, dI) vwCl [(h_th, .inr (7, [.ref h_row, v_th_undos, v_th_isKept, v_th_text, v_th_length, v_th_sizes, v_th_values, v_th_asked, v_th_first, v_th_behind, v_th_readBits, v_th_clauses, v_th_doing, v_th_numbers, v_th_planWord, v_th_addWord, v_th_delWord, v_th_fillWord, v_th_probes, v_th_links, v_th_looks, v_th_found, v_th_isOver])), (h_row, .inl (cyI, 1824, .inl row))] H := hP
                have hD : va_D A [(h_th, .inr (7, [.ref h_row, v_th_undos, v_th_isKept, v_th_text, v_th_length, v_th_sizes, v_th_values, v_th_asked, v_th_first, v_th_behind, v_th_readBits, v_th_clauses, v_th_doing, v_th_numbers, v_th_planWord, v_th_addWord, v_th_delWord, v_th_fillWord, v_th_probes, v_th_links, v_th_looks, v_th_found, v_th_isOver])), (h_row, .inl (cyI, 1824, .inl row))] := hD
                refine lv_if_ne (tgt := 88) hx hb dX7_greatestOf_69 (by decide) (fun c_32 => ?_) (fun c_32 => ?_)
                · have h := og_ite_f c_32 h
                  refine lv_iinc (v := m5 + (-1 : Int32)) (lv' := [(5, .int (m5 + (-1 : Int32))), (0, .ref h_th), (1, .int x0), (2, .int ((row (0 : Int32).toNatClampNeg) - x0)), (3, .int m3), (4, .int u_22)]) hx hb dX7_greatestOf_88 hl (k := 5) rfl rfl (by decide) rfl (fun ls hl => ?_)
                  refine lv_goto (tgt := 50) hx hb dX7_greatestOf_91 (by decide) ?_
                  exact ih (m5 + (-1 : Int32)) _ _ _ h hP hD hS (lv_sub hl [1, 2, 3, 4, 5, 0] rfl)
                · have h := og_ite_t c_32 h
                  refine lv_iconst (v := 2) hx hb dX7_greatestOf_72 (by decide) ?_
                  refine lv_iload hx hb dX7_greatestOf_73 (lv_at hl 4 rfl) ?_
                  refine lv_imul hx hb dX7_greatestOf_75 ?_
                  refine lv_iload hx hb dX7_greatestOf_76 (lv_at hl 5 rfl) ?_
                  refine lv_iadd hx hb dX7_greatestOf_78 ?_
                  refine lv_iconst (v := 1) hx hb dX7_greatestOf_79 (by decide) ?_
                  refine lv_iadd hx hb dX7_greatestOf_80 ?_
                  refine lv_iload_n hx hb dX7_greatestOf_81 rfl (lv_at hl 2 rfl) ?_
                  refine lv_iconst (v := 1) hx hb dX7_greatestOf_82 (by decide) ?_
                  refine lv_isub hx hb dX7_greatestOf_83 ?_
                  refine lv_ishl hx hb dX7_greatestOf_84 ?_
                  refine lv_iconst (v := 1) hx hb dX7_greatestOf_85 (by decide) ?_
                  refine lv_isub hx hb dX7_greatestOf_86 ?_
                  obtain rfl := hr_24 _ (Option.some.inj h).symm
                  exact hret _ _ _ _ dX7_greatestOf_87 hP hD hS
          exact LL _ (1 : Int32) _ _ _ hw_34 hP hD hS (lv_sub hl [2, 3, 4, 5, 1, 0] rfl)
    exact LL _ ((row (3 : Int32).toNatClampNeg) - (1 : Int32)) _ _ _ hw_36 hP hD hS (lv_sub hl [2, 3, 1, 0] rfl)
  · have h := og_ite_t c_2 h
    refine lv_aload_n hx hb dX7_greatestOf_13 rfl (lv_at hl 1 rfl) ?_
    obtain ⟨u_37, hc_38, h⟩ := obd_e h
    refine Gci (wr := []) (va_runV (As := []) (rest := []) ⟨hx, hb, hml, hown, hts⟩ (tX7_top l dC dI cyI cyJ cyZ cyO s.heap.size h_th h_row v_th_undos v_th_isKept v_th_text v_th_length v_th_sizes v_th_values v_th_asked v_th_first v_th_behind v_th_readBits v_th_clauses v_th_doing v_th_numbers v_th_planWord v_th_addWord v_th_delWord v_th_fillWord v_th_probes v_th_links v_th_looks v_th_found v_th_isOver row u_37 hc_38) (cwV 0 hts gX7_greatestOf_X7_top rfl rfl rfl (by decide +kernel) ⟨Nat.le_of_ble_eq_true rfl, Nat.le_of_ble_eq_true rfl⟩) (GpreV hP hD hK hN [0, 1] rfl (by decide) 7 0 rfl rfl rfl) rfl rfl hl.1 rfl (lv_room (Nat.le_of_ble_eq_true rfl)) dX7_greatestOf_14 ⟨Nat.zero_le _, Nat.zero_le _⟩) hP hD hS hA [0, 1] [] rfl rfl (by decide) (by decide) (fun H locs hP hD hS => ?_)
    have hP : va_P (dC, dI) vwCl [(h_th, .inr (7, [.ref h_row, v_th_undos, v_th_isKept, v_th_text, v_th_length, v_th_sizes, v_th_values, v_th_asked, v_th_first, v_th_behind, v_th_readBits, v_th_clauses, v_th_doing, v_th_numbers, v_th_planWord, v_th_addWord, v_th_delWord, v_th_fillWord, v_th_probes, v_th_links, v_th_looks, v_th_found, v_th_isOver])), (h_row, .inl (cyI, 1824, .inl row))] H := hP
    have hD : va_D A [(h_th, .inr (7, [.ref h_row, v_th_undos, v_th_isKept, v_th_text, v_th_length, v_th_sizes, v_th_values, v_th_asked, v_th_first, v_th_behind, v_th_readBits, v_th_clauses, v_th_doing, v_th_numbers, v_th_planWord, v_th_addWord, v_th_delWord, v_th_fillWord, v_th_probes, v_th_links, v_th_looks, v_th_found, v_th_isOver])), (h_row, .inl (cyI, 1824, .inl row))] := hD
    obtain rfl := Option.some.inj h
    exact hret _ _ _ _ dX7_greatestOf_17 hP hD hS

def fX7_spread (row : (Nat → Int32)) (x0 : Int32) (x1 : Int32) : Option (Int32) := obd (fX7_isLevel row x0) fun u_1 => if u_1 = 0 then (some (-2 : Int32)) else (obd (fX7_in x1.toInt64 (0 : Int64) (1 : Int64)) fun u_4 => if u_4 = 0 then (some (-3 : Int32)) else (oin (0 : Int32) 1824 (obd (fX7_levelOf row x0) fun u_8 => obd (if ((row (0 : Int32).toNatClampNeg) - x0) = 0 then (some (0 : Int32)) else (obd (fX7_levelOf row (x0 + (1 : Int32))) fun u_18 => some (u_18 <<< ((((row (0 : Int32).toNatClampNeg) - x0) - (1 : Int32)) &&& 31)))) fun w_11 => obd (if ((u_8 <<< (((row (0 : Int32).toNatClampNeg) - x0) &&& 31)) - w_11) = 0 then (some (-1 : Int32)) else (if x1 = 0 then (obd (fX7_greatestOf row x0) fun u_15 => some u_15) else (some ((u_8 <<< (((row (0 : Int32).toNatClampNeg) - x0) &&& 31)) - w_11)))) fun w_13 => some w_13)))

set_option maxHeartbeats 4000000 in
set_option maxRecDepth 100000 in
theorem tX7_spread (l : Launch) (dC : Nat → ClassId) (dI : Nat → Nat → Nat) (cyI cyJ cyZ cyO : ClassId) (sz : Nat) (h_th h_row : Nat) (v_th_undos : Value) (v_th_isKept : Value) (v_th_text : Value) (v_th_length : Value) (v_th_sizes : Value) (v_th_values : Value) (v_th_asked : Value) (v_th_first : Value) (v_th_behind : Value) (v_th_readBits : Value) (v_th_clauses : Value) (v_th_doing : Value) (v_th_numbers : Value) (v_th_planWord : Value) (v_th_addWord : Value) (v_th_delWord : Value) (v_th_fillWord : Value) (v_th_probes : Value) (v_th_links : Value) (v_th_looks : Value) (v_th_found : Value) (v_th_isOver : Value) (row : (Nat → Int32)) (x0 : Int32) (x1 : Int32) (u : Int32) (hf : fX7_spread row x0 x1 = some u) : Met l yX7_spread wsX7_spread ({ frames := 3, cells := 0, slots := 0, locals := 71 }) (va_Pc [.ref h_th, .int x0, .int x1] (GP (dC, dI) (T4 cyI cyJ cyZ cyO) sz [(h_th, .inr (7, [.ref h_row, v_th_undos, v_th_isKept, v_th_text, v_th_length, v_th_sizes, v_th_values, v_th_asked, v_th_first, v_th_behind, v_th_readBits, v_th_clauses, v_th_doing, v_th_numbers, v_th_planWord, v_th_addWord, v_th_delWord, v_th_fillWord, v_th_probes, v_th_links, v_th_looks, v_th_found, v_th_isOver])), (h_row, .inl (cyI, 1824, .inl row))])) (va_Qi (fun (r : Int32) (_ : Unit) => r = u) (GB (dC, dI) [(h_th, .inr (7, [.ref h_row, v_th_undos, v_th_isKept, v_th_text, v_th_length, v_th_sizes, v_th_values, v_th_asked, v_th_first, v_th_behind, v_th_readBits, v_th_clauses, v_th_doing, v_th_numbers, v_th_planWord, v_th_addWord, v_th_delWord, v_th_fillWord, v_th_probes, v_th_links, v_th_looks, v_th_found, v_th_isOver])), (h_row, .inl (cyI, 1824, .inl row))] (va_A [(h_th, .inr (7, [.ref h_row, v_th_undos, v_th_isKept, v_th_text, v_th_length, v_th_sizes, v_th_values, v_th_asked, v_th_first, v_th_behind, v_th_readBits, v_th_clauses, v_th_doing, v_th_numbers, v_th_planWord, v_th_addWord, v_th_delWord, v_th_fillWord, v_th_probes, v_th_links, v_th_looks, v_th_found, v_th_isOver])), (h_row, .inl (cyI, 1824, .inl row))] sz)) (va_A [(h_th, .inr (7, [.ref h_row, v_th_undos, v_th_isKept, v_th_text, v_th_length, v_th_sizes, v_th_values, v_th_asked, v_th_first, v_th_behind, v_th_readBits, v_th_clauses, v_th_doing, v_th_numbers, v_th_planWord, v_th_addWord, v_th_delWord, v_th_fillWord, v_th_probes, v_th_links, v_th_looks, v_th_found, v_th_isOver])), (h_row, .inl (cyI, 1824, .inl row))] sz)) 0 0 (va_A [(h_th, .inr (7, [.ref h_row, v_th_undos, v_th_isKept, v_th_text, v_th_length, v_th_sizes, v_th_values, v_th_asked, v_th_first, v_th_behind, v_th_readBits, v_th_clauses, v_th_doing, v_th_numbers, v_th_planWord, v_th_addWord, v_th_delWord, v_th_fillWord, v_th_probes, v_th_links, v_th_looks, v_th_found, v_th_isOver])), (h_row, .inl (cyI, 1824, .inl row))] sz) := by
  refine GMetI (by decide) rfl (Nat.le_of_ble_eq_true rfl) ?_
  intro p e s m args below meth c A Q ls hx hb hml hts hown hN hK hA hret hP hD hS hl
  have h := hf
  clear hf
  unfold fX7_spread at h
  have hown : s.vm.findClass RX7 = some m.cls := hown
  have hl : lv_has ls 5 [(0, .ref h_th), (1, .int x0), (2, .int x1)] := hl
  refine lv_aload_n hx hb dX7_spread_0 rfl (lv_at hl 0 rfl) ?_
  refine lv_iload_n hx hb dX7_spread_1 rfl (lv_at hl 1 rfl) ?_
  obtain ⟨u_1, hc_2, h⟩ := obd_e h
  refine Gci (wr := []) (va_runV (As := [.int x0]) (rest := []) ⟨hx, hb, hml, hown, hts⟩ (tX7_isLevel l dC dI cyI cyJ cyZ cyO s.heap.size h_th h_row v_th_undos v_th_isKept v_th_text v_th_length v_th_sizes v_th_values v_th_asked v_th_first v_th_behind v_th_readBits v_th_clauses v_th_doing v_th_numbers v_th_planWord v_th_addWord v_th_delWord v_th_fillWord v_th_probes v_th_links v_th_looks v_th_found v_th_isOver row x0 u_1 hc_2) (cwV 1 hts gX7_spread_X7_isLevel rfl rfl rfl (by decide +kernel) ⟨Nat.le_of_ble_eq_true rfl, Nat.le_of_ble_eq_true rfl⟩) (GpreV hP hD hK hN [0, 1] rfl (by decide) 7 0 rfl rfl rfl) rfl rfl hl.1 rfl (lv_room (Nat.le_of_ble_eq_true rfl)) dX7_spread_2 ⟨Nat.zero_le _, Nat.zero_le _⟩) hP hD hS hA [0, 1] [] rfl rfl (by decide) (by decide) (fun H locs hP hD hS => ?_)
  have hP : va_P (dC, dI) vwCl [(h_th, .inr (7, [.ref h_row, v_th_undos, v_th_isKept, v_th_text, v_th_length, v_th_sizes, v_th_values, v_th_asked, v_th_first, v_th_behind, v_th_readBits, v_th_clauses, v_th_doing, v_th_numbers, v_th_planWord, v_th_addWord, v_th_delWord, v_th_fillWord, v_th_probes, v_th_links, v_th_looks, v_th_found, v_th_isOver])), (h_row, .inl (cyI, 1824, .inl row))] H := hP
  have hD : va_D A [(h_th, .inr (7, [.ref h_row, v_th_undos, v_th_isKept, v_th_text, v_th_length, v_th_sizes, v_th_values, v_th_asked, v_th_first, v_th_behind, v_th_readBits, v_th_clauses, v_th_doing, v_th_numbers, v_th_planWord, v_th_addWord, v_th_delWord, v_th_fillWord, v_th_probes, v_th_links, v_th_looks, v_th_found, v_th_isOver])), (h_row, .inl (cyI, 1824, .inl row))] := hD
  refine lv_if_ne (tgt := 11) hx hb dX7_spread_5 (by decide) (fun c_3 => ?_) (fun c_3 => ?_)
  · have h := og_ite_f c_3 h
    refine lv_iload_n hx hb dX7_spread_11 rfl (lv_at hl 2 rfl) ?_
    refine lv_i2l (v := x1.toInt64) hx hb dX7_spread_12 rfl ?_
    refine lv_lconst (v := 0) hx hb dX7_spread_13 (by decide) ?_
    refine lv_lconst (v := 1) hx hb dX7_spread_14 (by decide) ?_
    obtain ⟨u_4, hc_5, h⟩ := obd_e h
    refine Gci (wr := [(h_th, .inr (7, [.ref h_row, v_th_undos, v_th_isKept, v_th_text, v_th_length, v_th_sizes, v_th_values, v_th_asked, v_th_first, v_th_behind, v_th_readBits, v_th_clauses, v_th_doing, v_th_numbers, v_th_planWord, v_th_addWord, v_th_delWord, v_th_fillWord, v_th_probes, v_th_links, v_th_looks, v_th_found, v_th_isOver])), (h_row, .inl (cyI, 1824, .inl row))]) (va_runS (As := [.long x1.toInt64, .long (0 : Int64), .long (1 : Int64)]) (rest := []) ⟨hx, hb, hml, hown, hts⟩ (tX7_in l dC dI cyI cyJ cyZ cyO H.size x1.toInt64 (0 : Int64) (1 : Int64) u_4 hc_5) (cwS 3 hts gX7_spread_X7_in rfl rfl rfl (by decide +kernel) ⟨Nat.le_of_ble_eq_true rfl, Nat.le_of_ble_eq_true rfl⟩) (GpreS hP hD hK hN [] rfl (by decide)) rfl rfl hl.1 rfl (lv_room (Nat.le_of_ble_eq_true rfl)) dX7_spread_15 ⟨Nat.zero_le _, Nat.zero_le _⟩) hP hD hS hA [] [0, 1] rfl rfl (by decide) (by decide) (fun H locs hP hD hS => ?_)
    have hP : va_P (dC, dI) vwCl [(h_th, .inr (7, [.ref h_row, v_th_undos, v_th_isKept, v_th_text, v_th_length, v_th_sizes, v_th_values, v_th_asked, v_th_first, v_th_behind, v_th_readBits, v_th_clauses, v_th_doing, v_th_numbers, v_th_planWord, v_th_addWord, v_th_delWord, v_th_fillWord, v_th_probes, v_th_links, v_th_looks, v_th_found, v_th_isOver])), (h_row, .inl (cyI, 1824, .inl row))] H := hP
    have hD : va_D A [(h_th, .inr (7, [.ref h_row, v_th_undos, v_th_isKept, v_th_text, v_th_length, v_th_sizes, v_th_values, v_th_asked, v_th_first, v_th_behind, v_th_readBits, v_th_clauses, v_th_doing, v_th_numbers, v_th_planWord, v_th_addWord, v_th_delWord, v_th_fillWord, v_th_probes, v_th_links, v_th_looks, v_th_found, v_th_isOver])), (h_row, .inl (cyI, 1824, .inl row))] := hD
    refine lv_if_ne (tgt := 24) hx hb dX7_spread_18 (by decide) (fun c_6 => ?_) (fun c_6 => ?_)
    · have h := og_ite_f c_6 h
      refine lv_aload_n hx hb dX7_spread_24 rfl (lv_at hl 0 rfl) ?_
      refine va_get (D := (dC, dI)) (ci := 7) (v := .ref h_row) (C := RX7) (T := TX7) (N := 23) hx hb hts (fun _ hw => List.mem_cons_of_mem _ (List.mem_append_right _ hw)) hown hK hP 0 rfl rfl 0 (by decide) (hts (.fieldLink RX7 7 "PrefixIndexModel" "row" "[I") (List.mem_of_getElem? (i := 1) rfl)) (fun _ h9 => h9) rfl dX7_spread_25 ?_
      refine lv_iconst (v := 0) hx hb dX7_spread_28 (by decide) ?_
      obtain ⟨hi_7, h⟩ := oin_e h
      refine va_iald hx hb hK hP 1 0 rfl rfl hi_7 dX7_spread_29 ?_
      refine lv_iload_n hx hb dX7_spread_30 rfl (lv_at hl 1 rfl) ?_
      refine lv_isub hx hb dX7_spread_31 ?_
      refine lv_istore_n (lv' := [(3, .int ((row (0 : Int32).toNatClampNeg) - x0)), (0, .ref h_th), (1, .int x0), (2, .int x1)]) hx hb dX7_spread_32 rfl hl (by decide) rfl (fun ls hl => ?_)
      refine lv_aload_n hx hb dX7_spread_33 rfl (lv_at hl 1 rfl) ?_
      refine lv_iload_n hx hb dX7_spread_34 rfl (lv_at hl 2 rfl) ?_
      obtain ⟨u_8, hc_9, h⟩ := obd_e h
      refine Gci (wr := []) (va_runV (As := [.int x0]) (rest := []) ⟨hx, hb, hml, hown, hts⟩ (tX7_levelOf l dC dI cyI cyJ cyZ cyO H.size h_th h_row v_th_undos v_th_isKept v_th_text v_th_length v_th_sizes v_th_values v_th_asked v_th_first v_th_behind v_th_readBits v_th_clauses v_th_doing v_th_numbers v_th_planWord v_th_addWord v_th_delWord v_th_fillWord v_th_probes v_th_links v_th_looks v_th_found v_th_isOver row x0 u_8 hc_9) (cwV 1 hts gX7_spread_X7_levelOf rfl rfl rfl (by decide +kernel) ⟨Nat.le_of_ble_eq_true rfl, Nat.le_of_ble_eq_true rfl⟩) (GpreV hP hD hK hN [0, 1] rfl (by decide) 7 0 rfl rfl rfl) rfl rfl hl.1 rfl (lv_room (Nat.le_of_ble_eq_true rfl)) dX7_spread_35 ⟨Nat.zero_le _, Nat.zero_le _⟩) hP hD hS hA [0, 1] [] rfl rfl (by decide) (by decide) (fun H locs hP hD hS => ?_)
      have hP : va_P (dC, dI) vwCl [(h_th, .inr (7, [.ref h_row, v_th_undos, v_th_isKept, v_th_text, v_th_length, v_th_sizes, v_th_values, v_th_asked, v_th_first, v_th_behind, v_th_readBits, v_th_clauses, v_th_doing, v_th_numbers, v_th_planWord, v_th_addWord, v_th_delWord, v_th_fillWord, v_th_probes, v_th_links, v_th_looks, v_th_found, v_th_isOver])), (h_row, .inl (cyI, 1824, .inl row))] H := hP
      have hD : va_D A [(h_th, .inr (7, [.ref h_row, v_th_undos, v_th_isKept, v_th_text, v_th_length, v_th_sizes, v_th_values, v_th_asked, v_th_first, v_th_behind, v_th_readBits, v_th_clauses, v_th_doing, v_th_numbers, v_th_planWord, v_th_addWord, v_th_delWord, v_th_fillWord, v_th_probes, v_th_links, v_th_looks, v_th_found, v_th_isOver])), (h_row, .inl (cyI, 1824, .inl row))] := hD
      refine lv_iload_n hx hb dX7_spread_38 rfl (lv_at hl 0 rfl) ?_
      refine lv_ishl hx hb dX7_spread_39 ?_
      refine lv_iload_n hx hb dX7_spread_40 rfl (lv_at hl 0 rfl) ?_
      obtain ⟨w_11, hm_20, h⟩ := obd_e h
      have J : ∀ (H : Heap) (locs : List Loc) (ls : Array Slot), va_P (dC, dI) vwCl [(h_th, .inr (7, [.ref h_row, v_th_undos, v_th_isKept, v_th_text, v_th_length, v_th_sizes, v_th_values, v_th_asked, v_th_first, v_th_behind, v_th_readBits, v_th_clauses, v_th_doing, v_th_numbers, v_th_planWord, v_th_addWord, v_th_delWord, v_th_fillWord, v_th_probes, v_th_links, v_th_looks, v_th_found, v_th_isOver])), (h_row, .inl (cyI, 1824, .inl row))] H → va_D A [(h_th, .inr (7, [.ref h_row, v_th_undos, v_th_isKept, v_th_text, v_th_length, v_th_sizes, v_th_values, v_th_asked, v_th_first, v_th_behind, v_th_readBits, v_th_clauses, v_th_doing, v_th_numbers, v_th_planWord, v_th_addWord, v_th_delWord, v_th_fillWord, v_th_probes, v_th_links, v_th_looks, v_th_found, v_th_isOver])), (h_row, .inl (cyI, 1824, .inl row))] → va_S A s.heap H locs → lv_has ls 5 [(0, .ref h_th), (1, .int x0), (2, .int x1)] → W p l e ({ frames := 3, cells := 0, slots := 0, locals := 71 }) s m args below meth c H locs 0 0 Q (F0 m 59 ls [.int w_11, .int (u_8 <<< (((row (0 : Int32).toNatClampNeg) - x0) &&& 31))]) := by
        intro H locs ls hP hD hS hl
        refine lv_isub hx hb dX7_spread_59 ?_
        refine lv_istore (lv' := [(4, .int ((u_8 <<< (((row (0 : Int32).toNatClampNeg) - x0) &&& 31)) - w_11)), (0, .ref h_th), (1, .int x0), (2, .int x1)]) hx hb dX7_spread_60 hl (by decide) rfl (fun ls hl => ?_)
        refine lv_iload hx hb dX7_spread_62 (lv_at hl 0 rfl) ?_
        obtain ⟨w_13, hm_17, h⟩ := obd_e h
        have J : ∀ (H : Heap) (locs : List Loc) (ls : Array Slot), va_P (dC, dI) vwCl [(h_th, .inr (7, [.ref h_row, v_th_undos, v_th_isKept, v_th_text, v_th_length, v_th_sizes, v_th_values, v_th_asked, v_th_first, v_th_behind, v_th_readBits, v_th_clauses, v_th_doing, v_th_numbers, v_th_planWord, v_th_addWord, v_th_delWord, v_th_fillWord, v_th_probes, v_th_links, v_th_looks, v_th_found, v_th_isOver])), (h_row, .inl (cyI, 1824, .inl row))] H → va_D A [(h_th, .inr (7, [.ref h_row, v_th_undos, v_th_isKept, v_th_text, v_th_length, v_th_sizes, v_th_values, v_th_asked, v_th_first, v_th_behind, v_th_readBits, v_th_clauses, v_th_doing, v_th_numbers, v_th_planWord, v_th_addWord, v_th_delWord, v_th_fillWord, v_th_probes, v_th_links, v_th_looks, v_th_found, v_th_isOver])), (h_row, .inl (cyI, 1824, .inl row))] → va_S A s.heap H locs → lv_has ls 5 [] → W p l e ({ frames := 3, cells := 0, slots := 0, locals := 71 }) s m args below meth c H locs 0 0 Q (F0 m 85 ls [.int w_13]) := by
          intro H locs ls hP hD hS hl
          obtain rfl := Option.some.inj h
          exact hret _ _ _ _ dX7_spread_85 hP hD hS
        replace h := hm_17
        refine lv_if_ne (tgt := 71) hx hb dX7_spread_64 (by decide) (fun c_12 => ?_) (fun c_12 => ?_)
        · have h := og_ite_f c_12 h
          refine lv_iload_n hx hb dX7_spread_71 rfl (lv_at hl 3 rfl) ?_
          refine lv_if_ne (tgt := 83) hx hb dX7_spread_72 (by decide) (fun c_14 => ?_) (fun c_14 => ?_)
          · have h := og_ite_f c_14 h
            refine lv_iload hx hb dX7_spread_83 (lv_at hl 0 rfl) ?_
            obtain rfl := Option.some.inj h
            exact J _ _ _ hP hD hS (lv_sub hl [] rfl)
          · have h := og_ite_t c_14 h
            refine lv_aload_n hx hb dX7_spread_75 rfl (lv_at hl 1 rfl) ?_
            refine lv_iload_n hx hb dX7_spread_76 rfl (lv_at hl 2 rfl) ?_
            obtain ⟨u_15, hc_16, h⟩ := obd_e h
            refine Gci (wr := []) (va_runV (As := [.int x0]) (rest := []) ⟨hx, hb, hml, hown, hts⟩ (tX7_greatestOf l dC dI cyI cyJ cyZ cyO H.size h_th h_row v_th_undos v_th_isKept v_th_text v_th_length v_th_sizes v_th_values v_th_asked v_th_first v_th_behind v_th_readBits v_th_clauses v_th_doing v_th_numbers v_th_planWord v_th_addWord v_th_delWord v_th_fillWord v_th_probes v_th_links v_th_looks v_th_found v_th_isOver row x0 u_15 hc_16) (cwV 1 hts gX7_spread_X7_greatestOf rfl rfl rfl (by decide +kernel) ⟨Nat.le_of_ble_eq_true rfl, Nat.le_of_ble_eq_true rfl⟩) (GpreV hP hD hK hN [0, 1] rfl (by decide) 7 0 rfl rfl rfl) rfl rfl hl.1 rfl (lv_room (Nat.le_of_ble_eq_true rfl)) dX7_spread_77 ⟨Nat.zero_le _, Nat.zero_le _⟩) hP hD hS hA [0, 1] [] rfl rfl (by decide) (by decide) (fun H locs hP hD hS => ?_)
            have hP : va_P (dC, dI) vwCl [(h_th, .inr (7, [.ref h_row, v_th_undos, v_th_isKept, v_th_text, v_th_length, v_th_sizes, v_th_values, v_th_asked, v_th_first, v_th_behind, v_th_readBits, v_th_clauses, v_th_doing, v_th_numbers, v_th_planWord, v_th_addWord, v_th_delWord, v_th_fillWord, v_th_probes, v_th_links, v_th_looks, v_th_found, v_th_isOver])), (h_row, .inl (cyI, 1824, .inl row))] H := hP
            have hD : va_D A [(h_th, .inr (7, [.ref h_row, v_th_undos, v_th_isKept, v_th_text, v_th_length, v_th_sizes, v_th_values, v_th_asked, v_th_first, v_th_behind, v_th_readBits, v_th_clauses, v_th_doing, v_th_numbers, v_th_planWord, v_th_addWord, v_th_delWord, v_th_fillWord, v_th_probes, v_th_links, v_th_looks, v_th_found, v_th_isOver])), (h_row, .inl (cyI, 1824, .inl row))] := hD
            refine lv_goto (tgt := 85) hx hb dX7_spread_80 (by decide) ?_
            obtain rfl := Option.some.inj h
            exact J _ _ _ hP hD hS (lv_sub hl [] rfl)
        · have h := og_ite_t c_12 h
          refine lv_iconst (v := (-1)) hx hb dX7_spread_67 (by decide) ?_
          refine lv_goto (tgt := 85) hx hb dX7_spread_68 (by decide) ?_
          obtain rfl := Option.some.inj h
          exact J _ _ _ hP hD hS (lv_sub hl [] rfl)
      replace h := hm_20
      refine lv_if_ne (tgt := 48) hx hb dX7_spread_41 (by decide) (fun c_10 => ?_) (fun c_10 => ?_)
      · have h := og_ite_f c_10 h
        refine lv_aload_n hx hb dX7_spread_48 rfl (lv_at hl 1 rfl) ?_
        refine lv_iload_n hx hb dX7_spread_49 rfl (lv_at hl 2 rfl) ?_
        refine lv_iconst (v := 1) hx hb dX7_spread_50 (by decide) ?_
        refine lv_iadd hx hb dX7_spread_51 ?_
        obtain ⟨u_18, hc_19, h⟩ := obd_e h
        refine Gci (wr := []) (va_runV (As := [.int (x0 + (1 : Int32))]) (rest := [.int (u_8 <<< (((row (0 : Int32).toNatClampNeg) - x0) &&& 31))]) ⟨hx, hb, hml, hown, hts⟩ (tX7_levelOf l dC dI cyI cyJ cyZ cyO H.size h_th h_row v_th_undos v_th_isKept v_th_text v_th_length v_th_sizes v_th_values v_th_asked v_th_first v_th_behind v_th_readBits v_th_clauses v_th_doing v_th_numbers v_th_planWord v_th_addWord v_th_delWord v_th_fillWord v_th_probes v_th_links v_th_looks v_th_found v_th_isOver row (x0 + (1 : Int32)) u_18 hc_19) (cwV 1 hts gX7_spread_X7_levelOf rfl rfl rfl (by decide +kernel) ⟨Nat.le_of_ble_eq_true rfl, Nat.le_of_ble_eq_true rfl⟩) (GpreV hP hD hK hN [0, 1] rfl (by decide) 7 0 rfl rfl rfl) rfl rfl hl.1 rfl (lv_room (Nat.le_of_ble_eq_true rfl)) dX7_spread_52 ⟨Nat.zero_le _, Nat.zero_le _⟩) hP hD hS hA [0, 1] [] rfl rfl (by decide) (by decide) (fun H locs hP hD hS => ?_)
        have hP : va_P (dC, dI) vwCl [(h_th, .inr (7, [.ref h_row, v_th_undos, v_th_isKept, v_th_text, v_th_length, v_th_sizes, v_th_values, v_th_asked, v_th_first, v_th_behind, v_th_readBits, v_th_clauses, v_th_doing, v_th_numbers, v_th_planWord, v_th_addWord, v_th_delWord, v_th_fillWord, v_th_probes, v_th_links, v_th_looks, v_th_found, v_th_isOver])), (h_row, .inl (cyI, 1824, .inl row))] H := hP
        have hD : va_D A [(h_th, .inr (7, [.ref h_row, v_th_undos, v_th_isKept, v_th_text, v_th_length, v_th_sizes, v_th_values, v_th_asked, v_th_first, v_th_behind, v_th_readBits, v_th_clauses, v_th_doing, v_th_numbers, v_th_planWord, v_th_addWord, v_th_delWord, v_th_fillWord, v_th_probes, v_th_links, v_th_looks, v_th_found, v_th_isOver])), (h_row, .inl (cyI, 1824, .inl row))] := hD
        refine lv_iload_n hx hb dX7_spread_55 rfl (lv_at hl 0 rfl) ?_
        refine lv_iconst (v := 1) hx hb dX7_spread_56 (by decide) ?_
        refine lv_isub hx hb dX7_spread_57 ?_
        refine lv_ishl hx hb dX7_spread_58 ?_
        obtain rfl := Option.some.inj h
        exact J _ _ _ hP hD hS (lv_sub hl [1, 2, 3] rfl)
      · have h := og_ite_t c_10 h
        refine lv_iconst (v := 0) hx hb dX7_spread_44 (by decide) ?_
        refine lv_goto (tgt := 59) hx hb dX7_spread_45 (by decide) ?_
        obtain rfl := Option.some.inj h
        exact J _ _ _ hP hD hS (lv_sub hl [1, 2, 3] rfl)
    · have h := og_ite_t c_6 h
      refine lv_bipush (v := (-3)) hx hb dX7_spread_21 (by decide) ?_
      obtain rfl := Option.some.inj h
      exact hret _ _ _ _ dX7_spread_23 hP hD hS
  · have h := og_ite_t c_3 h
    refine lv_bipush (v := (-2)) hx hb dX7_spread_8 (by decide) ?_
    obtain rfl := Option.some.inj h
    exact hret _ _ _ _ dX7_spread_10 hP hD hS

def fX7_isRow (x0 : Int32) : Option (Int32) := obd (fX7_in x0.toInt64 (0 : Int64) (2 : Int64)) fun u_1 => obl u_1 (some u_1)

set_option maxHeartbeats 4000000 in
set_option maxRecDepth 100000 in
theorem tX7_isRow (l : Launch) (dC : Nat → ClassId) (dI : Nat → Nat → Nat) (cyI cyJ cyZ cyO : ClassId) (sz : Nat) (x0 : Int32) (u : Int32) (hf : fX7_isRow x0 = some u) : Met l yX7_isRow wsX7_isRow ({ frames := 1, cells := 0, slots := 0, locals := 25 }) (va_Pc [.int x0] (GP (dC, dI) (T4 cyI cyJ cyZ cyO) sz [])) (va_Qi (fun (r : Int32) (_ : Unit) => r = u) (GB (dC, dI) [] (va_A [] sz)) (va_A [] sz)) 0 0 (va_A [] sz) := by
  refine GMetZ (by decide) rfl (Nat.le_of_ble_eq_true rfl) ?_
  intro p e s m args below meth c A Q ls hx hb hml hts hown hN hK hA hret hP hD hS hl
  have h := hf
  clear hf
  unfold fX7_isRow at h
  have hown : s.vm.findClass RX7 = some m.cls := hown
  have hl : lv_has ls 1 [(0, .int x0)] := hl
  refine lv_iload_n hx hb dX7_isRow_0 rfl (lv_at hl 0 rfl) ?_
  refine lv_i2l (v := x0.toInt64) hx hb dX7_isRow_1 rfl ?_
  refine lv_lconst (v := 0) hx hb dX7_isRow_2 (by decide) ?_
  refine lv_ldc2 hx hb hown (hts (.constantLong RX7 193 (2)) (List.mem_of_getElem? (i := 1) rfl)) dX7_isRow_3 ?_
  obtain ⟨u_1, hc_2, h⟩ := obd_e h
  refine Gci (wr := []) (va_runS (As := [.long x0.toInt64, .long (0 : Int64), .long (2 : Int64)]) (rest := []) ⟨hx, hb, hml, hown, hts⟩ (tX7_in l dC dI cyI cyJ cyZ cyO s.heap.size x0.toInt64 (0 : Int64) (2 : Int64) u_1 hc_2) (cwS 3 hts gX7_isRow_X7_in rfl rfl rfl (by decide +kernel) ⟨Nat.le_of_ble_eq_true rfl, Nat.le_of_ble_eq_true rfl⟩) (GpreS hP hD hK hN [] rfl (by decide)) rfl rfl hl.1 rfl (lv_room (Nat.le_of_ble_eq_true rfl)) dX7_isRow_6 ⟨Nat.zero_le _, Nat.zero_le _⟩) hP hD hS hA [] [] rfl rfl (by decide) (by decide) (fun H locs hP hD hS => ?_)
  have hP : va_P (dC, dI) vwCl [] H := hP
  have hD : va_D A [] := hD
  obtain ⟨hz, h⟩ := obl_e h
  obtain rfl := Option.some.inj h
  exact hret _ _ _ _ dX7_isRow_9 hz hP hD hS

def lpX7_row_35 (q1 : Int32) (q2 : Int32) : Nat → Int32 → (Nat → Int64) → Option (Int32 × (Nat → Int64))
  | 0, _, _ => none
  | n + 1, m3, zvalues => if (12 : Int32) ≤ m3 then (some (m3, zvalues)) else (oin (((12 : Int32) * q1) + m3) 36 (lpX7_row_35 q1 q2 n (m3 + (1 : Int32)) (vp_updL zvalues (((12 : Int32) * q1) + m3).toNatClampNeg (0 : Int64))))

def fX7_row (sizes : (Nat → Int32)) (values : (Nat → Int64)) (x0 : Int32) (x1 : Int32) : Option (Int32 × (Nat → Int32) × (Nat → Int64)) := obd (fX7_isRow x0) fun u_1 => if u_1 = 0 then (some ((-2 : Int32), sizes, values)) else (if x1 ≤ (12 : Int32) then (if 0 ≤ x1 then (oin x0 3 (obd (lpX7_row_35 x0 x1 100000 (0 : Int32) values) fun w_12 => some (x1, upd sizes x0.toNatClampNeg x1, w_12.2))) else (some ((-13 : Int32), sizes, values))) else (some ((-3 : Int32), sizes, values)))

set_option maxHeartbeats 4000000 in
set_option maxRecDepth 100000 in
theorem tX7_row (l : Launch) (dC : Nat → ClassId) (dI : Nat → Nat → Nat) (cyI cyJ cyZ cyO : ClassId) (sz : Nat) (h_th h_sizes h_values : Nat) (v_th_row : Value) (v_th_undos : Value) (v_th_isKept : Value) (v_th_text : Value) (v_th_length : Value) (v_th_asked : Value) (v_th_first : Value) (v_th_behind : Value) (v_th_readBits : Value) (v_th_clauses : Value) (v_th_doing : Value) (v_th_numbers : Value) (v_th_planWord : Value) (v_th_addWord : Value) (v_th_delWord : Value) (v_th_fillWord : Value) (v_th_probes : Value) (v_th_links : Value) (v_th_looks : Value) (v_th_found : Value) (v_th_isOver : Value) (sizes : (Nat → Int32)) (values : (Nat → Int64)) (x0 : Int32) (x1 : Int32) (u : Int32 × (Nat → Int32) × (Nat → Int64)) (hf : fX7_row sizes values x0 x1 = some u) : Met l yX7_row wsX7_row ({ frames := 2, cells := 0, slots := 0, locals := 45 }) (va_Pc [.ref h_th, .int x0, .int x1] (GP (dC, dI) (T4 cyI cyJ cyZ cyO) sz [(h_th, .inr (7, [v_th_row, v_th_undos, v_th_isKept, v_th_text, v_th_length, .ref h_sizes, .ref h_values, v_th_asked, v_th_first, v_th_behind, v_th_readBits, v_th_clauses, v_th_doing, v_th_numbers, v_th_planWord, v_th_addWord, v_th_delWord, v_th_fillWord, v_th_probes, v_th_links, v_th_looks, v_th_found, v_th_isOver])), (h_sizes, .inl (cyI, 3, .inl sizes)), (h_values, .inl (cyJ, 36, .inr (.inl values)))])) (va_Qi (fun (r : Int32) (_ : Unit) => r = u.1) (GB (dC, dI) [(h_th, .inr (7, [v_th_row, v_th_undos, v_th_isKept, v_th_text, v_th_length, .ref h_sizes, .ref h_values, v_th_asked, v_th_first, v_th_behind, v_th_readBits, v_th_clauses, v_th_doing, v_th_numbers, v_th_planWord, v_th_addWord, v_th_delWord, v_th_fillWord, v_th_probes, v_th_links, v_th_looks, v_th_found, v_th_isOver])), (h_sizes, .inl (cyI, 3, .inl u.2.1)), (h_values, .inl (cyJ, 36, .inr (.inl u.2.2)))] (va_A [(h_th, .inr (7, [v_th_row, v_th_undos, v_th_isKept, v_th_text, v_th_length, .ref h_sizes, .ref h_values, v_th_asked, v_th_first, v_th_behind, v_th_readBits, v_th_clauses, v_th_doing, v_th_numbers, v_th_planWord, v_th_addWord, v_th_delWord, v_th_fillWord, v_th_probes, v_th_links, v_th_looks, v_th_found, v_th_isOver])), (h_sizes, .inl (cyI, 3, .inl sizes)), (h_values, .inl (cyJ, 36, .inr (.inl values)))] sz)) (va_A [(h_th, .inr (7, [v_th_row, v_th_undos, v_th_isKept, v_th_text, v_th_length, .ref h_sizes, .ref h_values, v_th_asked, v_th_first, v_th_behind, v_th_readBits, v_th_clauses, v_th_doing, v_th_numbers, v_th_planWord, v_th_addWord, v_th_delWord, v_th_fillWord, v_th_probes, v_th_links, v_th_looks, v_th_found, v_th_isOver])), (h_sizes, .inl (cyI, 3, .inl sizes)), (h_values, .inl (cyJ, 36, .inr (.inl values)))] sz)) 0 0 (va_A [(h_th, .inr (7, [v_th_row, v_th_undos, v_th_isKept, v_th_text, v_th_length, .ref h_sizes, .ref h_values, v_th_asked, v_th_first, v_th_behind, v_th_readBits, v_th_clauses, v_th_doing, v_th_numbers, v_th_planWord, v_th_addWord, v_th_delWord, v_th_fillWord, v_th_probes, v_th_links, v_th_looks, v_th_found, v_th_isOver])), (h_sizes, .inl (cyI, 3, .inl sizes)), (h_values, .inl (cyJ, 36, .inr (.inl values)))] sz) := by
  refine GMetI (by decide) rfl (Nat.le_of_ble_eq_true rfl) ?_
  intro p e s m args below meth c A Q ls hx hb hml hts hown hN hK hA hret hP hD hS hl
  have h := hf
  clear hf
  unfold fX7_row at h
  have hown : s.vm.findClass RX7 = some m.cls := hown
  have hl : lv_has ls 4 [(0, .ref h_th), (1, .int x0), (2, .int x1)] := hl
  refine lv_iload_n hx hb dX7_row_0 rfl (lv_at hl 1 rfl) ?_
  obtain ⟨u_1, hc_2, h⟩ := obd_e h
  refine Gci (wr := [(h_th, .inr (7, [v_th_row, v_th_undos, v_th_isKept, v_th_text, v_th_length, .ref h_sizes, .ref h_values, v_th_asked, v_th_first, v_th_behind, v_th_readBits, v_th_clauses, v_th_doing, v_th_numbers, v_th_planWord, v_th_addWord, v_th_delWord, v_th_fillWord, v_th_probes, v_th_links, v_th_looks, v_th_found, v_th_isOver])), (h_sizes, .inl (cyI, 3, .inl sizes)), (h_values, .inl (cyJ, 36, .inr (.inl values)))]) (va_runS (As := [.int x0]) (rest := []) ⟨hx, hb, hml, hown, hts⟩ (tX7_isRow l dC dI cyI cyJ cyZ cyO s.heap.size x0 u_1 hc_2) (cwS 1 hts gX7_row_X7_isRow rfl rfl rfl (by decide +kernel) ⟨Nat.le_of_ble_eq_true rfl, Nat.le_of_ble_eq_true rfl⟩) (GpreS hP hD hK hN [] rfl (by decide)) rfl rfl hl.1 rfl (lv_room (Nat.le_of_ble_eq_true rfl)) dX7_row_1 ⟨Nat.zero_le _, Nat.zero_le _⟩) hP hD hS hA [] [0, 1, 2] rfl rfl (by decide) (by decide) (fun H locs hP hD hS => ?_)
  have hP : va_P (dC, dI) vwCl [(h_th, .inr (7, [v_th_row, v_th_undos, v_th_isKept, v_th_text, v_th_length, .ref h_sizes, .ref h_values, v_th_asked, v_th_first, v_th_behind, v_th_readBits, v_th_clauses, v_th_doing, v_th_numbers, v_th_planWord, v_th_addWord, v_th_delWord, v_th_fillWord, v_th_probes, v_th_links, v_th_looks, v_th_found, v_th_isOver])), (h_sizes, .inl (cyI, 3, .inl sizes)), (h_values, .inl (cyJ, 36, .inr (.inl values)))] H := hP
  have hD : va_D A [(h_th, .inr (7, [v_th_row, v_th_undos, v_th_isKept, v_th_text, v_th_length, .ref h_sizes, .ref h_values, v_th_asked, v_th_first, v_th_behind, v_th_readBits, v_th_clauses, v_th_doing, v_th_numbers, v_th_planWord, v_th_addWord, v_th_delWord, v_th_fillWord, v_th_probes, v_th_links, v_th_looks, v_th_found, v_th_isOver])), (h_sizes, .inl (cyI, 3, .inl sizes)), (h_values, .inl (cyJ, 36, .inr (.inl values)))] := hD
  refine lv_if_ne (tgt := 10) hx hb dX7_row_4 (by decide) (fun c_3 => ?_) (fun c_3 => ?_)
  · have h := og_ite_f c_3 h
    refine lv_iload_n hx hb dX7_row_10 rfl (lv_at hl 2 rfl) ?_
    refine lv_bipush (v := 12) hx hb dX7_row_11 (by decide) ?_
    refine lv_icmp_le (tgt := 19) hx hb dX7_row_13 (by decide) (fun c_4 => ?_) (fun c_4 => ?_)
    · have h := og_ite_t c_4 h
      refine lv_iload_n hx hb dX7_row_19 rfl (lv_at hl 2 rfl) ?_
      refine lv_if_ge (tgt := 26) hx hb dX7_row_20 (by decide) (fun c_5 => ?_) (fun c_5 => ?_)
      · have h := og_ite_t c_5 h
        refine lv_aload_n hx hb dX7_row_26 rfl (lv_at hl 0 rfl) ?_
        refine va_get (D := (dC, dI)) (ci := 7) (v := .ref h_sizes) (C := RX7) (T := TX7) (N := 23) hx hb hts (fun _ hw => List.mem_cons_of_mem _ (List.mem_append_right _ hw)) hown hK hP 0 rfl rfl 5 (by decide) (hts (.fieldLink RX7 20 "PrefixIndexModel" "sizes" "[I") (List.mem_of_getElem? (i := 1) rfl)) (fun _ h9 => h9) rfl dX7_row_27 ?_
        refine lv_iload_n hx hb dX7_row_30 rfl (lv_at hl 1 rfl) ?_
        refine lv_iload_n hx hb dX7_row_31 rfl (lv_at hl 2 rfl) ?_
        obtain ⟨hi_6, h⟩ := oin_e h
        refine va_iast hx hb hK hP hD hS 1 0 rfl rfl hi_6 dX7_row_32 (fun H locs hP hD hS => ?_)
        have hP : va_P (dC, dI) vwCl [(h_th, .inr (7, [v_th_row, v_th_undos, v_th_isKept, v_th_text, v_th_length, .ref h_sizes, .ref h_values, v_th_asked, v_th_first, v_th_behind, v_th_readBits, v_th_clauses, v_th_doing, v_th_numbers, v_th_planWord, v_th_addWord, v_th_delWord, v_th_fillWord, v_th_probes, v_th_links, v_th_looks, v_th_found, v_th_isOver])), (h_sizes, .inl (cyI, 3, .inl (upd sizes x0.toNatClampNeg x1))), (h_values, .inl (cyJ, 36, .inr (.inl values)))] H := hP
        have hD : va_D A [(h_th, .inr (7, [v_th_row, v_th_undos, v_th_isKept, v_th_text, v_th_length, .ref h_sizes, .ref h_values, v_th_asked, v_th_first, v_th_behind, v_th_readBits, v_th_clauses, v_th_doing, v_th_numbers, v_th_planWord, v_th_addWord, v_th_delWord, v_th_fillWord, v_th_probes, v_th_links, v_th_looks, v_th_found, v_th_isOver])), (h_sizes, .inl (cyI, 3, .inl (upd sizes x0.toNatClampNeg x1))), (h_values, .inl (cyJ, 36, .inr (.inl values)))] := hD
        refine lv_iconst (v := 0) hx hb dX7_row_33 (by decide) ?_
        refine lv_istore_n (lv' := [(3, .int (0 : Int32)), (0, .ref h_th), (1, .int x0), (2, .int x1)]) hx hb dX7_row_34 rfl hl (by decide) rfl (fun ls hl => ?_)
        obtain ⟨w_12, hw_13, h⟩ := obd_e h
        have J : ∀ (H : Heap) (locs : List Loc) (ls : Array Slot), va_P (dC, dI) vwCl [(h_th, .inr (7, [v_th_row, v_th_undos, v_th_isKept, v_th_text, v_th_length, .ref h_sizes, .ref h_values, v_th_asked, v_th_first, v_th_behind, v_th_readBits, v_th_clauses, v_th_doing, v_th_numbers, v_th_planWord, v_th_addWord, v_th_delWord, v_th_fillWord, v_th_probes, v_th_links, v_th_looks, v_th_found, v_th_isOver])), (h_sizes, .inl (cyI, 3, .inl (upd sizes x0.toNatClampNeg x1))), (h_values, .inl (cyJ, 36, .inr (.inl w_12.2)))] H → va_D A [(h_th, .inr (7, [v_th_row, v_th_undos, v_th_isKept, v_th_text, v_th_length, .ref h_sizes, .ref h_values, v_th_asked, v_th_first, v_th_behind, v_th_readBits, v_th_clauses, v_th_doing, v_th_numbers, v_th_planWord, v_th_addWord, v_th_delWord, v_th_fillWord, v_th_probes, v_th_links, v_th_looks, v_th_found, v_th_isOver])), (h_sizes, .inl (cyI, 3, .inl (upd sizes x0.toNatClampNeg x1))), (h_values, .inl (cyJ, 36, .inr (.inl w_12.2)))] → va_S A s.heap H locs → lv_has ls 4 [(2, .int x1)] → W p l e ({ frames := 2, cells := 0, slots := 0, locals := 45 }) s m args below meth c H locs 0 0 Q (F0 m 59 ls []) := by
          intro H locs ls hP hD hS hl
          refine lv_iload_n hx hb dX7_row_59 rfl (lv_at hl 0 rfl) ?_
          obtain rfl := Option.some.inj h
          exact hret _ _ _ _ dX7_row_60 hP hD hS
        have LL : ∀ (n : Nat) (m3 : Int32) (zvalues : (Nat → Int64)) (H : Heap) (locs : List Loc) (ls : Array Slot), lpX7_row_35 x0 x1 n m3 zvalues = some w_12 → va_P (dC, dI) vwCl [(h_th, .inr (7, [v_th_row, v_th_undos, v_th_isKept, v_th_text, v_th_length, .ref h_sizes, .ref h_values, v_th_asked, v_th_first, v_th_behind, v_th_readBits, v_th_clauses, v_th_doing, v_th_numbers, v_th_planWord, v_th_addWord, v_th_delWord, v_th_fillWord, v_th_probes, v_th_links, v_th_looks, v_th_found, v_th_isOver])), (h_sizes, .inl (cyI, 3, .inl (upd sizes x0.toNatClampNeg x1))), (h_values, .inl (cyJ, 36, .inr (.inl zvalues)))] H → va_D A [(h_th, .inr (7, [v_th_row, v_th_undos, v_th_isKept, v_th_text, v_th_length, .ref h_sizes, .ref h_values, v_th_asked, v_th_first, v_th_behind, v_th_readBits, v_th_clauses, v_th_doing, v_th_numbers, v_th_planWord, v_th_addWord, v_th_delWord, v_th_fillWord, v_th_probes, v_th_links, v_th_looks, v_th_found, v_th_isOver])), (h_sizes, .inl (cyI, 3, .inl (upd sizes x0.toNatClampNeg x1))), (h_values, .inl (cyJ, 36, .inr (.inl zvalues)))] → va_S A s.heap H locs → lv_has ls 4 [(0, .ref h_th), (1, .int x0), (2, .int x1), (3, .int m3)] → W p l e ({ frames := 2, cells := 0, slots := 0, locals := 45 }) s m args below meth c H locs 0 0 Q (F0 m 35 ls []) := by
          intro n
          induction n with
          | zero =>
            intro m3 zvalues H locs ls h
            exact absurd h (by rw [lpX7_row_35]; exact fun q => by cases q)
          | succ n ih =>
            intro m3 zvalues H locs ls h hP hD hS hl
            rw [lpX7_row_35] at h
            refine lv_iload_n hx hb dX7_row_35 rfl (lv_at hl 3 rfl) ?_
            refine lv_bipush (v := 12) hx hb dX7_row_36 (by decide) ?_
            refine lv_icmp_ge (tgt := 59) hx hb dX7_row_38 (by decide) (fun c_10 => ?_) (fun c_10 => ?_)
            · have h := og_ite_t c_10 h
              obtain rfl := Option.some.inj h
              exact J _ _ _ hP hD hS (lv_sub hl [2] rfl)
            · have h := og_ite_f c_10 h
              refine lv_aload_n hx hb dX7_row_41 rfl (lv_at hl 0 rfl) ?_
              refine va_get (D := (dC, dI)) (ci := 7) (v := .ref h_values) (C := RX7) (T := TX7) (N := 23) hx hb hts (fun _ hw => List.mem_cons_of_mem _ (List.mem_append_right _ hw)) hown hK hP 0 rfl rfl 6 (by decide) (hts (.fieldLink RX7 23 "PrefixIndexModel" "values" "[J") (List.mem_of_getElem? (i := 2) rfl)) (fun _ h9 => h9) rfl dX7_row_42 ?_
              refine lv_bipush (v := 12) hx hb dX7_row_45 (by decide) ?_
              refine lv_iload_n hx hb dX7_row_47 rfl (lv_at hl 1 rfl) ?_
              refine lv_imul hx hb dX7_row_48 ?_
              refine lv_iload_n hx hb dX7_row_49 rfl (lv_at hl 3 rfl) ?_
              refine lv_iadd hx hb dX7_row_50 ?_
              refine lv_lconst (v := 0) hx hb dX7_row_51 (by decide) ?_
              obtain ⟨hi_11, h⟩ := oin_e h
              refine va_last hx hb hK hP hD hS 2 1 rfl rfl hi_11 dX7_row_52 (fun H locs hP hD hS => ?_)
              have hP : va_P (dC, dI) vwCl [(h_th, .inr (7, [v_th_row, v_th_undos, v_th_isKept, v_th_text, v_th_length, .ref h_sizes, .ref h_values, v_th_asked, v_th_first, v_th_behind, v_th_readBits, v_th_clauses, v_th_doing, v_th_numbers, v_th_planWord, v_th_addWord, v_th_delWord, v_th_fillWord, v_th_probes, v_th_links, v_th_looks, v_th_found, v_th_isOver])), (h_sizes, .inl (cyI, 3, .inl (upd sizes x0.toNatClampNeg x1))), (h_values, .inl (cyJ, 36, .inr (.inl (vp_updL zvalues (((12 : Int32) * x0) + m3).toNatClampNeg (0 : Int64)))))] H := hP
              have hD : va_D A [(h_th, .inr (7, [v_th_row, v_th_undos, v_th_isKept, v_th_text, v_th_length, .ref h_sizes, .ref h_values, v_th_asked, v_th_first, v_th_behind, v_th_readBits, v_th_clauses, v_th_doing, v_th_numbers, v_th_planWord, v_th_addWord, v_th_delWord, v_th_fillWord, v_th_probes, v_th_links, v_th_looks, v_th_found, v_th_isOver])), (h_sizes, .inl (cyI, 3, .inl (upd sizes x0.toNatClampNeg x1))), (h_values, .inl (cyJ, 36, .inr (.inl (vp_updL zvalues (((12 : Int32) * x0) + m3).toNatClampNeg (0 : Int64)))))] := hD
              refine lv_iinc (v := m3 + (1 : Int32)) (lv' := [(3, .int (m3 + (1 : Int32))), (0, .ref h_th), (1, .int x0), (2, .int x1)]) hx hb dX7_row_53 hl (k := 3) rfl rfl (by decide) rfl (fun ls hl => ?_)
              refine lv_goto (tgt := 35) hx hb dX7_row_56 (by decide) ?_
              exact ih (m3 + (1 : Int32)) (vp_updL zvalues (((12 : Int32) * x0) + m3).toNatClampNeg (0 : Int64)) _ _ _ h hP hD hS (lv_sub hl [1, 2, 3, 0] rfl)
        exact LL _ (0 : Int32) values _ _ _ hw_13 hP hD hS (lv_sub hl [1, 2, 3, 0] rfl)
      · have h := og_ite_f c_5 h
        refine lv_bipush (v := (-13)) hx hb dX7_row_23 (by decide) ?_
        obtain rfl := Option.some.inj h
        exact hret _ _ _ _ dX7_row_25 hP hD hS
    · have h := og_ite_f c_4 h
      refine lv_bipush (v := (-3)) hx hb dX7_row_16 (by decide) ?_
      obtain rfl := Option.some.inj h
      exact hret _ _ _ _ dX7_row_18 hP hD hS
  · have h := og_ite_t c_3 h
    refine lv_bipush (v := (-2)) hx hb dX7_row_7 (by decide) ?_
    obtain rfl := Option.some.inj h
    exact hret _ _ _ _ dX7_row_9 hP hD hS

def fX7_noPlace (sizes : (Nat → Int32)) (x0 : Int32) (x1 : Int32) : Option (Int32) := obd (fX7_isRow x0) fun u_1 => obd (if u_1 = 0 then (some (-2 : Int32)) else (oin x0 3 (if 0 ≤ (sizes x0.toNatClampNeg) then (oin x0 3 (obd (fX7_in x1.toInt64 (0 : Int64) (((sizes x0.toNatClampNeg) - (1 : Int32)).toInt64)) fun u_8 => if u_8 = 0 then (some (-12 : Int32)) else (some (0 : Int32)))) else (some (-11 : Int32))))) fun w_4 => some w_4

set_option maxHeartbeats 4000000 in
set_option maxRecDepth 100000 in
theorem tX7_noPlace (l : Launch) (dC : Nat → ClassId) (dI : Nat → Nat → Nat) (cyI cyJ cyZ cyO : ClassId) (sz : Nat) (h_th h_sizes : Nat) (v_th_row : Value) (v_th_undos : Value) (v_th_isKept : Value) (v_th_text : Value) (v_th_length : Value) (v_th_values : Value) (v_th_asked : Value) (v_th_first : Value) (v_th_behind : Value) (v_th_readBits : Value) (v_th_clauses : Value) (v_th_doing : Value) (v_th_numbers : Value) (v_th_planWord : Value) (v_th_addWord : Value) (v_th_delWord : Value) (v_th_fillWord : Value) (v_th_probes : Value) (v_th_links : Value) (v_th_looks : Value) (v_th_found : Value) (v_th_isOver : Value) (sizes : (Nat → Int32)) (x0 : Int32) (x1 : Int32) (u : Int32) (hf : fX7_noPlace sizes x0 x1 = some u) : Met l yX7_noPlace wsX7_noPlace ({ frames := 2, cells := 0, slots := 0, locals := 45 }) (va_Pc [.ref h_th, .int x0, .int x1] (GP (dC, dI) (T4 cyI cyJ cyZ cyO) sz [(h_th, .inr (7, [v_th_row, v_th_undos, v_th_isKept, v_th_text, v_th_length, .ref h_sizes, v_th_values, v_th_asked, v_th_first, v_th_behind, v_th_readBits, v_th_clauses, v_th_doing, v_th_numbers, v_th_planWord, v_th_addWord, v_th_delWord, v_th_fillWord, v_th_probes, v_th_links, v_th_looks, v_th_found, v_th_isOver])), (h_sizes, .inl (cyI, 3, .inl sizes))])) (va_Qi (fun (r : Int32) (_ : Unit) => r = u) (GB (dC, dI) [(h_th, .inr (7, [v_th_row, v_th_undos, v_th_isKept, v_th_text, v_th_length, .ref h_sizes, v_th_values, v_th_asked, v_th_first, v_th_behind, v_th_readBits, v_th_clauses, v_th_doing, v_th_numbers, v_th_planWord, v_th_addWord, v_th_delWord, v_th_fillWord, v_th_probes, v_th_links, v_th_looks, v_th_found, v_th_isOver])), (h_sizes, .inl (cyI, 3, .inl sizes))] (va_A [(h_th, .inr (7, [v_th_row, v_th_undos, v_th_isKept, v_th_text, v_th_length, .ref h_sizes, v_th_values, v_th_asked, v_th_first, v_th_behind, v_th_readBits, v_th_clauses, v_th_doing, v_th_numbers, v_th_planWord, v_th_addWord, v_th_delWord, v_th_fillWord, v_th_probes, v_th_links, v_th_looks, v_th_found, v_th_isOver])), (h_sizes, .inl (cyI, 3, .inl sizes))] sz)) (va_A [(h_th, .inr (7, [v_th_row, v_th_undos, v_th_isKept, v_th_text, v_th_length, .ref h_sizes, v_th_values, v_th_asked, v_th_first, v_th_behind, v_th_readBits, v_th_clauses, v_th_doing, v_th_numbers, v_th_planWord, v_th_addWord, v_th_delWord, v_th_fillWord, v_th_probes, v_th_links, v_th_looks, v_th_found, v_th_isOver])), (h_sizes, .inl (cyI, 3, .inl sizes))] sz)) 0 0 (va_A [(h_th, .inr (7, [v_th_row, v_th_undos, v_th_isKept, v_th_text, v_th_length, .ref h_sizes, v_th_values, v_th_asked, v_th_first, v_th_behind, v_th_readBits, v_th_clauses, v_th_doing, v_th_numbers, v_th_planWord, v_th_addWord, v_th_delWord, v_th_fillWord, v_th_probes, v_th_links, v_th_looks, v_th_found, v_th_isOver])), (h_sizes, .inl (cyI, 3, .inl sizes))] sz) := by
  refine GMetI (by decide) rfl (Nat.le_of_ble_eq_true rfl) ?_
  intro p e s m args below meth c A Q ls hx hb hml hts hown hN hK hA hret hP hD hS hl
  have h := hf
  clear hf
  unfold fX7_noPlace at h
  have hown : s.vm.findClass RX7 = some m.cls := hown
  have hl : lv_has ls 3 [(0, .ref h_th), (1, .int x0), (2, .int x1)] := hl
  refine lv_iload_n hx hb dX7_noPlace_0 rfl (lv_at hl 1 rfl) ?_
  obtain ⟨u_1, hc_2, h⟩ := obd_e h
  refine Gci (wr := [(h_th, .inr (7, [v_th_row, v_th_undos, v_th_isKept, v_th_text, v_th_length, .ref h_sizes, v_th_values, v_th_asked, v_th_first, v_th_behind, v_th_readBits, v_th_clauses, v_th_doing, v_th_numbers, v_th_planWord, v_th_addWord, v_th_delWord, v_th_fillWord, v_th_probes, v_th_links, v_th_looks, v_th_found, v_th_isOver])), (h_sizes, .inl (cyI, 3, .inl sizes))]) (va_runS (As := [.int x0]) (rest := []) ⟨hx, hb, hml, hown, hts⟩ (tX7_isRow l dC dI cyI cyJ cyZ cyO s.heap.size x0 u_1 hc_2) (cwS 1 hts gX7_noPlace_X7_isRow rfl rfl rfl (by decide +kernel) ⟨Nat.le_of_ble_eq_true rfl, Nat.le_of_ble_eq_true rfl⟩) (GpreS hP hD hK hN [] rfl (by decide)) rfl rfl hl.1 rfl (lv_room (Nat.le_of_ble_eq_true rfl)) dX7_noPlace_1 ⟨Nat.zero_le _, Nat.zero_le _⟩) hP hD hS hA [] [0, 1] rfl rfl (by decide) (by decide) (fun H locs hP hD hS => ?_)
  have hP : va_P (dC, dI) vwCl [(h_th, .inr (7, [v_th_row, v_th_undos, v_th_isKept, v_th_text, v_th_length, .ref h_sizes, v_th_values, v_th_asked, v_th_first, v_th_behind, v_th_readBits, v_th_clauses, v_th_doing, v_th_numbers, v_th_planWord, v_th_addWord, v_th_delWord, v_th_fillWord, v_th_probes, v_th_links, v_th_looks, v_th_found, v_th_isOver])), (h_sizes, .inl (cyI, 3, .inl sizes))] H := hP
  have hD : va_D A [(h_th, .inr (7, [v_th_row, v_th_undos, v_th_isKept, v_th_text, v_th_length, .ref h_sizes, v_th_values, v_th_asked, v_th_first, v_th_behind, v_th_readBits, v_th_clauses, v_th_doing, v_th_numbers, v_th_planWord, v_th_addWord, v_th_delWord, v_th_fillWord, v_th_probes, v_th_links, v_th_looks, v_th_found, v_th_isOver])), (h_sizes, .inl (cyI, 3, .inl sizes))] := hD
  obtain ⟨w_4, hm_11, h⟩ := obd_e h
  have J : ∀ (H : Heap) (locs : List Loc) (ls : Array Slot), va_P (dC, dI) vwCl [(h_th, .inr (7, [v_th_row, v_th_undos, v_th_isKept, v_th_text, v_th_length, .ref h_sizes, v_th_values, v_th_asked, v_th_first, v_th_behind, v_th_readBits, v_th_clauses, v_th_doing, v_th_numbers, v_th_planWord, v_th_addWord, v_th_delWord, v_th_fillWord, v_th_probes, v_th_links, v_th_looks, v_th_found, v_th_isOver])), (h_sizes, .inl (cyI, 3, .inl sizes))] H → va_D A [(h_th, .inr (7, [v_th_row, v_th_undos, v_th_isKept, v_th_text, v_th_length, .ref h_sizes, v_th_values, v_th_asked, v_th_first, v_th_behind, v_th_readBits, v_th_clauses, v_th_doing, v_th_numbers, v_th_planWord, v_th_addWord, v_th_delWord, v_th_fillWord, v_th_probes, v_th_links, v_th_looks, v_th_found, v_th_isOver])), (h_sizes, .inl (cyI, 3, .inl sizes))] → va_S A s.heap H locs → lv_has ls 3 [] → W p l e ({ frames := 2, cells := 0, slots := 0, locals := 45 }) s m args below meth c H locs 0 0 Q (F0 m 50 ls [.int w_4]) := by
    intro H locs ls hP hD hS hl
    obtain rfl := Option.some.inj h
    exact hret _ _ _ _ dX7_noPlace_50 hP hD hS
  replace h := hm_11
  refine lv_if_ne (tgt := 12) hx hb dX7_noPlace_4 (by decide) (fun c_3 => ?_) (fun c_3 => ?_)
  · have h := og_ite_f c_3 h
    refine lv_aload_n hx hb dX7_noPlace_12 rfl (lv_at hl 0 rfl) ?_
    refine va_get (D := (dC, dI)) (ci := 7) (v := .ref h_sizes) (C := RX7) (T := TX7) (N := 23) hx hb hts (fun _ hw => List.mem_cons_of_mem _ (List.mem_append_right _ hw)) hown hK hP 0 rfl rfl 5 (by decide) (hts (.fieldLink RX7 20 "PrefixIndexModel" "sizes" "[I") (List.mem_of_getElem? (i := 1) rfl)) (fun _ h9 => h9) rfl dX7_noPlace_13 ?_
    refine lv_iload_n hx hb dX7_noPlace_16 rfl (lv_at hl 1 rfl) ?_
    obtain ⟨hi_5, h⟩ := oin_e h
    refine va_iald hx hb hK hP 1 0 rfl rfl hi_5 dX7_noPlace_17 ?_
    refine lv_if_ge (tgt := 26) hx hb dX7_noPlace_18 (by decide) (fun c_6 => ?_) (fun c_6 => ?_)
    · have h := og_ite_t c_6 h
      refine lv_iload_n hx hb dX7_noPlace_26 rfl (lv_at hl 2 rfl) ?_
      refine lv_i2l (v := x1.toInt64) hx hb dX7_noPlace_27 rfl ?_
      refine lv_lconst (v := 0) hx hb dX7_noPlace_28 (by decide) ?_
      refine lv_aload_n hx hb dX7_noPlace_29 rfl (lv_at hl 0 rfl) ?_
      refine va_get (D := (dC, dI)) (ci := 7) (v := .ref h_sizes) (C := RX7) (T := TX7) (N := 23) hx hb hts (fun _ hw => List.mem_cons_of_mem _ (List.mem_append_right _ hw)) hown hK hP 0 rfl rfl 5 (by decide) (hts (.fieldLink RX7 20 "PrefixIndexModel" "sizes" "[I") (List.mem_of_getElem? (i := 1) rfl)) (fun _ h9 => h9) rfl dX7_noPlace_30 ?_
      refine lv_iload_n hx hb dX7_noPlace_33 rfl (lv_at hl 1 rfl) ?_
      obtain ⟨hi_7, h⟩ := oin_e h
      refine va_iald hx hb hK hP 1 0 rfl rfl hi_7 dX7_noPlace_34 ?_
      refine lv_iconst (v := 1) hx hb dX7_noPlace_35 (by decide) ?_
      refine lv_isub hx hb dX7_noPlace_36 ?_
      refine lv_i2l (v := ((sizes x0.toNatClampNeg) - (1 : Int32)).toInt64) hx hb dX7_noPlace_37 rfl ?_
      obtain ⟨u_8, hc_9, h⟩ := obd_e h
      refine Gci (wr := [(h_th, .inr (7, [v_th_row, v_th_undos, v_th_isKept, v_th_text, v_th_length, .ref h_sizes, v_th_values, v_th_asked, v_th_first, v_th_behind, v_th_readBits, v_th_clauses, v_th_doing, v_th_numbers, v_th_planWord, v_th_addWord, v_th_delWord, v_th_fillWord, v_th_probes, v_th_links, v_th_looks, v_th_found, v_th_isOver])), (h_sizes, .inl (cyI, 3, .inl sizes))]) (va_runS (As := [.long x1.toInt64, .long (0 : Int64), .long (((sizes x0.toNatClampNeg) - (1 : Int32)).toInt64)]) (rest := []) ⟨hx, hb, hml, hown, hts⟩ (tX7_in l dC dI cyI cyJ cyZ cyO H.size x1.toInt64 (0 : Int64) (((sizes x0.toNatClampNeg) - (1 : Int32)).toInt64) u_8 hc_9) (cwS 3 hts gX7_noPlace_X7_in rfl rfl rfl (by decide +kernel) ⟨Nat.le_of_ble_eq_true rfl, Nat.le_of_ble_eq_true rfl⟩) (GpreS hP hD hK hN [] rfl (by decide)) rfl rfl hl.1 rfl (lv_room (Nat.le_of_ble_eq_true rfl)) dX7_noPlace_38 ⟨Nat.zero_le _, Nat.zero_le _⟩) hP hD hS hA [] [0, 1] rfl rfl (by decide) (by decide) (fun H locs hP hD hS => ?_)
      have hP : va_P (dC, dI) vwCl [(h_th, .inr (7, [v_th_row, v_th_undos, v_th_isKept, v_th_text, v_th_length, .ref h_sizes, v_th_values, v_th_asked, v_th_first, v_th_behind, v_th_readBits, v_th_clauses, v_th_doing, v_th_numbers, v_th_planWord, v_th_addWord, v_th_delWord, v_th_fillWord, v_th_probes, v_th_links, v_th_looks, v_th_found, v_th_isOver])), (h_sizes, .inl (cyI, 3, .inl sizes))] H := hP
      have hD : va_D A [(h_th, .inr (7, [v_th_row, v_th_undos, v_th_isKept, v_th_text, v_th_length, .ref h_sizes, v_th_values, v_th_asked, v_th_first, v_th_behind, v_th_readBits, v_th_clauses, v_th_doing, v_th_numbers, v_th_planWord, v_th_addWord, v_th_delWord, v_th_fillWord, v_th_probes, v_th_links, v_th_looks, v_th_found, v_th_isOver])), (h_sizes, .inl (cyI, 3, .inl sizes))] := hD
      refine lv_if_eq (tgt := 48) hx hb dX7_noPlace_41 (by decide) (fun c_10 => ?_) (fun c_10 => ?_)
      · have h := og_ite_t c_10 h
        refine lv_bipush (v := (-12)) hx hb dX7_noPlace_48 (by decide) ?_
        obtain rfl := Option.some.inj h
        exact J _ _ _ hP hD hS (lv_sub hl [] rfl)
      · have h := og_ite_f c_10 h
        refine lv_iconst (v := 0) hx hb dX7_noPlace_44 (by decide) ?_
        refine lv_goto (tgt := 50) hx hb dX7_noPlace_45 (by decide) ?_
        obtain rfl := Option.some.inj h
        exact J _ _ _ hP hD hS (lv_sub hl [] rfl)
    · have h := og_ite_f c_6 h
      refine lv_bipush (v := (-11)) hx hb dX7_noPlace_21 (by decide) ?_
      refine lv_goto (tgt := 50) hx hb dX7_noPlace_23 (by decide) ?_
      obtain rfl := Option.some.inj h
      exact J _ _ _ hP hD hS (lv_sub hl [] rfl)
  · have h := og_ite_t c_3 h
    refine lv_bipush (v := (-2)) hx hb dX7_noPlace_7 (by decide) ?_
    refine lv_goto (tgt := 50) hx hb dX7_noPlace_9 (by decide) ?_
    obtain rfl := Option.some.inj h
    exact J _ _ _ hP hD hS (lv_sub hl [] rfl)

def fX7_set (sizes : (Nat → Int32)) (values : (Nat → Int64)) (x0 : Int32) (x1 : Int32) (x2 : Int32) : Option (Int32 × (Nat → Int64)) := obd (fX7_noPlace sizes x0 x1) fun u_1 => obd (if u_1 = 0 then (oin (((12 : Int32) * x0) + x1) 36 (some (vp_updL values (((12 : Int32) * x0) + x1).toNatClampNeg x2.toInt64))) else (some values)) fun w_4 => olet (if u_1 = 0 then ((1 : Int32)) else (u_1)) fun y_6 => some (y_6, w_4)

set_option maxHeartbeats 4000000 in
set_option maxRecDepth 100000 in
theorem tX7_set (l : Launch) (dC : Nat → ClassId) (dI : Nat → Nat → Nat) (cyI cyJ cyZ cyO : ClassId) (sz : Nat) (h_th h_sizes h_values : Nat) (v_th_row : Value) (v_th_undos : Value) (v_th_isKept : Value) (v_th_text : Value) (v_th_length : Value) (v_th_asked : Value) (v_th_first : Value) (v_th_behind : Value) (v_th_readBits : Value) (v_th_clauses : Value) (v_th_doing : Value) (v_th_numbers : Value) (v_th_planWord : Value) (v_th_addWord : Value) (v_th_delWord : Value) (v_th_fillWord : Value) (v_th_probes : Value) (v_th_links : Value) (v_th_looks : Value) (v_th_found : Value) (v_th_isOver : Value) (sizes : (Nat → Int32)) (values : (Nat → Int64)) (x0 : Int32) (x1 : Int32) (x2 : Int32) (u : Int32 × (Nat → Int64)) (hf : fX7_set sizes values x0 x1 x2 = some u) : Met l yX7_set wsX7_set ({ frames := 3, cells := 0, slots := 0, locals := 67 }) (va_Pc [.ref h_th, .int x0, .int x1, .int x2] (GP (dC, dI) (T4 cyI cyJ cyZ cyO) sz [(h_th, .inr (7, [v_th_row, v_th_undos, v_th_isKept, v_th_text, v_th_length, .ref h_sizes, .ref h_values, v_th_asked, v_th_first, v_th_behind, v_th_readBits, v_th_clauses, v_th_doing, v_th_numbers, v_th_planWord, v_th_addWord, v_th_delWord, v_th_fillWord, v_th_probes, v_th_links, v_th_looks, v_th_found, v_th_isOver])), (h_sizes, .inl (cyI, 3, .inl sizes)), (h_values, .inl (cyJ, 36, .inr (.inl values)))])) (va_Qi (fun (r : Int32) (_ : Unit) => r = u.1) (GB (dC, dI) [(h_th, .inr (7, [v_th_row, v_th_undos, v_th_isKept, v_th_text, v_th_length, .ref h_sizes, .ref h_values, v_th_asked, v_th_first, v_th_behind, v_th_readBits, v_th_clauses, v_th_doing, v_th_numbers, v_th_planWord, v_th_addWord, v_th_delWord, v_th_fillWord, v_th_probes, v_th_links, v_th_looks, v_th_found, v_th_isOver])), (h_sizes, .inl (cyI, 3, .inl sizes)), (h_values, .inl (cyJ, 36, .inr (.inl u.2)))] (va_A [(h_th, .inr (7, [v_th_row, v_th_undos, v_th_isKept, v_th_text, v_th_length, .ref h_sizes, .ref h_values, v_th_asked, v_th_first, v_th_behind, v_th_readBits, v_th_clauses, v_th_doing, v_th_numbers, v_th_planWord, v_th_addWord, v_th_delWord, v_th_fillWord, v_th_probes, v_th_links, v_th_looks, v_th_found, v_th_isOver])), (h_sizes, .inl (cyI, 3, .inl sizes)), (h_values, .inl (cyJ, 36, .inr (.inl values)))] sz)) (va_A [(h_th, .inr (7, [v_th_row, v_th_undos, v_th_isKept, v_th_text, v_th_length, .ref h_sizes, .ref h_values, v_th_asked, v_th_first, v_th_behind, v_th_readBits, v_th_clauses, v_th_doing, v_th_numbers, v_th_planWord, v_th_addWord, v_th_delWord, v_th_fillWord, v_th_probes, v_th_links, v_th_looks, v_th_found, v_th_isOver])), (h_sizes, .inl (cyI, 3, .inl sizes)), (h_values, .inl (cyJ, 36, .inr (.inl values)))] sz)) 0 0 (va_A [(h_th, .inr (7, [v_th_row, v_th_undos, v_th_isKept, v_th_text, v_th_length, .ref h_sizes, .ref h_values, v_th_asked, v_th_first, v_th_behind, v_th_readBits, v_th_clauses, v_th_doing, v_th_numbers, v_th_planWord, v_th_addWord, v_th_delWord, v_th_fillWord, v_th_probes, v_th_links, v_th_looks, v_th_found, v_th_isOver])), (h_sizes, .inl (cyI, 3, .inl sizes)), (h_values, .inl (cyJ, 36, .inr (.inl values)))] sz) := by
  refine GMetI (by decide) rfl (Nat.le_of_ble_eq_true rfl) ?_
  intro p e s m args below meth c A Q ls hx hb hml hts hown hN hK hA hret hP hD hS hl
  have h := hf
  clear hf
  unfold fX7_set at h
  have hown : s.vm.findClass RX7 = some m.cls := hown
  have hl : lv_has ls 5 [(0, .ref h_th), (1, .int x0), (2, .int x1), (3, .int x2)] := hl
  refine lv_aload_n hx hb dX7_set_0 rfl (lv_at hl 0 rfl) ?_
  refine lv_iload_n hx hb dX7_set_1 rfl (lv_at hl 1 rfl) ?_
  refine lv_iload_n hx hb dX7_set_2 rfl (lv_at hl 2 rfl) ?_
  obtain ⟨u_1, hc_2, h⟩ := obd_e h
  refine Gci (wr := [(h_values, .inl (cyJ, 36, .inr (.inl values)))]) (va_runV (As := [.int x0, .int x1]) (rest := []) ⟨hx, hb, hml, hown, hts⟩ (tX7_noPlace l dC dI cyI cyJ cyZ cyO s.heap.size h_th h_sizes v_th_row v_th_undos v_th_isKept v_th_text v_th_length (.ref h_values) v_th_asked v_th_first v_th_behind v_th_readBits v_th_clauses v_th_doing v_th_numbers v_th_planWord v_th_addWord v_th_delWord v_th_fillWord v_th_probes v_th_links v_th_looks v_th_found v_th_isOver sizes x0 x1 u_1 hc_2) (cwV 2 hts gX7_set_X7_noPlace rfl rfl rfl (by decide +kernel) ⟨Nat.le_of_ble_eq_true rfl, Nat.le_of_ble_eq_true rfl⟩) (GpreV hP hD hK hN [0, 1] rfl (by decide) 7 0 rfl rfl rfl) rfl rfl hl.1 rfl (lv_room (Nat.le_of_ble_eq_true rfl)) dX7_set_3 ⟨Nat.zero_le _, Nat.zero_le _⟩) hP hD hS hA [0, 1] [2] rfl rfl (by decide) (by decide) (fun H locs hP hD hS => ?_)
  have hP : va_P (dC, dI) vwCl [(h_values, .inl (cyJ, 36, .inr (.inl values))), (h_th, .inr (7, [v_th_row, v_th_undos, v_th_isKept, v_th_text, v_th_length, .ref h_sizes, .ref h_values, v_th_asked, v_th_first, v_th_behind, v_th_readBits, v_th_clauses, v_th_doing, v_th_numbers, v_th_planWord, v_th_addWord, v_th_delWord, v_th_fillWord, v_th_probes, v_th_links, v_th_looks, v_th_found, v_th_isOver])), (h_sizes, .inl (cyI, 3, .inl sizes))] H := hP
  have hD : va_D A [(h_values, .inl (cyJ, 36, .inr (.inl values))), (h_th, .inr (7, [v_th_row, v_th_undos, v_th_isKept, v_th_text, v_th_length, .ref h_sizes, .ref h_values, v_th_asked, v_th_first, v_th_behind, v_th_readBits, v_th_clauses, v_th_doing, v_th_numbers, v_th_planWord, v_th_addWord, v_th_delWord, v_th_fillWord, v_th_probes, v_th_links, v_th_looks, v_th_found, v_th_isOver])), (h_sizes, .inl (cyI, 3, .inl sizes))] := hD
  refine lv_istore (lv' := [(4, .int u_1), (0, .ref h_th), (1, .int x0), (2, .int x1), (3, .int x2)]) hx hb dX7_set_6 hl (by decide) rfl (fun ls hl => ?_)
  refine lv_iload hx hb dX7_set_8 (lv_at hl 0 rfl) ?_
  obtain ⟨w_4, hm_8, h⟩ := obd_e h
  have J : ∀ (H : Heap) (locs : List Loc) (ls : Array Slot), va_P (dC, dI) vwCl [(h_values, .inl (cyJ, 36, .inr (.inl w_4))), (h_th, .inr (7, [v_th_row, v_th_undos, v_th_isKept, v_th_text, v_th_length, .ref h_sizes, .ref h_values, v_th_asked, v_th_first, v_th_behind, v_th_readBits, v_th_clauses, v_th_doing, v_th_numbers, v_th_planWord, v_th_addWord, v_th_delWord, v_th_fillWord, v_th_probes, v_th_links, v_th_looks, v_th_found, v_th_isOver])), (h_sizes, .inl (cyI, 3, .inl sizes))] H → va_D A [(h_values, .inl (cyJ, 36, .inr (.inl w_4))), (h_th, .inr (7, [v_th_row, v_th_undos, v_th_isKept, v_th_text, v_th_length, .ref h_sizes, .ref h_values, v_th_asked, v_th_first, v_th_behind, v_th_readBits, v_th_clauses, v_th_doing, v_th_numbers, v_th_planWord, v_th_addWord, v_th_delWord, v_th_fillWord, v_th_probes, v_th_links, v_th_looks, v_th_found, v_th_isOver])), (h_sizes, .inl (cyI, 3, .inl sizes))] → va_S A s.heap H locs → lv_has ls 5 [(4, .int u_1)] → W p l e ({ frames := 3, cells := 0, slots := 0, locals := 67 }) s m args below meth c H locs 0 0 Q (F0 m 26 ls []) := by
    intro H locs ls hP hD hS hl
    refine lv_iload hx hb dX7_set_26 (lv_at hl 0 rfl) ?_
    obtain ⟨y_6, ey_6, h⟩ := olet_e h
    have J : ∀ (H : Heap) (locs : List Loc) (ls : Array Slot), va_P (dC, dI) vwCl [(h_values, .inl (cyJ, 36, .inr (.inl w_4))), (h_th, .inr (7, [v_th_row, v_th_undos, v_th_isKept, v_th_text, v_th_length, .ref h_sizes, .ref h_values, v_th_asked, v_th_first, v_th_behind, v_th_readBits, v_th_clauses, v_th_doing, v_th_numbers, v_th_planWord, v_th_addWord, v_th_delWord, v_th_fillWord, v_th_probes, v_th_links, v_th_looks, v_th_found, v_th_isOver])), (h_sizes, .inl (cyI, 3, .inl sizes))] H → va_D A [(h_values, .inl (cyJ, 36, .inr (.inl w_4))), (h_th, .inr (7, [v_th_row, v_th_undos, v_th_isKept, v_th_text, v_th_length, .ref h_sizes, .ref h_values, v_th_asked, v_th_first, v_th_behind, v_th_readBits, v_th_clauses, v_th_doing, v_th_numbers, v_th_planWord, v_th_addWord, v_th_delWord, v_th_fillWord, v_th_probes, v_th_links, v_th_looks, v_th_found, v_th_isOver])), (h_sizes, .inl (cyI, 3, .inl sizes))] → va_S A s.heap H locs → lv_has ls 5 [] → W p l e ({ frames := 3, cells := 0, slots := 0, locals := 67 }) s m args below meth c H locs 0 0 Q (F0 m 37 ls [.int y_6]) := by
      intro H locs ls hP hD hS hl
      obtain rfl := Option.some.inj h
      have hP := hP.sub (ws' := [(h_th, .inr (7, [v_th_row, v_th_undos, v_th_isKept, v_th_text, v_th_length, .ref h_sizes, .ref h_values, v_th_asked, v_th_first, v_th_behind, v_th_readBits, v_th_clauses, v_th_doing, v_th_numbers, v_th_planWord, v_th_addWord, v_th_delWord, v_th_fillWord, v_th_probes, v_th_links, v_th_looks, v_th_found, v_th_isOver])), (h_sizes, .inl (cyI, 3, .inl sizes)), (h_values, .inl (cyJ, 36, .inr (.inl w_4)))]) [1, 2, 0] rfl
      have hD := hD.sub (ws' := [(h_th, .inr (7, [v_th_row, v_th_undos, v_th_isKept, v_th_text, v_th_length, .ref h_sizes, .ref h_values, v_th_asked, v_th_first, v_th_behind, v_th_readBits, v_th_clauses, v_th_doing, v_th_numbers, v_th_planWord, v_th_addWord, v_th_delWord, v_th_fillWord, v_th_probes, v_th_links, v_th_looks, v_th_found, v_th_isOver])), (h_sizes, .inl (cyI, 3, .inl sizes)), (h_values, .inl (cyJ, 36, .inr (.inl w_4)))]) [1, 2, 0] (by decide) rfl
      exact hret _ _ _ _ dX7_set_37 hP hD hS
    clear h
    refine lv_if_ne (tgt := 35) hx hb dX7_set_28 (by decide) (fun c_5 => ?_) (fun c_5 => ?_)
    · refine lv_iload hx hb dX7_set_35 (lv_at hl 0 rfl) ?_
      rw [if_neg c_5] at ey_6
      subst ey_6
      exact J H locs _ hP hD hS (lv_sub hl [] rfl)
    · refine lv_iconst (v := 1) hx hb dX7_set_31 (by decide) ?_
      refine lv_goto (tgt := 37) hx hb dX7_set_32 (by decide) ?_
      rw [if_pos c_5] at ey_6
      subst ey_6
      exact J H locs _ hP hD hS (lv_sub hl [] rfl)
  replace h := hm_8
  refine lv_if_ne (tgt := 26) hx hb dX7_set_10 (by decide) (fun c_3 => ?_) (fun c_3 => ?_)
  · have h := og_ite_f c_3 h
    obtain rfl := Option.some.inj h
    exact J _ _ _ hP hD hS (lv_sub hl [0] rfl)
  · have h := og_ite_t c_3 h
    refine lv_aload_n hx hb dX7_set_13 rfl (lv_at hl 1 rfl) ?_
    refine va_get (D := (dC, dI)) (ci := 7) (v := .ref h_values) (C := RX7) (T := TX7) (N := 23) hx hb hts (fun _ hw => List.mem_cons_of_mem _ (List.mem_append_right _ hw)) hown hK hP 1 rfl rfl 6 (by decide) (hts (.fieldLink RX7 23 "PrefixIndexModel" "values" "[J") (List.mem_of_getElem? (i := 1) rfl)) (fun _ h9 => h9) rfl dX7_set_14 ?_
    refine lv_bipush (v := 12) hx hb dX7_set_17 (by decide) ?_
    refine lv_iload_n hx hb dX7_set_19 rfl (lv_at hl 2 rfl) ?_
    refine lv_imul hx hb dX7_set_20 ?_
    refine lv_iload_n hx hb dX7_set_21 rfl (lv_at hl 3 rfl) ?_
    refine lv_iadd hx hb dX7_set_22 ?_
    refine lv_iload_n hx hb dX7_set_23 rfl (lv_at hl 4 rfl) ?_
    refine lv_i2l (v := x2.toInt64) hx hb dX7_set_24 rfl ?_
    obtain ⟨hi_7, h⟩ := oin_e h
    refine va_last hx hb hK hP hD hS 0 1 rfl rfl hi_7 dX7_set_25 (fun H locs hP hD hS => ?_)
    have hP : va_P (dC, dI) vwCl [(h_values, .inl (cyJ, 36, .inr (.inl (vp_updL values (((12 : Int32) * x0) + x1).toNatClampNeg x2.toInt64)))), (h_th, .inr (7, [v_th_row, v_th_undos, v_th_isKept, v_th_text, v_th_length, .ref h_sizes, .ref h_values, v_th_asked, v_th_first, v_th_behind, v_th_readBits, v_th_clauses, v_th_doing, v_th_numbers, v_th_planWord, v_th_addWord, v_th_delWord, v_th_fillWord, v_th_probes, v_th_links, v_th_looks, v_th_found, v_th_isOver])), (h_sizes, .inl (cyI, 3, .inl sizes))] H := hP
    have hD : va_D A [(h_values, .inl (cyJ, 36, .inr (.inl (vp_updL values (((12 : Int32) * x0) + x1).toNatClampNeg x2.toInt64)))), (h_th, .inr (7, [v_th_row, v_th_undos, v_th_isKept, v_th_text, v_th_length, .ref h_sizes, .ref h_values, v_th_asked, v_th_first, v_th_behind, v_th_readBits, v_th_clauses, v_th_doing, v_th_numbers, v_th_planWord, v_th_addWord, v_th_delWord, v_th_fillWord, v_th_probes, v_th_links, v_th_looks, v_th_found, v_th_isOver])), (h_sizes, .inl (cyI, 3, .inl sizes))] := hD
    obtain rfl := Option.some.inj h
    exact J _ _ _ hP hD hS (lv_sub hl [0] rfl)

def fX7_plus (isOver : Int32) (x0 : Int64) (x1 : Int64) : Option (Int64 × Int32) := olet (if 0 ≤ (lg_cmp x0 (0 : Int64)) then ((0 : Int32)) else ((1 : Int32))) fun y_2 => olet (if 0 ≤ (lg_cmp x1 (0 : Int64)) then ((0 : Int32)) else ((1 : Int32))) fun y_4 => obd (if y_2 = y_4 then (olet (if 0 ≤ (lg_cmp (x0 + x1) (0 : Int64)) then ((0 : Int32)) else ((1 : Int32))) fun y_9 => olet (if 0 ≤ (lg_cmp x0 (0 : Int64)) then ((0 : Int32)) else ((1 : Int32))) fun y_11 => if y_9 = y_11 then (some (0 : Int32)) else (some (1 : Int32))) else (some (0 : Int32))) fun w_6 => obl w_6 (some ((x0 + x1), w_6))

set_option maxHeartbeats 4000000 in
set_option maxRecDepth 100000 in
theorem tX7_plus (l : Launch) (dC : Nat → ClassId) (dI : Nat → Nat → Nat) (cyI cyJ cyZ cyO : ClassId) (sz : Nat) (h_th : Nat) (v_th_row : Value) (v_th_undos : Value) (v_th_isKept : Value) (v_th_text : Value) (v_th_length : Value) (v_th_sizes : Value) (v_th_values : Value) (v_th_asked : Value) (v_th_first : Value) (v_th_behind : Value) (v_th_readBits : Value) (v_th_clauses : Value) (v_th_doing : Value) (v_th_numbers : Value) (v_th_planWord : Value) (v_th_addWord : Value) (v_th_delWord : Value) (v_th_fillWord : Value) (v_th_probes : Value) (v_th_links : Value) (v_th_looks : Value) (v_th_found : Value) (isOver : Int32) (x0 : Int64) (x1 : Int64) (u : Int64 × Int32) (hf : fX7_plus isOver x0 x1 = some u) : Met l yX7_plus wsX7_plus ({ frames := 0, cells := 0, slots := 0, locals := 0 }) (va_Pc [.ref h_th, .long x0, .long x1] (GP (dC, dI) (T4 cyI cyJ cyZ cyO) sz [(h_th, .inr (7, [v_th_row, v_th_undos, v_th_isKept, v_th_text, v_th_length, v_th_sizes, v_th_values, v_th_asked, v_th_first, v_th_behind, v_th_readBits, v_th_clauses, v_th_doing, v_th_numbers, v_th_planWord, v_th_addWord, v_th_delWord, v_th_fillWord, v_th_probes, v_th_links, v_th_looks, v_th_found, .int isOver]))])) (va_Ql (fun (r : Int64) (_ : Unit) => r = u.1) (GB (dC, dI) [(h_th, .inr (7, [v_th_row, v_th_undos, v_th_isKept, v_th_text, v_th_length, v_th_sizes, v_th_values, v_th_asked, v_th_first, v_th_behind, v_th_readBits, v_th_clauses, v_th_doing, v_th_numbers, v_th_planWord, v_th_addWord, v_th_delWord, v_th_fillWord, v_th_probes, v_th_links, v_th_looks, v_th_found, .int u.2]))] (va_A [(h_th, .inr (7, [v_th_row, v_th_undos, v_th_isKept, v_th_text, v_th_length, v_th_sizes, v_th_values, v_th_asked, v_th_first, v_th_behind, v_th_readBits, v_th_clauses, v_th_doing, v_th_numbers, v_th_planWord, v_th_addWord, v_th_delWord, v_th_fillWord, v_th_probes, v_th_links, v_th_looks, v_th_found, .int isOver]))] sz)) (va_A [(h_th, .inr (7, [v_th_row, v_th_undos, v_th_isKept, v_th_text, v_th_length, v_th_sizes, v_th_values, v_th_asked, v_th_first, v_th_behind, v_th_readBits, v_th_clauses, v_th_doing, v_th_numbers, v_th_planWord, v_th_addWord, v_th_delWord, v_th_fillWord, v_th_probes, v_th_links, v_th_looks, v_th_found, .int isOver]))] sz)) 0 0 (va_A [(h_th, .inr (7, [v_th_row, v_th_undos, v_th_isKept, v_th_text, v_th_length, v_th_sizes, v_th_values, v_th_asked, v_th_first, v_th_behind, v_th_readBits, v_th_clauses, v_th_doing, v_th_numbers, v_th_planWord, v_th_addWord, v_th_delWord, v_th_fillWord, v_th_probes, v_th_links, v_th_looks, v_th_found, .int isOver]))] sz) := by
  refine GMetL (by decide) rfl (Nat.le_of_ble_eq_true rfl) ?_
  intro p e s m args below meth c A Q ls hx hb hml hts hown hN hK hA hret hP hD hS hl
  have h := hf
  clear hf
  unfold fX7_plus at h
  have hown : s.vm.findClass RX7 = some m.cls := hown
  have hl : lv_has ls 7 [(0, .ref h_th), (1, .long x0), (3, .long x1)] := hl
  refine lv_lload_n hx hb dX7_plus_0 rfl (lv_at hl 1 rfl) ?_
  refine lv_lload_n hx hb dX7_plus_1 rfl (lv_at hl 2 rfl) ?_
  refine lv_ladd hx hb dX7_plus_2 ?_
  refine lv_lstore (lv' := [(5, .long (x0 + x1)), (0, .ref h_th), (1, .long x0), (3, .long x1)]) hx hb dX7_plus_3 hl (by decide) rfl (fun ls hl => ?_)
  refine lv_aload_n hx hb dX7_plus_5 rfl (lv_at hl 1 rfl) ?_
  refine lv_lload_n hx hb dX7_plus_6 rfl (lv_at hl 2 rfl) ?_
  refine lv_lconst (v := 0) hx hb dX7_plus_7 (by decide) ?_
  refine W.lcmp hx hb dX7_plus_8 ?_
  obtain ⟨y_2, ey_2, h⟩ := olet_e h
  have J : ∀ (H : Heap) (locs : List Loc) (ls : Array Slot), va_P (dC, dI) vwCl [(h_th, .inr (7, [v_th_row, v_th_undos, v_th_isKept, v_th_text, v_th_length, v_th_sizes, v_th_values, v_th_asked, v_th_first, v_th_behind, v_th_readBits, v_th_clauses, v_th_doing, v_th_numbers, v_th_planWord, v_th_addWord, v_th_delWord, v_th_fillWord, v_th_probes, v_th_links, v_th_looks, v_th_found, .int isOver]))] H → va_D A [(h_th, .inr (7, [v_th_row, v_th_undos, v_th_isKept, v_th_text, v_th_length, v_th_sizes, v_th_values, v_th_asked, v_th_first, v_th_behind, v_th_readBits, v_th_clauses, v_th_doing, v_th_numbers, v_th_planWord, v_th_addWord, v_th_delWord, v_th_fillWord, v_th_probes, v_th_links, v_th_looks, v_th_found, .int isOver]))] → va_S A s.heap H locs → lv_has ls 7 [(1, .long x0), (3, .long x1), (5, .long (x0 + x1))] → W p l e ({ frames := 0, cells := 0, slots := 0, locals := 0 }) s m args below meth c H locs 0 0 Q (F0 m 17 ls [.int y_2, .ref h_th]) := by
    intro H locs ls hP hD hS hl
    refine lv_lload_n hx hb dX7_plus_17 rfl (lv_at hl 1 rfl) ?_
    refine lv_lconst (v := 0) hx hb dX7_plus_18 (by decide) ?_
    refine W.lcmp hx hb dX7_plus_19 ?_
    obtain ⟨y_4, ey_4, h⟩ := olet_e h
    have J : ∀ (H : Heap) (locs : List Loc) (ls : Array Slot), va_P (dC, dI) vwCl [(h_th, .inr (7, [v_th_row, v_th_undos, v_th_isKept, v_th_text, v_th_length, v_th_sizes, v_th_values, v_th_asked, v_th_first, v_th_behind, v_th_readBits, v_th_clauses, v_th_doing, v_th_numbers, v_th_planWord, v_th_addWord, v_th_delWord, v_th_fillWord, v_th_probes, v_th_links, v_th_looks, v_th_found, .int isOver]))] H → va_D A [(h_th, .inr (7, [v_th_row, v_th_undos, v_th_isKept, v_th_text, v_th_length, v_th_sizes, v_th_values, v_th_asked, v_th_first, v_th_behind, v_th_readBits, v_th_clauses, v_th_doing, v_th_numbers, v_th_planWord, v_th_addWord, v_th_delWord, v_th_fillWord, v_th_probes, v_th_links, v_th_looks, v_th_found, .int isOver]))] → va_S A s.heap H locs → lv_has ls 7 [(1, .long x0), (5, .long (x0 + x1))] → W p l e ({ frames := 0, cells := 0, slots := 0, locals := 0 }) s m args below meth c H locs 0 0 Q (F0 m 28 ls [.int y_4, .int y_2, .ref h_th]) := by
      intro H locs ls hP hD hS hl
      obtain ⟨w_6, hm_13, h⟩ := obd_e h
      have J : ∀ (H : Heap) (locs : List Loc) (ls : Array Slot), va_P (dC, dI) vwCl [(h_th, .inr (7, [v_th_row, v_th_undos, v_th_isKept, v_th_text, v_th_length, v_th_sizes, v_th_values, v_th_asked, v_th_first, v_th_behind, v_th_readBits, v_th_clauses, v_th_doing, v_th_numbers, v_th_planWord, v_th_addWord, v_th_delWord, v_th_fillWord, v_th_probes, v_th_links, v_th_looks, v_th_found, .int isOver]))] H → va_D A [(h_th, .inr (7, [v_th_row, v_th_undos, v_th_isKept, v_th_text, v_th_length, v_th_sizes, v_th_values, v_th_asked, v_th_first, v_th_behind, v_th_readBits, v_th_clauses, v_th_doing, v_th_numbers, v_th_planWord, v_th_addWord, v_th_delWord, v_th_fillWord, v_th_probes, v_th_links, v_th_looks, v_th_found, .int isOver]))] → va_S A s.heap H locs → lv_has ls 7 [(5, .long (x0 + x1))] → W p l e ({ frames := 0, cells := 0, slots := 0, locals := 0 }) s m args below meth c H locs 0 0 Q (F0 m 62 ls [.int w_6, .ref h_th]) := by
        intro H locs ls hP hD hS hl
        obtain ⟨hz_7, h⟩ := obl_e h
        refine va_put (D := (dC, dI)) (ci := 7) (v := .int w_6) (ty := .boolean) (C := RX7) (T := TX7) (N := 23) hx hb hts (fun _ hw => List.mem_cons_of_mem _ (List.mem_append_right _ hw)) tyX7 tyX7_ok nmX7 hown hK hP hD hS 0 rfl rfl 22 (by decide) (hts (.fieldLink RX7 211 "PrefixIndexModel" "isOver" "Z") (List.mem_of_getElem? (i := 1) rfl)) (fun _ h9 => h9) rfl (by decide +kernel) (obl_n hz_7) (hz_7.elim (fun q => by rw [q]; rfl) (fun q => by rw [q]; rfl)) (Nat.le_of_ble_eq_true rfl) dX7_plus_62 (fun H locs hP hD hS => ?_)
        have hP : va_P (dC, dI) vwCl [(h_th, .inr (7, [v_th_row, v_th_undos, v_th_isKept, v_th_text, v_th_length, v_th_sizes, v_th_values, v_th_asked, v_th_first, v_th_behind, v_th_readBits, v_th_clauses, v_th_doing, v_th_numbers, v_th_planWord, v_th_addWord, v_th_delWord, v_th_fillWord, v_th_probes, v_th_links, v_th_looks, v_th_found, .int w_6]))] H := hP
        have hD : va_D A [(h_th, .inr (7, [v_th_row, v_th_undos, v_th_isKept, v_th_text, v_th_length, v_th_sizes, v_th_values, v_th_asked, v_th_first, v_th_behind, v_th_readBits, v_th_clauses, v_th_doing, v_th_numbers, v_th_planWord, v_th_addWord, v_th_delWord, v_th_fillWord, v_th_probes, v_th_links, v_th_looks, v_th_found, .int w_6]))] := hD
        refine lv_lload hx hb dX7_plus_65 (lv_at hl 0 rfl) ?_
        obtain rfl := Option.some.inj h
        exact hret _ _ _ _ dX7_plus_67 hP hD hS
      replace h := hm_13
      refine lv_icmp_ne (tgt := 61) hx hb dX7_plus_28 (by decide) (fun c_5 => ?_) (fun c_5 => ?_)
      · have h := og_ite_f c_5 h
        refine lv_iconst (v := 0) hx hb dX7_plus_61 (by decide) ?_
        obtain rfl := Option.some.inj h
        exact J _ _ _ hP hD hS (lv_sub hl [1] rfl)
      · have h := og_ite_t c_5 h
        refine lv_lload hx hb dX7_plus_31 (lv_at hl 1 rfl) ?_
        refine lv_lconst (v := 0) hx hb dX7_plus_33 (by decide) ?_
        refine W.lcmp hx hb dX7_plus_34 ?_
        obtain ⟨y_9, ey_9, h⟩ := olet_e h
        have J : ∀ (H : Heap) (locs : List Loc) (ls : Array Slot), va_P (dC, dI) vwCl [(h_th, .inr (7, [v_th_row, v_th_undos, v_th_isKept, v_th_text, v_th_length, v_th_sizes, v_th_values, v_th_asked, v_th_first, v_th_behind, v_th_readBits, v_th_clauses, v_th_doing, v_th_numbers, v_th_planWord, v_th_addWord, v_th_delWord, v_th_fillWord, v_th_probes, v_th_links, v_th_looks, v_th_found, .int isOver]))] H → va_D A [(h_th, .inr (7, [v_th_row, v_th_undos, v_th_isKept, v_th_text, v_th_length, v_th_sizes, v_th_values, v_th_asked, v_th_first, v_th_behind, v_th_readBits, v_th_clauses, v_th_doing, v_th_numbers, v_th_planWord, v_th_addWord, v_th_delWord, v_th_fillWord, v_th_probes, v_th_links, v_th_looks, v_th_found, .int isOver]))] → va_S A s.heap H locs → lv_has ls 7 [(1, .long x0), (5, .long (x0 + x1))] → W p l e ({ frames := 0, cells := 0, slots := 0, locals := 0 }) s m args below meth c H locs 0 0 Q (F0 m 43 ls [.int y_9, .ref h_th]) := by
          intro H locs ls hP hD hS hl
          refine lv_lload_n hx hb dX7_plus_43 rfl (lv_at hl 0 rfl) ?_
          refine lv_lconst (v := 0) hx hb dX7_plus_44 (by decide) ?_
          refine W.lcmp hx hb dX7_plus_45 ?_
          obtain ⟨y_11, ey_11, h⟩ := olet_e h
          have J : ∀ (H : Heap) (locs : List Loc) (ls : Array Slot), va_P (dC, dI) vwCl [(h_th, .inr (7, [v_th_row, v_th_undos, v_th_isKept, v_th_text, v_th_length, v_th_sizes, v_th_values, v_th_asked, v_th_first, v_th_behind, v_th_readBits, v_th_clauses, v_th_doing, v_th_numbers, v_th_planWord, v_th_addWord, v_th_delWord, v_th_fillWord, v_th_probes, v_th_links, v_th_looks, v_th_found, .int isOver]))] H → va_D A [(h_th, .inr (7, [v_th_row, v_th_undos, v_th_isKept, v_th_text, v_th_length, v_th_sizes, v_th_values, v_th_asked, v_th_first, v_th_behind, v_th_readBits, v_th_clauses, v_th_doing, v_th_numbers, v_th_planWord, v_th_addWord, v_th_delWord, v_th_fillWord, v_th_probes, v_th_links, v_th_looks, v_th_found, .int isOver]))] → va_S A s.heap H locs → lv_has ls 7 [(5, .long (x0 + x1))] → W p l e ({ frames := 0, cells := 0, slots := 0, locals := 0 }) s m args below meth c H locs 0 0 Q (F0 m 54 ls [.int y_11, .int y_9, .ref h_th]) := by
            intro H locs ls hP hD hS hl
            refine lv_icmp_eq (tgt := 61) hx hb dX7_plus_54 (by decide) (fun c_12 => ?_) (fun c_12 => ?_)
            · have h := og_ite_t c_12 h
              refine lv_iconst (v := 0) hx hb dX7_plus_61 (by decide) ?_
              obtain rfl := Option.some.inj h
              exact J _ _ _ hP hD hS hl
            · have h := og_ite_f c_12 h
              refine lv_iconst (v := 1) hx hb dX7_plus_57 (by decide) ?_
              refine lv_goto (tgt := 62) hx hb dX7_plus_58 (by decide) ?_
              obtain rfl := Option.some.inj h
              exact J _ _ _ hP hD hS hl
          clear h
          refine lv_if_ge (tgt := 53) hx hb dX7_plus_46 (by decide) (fun c_10 => ?_) (fun c_10 => ?_)
          · refine lv_iconst (v := 0) hx hb dX7_plus_53 (by decide) ?_
            rw [if_pos c_10] at ey_11
            subst ey_11
            exact J H locs _ hP hD hS (lv_sub hl [1] rfl)
          · refine lv_iconst (v := 1) hx hb dX7_plus_49 (by decide) ?_
            refine lv_goto (tgt := 54) hx hb dX7_plus_50 (by decide) ?_
            rw [if_neg c_10] at ey_11
            subst ey_11
            exact J H locs _ hP hD hS (lv_sub hl [1] rfl)
        clear h
        refine lv_if_ge (tgt := 42) hx hb dX7_plus_35 (by decide) (fun c_8 => ?_) (fun c_8 => ?_)
        · refine lv_iconst (v := 0) hx hb dX7_plus_42 (by decide) ?_
          rw [if_pos c_8] at ey_9
          subst ey_9
          exact J H locs _ hP hD hS hl
        · refine lv_iconst (v := 1) hx hb dX7_plus_38 (by decide) ?_
          refine lv_goto (tgt := 43) hx hb dX7_plus_39 (by decide) ?_
          rw [if_neg c_8] at ey_9
          subst ey_9
          exact J H locs _ hP hD hS hl
    clear h
    refine lv_if_ge (tgt := 27) hx hb dX7_plus_20 (by decide) (fun c_3 => ?_) (fun c_3 => ?_)
    · refine lv_iconst (v := 0) hx hb dX7_plus_27 (by decide) ?_
      rw [if_pos c_3] at ey_4
      subst ey_4
      exact J H locs _ hP hD hS (lv_sub hl [0, 2] rfl)
    · refine lv_iconst (v := 1) hx hb dX7_plus_23 (by decide) ?_
      refine lv_goto (tgt := 28) hx hb dX7_plus_24 (by decide) ?_
      rw [if_neg c_3] at ey_4
      subst ey_4
      exact J H locs _ hP hD hS (lv_sub hl [0, 2] rfl)
  clear h
  refine lv_if_ge (tgt := 16) hx hb dX7_plus_9 (by decide) (fun c_1 => ?_) (fun c_1 => ?_)
  · refine lv_iconst (v := 0) hx hb dX7_plus_16 (by decide) ?_
    rw [if_pos c_1] at ey_2
    subst ey_2
    exact J _ _ _ hP hD hS (lv_sub hl [2, 3, 0] rfl)
  · refine lv_iconst (v := 1) hx hb dX7_plus_12 (by decide) ?_
    refine lv_goto (tgt := 17) hx hb dX7_plus_13 (by decide) ?_
    rw [if_neg c_1] at ey_2
    subst ey_2
    exact J _ _ _ hP hD hS (lv_sub hl [2, 3, 0] rfl)

def fX7_times (isOver : Int32) (x0 : Int64) (x1 : Int64) : Option (Int64 × Int32) := obd (if (lg_cmp x1 (0 : Int64)) = 0 then (if 0 ≤ (lg_cmp x0 (0 : Int64)) then (some (0 : Int32)) else (if 0 ≤ (lg_cmp x1 (0 : Int64)) then (some (0 : Int32)) else (if 0 ≤ (lg_cmp (x0 * x1) (0 : Int64)) then (some (0 : Int32)) else (some (1 : Int32))))) else (onzl x1 (if (lg_cmp ((x0 * x1) / x1) x0) = 0 then (if 0 ≤ (lg_cmp x0 (0 : Int64)) then (some (0 : Int32)) else (if 0 ≤ (lg_cmp x1 (0 : Int64)) then (some (0 : Int32)) else (if 0 ≤ (lg_cmp (x0 * x1) (0 : Int64)) then (some (0 : Int32)) else (some (1 : Int32))))) else (some (1 : Int32))))) fun w_2 => obl w_2 (some ((x0 * x1), w_2))

set_option maxHeartbeats 4000000 in
set_option maxRecDepth 100000 in
theorem tX7_times (l : Launch) (dC : Nat → ClassId) (dI : Nat → Nat → Nat) (cyI cyJ cyZ cyO : ClassId) (sz : Nat) (h_th : Nat) (v_th_row : Value) (v_th_undos : Value) (v_th_isKept : Value) (v_th_text : Value) (v_th_length : Value) (v_th_sizes : Value) (v_th_values : Value) (v_th_asked : Value) (v_th_first : Value) (v_th_behind : Value) (v_th_readBits : Value) (v_th_clauses : Value) (v_th_doing : Value) (v_th_numbers : Value) (v_th_planWord : Value) (v_th_addWord : Value) (v_th_delWord : Value) (v_th_fillWord : Value) (v_th_probes : Value) (v_th_links : Value) (v_th_looks : Value) (v_th_found : Value) (isOver : Int32) (x0 : Int64) (x1 : Int64) (u : Int64 × Int32) (hf : fX7_times isOver x0 x1 = some u) : Met l yX7_times wsX7_times ({ frames := 0, cells := 0, slots := 0, locals := 0 }) (va_Pc [.ref h_th, .long x0, .long x1] (GP (dC, dI) (T4 cyI cyJ cyZ cyO) sz [(h_th, .inr (7, [v_th_row, v_th_undos, v_th_isKept, v_th_text, v_th_length, v_th_sizes, v_th_values, v_th_asked, v_th_first, v_th_behind, v_th_readBits, v_th_clauses, v_th_doing, v_th_numbers, v_th_planWord, v_th_addWord, v_th_delWord, v_th_fillWord, v_th_probes, v_th_links, v_th_looks, v_th_found, .int isOver]))])) (va_Ql (fun (r : Int64) (_ : Unit) => r = u.1) (GB (dC, dI) [(h_th, .inr (7, [v_th_row, v_th_undos, v_th_isKept, v_th_text, v_th_length, v_th_sizes, v_th_values, v_th_asked, v_th_first, v_th_behind, v_th_readBits, v_th_clauses, v_th_doing, v_th_numbers, v_th_planWord, v_th_addWord, v_th_delWord, v_th_fillWord, v_th_probes, v_th_links, v_th_looks, v_th_found, .int u.2]))] (va_A [(h_th, .inr (7, [v_th_row, v_th_undos, v_th_isKept, v_th_text, v_th_length, v_th_sizes, v_th_values, v_th_asked, v_th_first, v_th_behind, v_th_readBits, v_th_clauses, v_th_doing, v_th_numbers, v_th_planWord, v_th_addWord, v_th_delWord, v_th_fillWord, v_th_probes, v_th_links, v_th_looks, v_th_found, .int isOver]))] sz)) (va_A [(h_th, .inr (7, [v_th_row, v_th_undos, v_th_isKept, v_th_text, v_th_length, v_th_sizes, v_th_values, v_th_asked, v_th_first, v_th_behind, v_th_readBits, v_th_clauses, v_th_doing, v_th_numbers, v_th_planWord, v_th_addWord, v_th_delWord, v_th_fillWord, v_th_probes, v_th_links, v_th_looks, v_th_found, .int isOver]))] sz)) 0 0 (va_A [(h_th, .inr (7, [v_th_row, v_th_undos, v_th_isKept, v_th_text, v_th_length, v_th_sizes, v_th_values, v_th_asked, v_th_first, v_th_behind, v_th_readBits, v_th_clauses, v_th_doing, v_th_numbers, v_th_planWord, v_th_addWord, v_th_delWord, v_th_fillWord, v_th_probes, v_th_links, v_th_looks, v_th_found, .int isOver]))] sz) := by
  refine GMetL (by decide) rfl (Nat.le_of_ble_eq_true rfl) ?_
  intro p e s m args below meth c A Q ls hx hb hml hts hown hN hK hA hret hP hD hS hl
  have h := hf
  clear hf
  unfold fX7_times at h
  have hown : s.vm.findClass RX7 = some m.cls := hown
  have hl : lv_has ls 7 [(0, .ref h_th), (1, .long x0), (3, .long x1)] := hl
  refine lv_lload_n hx hb dX7_times_0 rfl (lv_at hl 1 rfl) ?_
  refine lv_lload_n hx hb dX7_times_1 rfl (lv_at hl 2 rfl) ?_
  refine lv_lmul hx hb dX7_times_2 ?_
  refine lv_lstore (lv' := [(5, .long (x0 * x1)), (0, .ref h_th), (1, .long x0), (3, .long x1)]) hx hb dX7_times_3 hl (by decide) rfl (fun ls hl => ?_)
  refine lv_aload_n hx hb dX7_times_5 rfl (lv_at hl 1 rfl) ?_
  refine lv_lload_n hx hb dX7_times_6 rfl (lv_at hl 3 rfl) ?_
  refine lv_lconst (v := 0) hx hb dX7_times_7 (by decide) ?_
  refine W.lcmp hx hb dX7_times_8 ?_
  obtain ⟨w_2, hm_12, h⟩ := obd_e h
  have J : ∀ (H : Heap) (locs : List Loc) (ls : Array Slot), va_P (dC, dI) vwCl [(h_th, .inr (7, [v_th_row, v_th_undos, v_th_isKept, v_th_text, v_th_length, v_th_sizes, v_th_values, v_th_asked, v_th_first, v_th_behind, v_th_readBits, v_th_clauses, v_th_doing, v_th_numbers, v_th_planWord, v_th_addWord, v_th_delWord, v_th_fillWord, v_th_probes, v_th_links, v_th_looks, v_th_found, .int isOver]))] H → va_D A [(h_th, .inr (7, [v_th_row, v_th_undos, v_th_isKept, v_th_text, v_th_length, v_th_sizes, v_th_values, v_th_asked, v_th_first, v_th_behind, v_th_readBits, v_th_clauses, v_th_doing, v_th_numbers, v_th_planWord, v_th_addWord, v_th_delWord, v_th_fillWord, v_th_probes, v_th_links, v_th_looks, v_th_found, .int isOver]))] → va_S A s.heap H locs → lv_has ls 7 [(5, .long (x0 * x1))] → W p l e ({ frames := 0, cells := 0, slots := 0, locals := 0 }) s m args below meth c H locs 0 0 Q (F0 m 45 ls [.int w_2, .ref h_th]) := by
    intro H locs ls hP hD hS hl
    obtain ⟨hz_3, h⟩ := obl_e h
    refine va_put (D := (dC, dI)) (ci := 7) (v := .int w_2) (ty := .boolean) (C := RX7) (T := TX7) (N := 23) hx hb hts (fun _ hw => List.mem_cons_of_mem _ (List.mem_append_right _ hw)) tyX7 tyX7_ok nmX7 hown hK hP hD hS 0 rfl rfl 22 (by decide) (hts (.fieldLink RX7 211 "PrefixIndexModel" "isOver" "Z") (List.mem_of_getElem? (i := 1) rfl)) (fun _ h9 => h9) rfl (by decide +kernel) (obl_n hz_3) (hz_3.elim (fun q => by rw [q]; rfl) (fun q => by rw [q]; rfl)) (Nat.le_of_ble_eq_true rfl) dX7_times_45 (fun H locs hP hD hS => ?_)
    have hP : va_P (dC, dI) vwCl [(h_th, .inr (7, [v_th_row, v_th_undos, v_th_isKept, v_th_text, v_th_length, v_th_sizes, v_th_values, v_th_asked, v_th_first, v_th_behind, v_th_readBits, v_th_clauses, v_th_doing, v_th_numbers, v_th_planWord, v_th_addWord, v_th_delWord, v_th_fillWord, v_th_probes, v_th_links, v_th_looks, v_th_found, .int w_2]))] H := hP
    have hD : va_D A [(h_th, .inr (7, [v_th_row, v_th_undos, v_th_isKept, v_th_text, v_th_length, v_th_sizes, v_th_values, v_th_asked, v_th_first, v_th_behind, v_th_readBits, v_th_clauses, v_th_doing, v_th_numbers, v_th_planWord, v_th_addWord, v_th_delWord, v_th_fillWord, v_th_probes, v_th_links, v_th_looks, v_th_found, .int w_2]))] := hD
    refine lv_lload hx hb dX7_times_48 (lv_at hl 0 rfl) ?_
    obtain rfl := Option.some.inj h
    exact hret _ _ _ _ dX7_times_50 hP hD hS
  replace h := hm_12
  refine lv_if_eq (tgt := 21) hx hb dX7_times_9 (by decide) (fun c_1 => ?_) (fun c_1 => ?_)
  · have h := og_ite_t c_1 h
    refine lv_lload_n hx hb dX7_times_21 rfl (lv_at hl 2 rfl) ?_
    refine lv_lconst (v := 0) hx hb dX7_times_22 (by decide) ?_
    refine W.lcmp hx hb dX7_times_23 ?_
    refine lv_if_ge (tgt := 44) hx hb dX7_times_24 (by decide) (fun c_4 => ?_) (fun c_4 => ?_)
    · have h := og_ite_t c_4 h
      refine lv_iconst (v := 0) hx hb dX7_times_44 (by decide) ?_
      obtain rfl := Option.some.inj h
      exact J _ _ _ hP hD hS (lv_sub hl [0] rfl)
    · have h := og_ite_f c_4 h
      refine lv_lload_n hx hb dX7_times_27 rfl (lv_at hl 3 rfl) ?_
      refine lv_lconst (v := 0) hx hb dX7_times_28 (by decide) ?_
      refine W.lcmp hx hb dX7_times_29 ?_
      refine lv_if_ge (tgt := 44) hx hb dX7_times_30 (by decide) (fun c_5 => ?_) (fun c_5 => ?_)
      · have h := og_ite_t c_5 h
        refine lv_iconst (v := 0) hx hb dX7_times_44 (by decide) ?_
        obtain rfl := Option.some.inj h
        exact J _ _ _ hP hD hS (lv_sub hl [0] rfl)
      · have h := og_ite_f c_5 h
        refine lv_lload hx hb dX7_times_33 (lv_at hl 0 rfl) ?_
        refine lv_lconst (v := 0) hx hb dX7_times_35 (by decide) ?_
        refine W.lcmp hx hb dX7_times_36 ?_
        refine lv_if_ge (tgt := 44) hx hb dX7_times_37 (by decide) (fun c_6 => ?_) (fun c_6 => ?_)
        · have h := og_ite_t c_6 h
          refine lv_iconst (v := 0) hx hb dX7_times_44 (by decide) ?_
          obtain rfl := Option.some.inj h
          exact J _ _ _ hP hD hS (lv_sub hl [0] rfl)
        · have h := og_ite_f c_6 h
          refine lv_iconst (v := 1) hx hb dX7_times_40 (by decide) ?_
          refine lv_goto (tgt := 45) hx hb dX7_times_41 (by decide) ?_
          obtain rfl := Option.some.inj h
          exact J _ _ _ hP hD hS (lv_sub hl [0] rfl)
  · have h := og_ite_f c_1 h
    refine lv_lload hx hb dX7_times_12 (lv_at hl 0 rfl) ?_
    refine lv_lload_n hx hb dX7_times_14 rfl (lv_at hl 3 rfl) ?_
    obtain ⟨hz_7, h⟩ := onzl_e h
    refine lv_ldiv hx hb dX7_times_15 hz_7 ?_
    refine lv_lload_n hx hb dX7_times_16 rfl (lv_at hl 2 rfl) ?_
    refine W.lcmp hx hb dX7_times_17 ?_
    refine lv_if_ne (tgt := 40) hx hb dX7_times_18 (by decide) (fun c_8 => ?_) (fun c_8 => ?_)
    · have h := og_ite_f c_8 h
      refine lv_iconst (v := 1) hx hb dX7_times_40 (by decide) ?_
      refine lv_goto (tgt := 45) hx hb dX7_times_41 (by decide) ?_
      obtain rfl := Option.some.inj h
      exact J _ _ _ hP hD hS (lv_sub hl [0] rfl)
    · have h := og_ite_t c_8 h
      refine lv_lload_n hx hb dX7_times_21 rfl (lv_at hl 2 rfl) ?_
      refine lv_lconst (v := 0) hx hb dX7_times_22 (by decide) ?_
      refine W.lcmp hx hb dX7_times_23 ?_
      refine lv_if_ge (tgt := 44) hx hb dX7_times_24 (by decide) (fun c_9 => ?_) (fun c_9 => ?_)
      · have h := og_ite_t c_9 h
        refine lv_iconst (v := 0) hx hb dX7_times_44 (by decide) ?_
        obtain rfl := Option.some.inj h
        exact J _ _ _ hP hD hS (lv_sub hl [0] rfl)
      · have h := og_ite_f c_9 h
        refine lv_lload_n hx hb dX7_times_27 rfl (lv_at hl 3 rfl) ?_
        refine lv_lconst (v := 0) hx hb dX7_times_28 (by decide) ?_
        refine W.lcmp hx hb dX7_times_29 ?_
        refine lv_if_ge (tgt := 44) hx hb dX7_times_30 (by decide) (fun c_10 => ?_) (fun c_10 => ?_)
        · have h := og_ite_t c_10 h
          refine lv_iconst (v := 0) hx hb dX7_times_44 (by decide) ?_
          obtain rfl := Option.some.inj h
          exact J _ _ _ hP hD hS (lv_sub hl [0] rfl)
        · have h := og_ite_f c_10 h
          refine lv_lload hx hb dX7_times_33 (lv_at hl 0 rfl) ?_
          refine lv_lconst (v := 0) hx hb dX7_times_35 (by decide) ?_
          refine W.lcmp hx hb dX7_times_36 ?_
          refine lv_if_ge (tgt := 44) hx hb dX7_times_37 (by decide) (fun c_11 => ?_) (fun c_11 => ?_)
          · have h := og_ite_t c_11 h
            refine lv_iconst (v := 0) hx hb dX7_times_44 (by decide) ?_
            obtain rfl := Option.some.inj h
            exact J _ _ _ hP hD hS (lv_sub hl [0] rfl)
          · have h := og_ite_f c_11 h
            refine lv_iconst (v := 1) hx hb dX7_times_40 (by decide) ?_
            refine lv_goto (tgt := 45) hx hb dX7_times_41 (by decide) ?_
            obtain rfl := Option.some.inj h
            exact J _ _ _ hP hD hS (lv_sub hl [0] rfl)

def fX7_work (asked : Int64) (isOver : Int32) (sizes : (Nat → Int32)) (values : (Nat → Int64)) (x0 : Int32) (x1 : Int32) (x2 : Int32) (x3 : Int32) : Option (Int32 × Int64 × Int32 × (Nat → Int64)) := obd (fX7_isRow x0) fun u_1 => if u_1 = 0 then (some ((-2 : Int32), asked, isOver, values)) else (obd (fX7_in x2.toInt64 (0 : Int64) (2 : Int64)) fun u_4 => if u_4 = 0 then (some ((-3 : Int32), asked, isOver, values)) else (obd (fX7_noPlace sizes x0 x1) fun u_7 => if u_7 = 0 then (oin (((12 : Int32) * x0) + x1) 36 (obd (if x2 = (2 : Int32) then (obd (fX7_times isOver (values (((12 : Int32) * x0) + x1).toNatClampNeg) x3.toInt64) fun u_19 => some (u_19.1, u_19.2)) else (olet (if x2 = 0 then (x3.toInt64) else ((-x3.toInt64))) fun y_16 => obd (fX7_plus isOver (values (((12 : Int32) * x0) + x1).toNatClampNeg) y_16) fun u_17 => some (u_17.1, u_17.2))) fun w_12 => if w_12.2 = 0 then (oin (((12 : Int32) * x0) + x1) 36 (some ((1 : Int32), w_12.1, w_12.2, vp_updL values (((12 : Int32) * x0) + x1).toNatClampNeg w_12.1))) else (some ((-14 : Int32), asked, w_12.2, values)))) else (some (u_7, asked, isOver, values))))

set_option maxHeartbeats 4000000 in
set_option maxRecDepth 100000 in
theorem tX7_work (l : Launch) (dC : Nat → ClassId) (dI : Nat → Nat → Nat) (cyI cyJ cyZ cyO : ClassId) (sz : Nat) (h_th h_sizes h_values : Nat) (v_th_row : Value) (v_th_undos : Value) (v_th_isKept : Value) (v_th_text : Value) (v_th_length : Value) (v_th_first : Value) (v_th_behind : Value) (v_th_readBits : Value) (v_th_clauses : Value) (v_th_doing : Value) (v_th_numbers : Value) (v_th_planWord : Value) (v_th_addWord : Value) (v_th_delWord : Value) (v_th_fillWord : Value) (v_th_probes : Value) (v_th_links : Value) (v_th_looks : Value) (v_th_found : Value) (asked : Int64) (isOver : Int32) (sizes : (Nat → Int32)) (values : (Nat → Int64)) (x0 : Int32) (x1 : Int32) (x2 : Int32) (x3 : Int32) (u : Int32 × Int64 × Int32 × (Nat → Int64)) (hf : fX7_work asked isOver sizes values x0 x1 x2 x3 = some u) : Met l yX7_work wsX7_work ({ frames := 3, cells := 0, slots := 0, locals := 67 }) (va_Pc [.ref h_th, .int x0, .int x1, .int x2, .int x3] (GP (dC, dI) (T4 cyI cyJ cyZ cyO) sz [(h_th, .inr (7, [v_th_row, v_th_undos, v_th_isKept, v_th_text, v_th_length, .ref h_sizes, .ref h_values, .long asked, v_th_first, v_th_behind, v_th_readBits, v_th_clauses, v_th_doing, v_th_numbers, v_th_planWord, v_th_addWord, v_th_delWord, v_th_fillWord, v_th_probes, v_th_links, v_th_looks, v_th_found, .int isOver])), (h_sizes, .inl (cyI, 3, .inl sizes)), (h_values, .inl (cyJ, 36, .inr (.inl values)))])) (va_Qi (fun (r : Int32) (_ : Unit) => r = u.1) (GB (dC, dI) [(h_th, .inr (7, [v_th_row, v_th_undos, v_th_isKept, v_th_text, v_th_length, .ref h_sizes, .ref h_values, .long u.2.1, v_th_first, v_th_behind, v_th_readBits, v_th_clauses, v_th_doing, v_th_numbers, v_th_planWord, v_th_addWord, v_th_delWord, v_th_fillWord, v_th_probes, v_th_links, v_th_looks, v_th_found, .int u.2.2.1])), (h_sizes, .inl (cyI, 3, .inl sizes)), (h_values, .inl (cyJ, 36, .inr (.inl u.2.2.2)))] (va_A [(h_th, .inr (7, [v_th_row, v_th_undos, v_th_isKept, v_th_text, v_th_length, .ref h_sizes, .ref h_values, .long asked, v_th_first, v_th_behind, v_th_readBits, v_th_clauses, v_th_doing, v_th_numbers, v_th_planWord, v_th_addWord, v_th_delWord, v_th_fillWord, v_th_probes, v_th_links, v_th_looks, v_th_found, .int isOver])), (h_sizes, .inl (cyI, 3, .inl sizes)), (h_values, .inl (cyJ, 36, .inr (.inl values)))] sz)) (va_A [(h_th, .inr (7, [v_th_row, v_th_undos, v_th_isKept, v_th_text, v_th_length, .ref h_sizes, .ref h_values, .long asked, v_th_first, v_th_behind, v_th_readBits, v_th_clauses, v_th_doing, v_th_numbers, v_th_planWord, v_th_addWord, v_th_delWord, v_th_fillWord, v_th_probes, v_th_links, v_th_looks, v_th_found, .int isOver])), (h_sizes, .inl (cyI, 3, .inl sizes)), (h_values, .inl (cyJ, 36, .inr (.inl values)))] sz)) 0 0 (va_A [(h_th, .inr (7, [v_th_row, v_th_undos, v_th_isKept, v_th_text, v_th_length, .ref h_sizes, .ref h_values, .long asked, v_th_first, v_th_behind, v_th_readBits, v_th_clauses, v_th_doing, v_th_numbers, v_th_planWord, v_th_addWord, v_th_delWord, v_th_fillWord, v_th_probes, v_th_links, v_th_looks, v_th_found, .int isOver])), (h_sizes, .inl (cyI, 3, .inl sizes)), (h_values, .inl (cyJ, 36, .inr (.inl values)))] sz) := by
  refine GMetI (by decide) rfl (Nat.le_of_ble_eq_true rfl) ?_
  intro p e s m args below meth c A Q ls hx hb hml hts hown hN hK hA hret hP hD hS hl
  have h := hf
  clear hf
  unfold fX7_work at h
  have hown : s.vm.findClass RX7 = some m.cls := hown
  have hl : lv_has ls 10 [(0, .ref h_th), (1, .int x0), (2, .int x1), (3, .int x2), (4, .int x3)] := hl
  refine lv_iload_n hx hb dX7_work_0 rfl (lv_at hl 1 rfl) ?_
  obtain ⟨u_1, hc_2, h⟩ := obd_e h
  refine Gci (wr := [(h_th, .inr (7, [v_th_row, v_th_undos, v_th_isKept, v_th_text, v_th_length, .ref h_sizes, .ref h_values, .long asked, v_th_first, v_th_behind, v_th_readBits, v_th_clauses, v_th_doing, v_th_numbers, v_th_planWord, v_th_addWord, v_th_delWord, v_th_fillWord, v_th_probes, v_th_links, v_th_looks, v_th_found, .int isOver])), (h_sizes, .inl (cyI, 3, .inl sizes)), (h_values, .inl (cyJ, 36, .inr (.inl values)))]) (va_runS (As := [.int x0]) (rest := []) ⟨hx, hb, hml, hown, hts⟩ (tX7_isRow l dC dI cyI cyJ cyZ cyO s.heap.size x0 u_1 hc_2) (cwS 1 hts gX7_work_X7_isRow rfl rfl rfl (by decide +kernel) ⟨Nat.le_of_ble_eq_true rfl, Nat.le_of_ble_eq_true rfl⟩) (GpreS hP hD hK hN [] rfl (by decide)) rfl rfl hl.1 rfl (lv_room (Nat.le_of_ble_eq_true rfl)) dX7_work_1 ⟨Nat.zero_le _, Nat.zero_le _⟩) hP hD hS hA [] [0, 1, 2] rfl rfl (by decide) (by decide) (fun H locs hP hD hS => ?_)
  have hP : va_P (dC, dI) vwCl [(h_th, .inr (7, [v_th_row, v_th_undos, v_th_isKept, v_th_text, v_th_length, .ref h_sizes, .ref h_values, .long asked, v_th_first, v_th_behind, v_th_readBits, v_th_clauses, v_th_doing, v_th_numbers, v_th_planWord, v_th_addWord, v_th_delWord, v_th_fillWord, v_th_probes, v_th_links, v_th_looks, v_th_found, .int isOver])), (h_sizes, .inl (cyI, 3, .inl sizes)), (h_values, .inl (cyJ, 36, .inr (.inl values)))] H := hP
  have hD : va_D A [(h_th, .inr (7, [v_th_row, v_th_undos, v_th_isKept, v_th_text, v_th_length, .ref h_sizes, .ref h_values, .long asked, v_th_first, v_th_behind, v_th_readBits, v_th_clauses, v_th_doing, v_th_numbers, v_th_planWord, v_th_addWord, v_th_delWord, v_th_fillWord, v_th_probes, v_th_links, v_th_looks, v_th_found, .int isOver])), (h_sizes, .inl (cyI, 3, .inl sizes)), (h_values, .inl (cyJ, 36, .inr (.inl values)))] := hD
  refine lv_if_ne (tgt := 10) hx hb dX7_work_4 (by decide) (fun c_3 => ?_) (fun c_3 => ?_)
  · have h := og_ite_f c_3 h
    refine lv_iload_n hx hb dX7_work_10 rfl (lv_at hl 3 rfl) ?_
    refine lv_i2l (v := x2.toInt64) hx hb dX7_work_11 rfl ?_
    refine lv_lconst (v := 0) hx hb dX7_work_12 (by decide) ?_
    refine lv_ldc2 hx hb hown (hts (.constantLong RX7 193 (2)) (List.mem_of_getElem? (i := 1) rfl)) dX7_work_13 ?_
    obtain ⟨u_4, hc_5, h⟩ := obd_e h
    refine Gci (wr := [(h_th, .inr (7, [v_th_row, v_th_undos, v_th_isKept, v_th_text, v_th_length, .ref h_sizes, .ref h_values, .long asked, v_th_first, v_th_behind, v_th_readBits, v_th_clauses, v_th_doing, v_th_numbers, v_th_planWord, v_th_addWord, v_th_delWord, v_th_fillWord, v_th_probes, v_th_links, v_th_looks, v_th_found, .int isOver])), (h_sizes, .inl (cyI, 3, .inl sizes)), (h_values, .inl (cyJ, 36, .inr (.inl values)))]) (va_runS (As := [.long x2.toInt64, .long (0 : Int64), .long (2 : Int64)]) (rest := []) ⟨hx, hb, hml, hown, hts⟩ (tX7_in l dC dI cyI cyJ cyZ cyO H.size x2.toInt64 (0 : Int64) (2 : Int64) u_4 hc_5) (cwS 3 hts gX7_work_X7_in rfl rfl rfl (by decide +kernel) ⟨Nat.le_of_ble_eq_true rfl, Nat.le_of_ble_eq_true rfl⟩) (GpreS hP hD hK hN [] rfl (by decide)) rfl rfl hl.1 rfl (lv_room (Nat.le_of_ble_eq_true rfl)) dX7_work_16 ⟨Nat.zero_le _, Nat.zero_le _⟩) hP hD hS hA [] [0, 1, 2] rfl rfl (by decide) (by decide) (fun H locs hP hD hS => ?_)
    have hP : va_P (dC, dI) vwCl [(h_th, .inr (7, [v_th_row, v_th_undos, v_th_isKept, v_th_text, v_th_length, .ref h_sizes, .ref h_values, .long asked, v_th_first, v_th_behind, v_th_readBits, v_th_clauses, v_th_doing, v_th_numbers, v_th_planWord, v_th_addWord, v_th_delWord, v_th_fillWord, v_th_probes, v_th_links, v_th_looks, v_th_found, .int isOver])), (h_sizes, .inl (cyI, 3, .inl sizes)), (h_values, .inl (cyJ, 36, .inr (.inl values)))] H := hP
    have hD : va_D A [(h_th, .inr (7, [v_th_row, v_th_undos, v_th_isKept, v_th_text, v_th_length, .ref h_sizes, .ref h_values, .long asked, v_th_first, v_th_behind, v_th_readBits, v_th_clauses, v_th_doing, v_th_numbers, v_th_planWord, v_th_addWord, v_th_delWord, v_th_fillWord, v_th_probes, v_th_links, v_th_looks, v_th_found, .int isOver])), (h_sizes, .inl (cyI, 3, .inl sizes)), (h_values, .inl (cyJ, 36, .inr (.inl values)))] := hD
    refine lv_if_ne (tgt := 25) hx hb dX7_work_19 (by decide) (fun c_6 => ?_) (fun c_6 => ?_)
    · have h := og_ite_f c_6 h
      refine lv_aload_n hx hb dX7_work_25 rfl (lv_at hl 0 rfl) ?_
      refine lv_iload_n hx hb dX7_work_26 rfl (lv_at hl 1 rfl) ?_
      refine lv_iload_n hx hb dX7_work_27 rfl (lv_at hl 2 rfl) ?_
      obtain ⟨u_7, hc_8, h⟩ := obd_e h
      refine Gci (wr := [(h_values, .inl (cyJ, 36, .inr (.inl values)))]) (va_runV (As := [.int x0, .int x1]) (rest := []) ⟨hx, hb, hml, hown, hts⟩ (tX7_noPlace l dC dI cyI cyJ cyZ cyO H.size h_th h_sizes v_th_row v_th_undos v_th_isKept v_th_text v_th_length (.ref h_values) (.long asked) v_th_first v_th_behind v_th_readBits v_th_clauses v_th_doing v_th_numbers v_th_planWord v_th_addWord v_th_delWord v_th_fillWord v_th_probes v_th_links v_th_looks v_th_found (.int isOver) sizes x0 x1 u_7 hc_8) (cwV 2 hts gX7_work_X7_noPlace rfl rfl rfl (by decide +kernel) ⟨Nat.le_of_ble_eq_true rfl, Nat.le_of_ble_eq_true rfl⟩) (GpreV hP hD hK hN [0, 1] rfl (by decide) 7 0 rfl rfl rfl) rfl rfl hl.1 rfl (lv_room (Nat.le_of_ble_eq_true rfl)) dX7_work_28 ⟨Nat.zero_le _, Nat.zero_le _⟩) hP hD hS hA [0, 1] [2] rfl rfl (by decide) (by decide) (fun H locs hP hD hS => ?_)
      have hP : va_P (dC, dI) vwCl [(h_values, .inl (cyJ, 36, .inr (.inl values))), (h_th, .inr (7, [v_th_row, v_th_undos, v_th_isKept, v_th_text, v_th_length, .ref h_sizes, .ref h_values, .long asked, v_th_first, v_th_behind, v_th_readBits, v_th_clauses, v_th_doing, v_th_numbers, v_th_planWord, v_th_addWord, v_th_delWord, v_th_fillWord, v_th_probes, v_th_links, v_th_looks, v_th_found, .int isOver])), (h_sizes, .inl (cyI, 3, .inl sizes))] H := hP
      have hD : va_D A [(h_values, .inl (cyJ, 36, .inr (.inl values))), (h_th, .inr (7, [v_th_row, v_th_undos, v_th_isKept, v_th_text, v_th_length, .ref h_sizes, .ref h_values, .long asked, v_th_first, v_th_behind, v_th_readBits, v_th_clauses, v_th_doing, v_th_numbers, v_th_planWord, v_th_addWord, v_th_delWord, v_th_fillWord, v_th_probes, v_th_links, v_th_looks, v_th_found, .int isOver])), (h_sizes, .inl (cyI, 3, .inl sizes))] := hD
      refine lv_istore (lv' := [(5, .int u_7), (0, .ref h_th), (1, .int x0), (2, .int x1), (3, .int x2), (4, .int x3)]) hx hb dX7_work_31 hl (by decide) rfl (fun ls hl => ?_)
      refine lv_iload hx hb dX7_work_33 (lv_at hl 0 rfl) ?_
      refine lv_if_eq (tgt := 41) hx hb dX7_work_35 (by decide) (fun c_9 => ?_) (fun c_9 => ?_)
      · have h := og_ite_t c_9 h
        refine lv_aload_n hx hb dX7_work_41 rfl (lv_at hl 1 rfl) ?_
        refine va_get (D := (dC, dI)) (ci := 7) (v := .ref h_values) (C := RX7) (T := TX7) (N := 23) hx hb hts (fun _ hw => List.mem_cons_of_mem _ (List.mem_append_right _ hw)) hown hK hP 1 rfl rfl 6 (by decide) (hts (.fieldLink RX7 23 "PrefixIndexModel" "values" "[J") (List.mem_of_getElem? (i := 2) rfl)) (fun _ h9 => h9) rfl dX7_work_42 ?_
        refine lv_bipush (v := 12) hx hb dX7_work_45 (by decide) ?_
        refine lv_iload_n hx hb dX7_work_47 rfl (lv_at hl 2 rfl) ?_
        refine lv_imul hx hb dX7_work_48 ?_
        refine lv_iload_n hx hb dX7_work_49 rfl (lv_at hl 3 rfl) ?_
        refine lv_iadd hx hb dX7_work_50 ?_
        obtain ⟨hi_10, h⟩ := oin_e h
        refine va_lald hx hb hK hP 0 1 rfl rfl hi_10 dX7_work_51 ?_
        refine lv_lstore (lv' := [(6, .long (values (((12 : Int32) * x0) + x1).toNatClampNeg)), (5, .int u_7), (0, .ref h_th), (1, .int x0), (2, .int x1), (3, .int x2), (4, .int x3)]) hx hb dX7_work_52 hl (by decide) rfl (fun ls hl => ?_)
        refine lv_iload_n hx hb dX7_work_54 rfl (lv_at hl 5 rfl) ?_
        refine lv_iconst (v := 2) hx hb dX7_work_55 (by decide) ?_
        obtain ⟨w_12, hm_21, h⟩ := obd_e h
        have J : ∀ (H : Heap) (locs : List Loc) (ls : Array Slot), va_P (dC, dI) vwCl [(h_values, .inl (cyJ, 36, .inr (.inl values))), (h_th, .inr (7, [v_th_row, v_th_undos, v_th_isKept, v_th_text, v_th_length, .ref h_sizes, .ref h_values, .long asked, v_th_first, v_th_behind, v_th_readBits, v_th_clauses, v_th_doing, v_th_numbers, v_th_planWord, v_th_addWord, v_th_delWord, v_th_fillWord, v_th_probes, v_th_links, v_th_looks, v_th_found, .int w_12.2])), (h_sizes, .inl (cyI, 3, .inl sizes))] H → va_D A [(h_values, .inl (cyJ, 36, .inr (.inl values))), (h_th, .inr (7, [v_th_row, v_th_undos, v_th_isKept, v_th_text, v_th_length, .ref h_sizes, .ref h_values, .long asked, v_th_first, v_th_behind, v_th_readBits, v_th_clauses, v_th_doing, v_th_numbers, v_th_planWord, v_th_addWord, v_th_delWord, v_th_fillWord, v_th_probes, v_th_links, v_th_looks, v_th_found, .int w_12.2])), (h_sizes, .inl (cyI, 3, .inl sizes))] → va_S A s.heap H locs → lv_has ls 10 [(0, .ref h_th), (1, .int x0), (2, .int x1)] → W p l e ({ frames := 3, cells := 0, slots := 0, locals := 67 }) s m args below meth c H locs 0 0 Q (F0 m 91 ls [.long w_12.1]) := by
          intro H locs ls hP hD hS hl
          refine lv_lstore (lv' := [(8, .long w_12.1), (0, .ref h_th), (1, .int x0), (2, .int x1)]) hx hb dX7_work_91 hl (by decide) rfl (fun ls hl => ?_)
          refine lv_aload_n hx hb dX7_work_93 rfl (lv_at hl 1 rfl) ?_
          refine va_get (D := (dC, dI)) (ci := 7) (v := .int w_12.2) (C := RX7) (T := TX7) (N := 23) hx hb hts (fun _ hw => List.mem_cons_of_mem _ (List.mem_append_right _ hw)) hown hK hP 1 rfl rfl 22 (by decide) (hts (.fieldLink RX7 211 "PrefixIndexModel" "isOver" "Z") (List.mem_of_getElem? (i := 3) rfl)) (fun _ h9 => h9) rfl dX7_work_94 ?_
          refine lv_if_eq (tgt := 103) hx hb dX7_work_97 (by decide) (fun c_13 => ?_) (fun c_13 => ?_)
          · have h := og_ite_t c_13 h
            refine lv_aload_n hx hb dX7_work_103 rfl (lv_at hl 1 rfl) ?_
            refine va_get (D := (dC, dI)) (ci := 7) (v := .ref h_values) (C := RX7) (T := TX7) (N := 23) hx hb hts (fun _ hw => List.mem_cons_of_mem _ (List.mem_append_right _ hw)) hown hK hP 1 rfl rfl 6 (by decide) (hts (.fieldLink RX7 23 "PrefixIndexModel" "values" "[J") (List.mem_of_getElem? (i := 2) rfl)) (fun _ h9 => h9) rfl dX7_work_104 ?_
            refine lv_bipush (v := 12) hx hb dX7_work_107 (by decide) ?_
            refine lv_iload_n hx hb dX7_work_109 rfl (lv_at hl 2 rfl) ?_
            refine lv_imul hx hb dX7_work_110 ?_
            refine lv_iload_n hx hb dX7_work_111 rfl (lv_at hl 3 rfl) ?_
            refine lv_iadd hx hb dX7_work_112 ?_
            refine lv_lload hx hb dX7_work_113 (lv_at hl 0 rfl) ?_
            obtain ⟨hi_14, h⟩ := oin_e h
            refine va_last hx hb hK hP hD hS 0 1 rfl rfl hi_14 dX7_work_115 (fun H locs hP hD hS => ?_)
            have hP : va_P (dC, dI) vwCl [(h_values, .inl (cyJ, 36, .inr (.inl (vp_updL values (((12 : Int32) * x0) + x1).toNatClampNeg w_12.1)))), (h_th, .inr (7, [v_th_row, v_th_undos, v_th_isKept, v_th_text, v_th_length, .ref h_sizes, .ref h_values, .long asked, v_th_first, v_th_behind, v_th_readBits, v_th_clauses, v_th_doing, v_th_numbers, v_th_planWord, v_th_addWord, v_th_delWord, v_th_fillWord, v_th_probes, v_th_links, v_th_looks, v_th_found, .int w_12.2])), (h_sizes, .inl (cyI, 3, .inl sizes))] H := hP
            have hD : va_D A [(h_values, .inl (cyJ, 36, .inr (.inl (vp_updL values (((12 : Int32) * x0) + x1).toNatClampNeg w_12.1)))), (h_th, .inr (7, [v_th_row, v_th_undos, v_th_isKept, v_th_text, v_th_length, .ref h_sizes, .ref h_values, .long asked, v_th_first, v_th_behind, v_th_readBits, v_th_clauses, v_th_doing, v_th_numbers, v_th_planWord, v_th_addWord, v_th_delWord, v_th_fillWord, v_th_probes, v_th_links, v_th_looks, v_th_found, .int w_12.2])), (h_sizes, .inl (cyI, 3, .inl sizes))] := hD
            refine lv_aload_n hx hb dX7_work_116 rfl (lv_at hl 1 rfl) ?_
            refine lv_lload hx hb dX7_work_117 (lv_at hl 0 rfl) ?_
            refine va_put (D := (dC, dI)) (ci := 7) (v := .long w_12.1) (ty := .long) (C := RX7) (T := TX7) (N := 23) hx hb hts (fun _ hw => List.mem_cons_of_mem _ (List.mem_append_right _ hw)) tyX7 tyX7_ok nmX7 hown hK hP hD hS 1 rfl rfl 7 (by decide) (hts (.fieldLink RX7 221 "PrefixIndexModel" "asked" "J") (List.mem_of_getElem? (i := 4) rfl)) (fun _ h9 => h9) rfl (by decide +kernel) rfl rfl (Nat.le_of_ble_eq_true rfl) dX7_work_119 (fun H locs hP hD hS => ?_)
            have hP : va_P (dC, dI) vwCl [(h_values, .inl (cyJ, 36, .inr (.inl (vp_updL values (((12 : Int32) * x0) + x1).toNatClampNeg w_12.1)))), (h_th, .inr (7, [v_th_row, v_th_undos, v_th_isKept, v_th_text, v_th_length, .ref h_sizes, .ref h_values, .long w_12.1, v_th_first, v_th_behind, v_th_readBits, v_th_clauses, v_th_doing, v_th_numbers, v_th_planWord, v_th_addWord, v_th_delWord, v_th_fillWord, v_th_probes, v_th_links, v_th_looks, v_th_found, .int w_12.2])), (h_sizes, .inl (cyI, 3, .inl sizes))] H := hP
            have hD : va_D A [(h_values, .inl (cyJ, 36, .inr (.inl (vp_updL values (((12 : Int32) * x0) + x1).toNatClampNeg w_12.1)))), (h_th, .inr (7, [v_th_row, v_th_undos, v_th_isKept, v_th_text, v_th_length, .ref h_sizes, .ref h_values, .long w_12.1, v_th_first, v_th_behind, v_th_readBits, v_th_clauses, v_th_doing, v_th_numbers, v_th_planWord, v_th_addWord, v_th_delWord, v_th_fillWord, v_th_probes, v_th_links, v_th_looks, v_th_found, .int w_12.2])), (h_sizes, .inl (cyI, 3, .inl sizes))] := hD
            refine lv_iconst (v := 1) hx hb dX7_work_122 (by decide) ?_
            obtain rfl := Option.some.inj h
            have hP := hP.sub (ws' := [(h_th, .inr (7, [v_th_row, v_th_undos, v_th_isKept, v_th_text, v_th_length, .ref h_sizes, .ref h_values, .long w_12.1, v_th_first, v_th_behind, v_th_readBits, v_th_clauses, v_th_doing, v_th_numbers, v_th_planWord, v_th_addWord, v_th_delWord, v_th_fillWord, v_th_probes, v_th_links, v_th_looks, v_th_found, .int w_12.2])), (h_sizes, .inl (cyI, 3, .inl sizes)), (h_values, .inl (cyJ, 36, .inr (.inl (vp_updL values (((12 : Int32) * x0) + x1).toNatClampNeg w_12.1))))]) [1, 2, 0] rfl
            have hD := hD.sub (ws' := [(h_th, .inr (7, [v_th_row, v_th_undos, v_th_isKept, v_th_text, v_th_length, .ref h_sizes, .ref h_values, .long w_12.1, v_th_first, v_th_behind, v_th_readBits, v_th_clauses, v_th_doing, v_th_numbers, v_th_planWord, v_th_addWord, v_th_delWord, v_th_fillWord, v_th_probes, v_th_links, v_th_looks, v_th_found, .int w_12.2])), (h_sizes, .inl (cyI, 3, .inl sizes)), (h_values, .inl (cyJ, 36, .inr (.inl (vp_updL values (((12 : Int32) * x0) + x1).toNatClampNeg w_12.1))))]) [1, 2, 0] (by decide) rfl
            exact hret _ _ _ _ dX7_work_123 hP hD hS
          · have h := og_ite_f c_13 h
            refine lv_bipush (v := (-14)) hx hb dX7_work_100 (by decide) ?_
            obtain rfl := Option.some.inj h
            have hP := hP.sub (ws' := [(h_th, .inr (7, [v_th_row, v_th_undos, v_th_isKept, v_th_text, v_th_length, .ref h_sizes, .ref h_values, .long asked, v_th_first, v_th_behind, v_th_readBits, v_th_clauses, v_th_doing, v_th_numbers, v_th_planWord, v_th_addWord, v_th_delWord, v_th_fillWord, v_th_probes, v_th_links, v_th_looks, v_th_found, .int w_12.2])), (h_sizes, .inl (cyI, 3, .inl sizes)), (h_values, .inl (cyJ, 36, .inr (.inl values)))]) [1, 2, 0] rfl
            have hD := hD.sub (ws' := [(h_th, .inr (7, [v_th_row, v_th_undos, v_th_isKept, v_th_text, v_th_length, .ref h_sizes, .ref h_values, .long asked, v_th_first, v_th_behind, v_th_readBits, v_th_clauses, v_th_doing, v_th_numbers, v_th_planWord, v_th_addWord, v_th_delWord, v_th_fillWord, v_th_probes, v_th_links, v_th_looks, v_th_found, .int w_12.2])), (h_sizes, .inl (cyI, 3, .inl sizes)), (h_values, .inl (cyJ, 36, .inr (.inl values)))]) [1, 2, 0] (by decide) rfl
            exact hret _ _ _ _ dX7_work_102 hP hD hS
        replace h := hm_21
        refine lv_icmp_ne (tgt := 71) hx hb dX7_work_56 (by decide) (fun c_11 => ?_) (fun c_11 => ?_)
        · have h := og_ite_f c_11 h
          refine lv_aload_n hx hb dX7_work_71 rfl (lv_at hl 2 rfl) ?_
          refine lv_lload hx hb dX7_work_72 (lv_at hl 0 rfl) ?_
          refine lv_iload_n hx hb dX7_work_74 rfl (lv_at hl 5 rfl) ?_
          obtain ⟨y_16, ey_16, h⟩ := olet_e h
          have J : ∀ (H : Heap) (locs : List Loc) (ls : Array Slot), va_P (dC, dI) vwCl [(h_values, .inl (cyJ, 36, .inr (.inl values))), (h_th, .inr (7, [v_th_row, v_th_undos, v_th_isKept, v_th_text, v_th_length, .ref h_sizes, .ref h_values, .long asked, v_th_first, v_th_behind, v_th_readBits, v_th_clauses, v_th_doing, v_th_numbers, v_th_planWord, v_th_addWord, v_th_delWord, v_th_fillWord, v_th_probes, v_th_links, v_th_looks, v_th_found, .int isOver])), (h_sizes, .inl (cyI, 3, .inl sizes))] H → va_D A [(h_values, .inl (cyJ, 36, .inr (.inl values))), (h_th, .inr (7, [v_th_row, v_th_undos, v_th_isKept, v_th_text, v_th_length, .ref h_sizes, .ref h_values, .long asked, v_th_first, v_th_behind, v_th_readBits, v_th_clauses, v_th_doing, v_th_numbers, v_th_planWord, v_th_addWord, v_th_delWord, v_th_fillWord, v_th_probes, v_th_links, v_th_looks, v_th_found, .int isOver])), (h_sizes, .inl (cyI, 3, .inl sizes))] → va_S A s.heap H locs → lv_has ls 10 [(0, .ref h_th), (1, .int x0), (2, .int x1)] → W p l e ({ frames := 3, cells := 0, slots := 0, locals := 67 }) s m args below meth c H locs 0 0 Q (F0 m 88 ls [.long y_16, .long (values (((12 : Int32) * x0) + x1).toNatClampNeg), .ref h_th]) := by
            intro H locs ls hP hD hS hl
            obtain ⟨u_17, hc_18, h⟩ := obd_e h
            refine Gcl (wr := [(h_values, .inl (cyJ, 36, .inr (.inl values))), (h_sizes, .inl (cyI, 3, .inl sizes))]) (va_runV (As := [.long (values (((12 : Int32) * x0) + x1).toNatClampNeg), .long y_16]) (rest := []) ⟨hx, hb, hml, hown, hts⟩ (tX7_plus l dC dI cyI cyJ cyZ cyO H.size h_th v_th_row v_th_undos v_th_isKept v_th_text v_th_length (.ref h_sizes) (.ref h_values) (.long asked) v_th_first v_th_behind v_th_readBits v_th_clauses v_th_doing v_th_numbers v_th_planWord v_th_addWord v_th_delWord v_th_fillWord v_th_probes v_th_links v_th_looks v_th_found isOver (values (((12 : Int32) * x0) + x1).toNatClampNeg) y_16 u_17 hc_18) (cwV 2 hts gX7_work_X7_plus rfl rfl rfl (by decide +kernel) ⟨Nat.le_of_ble_eq_true rfl, Nat.le_of_ble_eq_true rfl⟩) (GpreV hP hD hK hN [1] rfl (by decide) 7 0 rfl rfl rfl) rfl rfl hl.1 rfl (lv_room (Nat.le_of_ble_eq_true rfl)) dX7_work_88 ⟨Nat.zero_le _, Nat.zero_le _⟩) hP hD hS hA [1] [0, 2] rfl rfl (by decide) (by decide) (fun H locs hP hD hS => ?_)
            have hP : va_P (dC, dI) vwCl [(h_values, .inl (cyJ, 36, .inr (.inl values))), (h_sizes, .inl (cyI, 3, .inl sizes)), (h_th, .inr (7, [v_th_row, v_th_undos, v_th_isKept, v_th_text, v_th_length, .ref h_sizes, .ref h_values, .long asked, v_th_first, v_th_behind, v_th_readBits, v_th_clauses, v_th_doing, v_th_numbers, v_th_planWord, v_th_addWord, v_th_delWord, v_th_fillWord, v_th_probes, v_th_links, v_th_looks, v_th_found, .int u_17.2]))] H := hP
            have hD : va_D A [(h_values, .inl (cyJ, 36, .inr (.inl values))), (h_sizes, .inl (cyI, 3, .inl sizes)), (h_th, .inr (7, [v_th_row, v_th_undos, v_th_isKept, v_th_text, v_th_length, .ref h_sizes, .ref h_values, .long asked, v_th_first, v_th_behind, v_th_readBits, v_th_clauses, v_th_doing, v_th_numbers, v_th_planWord, v_th_addWord, v_th_delWord, v_th_fillWord, v_th_probes, v_th_links, v_th_looks, v_th_found, .int u_17.2]))] := hD
            obtain rfl := Option.some.inj h
            have hP := hP.sub (ws' := [(h_values, .inl (cyJ, 36, .inr (.inl values))), (h_th, .inr (7, [v_th_row, v_th_undos, v_th_isKept, v_th_text, v_th_length, .ref h_sizes, .ref h_values, .long asked, v_th_first, v_th_behind, v_th_readBits, v_th_clauses, v_th_doing, v_th_numbers, v_th_planWord, v_th_addWord, v_th_delWord, v_th_fillWord, v_th_probes, v_th_links, v_th_looks, v_th_found, .int u_17.2])), (h_sizes, .inl (cyI, 3, .inl sizes))]) [0, 2, 1] rfl
            have hD := hD.sub (ws' := [(h_values, .inl (cyJ, 36, .inr (.inl values))), (h_th, .inr (7, [v_th_row, v_th_undos, v_th_isKept, v_th_text, v_th_length, .ref h_sizes, .ref h_values, .long asked, v_th_first, v_th_behind, v_th_readBits, v_th_clauses, v_th_doing, v_th_numbers, v_th_planWord, v_th_addWord, v_th_delWord, v_th_fillWord, v_th_probes, v_th_links, v_th_looks, v_th_found, .int u_17.2])), (h_sizes, .inl (cyI, 3, .inl sizes))]) [0, 2, 1] (by decide) rfl
            exact J _ _ _ hP hD hS hl
          clear h
          refine lv_if_ne (tgt := 84) hx hb dX7_work_75 (by decide) (fun c_15 => ?_) (fun c_15 => ?_)
          · refine lv_iload hx hb dX7_work_84 (lv_at hl 6 rfl) ?_
            refine lv_i2l (v := x3.toInt64) hx hb dX7_work_86 rfl ?_
            refine lv_lneg hx hb dX7_work_87 ?_
            rw [if_neg c_15] at ey_16
            subst ey_16
            exact J H locs _ hP hD hS (lv_sub hl [2, 3, 4] rfl)
          · refine lv_iload hx hb dX7_work_78 (lv_at hl 6 rfl) ?_
            refine lv_i2l (v := x3.toInt64) hx hb dX7_work_80 rfl ?_
            refine lv_goto (tgt := 88) hx hb dX7_work_81 (by decide) ?_
            rw [if_pos c_15] at ey_16
            subst ey_16
            exact J H locs _ hP hD hS (lv_sub hl [2, 3, 4] rfl)
        · have h := og_ite_t c_11 h
          refine lv_aload_n hx hb dX7_work_59 rfl (lv_at hl 2 rfl) ?_
          refine lv_lload hx hb dX7_work_60 (lv_at hl 0 rfl) ?_
          refine lv_iload hx hb dX7_work_62 (lv_at hl 6 rfl) ?_
          refine lv_i2l (v := x3.toInt64) hx hb dX7_work_64 rfl ?_
          obtain ⟨u_19, hc_20, h⟩ := obd_e h
          refine Gcl (wr := [(h_values, .inl (cyJ, 36, .inr (.inl values))), (h_sizes, .inl (cyI, 3, .inl sizes))]) (va_runV (As := [.long (values (((12 : Int32) * x0) + x1).toNatClampNeg), .long x3.toInt64]) (rest := []) ⟨hx, hb, hml, hown, hts⟩ (tX7_times l dC dI cyI cyJ cyZ cyO H.size h_th v_th_row v_th_undos v_th_isKept v_th_text v_th_length (.ref h_sizes) (.ref h_values) (.long asked) v_th_first v_th_behind v_th_readBits v_th_clauses v_th_doing v_th_numbers v_th_planWord v_th_addWord v_th_delWord v_th_fillWord v_th_probes v_th_links v_th_looks v_th_found isOver (values (((12 : Int32) * x0) + x1).toNatClampNeg) x3.toInt64 u_19 hc_20) (cwV 2 hts gX7_work_X7_times rfl rfl rfl (by decide +kernel) ⟨Nat.le_of_ble_eq_true rfl, Nat.le_of_ble_eq_true rfl⟩) (GpreV hP hD hK hN [1] rfl (by decide) 7 0 rfl rfl rfl) rfl rfl hl.1 rfl (lv_room (Nat.le_of_ble_eq_true rfl)) dX7_work_65 ⟨Nat.zero_le _, Nat.zero_le _⟩) hP hD hS hA [1] [0, 2] rfl rfl (by decide) (by decide) (fun H locs hP hD hS => ?_)
          have hP : va_P (dC, dI) vwCl [(h_values, .inl (cyJ, 36, .inr (.inl values))), (h_sizes, .inl (cyI, 3, .inl sizes)), (h_th, .inr (7, [v_th_row, v_th_undos, v_th_isKept, v_th_text, v_th_length, .ref h_sizes, .ref h_values, .long asked, v_th_first, v_th_behind, v_th_readBits, v_th_clauses, v_th_doing, v_th_numbers, v_th_planWord, v_th_addWord, v_th_delWord, v_th_fillWord, v_th_probes, v_th_links, v_th_looks, v_th_found, .int u_19.2]))] H := hP
          have hD : va_D A [(h_values, .inl (cyJ, 36, .inr (.inl values))), (h_sizes, .inl (cyI, 3, .inl sizes)), (h_th, .inr (7, [v_th_row, v_th_undos, v_th_isKept, v_th_text, v_th_length, .ref h_sizes, .ref h_values, .long asked, v_th_first, v_th_behind, v_th_readBits, v_th_clauses, v_th_doing, v_th_numbers, v_th_planWord, v_th_addWord, v_th_delWord, v_th_fillWord, v_th_probes, v_th_links, v_th_looks, v_th_found, .int u_19.2]))] := hD
          refine lv_goto (tgt := 91) hx hb dX7_work_68 (by decide) ?_
          obtain rfl := Option.some.inj h
          have hP := hP.sub (ws' := [(h_values, .inl (cyJ, 36, .inr (.inl values))), (h_th, .inr (7, [v_th_row, v_th_undos, v_th_isKept, v_th_text, v_th_length, .ref h_sizes, .ref h_values, .long asked, v_th_first, v_th_behind, v_th_readBits, v_th_clauses, v_th_doing, v_th_numbers, v_th_planWord, v_th_addWord, v_th_delWord, v_th_fillWord, v_th_probes, v_th_links, v_th_looks, v_th_found, .int u_19.2])), (h_sizes, .inl (cyI, 3, .inl sizes))]) [0, 2, 1] rfl
          have hD := hD.sub (ws' := [(h_values, .inl (cyJ, 36, .inr (.inl values))), (h_th, .inr (7, [v_th_row, v_th_undos, v_th_isKept, v_th_text, v_th_length, .ref h_sizes, .ref h_values, .long asked, v_th_first, v_th_behind, v_th_readBits, v_th_clauses, v_th_doing, v_th_numbers, v_th_planWord, v_th_addWord, v_th_delWord, v_th_fillWord, v_th_probes, v_th_links, v_th_looks, v_th_found, .int u_19.2])), (h_sizes, .inl (cyI, 3, .inl sizes))]) [0, 2, 1] (by decide) rfl
          exact J _ _ _ hP hD hS (lv_sub hl [2, 3, 4] rfl)
      · have h := og_ite_f c_9 h
        refine lv_iload hx hb dX7_work_38 (lv_at hl 0 rfl) ?_
        obtain rfl := Option.some.inj h
        have hP := hP.sub (ws' := [(h_th, .inr (7, [v_th_row, v_th_undos, v_th_isKept, v_th_text, v_th_length, .ref h_sizes, .ref h_values, .long asked, v_th_first, v_th_behind, v_th_readBits, v_th_clauses, v_th_doing, v_th_numbers, v_th_planWord, v_th_addWord, v_th_delWord, v_th_fillWord, v_th_probes, v_th_links, v_th_looks, v_th_found, .int isOver])), (h_sizes, .inl (cyI, 3, .inl sizes)), (h_values, .inl (cyJ, 36, .inr (.inl values)))]) [1, 2, 0] rfl
        have hD := hD.sub (ws' := [(h_th, .inr (7, [v_th_row, v_th_undos, v_th_isKept, v_th_text, v_th_length, .ref h_sizes, .ref h_values, .long asked, v_th_first, v_th_behind, v_th_readBits, v_th_clauses, v_th_doing, v_th_numbers, v_th_planWord, v_th_addWord, v_th_delWord, v_th_fillWord, v_th_probes, v_th_links, v_th_looks, v_th_found, .int isOver])), (h_sizes, .inl (cyI, 3, .inl sizes)), (h_values, .inl (cyJ, 36, .inr (.inl values)))]) [1, 2, 0] (by decide) rfl
        exact hret _ _ _ _ dX7_work_40 hP hD hS
    · have h := og_ite_t c_6 h
      refine lv_bipush (v := (-3)) hx hb dX7_work_22 (by decide) ?_
      obtain rfl := Option.some.inj h
      exact hret _ _ _ _ dX7_work_24 hP hD hS
  · have h := og_ite_t c_3 h
    refine lv_bipush (v := (-2)) hx hb dX7_work_7 (by decide) ?_
    obtain rfl := Option.some.inj h
    exact hret _ _ _ _ dX7_work_9 hP hD hS

def lpX7_bits_21 (q1 : Int32) (q2 : Int32) (values : (Nat → Int64)) : Nat → Int32 → Int64 → Option (Int32 × Int64)
  | 0, _, _ => none
  | n + 1, m4, zasked => if (64 : Int32) ≤ m4 then (some (m4, zasked)) else (oin (((12 : Int32) * q1) + q2) 36 (lpX7_bits_21 q1 q2 values n (m4 + (1 : Int32)) (zasked + (((values (((12 : Int32) * q1) + q2).toNatClampNeg) >>> (m4.toInt64 &&& 63)) &&& (1 : Int64)))))

def fX7_bits (asked : Int64) (sizes : (Nat → Int32)) (values : (Nat → Int64)) (x0 : Int32) (x1 : Int32) : Option (Int32 × Int64) := obd (fX7_noPlace sizes x0 x1) fun u_1 => if u_1 = 0 then (obd (lpX7_bits_21 x0 x1 values 100000 (0 : Int32) (0 : Int64)) fun w_9 => some ((1 : Int32), w_9.2)) else (some (u_1, asked))

set_option maxHeartbeats 4000000 in
set_option maxRecDepth 100000 in
theorem tX7_bits (l : Launch) (dC : Nat → ClassId) (dI : Nat → Nat → Nat) (cyI cyJ cyZ cyO : ClassId) (sz : Nat) (h_th h_sizes h_values : Nat) (v_th_row : Value) (v_th_undos : Value) (v_th_isKept : Value) (v_th_text : Value) (v_th_length : Value) (v_th_first : Value) (v_th_behind : Value) (v_th_readBits : Value) (v_th_clauses : Value) (v_th_doing : Value) (v_th_numbers : Value) (v_th_planWord : Value) (v_th_addWord : Value) (v_th_delWord : Value) (v_th_fillWord : Value) (v_th_probes : Value) (v_th_links : Value) (v_th_looks : Value) (v_th_found : Value) (v_th_isOver : Value) (asked : Int64) (sizes : (Nat → Int32)) (values : (Nat → Int64)) (x0 : Int32) (x1 : Int32) (u : Int32 × Int64) (hf : fX7_bits asked sizes values x0 x1 = some u) : Met l yX7_bits wsX7_bits ({ frames := 3, cells := 0, slots := 0, locals := 67 }) (va_Pc [.ref h_th, .int x0, .int x1] (GP (dC, dI) (T4 cyI cyJ cyZ cyO) sz [(h_th, .inr (7, [v_th_row, v_th_undos, v_th_isKept, v_th_text, v_th_length, .ref h_sizes, .ref h_values, .long asked, v_th_first, v_th_behind, v_th_readBits, v_th_clauses, v_th_doing, v_th_numbers, v_th_planWord, v_th_addWord, v_th_delWord, v_th_fillWord, v_th_probes, v_th_links, v_th_looks, v_th_found, v_th_isOver])), (h_sizes, .inl (cyI, 3, .inl sizes)), (h_values, .inl (cyJ, 36, .inr (.inl values)))])) (va_Qi (fun (r : Int32) (_ : Unit) => r = u.1) (GB (dC, dI) [(h_th, .inr (7, [v_th_row, v_th_undos, v_th_isKept, v_th_text, v_th_length, .ref h_sizes, .ref h_values, .long u.2, v_th_first, v_th_behind, v_th_readBits, v_th_clauses, v_th_doing, v_th_numbers, v_th_planWord, v_th_addWord, v_th_delWord, v_th_fillWord, v_th_probes, v_th_links, v_th_looks, v_th_found, v_th_isOver])), (h_sizes, .inl (cyI, 3, .inl sizes)), (h_values, .inl (cyJ, 36, .inr (.inl values)))] (va_A [(h_th, .inr (7, [v_th_row, v_th_undos, v_th_isKept, v_th_text, v_th_length, .ref h_sizes, .ref h_values, .long asked, v_th_first, v_th_behind, v_th_readBits, v_th_clauses, v_th_doing, v_th_numbers, v_th_planWord, v_th_addWord, v_th_delWord, v_th_fillWord, v_th_probes, v_th_links, v_th_looks, v_th_found, v_th_isOver])), (h_sizes, .inl (cyI, 3, .inl sizes)), (h_values, .inl (cyJ, 36, .inr (.inl values)))] sz)) (va_A [(h_th, .inr (7, [v_th_row, v_th_undos, v_th_isKept, v_th_text, v_th_length, .ref h_sizes, .ref h_values, .long asked, v_th_first, v_th_behind, v_th_readBits, v_th_clauses, v_th_doing, v_th_numbers, v_th_planWord, v_th_addWord, v_th_delWord, v_th_fillWord, v_th_probes, v_th_links, v_th_looks, v_th_found, v_th_isOver])), (h_sizes, .inl (cyI, 3, .inl sizes)), (h_values, .inl (cyJ, 36, .inr (.inl values)))] sz)) 0 0 (va_A [(h_th, .inr (7, [v_th_row, v_th_undos, v_th_isKept, v_th_text, v_th_length, .ref h_sizes, .ref h_values, .long asked, v_th_first, v_th_behind, v_th_readBits, v_th_clauses, v_th_doing, v_th_numbers, v_th_planWord, v_th_addWord, v_th_delWord, v_th_fillWord, v_th_probes, v_th_links, v_th_looks, v_th_found, v_th_isOver])), (h_sizes, .inl (cyI, 3, .inl sizes)), (h_values, .inl (cyJ, 36, .inr (.inl values)))] sz) := by
  refine GMetI (by decide) rfl (Nat.le_of_ble_eq_true rfl) ?_
  intro p e s m args below meth c A Q ls hx hb hml hts hown hN hK hA hret hP hD hS hl
  have h := hf
  clear hf
  unfold fX7_bits at h
  have hown : s.vm.findClass RX7 = some m.cls := hown
  have hl : lv_has ls 5 [(0, .ref h_th), (1, .int x0), (2, .int x1)] := hl
  refine lv_aload_n hx hb dX7_bits_0 rfl (lv_at hl 0 rfl) ?_
  refine lv_iload_n hx hb dX7_bits_1 rfl (lv_at hl 1 rfl) ?_
  refine lv_iload_n hx hb dX7_bits_2 rfl (lv_at hl 2 rfl) ?_
  obtain ⟨u_1, hc_2, h⟩ := obd_e h
  refine Gci (wr := [(h_values, .inl (cyJ, 36, .inr (.inl values)))]) (va_runV (As := [.int x0, .int x1]) (rest := []) ⟨hx, hb, hml, hown, hts⟩ (tX7_noPlace l dC dI cyI cyJ cyZ cyO s.heap.size h_th h_sizes v_th_row v_th_undos v_th_isKept v_th_text v_th_length (.ref h_values) (.long asked) v_th_first v_th_behind v_th_readBits v_th_clauses v_th_doing v_th_numbers v_th_planWord v_th_addWord v_th_delWord v_th_fillWord v_th_probes v_th_links v_th_looks v_th_found v_th_isOver sizes x0 x1 u_1 hc_2) (cwV 2 hts gX7_bits_X7_noPlace rfl rfl rfl (by decide +kernel) ⟨Nat.le_of_ble_eq_true rfl, Nat.le_of_ble_eq_true rfl⟩) (GpreV hP hD hK hN [0, 1] rfl (by decide) 7 0 rfl rfl rfl) rfl rfl hl.1 rfl (lv_room (Nat.le_of_ble_eq_true rfl)) dX7_bits_3 ⟨Nat.zero_le _, Nat.zero_le _⟩) hP hD hS hA [0, 1] [2] rfl rfl (by decide) (by decide) (fun H locs hP hD hS => ?_)
  have hP : va_P (dC, dI) vwCl [(h_values, .inl (cyJ, 36, .inr (.inl values))), (h_th, .inr (7, [v_th_row, v_th_undos, v_th_isKept, v_th_text, v_th_length, .ref h_sizes, .ref h_values, .long asked, v_th_first, v_th_behind, v_th_readBits, v_th_clauses, v_th_doing, v_th_numbers, v_th_planWord, v_th_addWord, v_th_delWord, v_th_fillWord, v_th_probes, v_th_links, v_th_looks, v_th_found, v_th_isOver])), (h_sizes, .inl (cyI, 3, .inl sizes))] H := hP
  have hD : va_D A [(h_values, .inl (cyJ, 36, .inr (.inl values))), (h_th, .inr (7, [v_th_row, v_th_undos, v_th_isKept, v_th_text, v_th_length, .ref h_sizes, .ref h_values, .long asked, v_th_first, v_th_behind, v_th_readBits, v_th_clauses, v_th_doing, v_th_numbers, v_th_planWord, v_th_addWord, v_th_delWord, v_th_fillWord, v_th_probes, v_th_links, v_th_looks, v_th_found, v_th_isOver])), (h_sizes, .inl (cyI, 3, .inl sizes))] := hD
  refine lv_istore_n (lv' := [(3, .int u_1), (0, .ref h_th), (1, .int x0), (2, .int x1)]) hx hb dX7_bits_6 rfl hl (by decide) rfl (fun ls hl => ?_)
  refine lv_iload_n hx hb dX7_bits_7 rfl (lv_at hl 0 rfl) ?_
  refine lv_if_eq (tgt := 13) hx hb dX7_bits_8 (by decide) (fun c_3 => ?_) (fun c_3 => ?_)
  · have h := og_ite_t c_3 h
    refine lv_aload_n hx hb dX7_bits_13 rfl (lv_at hl 1 rfl) ?_
    refine lv_lconst (v := 0) hx hb dX7_bits_14 (by decide) ?_
    refine va_put (D := (dC, dI)) (ci := 7) (v := .long (0 : Int64)) (ty := .long) (C := RX7) (T := TX7) (N := 23) hx hb hts (fun _ hw => List.mem_cons_of_mem _ (List.mem_append_right _ hw)) tyX7 tyX7_ok nmX7 hown hK hP hD hS 1 rfl rfl 7 (by decide) (hts (.fieldLink RX7 221 "PrefixIndexModel" "asked" "J") (List.mem_of_getElem? (i := 1) rfl)) (fun _ h9 => h9) rfl (by decide +kernel) rfl rfl (Nat.le_of_ble_eq_true rfl) dX7_bits_15 (fun H locs hP hD hS => ?_)
    have hP : va_P (dC, dI) vwCl [(h_values, .inl (cyJ, 36, .inr (.inl values))), (h_th, .inr (7, [v_th_row, v_th_undos, v_th_isKept, v_th_text, v_th_length, .ref h_sizes, .ref h_values, .long (0 : Int64), v_th_first, v_th_behind, v_th_readBits, v_th_clauses, v_th_doing, v_th_numbers, v_th_planWord, v_th_addWord, v_th_delWord, v_th_fillWord, v_th_probes, v_th_links, v_th_looks, v_th_found, v_th_isOver])), (h_sizes, .inl (cyI, 3, .inl sizes))] H := hP
    have hD : va_D A [(h_values, .inl (cyJ, 36, .inr (.inl values))), (h_th, .inr (7, [v_th_row, v_th_undos, v_th_isKept, v_th_text, v_th_length, .ref h_sizes, .ref h_values, .long (0 : Int64), v_th_first, v_th_behind, v_th_readBits, v_th_clauses, v_th_doing, v_th_numbers, v_th_planWord, v_th_addWord, v_th_delWord, v_th_fillWord, v_th_probes, v_th_links, v_th_looks, v_th_found, v_th_isOver])), (h_sizes, .inl (cyI, 3, .inl sizes))] := hD
    refine lv_iconst (v := 0) hx hb dX7_bits_18 (by decide) ?_
    refine lv_istore (lv' := [(4, .int (0 : Int32)), (3, .int u_1), (0, .ref h_th), (1, .int x0), (2, .int x1)]) hx hb dX7_bits_19 hl (by decide) rfl (fun ls hl => ?_)
    obtain ⟨w_9, hw_10, h⟩ := obd_e h
    have J : ∀ (H : Heap) (locs : List Loc) (ls : Array Slot), va_P (dC, dI) vwCl [(h_values, .inl (cyJ, 36, .inr (.inl values))), (h_th, .inr (7, [v_th_row, v_th_undos, v_th_isKept, v_th_text, v_th_length, .ref h_sizes, .ref h_values, .long w_9.2, v_th_first, v_th_behind, v_th_readBits, v_th_clauses, v_th_doing, v_th_numbers, v_th_planWord, v_th_addWord, v_th_delWord, v_th_fillWord, v_th_probes, v_th_links, v_th_looks, v_th_found, v_th_isOver])), (h_sizes, .inl (cyI, 3, .inl sizes))] H → va_D A [(h_values, .inl (cyJ, 36, .inr (.inl values))), (h_th, .inr (7, [v_th_row, v_th_undos, v_th_isKept, v_th_text, v_th_length, .ref h_sizes, .ref h_values, .long w_9.2, v_th_first, v_th_behind, v_th_readBits, v_th_clauses, v_th_doing, v_th_numbers, v_th_planWord, v_th_addWord, v_th_delWord, v_th_fillWord, v_th_probes, v_th_links, v_th_looks, v_th_found, v_th_isOver])), (h_sizes, .inl (cyI, 3, .inl sizes))] → va_S A s.heap H locs → lv_has ls 5 [] → W p l e ({ frames := 3, cells := 0, slots := 0, locals := 67 }) s m args below meth c H locs 0 0 Q (F0 m 59 ls []) := by
      intro H locs ls hP hD hS hl
      refine lv_iconst (v := 1) hx hb dX7_bits_59 (by decide) ?_
      obtain rfl := Option.some.inj h
      have hP := hP.sub (ws' := [(h_th, .inr (7, [v_th_row, v_th_undos, v_th_isKept, v_th_text, v_th_length, .ref h_sizes, .ref h_values, .long w_9.2, v_th_first, v_th_behind, v_th_readBits, v_th_clauses, v_th_doing, v_th_numbers, v_th_planWord, v_th_addWord, v_th_delWord, v_th_fillWord, v_th_probes, v_th_links, v_th_looks, v_th_found, v_th_isOver])), (h_sizes, .inl (cyI, 3, .inl sizes)), (h_values, .inl (cyJ, 36, .inr (.inl values)))]) [1, 2, 0] rfl
      have hD := hD.sub (ws' := [(h_th, .inr (7, [v_th_row, v_th_undos, v_th_isKept, v_th_text, v_th_length, .ref h_sizes, .ref h_values, .long w_9.2, v_th_first, v_th_behind, v_th_readBits, v_th_clauses, v_th_doing, v_th_numbers, v_th_planWord, v_th_addWord, v_th_delWord, v_th_fillWord, v_th_probes, v_th_links, v_th_looks, v_th_found, v_th_isOver])), (h_sizes, .inl (cyI, 3, .inl sizes)), (h_values, .inl (cyJ, 36, .inr (.inl values)))]) [1, 2, 0] (by decide) rfl
      exact hret _ _ _ _ dX7_bits_60 hP hD hS
    have LL : ∀ (n : Nat) (m4 : Int32) (zasked : Int64) (H : Heap) (locs : List Loc) (ls : Array Slot), lpX7_bits_21 x0 x1 values n m4 zasked = some w_9 → va_P (dC, dI) vwCl [(h_values, .inl (cyJ, 36, .inr (.inl values))), (h_th, .inr (7, [v_th_row, v_th_undos, v_th_isKept, v_th_text, v_th_length, .ref h_sizes, .ref h_values, .long zasked, v_th_first, v_th_behind, v_th_readBits, v_th_clauses, v_th_doing, v_th_numbers, v_th_planWord, v_th_addWord, v_th_delWord, v_th_fillWord, v_th_probes, v_th_links, v_th_looks, v_th_found, v_th_isOver])), (h_sizes, .inl (cyI, 3, .inl sizes))] H → va_D A [(h_values, .inl (cyJ, 36, .inr (.inl values))), (h_th, .inr (7, [v_th_row, v_th_undos, v_th_isKept, v_th_text, v_th_length, .ref h_sizes, .ref h_values, .long zasked, v_th_first, v_th_behind, v_th_readBits, v_th_clauses, v_th_doing, v_th_numbers, v_th_planWord, v_th_addWord, v_th_delWord, v_th_fillWord, v_th_probes, v_th_links, v_th_looks, v_th_found, v_th_isOver])), (h_sizes, .inl (cyI, 3, .inl sizes))] → va_S A s.heap H locs → lv_has ls 5 [(0, .ref h_th), (1, .int x0), (2, .int x1), (4, .int m4)] → W p l e ({ frames := 3, cells := 0, slots := 0, locals := 67 }) s m args below meth c H locs 0 0 Q (F0 m 21 ls []) := by
      intro n
      induction n with
      | zero =>
        intro m4 zasked H locs ls h
        exact absurd h (by rw [lpX7_bits_21]; exact fun q => by cases q)
      | succ n ih =>
        intro m4 zasked H locs ls h hP hD hS hl
        rw [lpX7_bits_21] at h
        refine lv_iload hx hb dX7_bits_21 (lv_at hl 3 rfl) ?_
        refine lv_bipush (v := 64) hx hb dX7_bits_23 (by decide) ?_
        refine lv_icmp_ge (tgt := 59) hx hb dX7_bits_25 (by decide) (fun c_7 => ?_) (fun c_7 => ?_)
        · have h := og_ite_t c_7 h
          obtain rfl := Option.some.inj h
          exact J _ _ _ hP hD hS (lv_sub hl [] rfl)
        · have h := og_ite_f c_7 h
          refine lv_aload_n hx hb dX7_bits_28 rfl (lv_at hl 0 rfl) ?_
          refine lv_dup hx hb dX7_bits_29 rfl ?_
          refine va_get (D := (dC, dI)) (ci := 7) (v := .long zasked) (C := RX7) (T := TX7) (N := 23) hx hb hts (fun _ hw => List.mem_cons_of_mem _ (List.mem_append_right _ hw)) hown hK hP 1 rfl rfl 7 (by decide) (hts (.fieldLink RX7 221 "PrefixIndexModel" "asked" "J") (List.mem_of_getElem? (i := 1) rfl)) (fun _ h9 => h9) rfl dX7_bits_30 ?_
          refine lv_aload_n hx hb dX7_bits_33 rfl (lv_at hl 0 rfl) ?_
          refine va_get (D := (dC, dI)) (ci := 7) (v := .ref h_values) (C := RX7) (T := TX7) (N := 23) hx hb hts (fun _ hw => List.mem_cons_of_mem _ (List.mem_append_right _ hw)) hown hK hP 1 rfl rfl 6 (by decide) (hts (.fieldLink RX7 23 "PrefixIndexModel" "values" "[J") (List.mem_of_getElem? (i := 2) rfl)) (fun _ h9 => h9) rfl dX7_bits_34 ?_
          refine lv_bipush (v := 12) hx hb dX7_bits_37 (by decide) ?_
          refine lv_iload_n hx hb dX7_bits_39 rfl (lv_at hl 1 rfl) ?_
          refine lv_imul hx hb dX7_bits_40 ?_
          refine lv_iload_n hx hb dX7_bits_41 rfl (lv_at hl 2 rfl) ?_
          refine lv_iadd hx hb dX7_bits_42 ?_
          obtain ⟨hi_8, h⟩ := oin_e h
          refine va_lald hx hb hK hP 0 1 rfl rfl hi_8 dX7_bits_43 ?_
          refine lv_iload hx hb dX7_bits_44 (lv_at hl 3 rfl) ?_
          refine lv_lshr (v := (values (((12 : Int32) * x0) + x1).toNatClampNeg) >>> (m4.toInt64 &&& 63)) hx hb dX7_bits_46 rfl ?_
          refine lv_lconst (v := 1) hx hb dX7_bits_47 (by decide) ?_
          refine lv_land hx hb dX7_bits_48 ?_
          refine lv_ladd hx hb dX7_bits_49 ?_
          refine va_put (D := (dC, dI)) (ci := 7) (v := .long (zasked + (((values (((12 : Int32) * x0) + x1).toNatClampNeg) >>> (m4.toInt64 &&& 63)) &&& (1 : Int64)))) (ty := .long) (C := RX7) (T := TX7) (N := 23) hx hb hts (fun _ hw => List.mem_cons_of_mem _ (List.mem_append_right _ hw)) tyX7 tyX7_ok nmX7 hown hK hP hD hS 1 rfl rfl 7 (by decide) (hts (.fieldLink RX7 221 "PrefixIndexModel" "asked" "J") (List.mem_of_getElem? (i := 1) rfl)) (fun _ h9 => h9) rfl (by decide +kernel) rfl rfl (Nat.le_of_ble_eq_true rfl) dX7_bits_50 (fun H locs hP hD hS => ?_)
          have hP : va_P (dC, dI) vwCl [(h_values, .inl (cyJ, 36, .inr (.inl values))), (h_th, .inr (7, [v_th_row, v_th_undos, v_th_isKept, v_th_text, v_th_length, .ref h_sizes, .ref h_values, .long (zasked + (((values (((12 : Int32) * x0) + x1).toNatClampNeg) >>> (m4.toInt64 &&& 63)) &&& (1 : Int64))), v_th_first, v_th_behind, v_th_readBits, v_th_clauses, v_th_doing, v_th_numbers, v_th_planWord, v_th_addWord, v_th_delWord, v_th_fillWord, v_th_probes, v_th_links, v_th_looks, v_th_found, v_th_isOver])), (h_sizes, .inl (cyI, 3, .inl sizes))] H := hP
          have hD : va_D A [(h_values, .inl (cyJ, 36, .inr (.inl values))), (h_th, .inr (7, [v_th_row, v_th_undos, v_th_isKept, v_th_text, v_th_length, .ref h_sizes, .ref h_values, .long (zasked + (((values (((12 : Int32) * x0) + x1).toNatClampNeg) >>> (m4.toInt64 &&& 63)) &&& (1 : Int64))), v_th_first, v_th_behind, v_th_readBits, v_th_clauses, v_th_doing, v_th_numbers, v_th_planWord, v_th_addWord, v_th_delWord, v_th_fillWord, v_th_probes, v_th_links, v_th_looks, v_th_found, v_th_isOver])), (h_sizes, .inl (cyI, 3, .inl sizes))] := hD
          refine lv_iinc (v := m4 + (1 : Int32)) (lv' := [(4, .int (m4 + (1 : Int32))), (0, .ref h_th), (1, .int x0), (2, .int x1)]) hx hb dX7_bits_53 hl (k := 3) rfl rfl (by decide) rfl (fun ls hl => ?_)
          refine lv_goto (tgt := 21) hx hb dX7_bits_56 (by decide) ?_
          exact ih (m4 + (1 : Int32)) (zasked + (((values (((12 : Int32) * x0) + x1).toNatClampNeg) >>> (m4.toInt64 &&& 63)) &&& (1 : Int64))) _ _ _ h hP hD hS (lv_sub hl [1, 2, 3, 0] rfl)
    exact LL _ (0 : Int32) (0 : Int64) _ _ _ hw_10 hP hD hS (lv_sub hl [2, 3, 4, 0] rfl)
  · have h := og_ite_f c_3 h
    refine lv_iload_n hx hb dX7_bits_11 rfl (lv_at hl 0 rfl) ?_
    obtain rfl := Option.some.inj h
    have hP := hP.sub (ws' := [(h_th, .inr (7, [v_th_row, v_th_undos, v_th_isKept, v_th_text, v_th_length, .ref h_sizes, .ref h_values, .long asked, v_th_first, v_th_behind, v_th_readBits, v_th_clauses, v_th_doing, v_th_numbers, v_th_planWord, v_th_addWord, v_th_delWord, v_th_fillWord, v_th_probes, v_th_links, v_th_looks, v_th_found, v_th_isOver])), (h_sizes, .inl (cyI, 3, .inl sizes)), (h_values, .inl (cyJ, 36, .inr (.inl values)))]) [1, 2, 0] rfl
    have hD := hD.sub (ws' := [(h_th, .inr (7, [v_th_row, v_th_undos, v_th_isKept, v_th_text, v_th_length, .ref h_sizes, .ref h_values, .long asked, v_th_first, v_th_behind, v_th_readBits, v_th_clauses, v_th_doing, v_th_numbers, v_th_planWord, v_th_addWord, v_th_delWord, v_th_fillWord, v_th_probes, v_th_links, v_th_looks, v_th_found, v_th_isOver])), (h_sizes, .inl (cyI, 3, .inl sizes)), (h_values, .inl (cyJ, 36, .inr (.inl values)))]) [1, 2, 0] (by decide) rfl
    exact hret _ _ _ _ dX7_bits_12 hP hD hS

def lpX7_sum_27 (q1 : Int32) (asked : Int64) (sizes : (Nat → Int32)) (values : (Nat → Int64)) : Nat → Int64 → Int32 → Int32 → Option ((Int64 × Int32 × Int32) ⊕ (Int32 × Int64 × Int32))
  | 0, _, _, _ => none
  | n + 1, m2, m4, zisOver => oin q1 3 (if (sizes q1.toNatClampNeg) ≤ m4 then (some (.inl (m2, m4, zisOver))) else (oin (((12 : Int32) * q1) + m4) 36 (obd (fX7_plus zisOver m2 (values (((12 : Int32) * q1) + m4).toNatClampNeg)) fun u_10 => if u_10.2 = 0 then (lpX7_sum_27 q1 asked sizes values n u_10.1 (m4 + (1 : Int32)) u_10.2) else (some (.inr ((-14 : Int32), asked, u_10.2))))))

def fX7_sum (asked : Int64) (isOver : Int32) (sizes : (Nat → Int32)) (values : (Nat → Int64)) (x0 : Int32) : Option (Int32 × Int64 × Int32) := obd (fX7_isRow x0) fun u_1 => if u_1 = 0 then (some ((-2 : Int32), asked, isOver)) else (oin x0 3 (if 0 ≤ (sizes x0.toNatClampNeg) then (obe (lpX7_sum_27 x0 asked sizes values 100000 (0 : Int64) (0 : Int32) isOver) fun u_w_19 => oin x0 3 (some ((sizes x0.toNatClampNeg), u_w_19.1, u_w_19.2.2))) else (some ((-11 : Int32), asked, isOver))))

set_option maxHeartbeats 4000000 in
set_option maxRecDepth 100000 in
theorem tX7_sum (l : Launch) (dC : Nat → ClassId) (dI : Nat → Nat → Nat) (cyI cyJ cyZ cyO : ClassId) (sz : Nat) (h_th h_sizes h_values : Nat) (v_th_row : Value) (v_th_undos : Value) (v_th_isKept : Value) (v_th_text : Value) (v_th_length : Value) (v_th_first : Value) (v_th_behind : Value) (v_th_readBits : Value) (v_th_clauses : Value) (v_th_doing : Value) (v_th_numbers : Value) (v_th_planWord : Value) (v_th_addWord : Value) (v_th_delWord : Value) (v_th_fillWord : Value) (v_th_probes : Value) (v_th_links : Value) (v_th_looks : Value) (v_th_found : Value) (asked : Int64) (isOver : Int32) (sizes : (Nat → Int32)) (values : (Nat → Int64)) (x0 : Int32) (u : Int32 × Int64 × Int32) (hf : fX7_sum asked isOver sizes values x0 = some u) : Met l yX7_sum wsX7_sum ({ frames := 2, cells := 0, slots := 0, locals := 45 }) (va_Pc [.ref h_th, .int x0] (GP (dC, dI) (T4 cyI cyJ cyZ cyO) sz [(h_th, .inr (7, [v_th_row, v_th_undos, v_th_isKept, v_th_text, v_th_length, .ref h_sizes, .ref h_values, .long asked, v_th_first, v_th_behind, v_th_readBits, v_th_clauses, v_th_doing, v_th_numbers, v_th_planWord, v_th_addWord, v_th_delWord, v_th_fillWord, v_th_probes, v_th_links, v_th_looks, v_th_found, .int isOver])), (h_sizes, .inl (cyI, 3, .inl sizes)), (h_values, .inl (cyJ, 36, .inr (.inl values)))])) (va_Qi (fun (r : Int32) (_ : Unit) => r = u.1) (GB (dC, dI) [(h_th, .inr (7, [v_th_row, v_th_undos, v_th_isKept, v_th_text, v_th_length, .ref h_sizes, .ref h_values, .long u.2.1, v_th_first, v_th_behind, v_th_readBits, v_th_clauses, v_th_doing, v_th_numbers, v_th_planWord, v_th_addWord, v_th_delWord, v_th_fillWord, v_th_probes, v_th_links, v_th_looks, v_th_found, .int u.2.2])), (h_sizes, .inl (cyI, 3, .inl sizes)), (h_values, .inl (cyJ, 36, .inr (.inl values)))] (va_A [(h_th, .inr (7, [v_th_row, v_th_undos, v_th_isKept, v_th_text, v_th_length, .ref h_sizes, .ref h_values, .long asked, v_th_first, v_th_behind, v_th_readBits, v_th_clauses, v_th_doing, v_th_numbers, v_th_planWord, v_th_addWord, v_th_delWord, v_th_fillWord, v_th_probes, v_th_links, v_th_looks, v_th_found, .int isOver])), (h_sizes, .inl (cyI, 3, .inl sizes)), (h_values, .inl (cyJ, 36, .inr (.inl values)))] sz)) (va_A [(h_th, .inr (7, [v_th_row, v_th_undos, v_th_isKept, v_th_text, v_th_length, .ref h_sizes, .ref h_values, .long asked, v_th_first, v_th_behind, v_th_readBits, v_th_clauses, v_th_doing, v_th_numbers, v_th_planWord, v_th_addWord, v_th_delWord, v_th_fillWord, v_th_probes, v_th_links, v_th_looks, v_th_found, .int isOver])), (h_sizes, .inl (cyI, 3, .inl sizes)), (h_values, .inl (cyJ, 36, .inr (.inl values)))] sz)) 0 0 (va_A [(h_th, .inr (7, [v_th_row, v_th_undos, v_th_isKept, v_th_text, v_th_length, .ref h_sizes, .ref h_values, .long asked, v_th_first, v_th_behind, v_th_readBits, v_th_clauses, v_th_doing, v_th_numbers, v_th_planWord, v_th_addWord, v_th_delWord, v_th_fillWord, v_th_probes, v_th_links, v_th_looks, v_th_found, .int isOver])), (h_sizes, .inl (cyI, 3, .inl sizes)), (h_values, .inl (cyJ, 36, .inr (.inl values)))] sz) := by
  refine GMetI (by decide) rfl (Nat.le_of_ble_eq_true rfl) ?_
  intro p e s m args below meth c A Q ls hx hb hml hts hown hN hK hA hret hP hD hS hl
  have h := hf
  clear hf
  unfold fX7_sum at h
  have hown : s.vm.findClass RX7 = some m.cls := hown
  have hl : lv_has ls 5 [(0, .ref h_th), (1, .int x0)] := hl
  refine lv_iload_n hx hb dX7_sum_0 rfl (lv_at hl 1 rfl) ?_
  obtain ⟨u_1, hc_2, h⟩ := obd_e h
  refine Gci (wr := [(h_th, .inr (7, [v_th_row, v_th_undos, v_th_isKept, v_th_text, v_th_length, .ref h_sizes, .ref h_values, .long asked, v_th_first, v_th_behind, v_th_readBits, v_th_clauses, v_th_doing, v_th_numbers, v_th_planWord, v_th_addWord, v_th_delWord, v_th_fillWord, v_th_probes, v_th_links, v_th_looks, v_th_found, .int isOver])), (h_sizes, .inl (cyI, 3, .inl sizes)), (h_values, .inl (cyJ, 36, .inr (.inl values)))]) (va_runS (As := [.int x0]) (rest := []) ⟨hx, hb, hml, hown, hts⟩ (tX7_isRow l dC dI cyI cyJ cyZ cyO s.heap.size x0 u_1 hc_2) (cwS 1 hts gX7_sum_X7_isRow rfl rfl rfl (by decide +kernel) ⟨Nat.le_of_ble_eq_true rfl, Nat.le_of_ble_eq_true rfl⟩) (GpreS hP hD hK hN [] rfl (by decide)) rfl rfl hl.1 rfl (lv_room (Nat.le_of_ble_eq_true rfl)) dX7_sum_1 ⟨Nat.zero_le _, Nat.zero_le _⟩) hP hD hS hA [] [0, 1, 2] rfl rfl (by decide) (by decide) (fun H locs hP hD hS => ?_)
  have hP : va_P (dC, dI) vwCl [(h_th, .inr (7, [v_th_row, v_th_undos, v_th_isKept, v_th_text, v_th_length, .ref h_sizes, .ref h_values, .long asked, v_th_first, v_th_behind, v_th_readBits, v_th_clauses, v_th_doing, v_th_numbers, v_th_planWord, v_th_addWord, v_th_delWord, v_th_fillWord, v_th_probes, v_th_links, v_th_looks, v_th_found, .int isOver])), (h_sizes, .inl (cyI, 3, .inl sizes)), (h_values, .inl (cyJ, 36, .inr (.inl values)))] H := hP
  have hD : va_D A [(h_th, .inr (7, [v_th_row, v_th_undos, v_th_isKept, v_th_text, v_th_length, .ref h_sizes, .ref h_values, .long asked, v_th_first, v_th_behind, v_th_readBits, v_th_clauses, v_th_doing, v_th_numbers, v_th_planWord, v_th_addWord, v_th_delWord, v_th_fillWord, v_th_probes, v_th_links, v_th_looks, v_th_found, .int isOver])), (h_sizes, .inl (cyI, 3, .inl sizes)), (h_values, .inl (cyJ, 36, .inr (.inl values)))] := hD
  refine lv_if_ne (tgt := 10) hx hb dX7_sum_4 (by decide) (fun c_3 => ?_) (fun c_3 => ?_)
  · have h := og_ite_f c_3 h
    refine lv_aload_n hx hb dX7_sum_10 rfl (lv_at hl 0 rfl) ?_
    refine va_get (D := (dC, dI)) (ci := 7) (v := .ref h_sizes) (C := RX7) (T := TX7) (N := 23) hx hb hts (fun _ hw => List.mem_cons_of_mem _ (List.mem_append_right _ hw)) hown hK hP 0 rfl rfl 5 (by decide) (hts (.fieldLink RX7 20 "PrefixIndexModel" "sizes" "[I") (List.mem_of_getElem? (i := 1) rfl)) (fun _ h9 => h9) rfl dX7_sum_11 ?_
    refine lv_iload_n hx hb dX7_sum_14 rfl (lv_at hl 1 rfl) ?_
    obtain ⟨hi_4, h⟩ := oin_e h
    refine va_iald hx hb hK hP 1 0 rfl rfl hi_4 dX7_sum_15 ?_
    refine lv_if_ge (tgt := 22) hx hb dX7_sum_16 (by decide) (fun c_5 => ?_) (fun c_5 => ?_)
    · have h := og_ite_t c_5 h
      refine lv_lconst (v := 0) hx hb dX7_sum_22 (by decide) ?_
      refine lv_lstore_n (lv' := [(2, .long (0 : Int64)), (0, .ref h_th), (1, .int x0)]) hx hb dX7_sum_23 rfl hl (by decide) rfl (fun ls hl => ?_)
      refine lv_iconst (v := 0) hx hb dX7_sum_24 (by decide) ?_
      refine lv_istore (lv' := [(4, .int (0 : Int32)), (2, .long (0 : Int64)), (0, .ref h_th), (1, .int x0)]) hx hb dX7_sum_25 hl (by decide) rfl (fun ls hl => ?_)
      obtain ⟨w_19, hw_20, hk_w_19, hr_6⟩ := obe_e h
      have J : ∀ u_w_19, w_19 = .inl u_w_19 → ∀ (H : Heap) (locs : List Loc) (ls : Array Slot), va_P (dC, dI) vwCl [(h_th, .inr (7, [v_th_row, v_th_undos, v_th_isKept, v_th_text, v_th_length, .ref h_sizes, .ref h_values, .long asked, v_th_first, v_th_behind, v_th_readBits, v_th_clauses, v_th_doing, v_th_numbers, v_th_planWord, v_th_addWord, v_th_delWord, v_th_fillWord, v_th_probes, v_th_links, v_th_looks, v_th_found, .int u_w_19.2.2])), (h_sizes, .inl (cyI, 3, .inl sizes)), (h_values, .inl (cyJ, 36, .inr (.inl values)))] H → va_D A [(h_th, .inr (7, [v_th_row, v_th_undos, v_th_isKept, v_th_text, v_th_length, .ref h_sizes, .ref h_values, .long asked, v_th_first, v_th_behind, v_th_readBits, v_th_clauses, v_th_doing, v_th_numbers, v_th_planWord, v_th_addWord, v_th_delWord, v_th_fillWord, v_th_probes, v_th_links, v_th_looks, v_th_found, .int u_w_19.2.2])), (h_sizes, .inl (cyI, 3, .inl sizes)), (h_values, .inl (cyJ, 36, .inr (.inl values)))] → va_S A s.heap H locs → lv_has ls 5 [(0, .ref h_th), (1, .int x0), (2, .long u_w_19.1)] → W p l e ({ frames := 2, cells := 0, slots := 0, locals := 45 }) s m args below meth c H locs 0 0 Q (F0 m 72 ls []) := by
        intro u_w_19 ew H locs ls hP hD hS hl
        have h := hk_w_19 _ ew
        refine lv_aload_n hx hb dX7_sum_72 rfl (lv_at hl 0 rfl) ?_
        refine lv_lload_n hx hb dX7_sum_73 rfl (lv_at hl 2 rfl) ?_
        refine va_put (D := (dC, dI)) (ci := 7) (v := .long u_w_19.1) (ty := .long) (C := RX7) (T := TX7) (N := 23) hx hb hts (fun _ hw => List.mem_cons_of_mem _ (List.mem_append_right _ hw)) tyX7 tyX7_ok nmX7 hown hK hP hD hS 0 rfl rfl 7 (by decide) (hts (.fieldLink RX7 221 "PrefixIndexModel" "asked" "J") (List.mem_of_getElem? (i := 4) rfl)) (fun _ h9 => h9) rfl (by decide +kernel) rfl rfl (Nat.le_of_ble_eq_true rfl) dX7_sum_74 (fun H locs hP hD hS => ?_)
        have hP : va_P (dC, dI) vwCl [(h_th, .inr (7, [v_th_row, v_th_undos, v_th_isKept, v_th_text, v_th_length, .ref h_sizes, .ref h_values, .long u_w_19.1, v_th_first, v_th_behind, v_th_readBits, v_th_clauses, v_th_doing, v_th_numbers, v_th_planWord, v_th_addWord, v_th_delWord, v_th_fillWord, v_th_probes, v_th_links, v_th_looks, v_th_found, .int u_w_19.2.2])), (h_sizes, .inl (cyI, 3, .inl sizes)), (h_values, .inl (cyJ, 36, .inr (.inl values)))] H := hP
        have hD : va_D A [(h_th, .inr (7, [v_th_row, v_th_undos, v_th_isKept, v_th_text, v_th_length, .ref h_sizes, .ref h_values, .long u_w_19.1, v_th_first, v_th_behind, v_th_readBits, v_th_clauses, v_th_doing, v_th_numbers, v_th_planWord, v_th_addWord, v_th_delWord, v_th_fillWord, v_th_probes, v_th_links, v_th_looks, v_th_found, .int u_w_19.2.2])), (h_sizes, .inl (cyI, 3, .inl sizes)), (h_values, .inl (cyJ, 36, .inr (.inl values)))] := hD
        refine lv_aload_n hx hb dX7_sum_77 rfl (lv_at hl 0 rfl) ?_
        refine va_get (D := (dC, dI)) (ci := 7) (v := .ref h_sizes) (C := RX7) (T := TX7) (N := 23) hx hb hts (fun _ hw => List.mem_cons_of_mem _ (List.mem_append_right _ hw)) hown hK hP 0 rfl rfl 5 (by decide) (hts (.fieldLink RX7 20 "PrefixIndexModel" "sizes" "[I") (List.mem_of_getElem? (i := 1) rfl)) (fun _ h9 => h9) rfl dX7_sum_78 ?_
        refine lv_iload_n hx hb dX7_sum_81 rfl (lv_at hl 1 rfl) ?_
        obtain ⟨hi_21, h⟩ := oin_e h
        refine va_iald hx hb hK hP 1 0 rfl rfl hi_21 dX7_sum_82 ?_
        obtain rfl := Option.some.inj h
        exact hret _ _ _ _ dX7_sum_83 hP hD hS
      have LL : ∀ (n : Nat) (m2 : Int64) (m4 : Int32) (zisOver : Int32) (H : Heap) (locs : List Loc) (ls : Array Slot), lpX7_sum_27 x0 asked sizes values n m2 m4 zisOver = some w_19 → va_P (dC, dI) vwCl [(h_th, .inr (7, [v_th_row, v_th_undos, v_th_isKept, v_th_text, v_th_length, .ref h_sizes, .ref h_values, .long asked, v_th_first, v_th_behind, v_th_readBits, v_th_clauses, v_th_doing, v_th_numbers, v_th_planWord, v_th_addWord, v_th_delWord, v_th_fillWord, v_th_probes, v_th_links, v_th_looks, v_th_found, .int zisOver])), (h_sizes, .inl (cyI, 3, .inl sizes)), (h_values, .inl (cyJ, 36, .inr (.inl values)))] H → va_D A [(h_th, .inr (7, [v_th_row, v_th_undos, v_th_isKept, v_th_text, v_th_length, .ref h_sizes, .ref h_values, .long asked, v_th_first, v_th_behind, v_th_readBits, v_th_clauses, v_th_doing, v_th_numbers, v_th_planWord, v_th_addWord, v_th_delWord, v_th_fillWord, v_th_probes, v_th_links, v_th_looks, v_th_found, .int zisOver])), (h_sizes, .inl (cyI, 3, .inl sizes)), (h_values, .inl (cyJ, 36, .inr (.inl values)))] → va_S A s.heap H locs → lv_has ls 5 [(0, .ref h_th), (1, .int x0), (2, .long m2), (4, .int m4)] → W p l e ({ frames := 2, cells := 0, slots := 0, locals := 45 }) s m args below meth c H locs 0 0 Q (F0 m 27 ls []) := by
        intro n
        induction n with
        | zero =>
          intro m2 m4 zisOver H locs ls h
          exact absurd h (by rw [lpX7_sum_27]; exact fun q => by cases q)
        | succ n ih =>
          intro m2 m4 zisOver H locs ls h hP hD hS hl
          rw [lpX7_sum_27] at h
          refine lv_iload hx hb dX7_sum_27 (lv_at hl 3 rfl) ?_
          refine lv_aload_n hx hb dX7_sum_29 rfl (lv_at hl 0 rfl) ?_
          refine va_get (D := (dC, dI)) (ci := 7) (v := .ref h_sizes) (C := RX7) (T := TX7) (N := 23) hx hb hts (fun _ hw => List.mem_cons_of_mem _ (List.mem_append_right _ hw)) hown hK hP 0 rfl rfl 5 (by decide) (hts (.fieldLink RX7 20 "PrefixIndexModel" "sizes" "[I") (List.mem_of_getElem? (i := 1) rfl)) (fun _ h9 => h9) rfl dX7_sum_30 ?_
          refine lv_iload_n hx hb dX7_sum_33 rfl (lv_at hl 1 rfl) ?_
          obtain ⟨hi_13, h⟩ := oin_e h
          refine va_iald hx hb hK hP 1 0 rfl rfl hi_13 dX7_sum_34 ?_
          refine lv_icmp_ge (tgt := 72) hx hb dX7_sum_35 (by decide) (fun c_14 => ?_) (fun c_14 => ?_)
          · have h := og_ite_t c_14 h
            obtain rfl := Option.some.inj h
            exact J _ rfl _ _ _ hP hD hS (lv_sub hl [0, 1, 2] rfl)
          · have h := og_ite_f c_14 h
            refine lv_aload_n hx hb dX7_sum_38 rfl (lv_at hl 0 rfl) ?_
            refine lv_lload_n hx hb dX7_sum_39 rfl (lv_at hl 2 rfl) ?_
            refine lv_aload_n hx hb dX7_sum_40 rfl (lv_at hl 0 rfl) ?_
            refine va_get (D := (dC, dI)) (ci := 7) (v := .ref h_values) (C := RX7) (T := TX7) (N := 23) hx hb hts (fun _ hw => List.mem_cons_of_mem _ (List.mem_append_right _ hw)) hown hK hP 0 rfl rfl 6 (by decide) (hts (.fieldLink RX7 23 "PrefixIndexModel" "values" "[J") (List.mem_of_getElem? (i := 2) rfl)) (fun _ h9 => h9) rfl dX7_sum_41 ?_
            refine lv_bipush (v := 12) hx hb dX7_sum_44 (by decide) ?_
            refine lv_iload_n hx hb dX7_sum_46 rfl (lv_at hl 1 rfl) ?_
            refine lv_imul hx hb dX7_sum_47 ?_
            refine lv_iload hx hb dX7_sum_48 (lv_at hl 3 rfl) ?_
            refine lv_iadd hx hb dX7_sum_50 ?_
            obtain ⟨hi_15, h⟩ := oin_e h
            refine va_lald hx hb hK hP 2 1 rfl rfl hi_15 dX7_sum_51 ?_
            obtain ⟨u_16, hc_17, h⟩ := obd_e h
            refine Gcl (wr := [(h_sizes, .inl (cyI, 3, .inl sizes)), (h_values, .inl (cyJ, 36, .inr (.inl values)))]) (va_runV (As := [.long m2, .long (values (((12 : Int32) * x0) + m4).toNatClampNeg)]) (rest := []) ⟨hx, hb, hml, hown, hts⟩ (tX7_plus l dC dI cyI cyJ cyZ cyO H.size h_th v_th_row v_th_undos v_th_isKept v_th_text v_th_length (.ref h_sizes) (.ref h_values) (.long asked) v_th_first v_th_behind v_th_readBits v_th_clauses v_th_doing v_th_numbers v_th_planWord v_th_addWord v_th_delWord v_th_fillWord v_th_probes v_th_links v_th_looks v_th_found zisOver m2 (values (((12 : Int32) * x0) + m4).toNatClampNeg) u_16 hc_17) (cwV 2 hts gX7_sum_X7_plus rfl rfl rfl (by decide +kernel) ⟨Nat.le_of_ble_eq_true rfl, Nat.le_of_ble_eq_true rfl⟩) (GpreV hP hD hK hN [0] rfl (by decide) 7 0 rfl rfl rfl) rfl rfl hl.1 rfl (lv_room (Nat.le_of_ble_eq_true rfl)) dX7_sum_52 ⟨Nat.zero_le _, Nat.zero_le _⟩) hP hD hS hA [0] [1, 2] rfl rfl (by decide) (by decide) (fun H locs hP hD hS => ?_)
            have hP : va_P (dC, dI) vwCl [(h_sizes, .inl (cyI, 3, .inl sizes)), (h_values, .inl (cyJ, 36, .inr (.inl values))), (h_th, .inr (7, [v_th_row, v_th_undos, v_th_isKept, v_th_text, v_th_length, .ref h_sizes, .ref h_values, .long asked, v_th_first, v_th_behind, v_th_readBits, v_th_clauses, v_th_doing, v_th_numbers, v_th_planWord, v_th_addWord, v_th_delWord, v_th_fillWord, v_th_probes, v_th_links, v_th_looks, v_th_found, .int u_16.2]))] H := hP
            have hD : va_D A [(h_sizes, .inl (cyI, 3, .inl sizes)), (h_values, .inl (cyJ, 36, .inr (.inl values))), (h_th, .inr (7, [v_th_row, v_th_undos, v_th_isKept, v_th_text, v_th_length, .ref h_sizes, .ref h_values, .long asked, v_th_first, v_th_behind, v_th_readBits, v_th_clauses, v_th_doing, v_th_numbers, v_th_planWord, v_th_addWord, v_th_delWord, v_th_fillWord, v_th_probes, v_th_links, v_th_looks, v_th_found, .int u_16.2]))] := hD
            refine lv_lstore_n (lv' := [(2, .long u_16.1), (0, .ref h_th), (1, .int x0), (4, .int m4)]) hx hb dX7_sum_55 rfl hl (by decide) rfl (fun ls hl => ?_)
            refine lv_aload_n hx hb dX7_sum_56 rfl (lv_at hl 1 rfl) ?_
            refine va_get (D := (dC, dI)) (ci := 7) (v := .int u_16.2) (C := RX7) (T := TX7) (N := 23) hx hb hts (fun _ hw => List.mem_cons_of_mem _ (List.mem_append_right _ hw)) hown hK hP 2 rfl rfl 22 (by decide) (hts (.fieldLink RX7 211 "PrefixIndexModel" "isOver" "Z") (List.mem_of_getElem? (i := 3) rfl)) (fun _ h9 => h9) rfl dX7_sum_57 ?_
            refine lv_if_eq (tgt := 66) hx hb dX7_sum_60 (by decide) (fun c_18 => ?_) (fun c_18 => ?_)
            · have h := og_ite_t c_18 h
              refine lv_iinc (v := m4 + (1 : Int32)) (lv' := [(4, .int (m4 + (1 : Int32))), (2, .long u_16.1), (0, .ref h_th), (1, .int x0)]) hx hb dX7_sum_66 hl (k := 3) rfl rfl (by decide) rfl (fun ls hl => ?_)
              refine lv_goto (tgt := 27) hx hb dX7_sum_69 (by decide) ?_
              have hP := hP.sub (ws' := [(h_th, .inr (7, [v_th_row, v_th_undos, v_th_isKept, v_th_text, v_th_length, .ref h_sizes, .ref h_values, .long asked, v_th_first, v_th_behind, v_th_readBits, v_th_clauses, v_th_doing, v_th_numbers, v_th_planWord, v_th_addWord, v_th_delWord, v_th_fillWord, v_th_probes, v_th_links, v_th_looks, v_th_found, .int u_16.2])), (h_sizes, .inl (cyI, 3, .inl sizes)), (h_values, .inl (cyJ, 36, .inr (.inl values)))]) [2, 0, 1] rfl
              have hD := hD.sub (ws' := [(h_th, .inr (7, [v_th_row, v_th_undos, v_th_isKept, v_th_text, v_th_length, .ref h_sizes, .ref h_values, .long asked, v_th_first, v_th_behind, v_th_readBits, v_th_clauses, v_th_doing, v_th_numbers, v_th_planWord, v_th_addWord, v_th_delWord, v_th_fillWord, v_th_probes, v_th_links, v_th_looks, v_th_found, .int u_16.2])), (h_sizes, .inl (cyI, 3, .inl sizes)), (h_values, .inl (cyJ, 36, .inr (.inl values)))]) [2, 0, 1] (by decide) rfl
              exact ih u_16.1 (m4 + (1 : Int32)) u_16.2 _ _ _ h hP hD hS (lv_sub hl [2, 3, 1, 0] rfl)
            · have h := og_ite_f c_18 h
              refine lv_bipush (v := (-14)) hx hb dX7_sum_63 (by decide) ?_
              obtain rfl := hr_6 _ (Option.some.inj h).symm
              have hP := hP.sub (ws' := [(h_th, .inr (7, [v_th_row, v_th_undos, v_th_isKept, v_th_text, v_th_length, .ref h_sizes, .ref h_values, .long asked, v_th_first, v_th_behind, v_th_readBits, v_th_clauses, v_th_doing, v_th_numbers, v_th_planWord, v_th_addWord, v_th_delWord, v_th_fillWord, v_th_probes, v_th_links, v_th_looks, v_th_found, .int u_16.2])), (h_sizes, .inl (cyI, 3, .inl sizes)), (h_values, .inl (cyJ, 36, .inr (.inl values)))]) [2, 0, 1] rfl
              have hD := hD.sub (ws' := [(h_th, .inr (7, [v_th_row, v_th_undos, v_th_isKept, v_th_text, v_th_length, .ref h_sizes, .ref h_values, .long asked, v_th_first, v_th_behind, v_th_readBits, v_th_clauses, v_th_doing, v_th_numbers, v_th_planWord, v_th_addWord, v_th_delWord, v_th_fillWord, v_th_probes, v_th_links, v_th_looks, v_th_found, .int u_16.2])), (h_sizes, .inl (cyI, 3, .inl sizes)), (h_values, .inl (cyJ, 36, .inr (.inl values)))]) [2, 0, 1] (by decide) rfl
              exact hret _ _ _ _ dX7_sum_65 hP hD hS
      exact LL _ (0 : Int64) (0 : Int32) isOver _ _ _ hw_20 hP hD hS (lv_sub hl [2, 3, 1, 0] rfl)
    · have h := og_ite_f c_5 h
      refine lv_bipush (v := (-11)) hx hb dX7_sum_19 (by decide) ?_
      obtain rfl := Option.some.inj h
      exact hret _ _ _ _ dX7_sum_21 hP hD hS
  · have h := og_ite_t c_3 h
    refine lv_bipush (v := (-2)) hx hb dX7_sum_7 (by decide) ?_
    obtain rfl := Option.some.inj h
    exact hret _ _ _ _ dX7_sum_9 hP hD hS

def lpX7_load_31 (q1 : Int32) (q2 : Int32) (row : (Nat → Int32)) (sizes : (Nat → Int32)) : Nat → Int32 → (Nat → Int64) → Option (Int32 × (Nat → Int64))
  | 0, _, _ => none
  | n + 1, m3, zvalues => oin q1 3 (if (sizes q1.toNatClampNeg) ≤ m3 then (some (m3, zvalues)) else (oin (2 : Int32) 1824 (if 0 ≤ (lg_cmp (q2.toInt64 + m3.toInt64) ((row (2 : Int32).toNatClampNeg).toInt64)) then (some (m3, zvalues)) else (oin (((6 : Int32) + q2) + m3) 1824 (oin (((12 : Int32) * q1) + m3) 36 (lpX7_load_31 q1 q2 row sizes n (m3 + (1 : Int32)) (vp_updL zvalues (((12 : Int32) * q1) + m3).toNatClampNeg ((row (((6 : Int32) + q2) + m3).toNatClampNeg).toInt64))))))))

def fX7_load (row : (Nat → Int32)) (sizes : (Nat → Int32)) (values : (Nat → Int64)) (x0 : Int32) (x1 : Int32) : Option (Int32 × (Nat → Int64)) := obd (fX7_isRow x0) fun u_1 => if u_1 = 0 then (some ((-2 : Int32), values)) else (if 0 ≤ x1 then (oin x0 3 (if 0 ≤ (sizes x0.toNatClampNeg) then (obd (lpX7_load_31 x0 x1 row sizes 100000 (0 : Int32) values) fun w_20 => some (w_20.1, w_20.2)) else (some ((-11 : Int32), values)))) else (some ((-3 : Int32), values)))

set_option maxHeartbeats 4000000 in
set_option maxRecDepth 100000 in
theorem tX7_load (l : Launch) (dC : Nat → ClassId) (dI : Nat → Nat → Nat) (cyI cyJ cyZ cyO : ClassId) (sz : Nat) (h_th h_row h_sizes h_values : Nat) (v_th_undos : Value) (v_th_isKept : Value) (v_th_text : Value) (v_th_length : Value) (v_th_asked : Value) (v_th_first : Value) (v_th_behind : Value) (v_th_readBits : Value) (v_th_clauses : Value) (v_th_doing : Value) (v_th_numbers : Value) (v_th_planWord : Value) (v_th_addWord : Value) (v_th_delWord : Value) (v_th_fillWord : Value) (v_th_probes : Value) (v_th_links : Value) (v_th_looks : Value) (v_th_found : Value) (v_th_isOver : Value) (row : (Nat → Int32)) (sizes : (Nat → Int32)) (values : (Nat → Int64)) (x0 : Int32) (x1 : Int32) (u : Int32 × (Nat → Int64)) (hf : fX7_load row sizes values x0 x1 = some u) : Met l yX7_load wsX7_load ({ frames := 2, cells := 0, slots := 0, locals := 45 }) (va_Pc [.ref h_th, .int x0, .int x1] (GP (dC, dI) (T4 cyI cyJ cyZ cyO) sz [(h_th, .inr (7, [.ref h_row, v_th_undos, v_th_isKept, v_th_text, v_th_length, .ref h_sizes, .ref h_values, v_th_asked, v_th_first, v_th_behind, v_th_readBits, v_th_clauses, v_th_doing, v_th_numbers, v_th_planWord, v_th_addWord, v_th_delWord, v_th_fillWord, v_th_probes, v_th_links, v_th_looks, v_th_found, v_th_isOver])), (h_row, .inl (cyI, 1824, .inl row)), (h_sizes, .inl (cyI, 3, .inl sizes)), (h_values, .inl (cyJ, 36, .inr (.inl values)))])) (va_Qi (fun (r : Int32) (_ : Unit) => r = u.1) (GB (dC, dI) [(h_th, .inr (7, [.ref h_row, v_th_undos, v_th_isKept, v_th_text, v_th_length, .ref h_sizes, .ref h_values, v_th_asked, v_th_first, v_th_behind, v_th_readBits, v_th_clauses, v_th_doing, v_th_numbers, v_th_planWord, v_th_addWord, v_th_delWord, v_th_fillWord, v_th_probes, v_th_links, v_th_looks, v_th_found, v_th_isOver])), (h_row, .inl (cyI, 1824, .inl row)), (h_sizes, .inl (cyI, 3, .inl sizes)), (h_values, .inl (cyJ, 36, .inr (.inl u.2)))] (va_A [(h_th, .inr (7, [.ref h_row, v_th_undos, v_th_isKept, v_th_text, v_th_length, .ref h_sizes, .ref h_values, v_th_asked, v_th_first, v_th_behind, v_th_readBits, v_th_clauses, v_th_doing, v_th_numbers, v_th_planWord, v_th_addWord, v_th_delWord, v_th_fillWord, v_th_probes, v_th_links, v_th_looks, v_th_found, v_th_isOver])), (h_row, .inl (cyI, 1824, .inl row)), (h_sizes, .inl (cyI, 3, .inl sizes)), (h_values, .inl (cyJ, 36, .inr (.inl values)))] sz)) (va_A [(h_th, .inr (7, [.ref h_row, v_th_undos, v_th_isKept, v_th_text, v_th_length, .ref h_sizes, .ref h_values, v_th_asked, v_th_first, v_th_behind, v_th_readBits, v_th_clauses, v_th_doing, v_th_numbers, v_th_planWord, v_th_addWord, v_th_delWord, v_th_fillWord, v_th_probes, v_th_links, v_th_looks, v_th_found, v_th_isOver])), (h_row, .inl (cyI, 1824, .inl row)), (h_sizes, .inl (cyI, 3, .inl sizes)), (h_values, .inl (cyJ, 36, .inr (.inl values)))] sz)) 0 0 (va_A [(h_th, .inr (7, [.ref h_row, v_th_undos, v_th_isKept, v_th_text, v_th_length, .ref h_sizes, .ref h_values, v_th_asked, v_th_first, v_th_behind, v_th_readBits, v_th_clauses, v_th_doing, v_th_numbers, v_th_planWord, v_th_addWord, v_th_delWord, v_th_fillWord, v_th_probes, v_th_links, v_th_looks, v_th_found, v_th_isOver])), (h_row, .inl (cyI, 1824, .inl row)), (h_sizes, .inl (cyI, 3, .inl sizes)), (h_values, .inl (cyJ, 36, .inr (.inl values)))] sz) := by
  refine GMetI (by decide) rfl (Nat.le_of_ble_eq_true rfl) ?_
  intro p e s m args below meth c A Q ls hx hb hml hts hown hN hK hA hret hP hD hS hl
  have h := hf
  clear hf
  unfold fX7_load at h
  have hown : s.vm.findClass RX7 = some m.cls := hown
  have hl : lv_has ls 4 [(0, .ref h_th), (1, .int x0), (2, .int x1)] := hl
  refine lv_iload_n hx hb dX7_load_0 rfl (lv_at hl 1 rfl) ?_
  obtain ⟨u_1, hc_2, h⟩ := obd_e h
  refine Gci (wr := [(h_th, .inr (7, [.ref h_row, v_th_undos, v_th_isKept, v_th_text, v_th_length, .ref h_sizes, .ref h_values, v_th_asked, v_th_first, v_th_behind, v_th_readBits, v_th_clauses, v_th_doing, v_th_numbers, v_th_planWord, v_th_addWord, v_th_delWord, v_th_fillWord, v_th_probes, v_th_links, v_th_looks, v_th_found, v_th_isOver])), (h_row, .inl (cyI, 1824, .inl row)), (h_sizes, .inl (cyI, 3, .inl sizes)), (h_values, .inl (cyJ, 36, .inr (.inl values)))]) (va_runS (As := [.int x0]) (rest := []) ⟨hx, hb, hml, hown, hts⟩ (tX7_isRow l dC dI cyI cyJ cyZ cyO s.heap.size x0 u_1 hc_2) (cwS 1 hts gX7_load_X7_isRow rfl rfl rfl (by decide +kernel) ⟨Nat.le_of_ble_eq_true rfl, Nat.le_of_ble_eq_true rfl⟩) (GpreS hP hD hK hN [] rfl (by decide)) rfl rfl hl.1 rfl (lv_room (Nat.le_of_ble_eq_true rfl)) dX7_load_1 ⟨Nat.zero_le _, Nat.zero_le _⟩) hP hD hS hA [] [0, 1, 2, 3] rfl rfl (by decide) (by decide) (fun H locs hP hD hS => ?_)
  have hP : va_P (dC, dI) vwCl [(h_th, .inr (7, [.ref h_row, v_th_undos, v_th_isKept, v_th_text, v_th_length, .ref h_sizes, .ref h_values, v_th_asked, v_th_first, v_th_behind, v_th_readBits, v_th_clauses, v_th_doing, v_th_numbers, v_th_planWord, v_th_addWord, v_th_delWord, v_th_fillWord, v_th_probes, v_th_links, v_th_looks, v_th_found, v_th_isOver])), (h_row, .inl (cyI, 1824, .inl row)), (h_sizes, .inl (cyI, 3, .inl sizes)), (h_values, .inl (cyJ, 36, .inr (.inl values)))] H := hP
  have hD : va_D A [(h_th, .inr (7, [.ref h_row, v_th_undos, v_th_isKept, v_th_text, v_th_length, .ref h_sizes, .ref h_values, v_th_asked, v_th_first, v_th_behind, v_th_readBits, v_th_clauses, v_th_doing, v_th_numbers, v_th_planWord, v_th_addWord, v_th_delWord, v_th_fillWord, v_th_probes, v_th_links, v_th_looks, v_th_found, v_th_isOver])), (h_row, .inl (cyI, 1824, .inl row)), (h_sizes, .inl (cyI, 3, .inl sizes)), (h_values, .inl (cyJ, 36, .inr (.inl values)))] := hD
  refine lv_if_ne (tgt := 10) hx hb dX7_load_4 (by decide) (fun c_3 => ?_) (fun c_3 => ?_)
  · have h := og_ite_f c_3 h
    refine lv_iload_n hx hb dX7_load_10 rfl (lv_at hl 2 rfl) ?_
    refine lv_if_ge (tgt := 17) hx hb dX7_load_11 (by decide) (fun c_4 => ?_) (fun c_4 => ?_)
    · have h := og_ite_t c_4 h
      refine lv_aload_n hx hb dX7_load_17 rfl (lv_at hl 0 rfl) ?_
      refine va_get (D := (dC, dI)) (ci := 7) (v := .ref h_sizes) (C := RX7) (T := TX7) (N := 23) hx hb hts (fun _ hw => List.mem_cons_of_mem _ (List.mem_append_right _ hw)) hown hK hP 0 rfl rfl 5 (by decide) (hts (.fieldLink RX7 20 "PrefixIndexModel" "sizes" "[I") (List.mem_of_getElem? (i := 1) rfl)) (fun _ h9 => h9) rfl dX7_load_18 ?_
      refine lv_iload_n hx hb dX7_load_21 rfl (lv_at hl 1 rfl) ?_
      obtain ⟨hi_5, h⟩ := oin_e h
      refine va_iald hx hb hK hP 2 0 rfl rfl hi_5 dX7_load_22 ?_
      refine lv_if_ge (tgt := 29) hx hb dX7_load_23 (by decide) (fun c_6 => ?_) (fun c_6 => ?_)
      · have h := og_ite_t c_6 h
        refine lv_iconst (v := 0) hx hb dX7_load_29 (by decide) ?_
        refine lv_istore_n (lv' := [(3, .int (0 : Int32)), (0, .ref h_th), (1, .int x0), (2, .int x1)]) hx hb dX7_load_30 rfl hl (by decide) rfl (fun ls hl => ?_)
        obtain ⟨w_20, hw_21, h⟩ := obd_e h
        have J : ∀ (H : Heap) (locs : List Loc) (ls : Array Slot), va_P (dC, dI) vwCl [(h_th, .inr (7, [.ref h_row, v_th_undos, v_th_isKept, v_th_text, v_th_length, .ref h_sizes, .ref h_values, v_th_asked, v_th_first, v_th_behind, v_th_readBits, v_th_clauses, v_th_doing, v_th_numbers, v_th_planWord, v_th_addWord, v_th_delWord, v_th_fillWord, v_th_probes, v_th_links, v_th_looks, v_th_found, v_th_isOver])), (h_row, .inl (cyI, 1824, .inl row)), (h_sizes, .inl (cyI, 3, .inl sizes)), (h_values, .inl (cyJ, 36, .inr (.inl w_20.2)))] H → va_D A [(h_th, .inr (7, [.ref h_row, v_th_undos, v_th_isKept, v_th_text, v_th_length, .ref h_sizes, .ref h_values, v_th_asked, v_th_first, v_th_behind, v_th_readBits, v_th_clauses, v_th_doing, v_th_numbers, v_th_planWord, v_th_addWord, v_th_delWord, v_th_fillWord, v_th_probes, v_th_links, v_th_looks, v_th_found, v_th_isOver])), (h_row, .inl (cyI, 1824, .inl row)), (h_sizes, .inl (cyI, 3, .inl sizes)), (h_values, .inl (cyJ, 36, .inr (.inl w_20.2)))] → va_S A s.heap H locs → lv_has ls 4 [(3, .int w_20.1)] → W p l e ({ frames := 2, cells := 0, slots := 0, locals := 45 }) s m args below meth c H locs 0 0 Q (F0 m 86 ls []) := by
          intro H locs ls hP hD hS hl
          refine lv_iload_n hx hb dX7_load_86 rfl (lv_at hl 0 rfl) ?_
          obtain rfl := Option.some.inj h
          exact hret _ _ _ _ dX7_load_87 hP hD hS
        have LL : ∀ (n : Nat) (m3 : Int32) (zvalues : (Nat → Int64)) (H : Heap) (locs : List Loc) (ls : Array Slot), lpX7_load_31 x0 x1 row sizes n m3 zvalues = some w_20 → va_P (dC, dI) vwCl [(h_th, .inr (7, [.ref h_row, v_th_undos, v_th_isKept, v_th_text, v_th_length, .ref h_sizes, .ref h_values, v_th_asked, v_th_first, v_th_behind, v_th_readBits, v_th_clauses, v_th_doing, v_th_numbers, v_th_planWord, v_th_addWord, v_th_delWord, v_th_fillWord, v_th_probes, v_th_links, v_th_looks, v_th_found, v_th_isOver])), (h_row, .inl (cyI, 1824, .inl row)), (h_sizes, .inl (cyI, 3, .inl sizes)), (h_values, .inl (cyJ, 36, .inr (.inl zvalues)))] H → va_D A [(h_th, .inr (7, [.ref h_row, v_th_undos, v_th_isKept, v_th_text, v_th_length, .ref h_sizes, .ref h_values, v_th_asked, v_th_first, v_th_behind, v_th_readBits, v_th_clauses, v_th_doing, v_th_numbers, v_th_planWord, v_th_addWord, v_th_delWord, v_th_fillWord, v_th_probes, v_th_links, v_th_looks, v_th_found, v_th_isOver])), (h_row, .inl (cyI, 1824, .inl row)), (h_sizes, .inl (cyI, 3, .inl sizes)), (h_values, .inl (cyJ, 36, .inr (.inl zvalues)))] → va_S A s.heap H locs → lv_has ls 4 [(0, .ref h_th), (1, .int x0), (2, .int x1), (3, .int m3)] → W p l e ({ frames := 2, cells := 0, slots := 0, locals := 45 }) s m args below meth c H locs 0 0 Q (F0 m 31 ls []) := by
          intro n
          induction n with
          | zero =>
            intro m3 zvalues H locs ls h
            exact absurd h (by rw [lpX7_load_31]; exact fun q => by cases q)
          | succ n ih =>
            intro m3 zvalues H locs ls h hP hD hS hl
            rw [lpX7_load_31] at h
            refine lv_iload_n hx hb dX7_load_31 rfl (lv_at hl 3 rfl) ?_
            refine lv_aload_n hx hb dX7_load_32 rfl (lv_at hl 0 rfl) ?_
            refine va_get (D := (dC, dI)) (ci := 7) (v := .ref h_sizes) (C := RX7) (T := TX7) (N := 23) hx hb hts (fun _ hw => List.mem_cons_of_mem _ (List.mem_append_right _ hw)) hown hK hP 0 rfl rfl 5 (by decide) (hts (.fieldLink RX7 20 "PrefixIndexModel" "sizes" "[I") (List.mem_of_getElem? (i := 1) rfl)) (fun _ h9 => h9) rfl dX7_load_33 ?_
            refine lv_iload_n hx hb dX7_load_36 rfl (lv_at hl 1 rfl) ?_
            obtain ⟨hi_14, h⟩ := oin_e h
            refine va_iald hx hb hK hP 2 0 rfl rfl hi_14 dX7_load_37 ?_
            refine lv_icmp_ge (tgt := 86) hx hb dX7_load_38 (by decide) (fun c_15 => ?_) (fun c_15 => ?_)
            · have h := og_ite_t c_15 h
              obtain rfl := Option.some.inj h
              exact J _ _ _ hP hD hS (lv_sub hl [3] rfl)
            · have h := og_ite_f c_15 h
              refine lv_iload_n hx hb dX7_load_41 rfl (lv_at hl 2 rfl) ?_
              refine lv_i2l (v := x1.toInt64) hx hb dX7_load_42 rfl ?_
              refine lv_iload_n hx hb dX7_load_43 rfl (lv_at hl 3 rfl) ?_
              refine lv_i2l (v := m3.toInt64) hx hb dX7_load_44 rfl ?_
              refine lv_ladd hx hb dX7_load_45 ?_
              refine lv_aload_n hx hb dX7_load_46 rfl (lv_at hl 0 rfl) ?_
              refine va_get (D := (dC, dI)) (ci := 7) (v := .ref h_row) (C := RX7) (T := TX7) (N := 23) hx hb hts (fun _ hw => List.mem_cons_of_mem _ (List.mem_append_right _ hw)) hown hK hP 0 rfl rfl 0 (by decide) (hts (.fieldLink RX7 7 "PrefixIndexModel" "row" "[I") (List.mem_of_getElem? (i := 2) rfl)) (fun _ h9 => h9) rfl dX7_load_47 ?_
              refine lv_iconst (v := 2) hx hb dX7_load_50 (by decide) ?_
              obtain ⟨hi_16, h⟩ := oin_e h
              refine va_iald hx hb hK hP 1 0 rfl rfl hi_16 dX7_load_51 ?_
              refine lv_i2l (v := (row (2 : Int32).toNatClampNeg).toInt64) hx hb dX7_load_52 rfl ?_
              refine W.lcmp hx hb dX7_load_53 ?_
              refine lv_if_ge (tgt := 86) hx hb dX7_load_54 (by decide) (fun c_17 => ?_) (fun c_17 => ?_)
              · have h := og_ite_t c_17 h
                obtain rfl := Option.some.inj h
                exact J _ _ _ hP hD hS (lv_sub hl [3] rfl)
              · have h := og_ite_f c_17 h
                refine lv_aload_n hx hb dX7_load_57 rfl (lv_at hl 0 rfl) ?_
                refine va_get (D := (dC, dI)) (ci := 7) (v := .ref h_values) (C := RX7) (T := TX7) (N := 23) hx hb hts (fun _ hw => List.mem_cons_of_mem _ (List.mem_append_right _ hw)) hown hK hP 0 rfl rfl 6 (by decide) (hts (.fieldLink RX7 23 "PrefixIndexModel" "values" "[J") (List.mem_of_getElem? (i := 3) rfl)) (fun _ h9 => h9) rfl dX7_load_58 ?_
                refine lv_bipush (v := 12) hx hb dX7_load_61 (by decide) ?_
                refine lv_iload_n hx hb dX7_load_63 rfl (lv_at hl 1 rfl) ?_
                refine lv_imul hx hb dX7_load_64 ?_
                refine lv_iload_n hx hb dX7_load_65 rfl (lv_at hl 3 rfl) ?_
                refine lv_iadd hx hb dX7_load_66 ?_
                refine lv_aload_n hx hb dX7_load_67 rfl (lv_at hl 0 rfl) ?_
                refine va_get (D := (dC, dI)) (ci := 7) (v := .ref h_row) (C := RX7) (T := TX7) (N := 23) hx hb hts (fun _ hw => List.mem_cons_of_mem _ (List.mem_append_right _ hw)) hown hK hP 0 rfl rfl 0 (by decide) (hts (.fieldLink RX7 7 "PrefixIndexModel" "row" "[I") (List.mem_of_getElem? (i := 2) rfl)) (fun _ h9 => h9) rfl dX7_load_68 ?_
                refine lv_bipush (v := 6) hx hb dX7_load_71 (by decide) ?_
                refine lv_iload_n hx hb dX7_load_73 rfl (lv_at hl 2 rfl) ?_
                refine lv_iadd hx hb dX7_load_74 ?_
                refine lv_iload_n hx hb dX7_load_75 rfl (lv_at hl 3 rfl) ?_
                refine lv_iadd hx hb dX7_load_76 ?_
                obtain ⟨hi_18, h⟩ := oin_e h
                refine va_iald hx hb hK hP 1 0 rfl rfl hi_18 dX7_load_77 ?_
                refine lv_i2l (v := (row (((6 : Int32) + x1) + m3).toNatClampNeg).toInt64) hx hb dX7_load_78 rfl ?_
                obtain ⟨hi_19, h⟩ := oin_e h
                refine va_last hx hb hK hP hD hS 3 1 rfl rfl hi_19 dX7_load_79 (fun H locs hP hD hS => ?_)
                have hP : va_P (dC, dI) vwCl [(h_th, .inr (7, [.ref h_row, v_th_undos, v_th_isKept, v_th_text, v_th_length, .ref h_sizes, .ref h_values, v_th_asked, v_th_first, v_th_behind, v_th_readBits, v_th_clauses, v_th_doing, v_th_numbers, v_th_planWord, v_th_addWord, v_th_delWord, v_th_fillWord, v_th_probes, v_th_links, v_th_looks, v_th_found, v_th_isOver])), (h_row, .inl (cyI, 1824, .inl row)), (h_sizes, .inl (cyI, 3, .inl sizes)), (h_values, .inl (cyJ, 36, .inr (.inl (vp_updL zvalues (((12 : Int32) * x0) + m3).toNatClampNeg ((row (((6 : Int32) + x1) + m3).toNatClampNeg).toInt64)))))] H := hP
                have hD : va_D A [(h_th, .inr (7, [.ref h_row, v_th_undos, v_th_isKept, v_th_text, v_th_length, .ref h_sizes, .ref h_values, v_th_asked, v_th_first, v_th_behind, v_th_readBits, v_th_clauses, v_th_doing, v_th_numbers, v_th_planWord, v_th_addWord, v_th_delWord, v_th_fillWord, v_th_probes, v_th_links, v_th_looks, v_th_found, v_th_isOver])), (h_row, .inl (cyI, 1824, .inl row)), (h_sizes, .inl (cyI, 3, .inl sizes)), (h_values, .inl (cyJ, 36, .inr (.inl (vp_updL zvalues (((12 : Int32) * x0) + m3).toNatClampNeg ((row (((6 : Int32) + x1) + m3).toNatClampNeg).toInt64)))))] := hD
                refine lv_iinc (v := m3 + (1 : Int32)) (lv' := [(3, .int (m3 + (1 : Int32))), (0, .ref h_th), (1, .int x0), (2, .int x1)]) hx hb dX7_load_80 hl (k := 3) rfl rfl (by decide) rfl (fun ls hl => ?_)
                refine lv_goto (tgt := 31) hx hb dX7_load_83 (by decide) ?_
                exact ih (m3 + (1 : Int32)) (vp_updL zvalues (((12 : Int32) * x0) + m3).toNatClampNeg ((row (((6 : Int32) + x1) + m3).toNatClampNeg).toInt64)) _ _ _ h hP hD hS (lv_sub hl [1, 2, 3, 0] rfl)
        exact LL _ (0 : Int32) values _ _ _ hw_21 hP hD hS (lv_sub hl [1, 2, 3, 0] rfl)
      · have h := og_ite_f c_6 h
        refine lv_bipush (v := (-11)) hx hb dX7_load_26 (by decide) ?_
        obtain rfl := Option.some.inj h
        exact hret _ _ _ _ dX7_load_28 hP hD hS
    · have h := og_ite_f c_4 h
      refine lv_bipush (v := (-3)) hx hb dX7_load_14 (by decide) ?_
      obtain rfl := Option.some.inj h
      exact hret _ _ _ _ dX7_load_16 hP hD hS
  · have h := og_ite_t c_3 h
    refine lv_bipush (v := (-2)) hx hb dX7_load_7 (by decide) ?_
    obtain rfl := Option.some.inj h
    exact hret _ _ _ _ dX7_load_9 hP hD hS

def fX7_drop (sizes : (Nat → Int32)) (x0 : Int32) : Option (Int32 × (Nat → Int32)) := obd (fX7_isRow x0) fun u_1 => if u_1 = 0 then (some ((-2 : Int32), sizes)) else (oin x0 3 (oin x0 3 (olet (if 0 ≤ (sizes x0.toNatClampNeg) then ((sizes x0.toNatClampNeg)) else ((-11 : Int32))) fun y_7 => some (y_7, upd sizes x0.toNatClampNeg (-1 : Int32)))))

set_option maxHeartbeats 4000000 in
set_option maxRecDepth 100000 in
theorem tX7_drop (l : Launch) (dC : Nat → ClassId) (dI : Nat → Nat → Nat) (cyI cyJ cyZ cyO : ClassId) (sz : Nat) (h_th h_sizes : Nat) (v_th_row : Value) (v_th_undos : Value) (v_th_isKept : Value) (v_th_text : Value) (v_th_length : Value) (v_th_values : Value) (v_th_asked : Value) (v_th_first : Value) (v_th_behind : Value) (v_th_readBits : Value) (v_th_clauses : Value) (v_th_doing : Value) (v_th_numbers : Value) (v_th_planWord : Value) (v_th_addWord : Value) (v_th_delWord : Value) (v_th_fillWord : Value) (v_th_probes : Value) (v_th_links : Value) (v_th_looks : Value) (v_th_found : Value) (v_th_isOver : Value) (sizes : (Nat → Int32)) (x0 : Int32) (u : Int32 × (Nat → Int32)) (hf : fX7_drop sizes x0 = some u) : Met l yX7_drop wsX7_drop ({ frames := 2, cells := 0, slots := 0, locals := 45 }) (va_Pc [.ref h_th, .int x0] (GP (dC, dI) (T4 cyI cyJ cyZ cyO) sz [(h_th, .inr (7, [v_th_row, v_th_undos, v_th_isKept, v_th_text, v_th_length, .ref h_sizes, v_th_values, v_th_asked, v_th_first, v_th_behind, v_th_readBits, v_th_clauses, v_th_doing, v_th_numbers, v_th_planWord, v_th_addWord, v_th_delWord, v_th_fillWord, v_th_probes, v_th_links, v_th_looks, v_th_found, v_th_isOver])), (h_sizes, .inl (cyI, 3, .inl sizes))])) (va_Qi (fun (r : Int32) (_ : Unit) => r = u.1) (GB (dC, dI) [(h_th, .inr (7, [v_th_row, v_th_undos, v_th_isKept, v_th_text, v_th_length, .ref h_sizes, v_th_values, v_th_asked, v_th_first, v_th_behind, v_th_readBits, v_th_clauses, v_th_doing, v_th_numbers, v_th_planWord, v_th_addWord, v_th_delWord, v_th_fillWord, v_th_probes, v_th_links, v_th_looks, v_th_found, v_th_isOver])), (h_sizes, .inl (cyI, 3, .inl u.2))] (va_A [(h_th, .inr (7, [v_th_row, v_th_undos, v_th_isKept, v_th_text, v_th_length, .ref h_sizes, v_th_values, v_th_asked, v_th_first, v_th_behind, v_th_readBits, v_th_clauses, v_th_doing, v_th_numbers, v_th_planWord, v_th_addWord, v_th_delWord, v_th_fillWord, v_th_probes, v_th_links, v_th_looks, v_th_found, v_th_isOver])), (h_sizes, .inl (cyI, 3, .inl sizes))] sz)) (va_A [(h_th, .inr (7, [v_th_row, v_th_undos, v_th_isKept, v_th_text, v_th_length, .ref h_sizes, v_th_values, v_th_asked, v_th_first, v_th_behind, v_th_readBits, v_th_clauses, v_th_doing, v_th_numbers, v_th_planWord, v_th_addWord, v_th_delWord, v_th_fillWord, v_th_probes, v_th_links, v_th_looks, v_th_found, v_th_isOver])), (h_sizes, .inl (cyI, 3, .inl sizes))] sz)) 0 0 (va_A [(h_th, .inr (7, [v_th_row, v_th_undos, v_th_isKept, v_th_text, v_th_length, .ref h_sizes, v_th_values, v_th_asked, v_th_first, v_th_behind, v_th_readBits, v_th_clauses, v_th_doing, v_th_numbers, v_th_planWord, v_th_addWord, v_th_delWord, v_th_fillWord, v_th_probes, v_th_links, v_th_looks, v_th_found, v_th_isOver])), (h_sizes, .inl (cyI, 3, .inl sizes))] sz) := by
  refine GMetI (by decide) rfl (Nat.le_of_ble_eq_true rfl) ?_
  intro p e s m args below meth c A Q ls hx hb hml hts hown hN hK hA hret hP hD hS hl
  have h := hf
  clear hf
  unfold fX7_drop at h
  have hown : s.vm.findClass RX7 = some m.cls := hown
  have hl : lv_has ls 3 [(0, .ref h_th), (1, .int x0)] := hl
  refine lv_iload_n hx hb dX7_drop_0 rfl (lv_at hl 1 rfl) ?_
  obtain ⟨u_1, hc_2, h⟩ := obd_e h
  refine Gci (wr := [(h_th, .inr (7, [v_th_row, v_th_undos, v_th_isKept, v_th_text, v_th_length, .ref h_sizes, v_th_values, v_th_asked, v_th_first, v_th_behind, v_th_readBits, v_th_clauses, v_th_doing, v_th_numbers, v_th_planWord, v_th_addWord, v_th_delWord, v_th_fillWord, v_th_probes, v_th_links, v_th_looks, v_th_found, v_th_isOver])), (h_sizes, .inl (cyI, 3, .inl sizes))]) (va_runS (As := [.int x0]) (rest := []) ⟨hx, hb, hml, hown, hts⟩ (tX7_isRow l dC dI cyI cyJ cyZ cyO s.heap.size x0 u_1 hc_2) (cwS 1 hts gX7_drop_X7_isRow rfl rfl rfl (by decide +kernel) ⟨Nat.le_of_ble_eq_true rfl, Nat.le_of_ble_eq_true rfl⟩) (GpreS hP hD hK hN [] rfl (by decide)) rfl rfl hl.1 rfl (lv_room (Nat.le_of_ble_eq_true rfl)) dX7_drop_1 ⟨Nat.zero_le _, Nat.zero_le _⟩) hP hD hS hA [] [0, 1] rfl rfl (by decide) (by decide) (fun H locs hP hD hS => ?_)
  have hP : va_P (dC, dI) vwCl [(h_th, .inr (7, [v_th_row, v_th_undos, v_th_isKept, v_th_text, v_th_length, .ref h_sizes, v_th_values, v_th_asked, v_th_first, v_th_behind, v_th_readBits, v_th_clauses, v_th_doing, v_th_numbers, v_th_planWord, v_th_addWord, v_th_delWord, v_th_fillWord, v_th_probes, v_th_links, v_th_looks, v_th_found, v_th_isOver])), (h_sizes, .inl (cyI, 3, .inl sizes))] H := hP
  have hD : va_D A [(h_th, .inr (7, [v_th_row, v_th_undos, v_th_isKept, v_th_text, v_th_length, .ref h_sizes, v_th_values, v_th_asked, v_th_first, v_th_behind, v_th_readBits, v_th_clauses, v_th_doing, v_th_numbers, v_th_planWord, v_th_addWord, v_th_delWord, v_th_fillWord, v_th_probes, v_th_links, v_th_looks, v_th_found, v_th_isOver])), (h_sizes, .inl (cyI, 3, .inl sizes))] := hD
  refine lv_if_ne (tgt := 10) hx hb dX7_drop_4 (by decide) (fun c_3 => ?_) (fun c_3 => ?_)
  · have h := og_ite_f c_3 h
    refine lv_aload_n hx hb dX7_drop_10 rfl (lv_at hl 0 rfl) ?_
    refine va_get (D := (dC, dI)) (ci := 7) (v := .ref h_sizes) (C := RX7) (T := TX7) (N := 23) hx hb hts (fun _ hw => List.mem_cons_of_mem _ (List.mem_append_right _ hw)) hown hK hP 0 rfl rfl 5 (by decide) (hts (.fieldLink RX7 20 "PrefixIndexModel" "sizes" "[I") (List.mem_of_getElem? (i := 1) rfl)) (fun _ h9 => h9) rfl dX7_drop_11 ?_
    refine lv_iload_n hx hb dX7_drop_14 rfl (lv_at hl 1 rfl) ?_
    obtain ⟨hi_4, h⟩ := oin_e h
    refine va_iald hx hb hK hP 1 0 rfl rfl hi_4 dX7_drop_15 ?_
    refine lv_istore_n (lv' := [(2, .int (sizes x0.toNatClampNeg)), (0, .ref h_th), (1, .int x0)]) hx hb dX7_drop_16 rfl hl (by decide) rfl (fun ls hl => ?_)
    refine lv_aload_n hx hb dX7_drop_17 rfl (lv_at hl 1 rfl) ?_
    refine va_get (D := (dC, dI)) (ci := 7) (v := .ref h_sizes) (C := RX7) (T := TX7) (N := 23) hx hb hts (fun _ hw => List.mem_cons_of_mem _ (List.mem_append_right _ hw)) hown hK hP 0 rfl rfl 5 (by decide) (hts (.fieldLink RX7 20 "PrefixIndexModel" "sizes" "[I") (List.mem_of_getElem? (i := 1) rfl)) (fun _ h9 => h9) rfl dX7_drop_18 ?_
    refine lv_iload_n hx hb dX7_drop_21 rfl (lv_at hl 2 rfl) ?_
    refine lv_iconst (v := (-1)) hx hb dX7_drop_22 (by decide) ?_
    obtain ⟨hi_5, h⟩ := oin_e h
    refine va_iast hx hb hK hP hD hS 1 0 rfl rfl hi_5 dX7_drop_23 (fun H locs hP hD hS => ?_)
    have hP : va_P (dC, dI) vwCl [(h_th, .inr (7, [v_th_row, v_th_undos, v_th_isKept, v_th_text, v_th_length, .ref h_sizes, v_th_values, v_th_asked, v_th_first, v_th_behind, v_th_readBits, v_th_clauses, v_th_doing, v_th_numbers, v_th_planWord, v_th_addWord, v_th_delWord, v_th_fillWord, v_th_probes, v_th_links, v_th_looks, v_th_found, v_th_isOver])), (h_sizes, .inl (cyI, 3, .inl (upd sizes x0.toNatClampNeg (-1 : Int32))))] H := hP
    have hD : va_D A [(h_th, .inr (7, [v_th_row, v_th_undos, v_th_isKept, v_th_text, v_th_length, .ref h_sizes, v_th_values, v_th_asked, v_th_first, v_th_behind, v_th_readBits, v_th_clauses, v_th_doing, v_th_numbers, v_th_planWord, v_th_addWord, v_th_delWord, v_th_fillWord, v_th_probes, v_th_links, v_th_looks, v_th_found, v_th_isOver])), (h_sizes, .inl (cyI, 3, .inl (upd sizes x0.toNatClampNeg (-1 : Int32))))] := hD
    refine lv_iload_n hx hb dX7_drop_24 rfl (lv_at hl 0 rfl) ?_
    obtain ⟨y_7, ey_7, h⟩ := olet_e h
    have J : ∀ (H : Heap) (locs : List Loc) (ls : Array Slot), va_P (dC, dI) vwCl [(h_th, .inr (7, [v_th_row, v_th_undos, v_th_isKept, v_th_text, v_th_length, .ref h_sizes, v_th_values, v_th_asked, v_th_first, v_th_behind, v_th_readBits, v_th_clauses, v_th_doing, v_th_numbers, v_th_planWord, v_th_addWord, v_th_delWord, v_th_fillWord, v_th_probes, v_th_links, v_th_looks, v_th_found, v_th_isOver])), (h_sizes, .inl (cyI, 3, .inl (upd sizes x0.toNatClampNeg (-1 : Int32))))] H → va_D A [(h_th, .inr (7, [v_th_row, v_th_undos, v_th_isKept, v_th_text, v_th_length, .ref h_sizes, v_th_values, v_th_asked, v_th_first, v_th_behind, v_th_readBits, v_th_clauses, v_th_doing, v_th_numbers, v_th_planWord, v_th_addWord, v_th_delWord, v_th_fillWord, v_th_probes, v_th_links, v_th_looks, v_th_found, v_th_isOver])), (h_sizes, .inl (cyI, 3, .inl (upd sizes x0.toNatClampNeg (-1 : Int32))))] → va_S A s.heap H locs → lv_has ls 3 [] → W p l e ({ frames := 2, cells := 0, slots := 0, locals := 45 }) s m args below meth c H locs 0 0 Q (F0 m 34 ls [.int y_7]) := by
      intro H locs ls hP hD hS hl
      obtain rfl := Option.some.inj h
      exact hret _ _ _ _ dX7_drop_34 hP hD hS
    clear h
    refine lv_if_ge (tgt := 33) hx hb dX7_drop_25 (by decide) (fun c_6 => ?_) (fun c_6 => ?_)
    · refine lv_iload_n hx hb dX7_drop_33 rfl (lv_at hl 0 rfl) ?_
      rw [if_pos c_6] at ey_7
      subst ey_7
      exact J H locs _ hP hD hS (lv_sub hl [] rfl)
    · refine lv_bipush (v := (-11)) hx hb dX7_drop_28 (by decide) ?_
      refine lv_goto (tgt := 34) hx hb dX7_drop_30 (by decide) ?_
      rw [if_neg c_6] at ey_7
      subst ey_7
      exact J H locs _ hP hD hS (lv_sub hl [] rfl)
  · have h := og_ite_t c_3 h
    refine lv_bipush (v := (-2)) hx hb dX7_drop_7 (by decide) ?_
    obtain rfl := Option.some.inj h
    exact hret _ _ _ _ dX7_drop_9 hP hD hS

def fX7_asked (asked : Int64) : Option (Int64) := some asked

set_option maxHeartbeats 4000000 in
set_option maxRecDepth 100000 in
theorem tX7_asked (l : Launch) (dC : Nat → ClassId) (dI : Nat → Nat → Nat) (cyI cyJ cyZ cyO : ClassId) (sz : Nat) (h_th : Nat) (v_th_row : Value) (v_th_undos : Value) (v_th_isKept : Value) (v_th_text : Value) (v_th_length : Value) (v_th_sizes : Value) (v_th_values : Value) (v_th_first : Value) (v_th_behind : Value) (v_th_readBits : Value) (v_th_clauses : Value) (v_th_doing : Value) (v_th_numbers : Value) (v_th_planWord : Value) (v_th_addWord : Value) (v_th_delWord : Value) (v_th_fillWord : Value) (v_th_probes : Value) (v_th_links : Value) (v_th_looks : Value) (v_th_found : Value) (v_th_isOver : Value) (asked : Int64) (u : Int64) (hf : fX7_asked asked = some u) : Met l yX7_asked wsX7_asked ({ frames := 0, cells := 0, slots := 0, locals := 0 }) (va_Pc [.ref h_th] (GP (dC, dI) (T4 cyI cyJ cyZ cyO) sz [(h_th, .inr (7, [v_th_row, v_th_undos, v_th_isKept, v_th_text, v_th_length, v_th_sizes, v_th_values, .long asked, v_th_first, v_th_behind, v_th_readBits, v_th_clauses, v_th_doing, v_th_numbers, v_th_planWord, v_th_addWord, v_th_delWord, v_th_fillWord, v_th_probes, v_th_links, v_th_looks, v_th_found, v_th_isOver]))])) (va_Ql (fun (r : Int64) (_ : Unit) => r = u) (GB (dC, dI) [(h_th, .inr (7, [v_th_row, v_th_undos, v_th_isKept, v_th_text, v_th_length, v_th_sizes, v_th_values, .long asked, v_th_first, v_th_behind, v_th_readBits, v_th_clauses, v_th_doing, v_th_numbers, v_th_planWord, v_th_addWord, v_th_delWord, v_th_fillWord, v_th_probes, v_th_links, v_th_looks, v_th_found, v_th_isOver]))] (va_A [(h_th, .inr (7, [v_th_row, v_th_undos, v_th_isKept, v_th_text, v_th_length, v_th_sizes, v_th_values, .long asked, v_th_first, v_th_behind, v_th_readBits, v_th_clauses, v_th_doing, v_th_numbers, v_th_planWord, v_th_addWord, v_th_delWord, v_th_fillWord, v_th_probes, v_th_links, v_th_looks, v_th_found, v_th_isOver]))] sz)) (va_A [(h_th, .inr (7, [v_th_row, v_th_undos, v_th_isKept, v_th_text, v_th_length, v_th_sizes, v_th_values, .long asked, v_th_first, v_th_behind, v_th_readBits, v_th_clauses, v_th_doing, v_th_numbers, v_th_planWord, v_th_addWord, v_th_delWord, v_th_fillWord, v_th_probes, v_th_links, v_th_looks, v_th_found, v_th_isOver]))] sz)) 0 0 (va_A [(h_th, .inr (7, [v_th_row, v_th_undos, v_th_isKept, v_th_text, v_th_length, v_th_sizes, v_th_values, .long asked, v_th_first, v_th_behind, v_th_readBits, v_th_clauses, v_th_doing, v_th_numbers, v_th_planWord, v_th_addWord, v_th_delWord, v_th_fillWord, v_th_probes, v_th_links, v_th_looks, v_th_found, v_th_isOver]))] sz) := by
  refine GMetL (by decide) rfl (Nat.le_of_ble_eq_true rfl) ?_
  intro p e s m args below meth c A Q ls hx hb hml hts hown hN hK hA hret hP hD hS hl
  have h := hf
  clear hf
  unfold fX7_asked at h
  have hown : s.vm.findClass RX7 = some m.cls := hown
  have hl : lv_has ls 1 [(0, .ref h_th)] := hl
  refine lv_aload_n hx hb dX7_asked_0 rfl (lv_at hl 0 rfl) ?_
  refine va_get (D := (dC, dI)) (ci := 7) (v := .long asked) (C := RX7) (T := TX7) (N := 23) hx hb hts (fun _ hw => List.mem_cons_of_mem _ (List.mem_append_right _ hw)) hown hK hP 0 rfl rfl 7 (by decide) (hts (.fieldLink RX7 221 "PrefixIndexModel" "asked" "J") (List.mem_of_getElem? (i := 1) rfl)) (fun _ h9 => h9) rfl dX7_asked_1 ?_
  obtain rfl := Option.some.inj h
  exact hret _ _ _ _ dX7_asked_4 hP hD hS

def lpX7_allBeginnings_4 (row : (Nat → Int32)) : Nat → Int32 → Int32 → Option (Int32 × Int32)
  | 0, _, _ => none
  | n + 1, m1, m2 => oin (0 : Int32) 1824 (if (row (0 : Int32).toNatClampNeg) < m2 then (some (m1, m2)) else (obd (fX7_levelOf row m2) fun u_4 => lpX7_allBeginnings_4 row n (m1 + u_4) (m2 + (1 : Int32))))

def fX7_allBeginnings (row : (Nat → Int32)) : Option (Int32) := obd (lpX7_allBeginnings_4 row 100000 (0 : Int32) (0 : Int32)) fun w_10 => some w_10.1

set_option maxHeartbeats 4000000 in
set_option maxRecDepth 100000 in
theorem tX7_allBeginnings (l : Launch) (dC : Nat → ClassId) (dI : Nat → Nat → Nat) (cyI cyJ cyZ cyO : ClassId) (sz : Nat) (h_th h_row : Nat) (v_th_undos : Value) (v_th_isKept : Value) (v_th_text : Value) (v_th_length : Value) (v_th_sizes : Value) (v_th_values : Value) (v_th_asked : Value) (v_th_first : Value) (v_th_behind : Value) (v_th_readBits : Value) (v_th_clauses : Value) (v_th_doing : Value) (v_th_numbers : Value) (v_th_planWord : Value) (v_th_addWord : Value) (v_th_delWord : Value) (v_th_fillWord : Value) (v_th_probes : Value) (v_th_links : Value) (v_th_looks : Value) (v_th_found : Value) (v_th_isOver : Value) (row : (Nat → Int32)) (u : Int32) (hf : fX7_allBeginnings row = some u) : Met l yX7_allBeginnings wsX7_allBeginnings ({ frames := 2, cells := 0, slots := 0, locals := 45 }) (va_Pc [.ref h_th] (GP (dC, dI) (T4 cyI cyJ cyZ cyO) sz [(h_th, .inr (7, [.ref h_row, v_th_undos, v_th_isKept, v_th_text, v_th_length, v_th_sizes, v_th_values, v_th_asked, v_th_first, v_th_behind, v_th_readBits, v_th_clauses, v_th_doing, v_th_numbers, v_th_planWord, v_th_addWord, v_th_delWord, v_th_fillWord, v_th_probes, v_th_links, v_th_looks, v_th_found, v_th_isOver])), (h_row, .inl (cyI, 1824, .inl row))])) (va_Qi (fun (r : Int32) (_ : Unit) => r = u) (GB (dC, dI) [(h_th, .inr (7, [.ref h_row, v_th_undos, v_th_isKept, v_th_text, v_th_length, v_th_sizes, v_th_values, v_th_asked, v_th_first, v_th_behind, v_th_readBits, v_th_clauses, v_th_doing, v_th_numbers, v_th_planWord, v_th_addWord, v_th_delWord, v_th_fillWord, v_th_probes, v_th_links, v_th_looks, v_th_found, v_th_isOver])), (h_row, .inl (cyI, 1824, .inl row))] (va_A [(h_th, .inr (7, [.ref h_row, v_th_undos, v_th_isKept, v_th_text, v_th_length, v_th_sizes, v_th_values, v_th_asked, v_th_first, v_th_behind, v_th_readBits, v_th_clauses, v_th_doing, v_th_numbers, v_th_planWord, v_th_addWord, v_th_delWord, v_th_fillWord, v_th_probes, v_th_links, v_th_looks, v_th_found, v_th_isOver])), (h_row, .inl (cyI, 1824, .inl row))] sz)) (va_A [(h_th, .inr (7, [.ref h_row, v_th_undos, v_th_isKept, v_th_text, v_th_length, v_th_sizes, v_th_values, v_th_asked, v_th_first, v_th_behind, v_th_readBits, v_th_clauses, v_th_doing, v_th_numbers, v_th_planWord, v_th_addWord, v_th_delWord, v_th_fillWord, v_th_probes, v_th_links, v_th_looks, v_th_found, v_th_isOver])), (h_row, .inl (cyI, 1824, .inl row))] sz)) 0 0 (va_A [(h_th, .inr (7, [.ref h_row, v_th_undos, v_th_isKept, v_th_text, v_th_length, v_th_sizes, v_th_values, v_th_asked, v_th_first, v_th_behind, v_th_readBits, v_th_clauses, v_th_doing, v_th_numbers, v_th_planWord, v_th_addWord, v_th_delWord, v_th_fillWord, v_th_probes, v_th_links, v_th_looks, v_th_found, v_th_isOver])), (h_row, .inl (cyI, 1824, .inl row))] sz) := by
  refine GMetI (by decide) rfl (Nat.le_of_ble_eq_true rfl) ?_
  intro p e s m args below meth c A Q ls hx hb hml hts hown hN hK hA hret hP hD hS hl
  have h := hf
  clear hf
  unfold fX7_allBeginnings at h
  have hown : s.vm.findClass RX7 = some m.cls := hown
  have hl : lv_has ls 3 [(0, .ref h_th)] := hl
  refine lv_iconst (v := 0) hx hb dX7_allBeginnings_0 (by decide) ?_
  refine lv_istore_n (lv' := [(1, .int (0 : Int32)), (0, .ref h_th)]) hx hb dX7_allBeginnings_1 rfl hl (by decide) rfl (fun ls hl => ?_)
  refine lv_iconst (v := 0) hx hb dX7_allBeginnings_2 (by decide) ?_
  refine lv_istore_n (lv' := [(2, .int (0 : Int32)), (1, .int (0 : Int32)), (0, .ref h_th)]) hx hb dX7_allBeginnings_3 rfl hl (by decide) rfl (fun ls hl => ?_)
  obtain ⟨w_10, hw_11, h⟩ := obd_e h
  have J : ∀ (H : Heap) (locs : List Loc) (ls : Array Slot), va_P (dC, dI) vwCl [(h_th, .inr (7, [.ref h_row, v_th_undos, v_th_isKept, v_th_text, v_th_length, v_th_sizes, v_th_values, v_th_asked, v_th_first, v_th_behind, v_th_readBits, v_th_clauses, v_th_doing, v_th_numbers, v_th_planWord, v_th_addWord, v_th_delWord, v_th_fillWord, v_th_probes, v_th_links, v_th_looks, v_th_found, v_th_isOver])), (h_row, .inl (cyI, 1824, .inl row))] H → va_D A [(h_th, .inr (7, [.ref h_row, v_th_undos, v_th_isKept, v_th_text, v_th_length, v_th_sizes, v_th_values, v_th_asked, v_th_first, v_th_behind, v_th_readBits, v_th_clauses, v_th_doing, v_th_numbers, v_th_planWord, v_th_addWord, v_th_delWord, v_th_fillWord, v_th_probes, v_th_links, v_th_looks, v_th_found, v_th_isOver])), (h_row, .inl (cyI, 1824, .inl row))] → va_S A s.heap H locs → lv_has ls 3 [(1, .int w_10.1)] → W p l e ({ frames := 2, cells := 0, slots := 0, locals := 45 }) s m args below meth c H locs 0 0 Q (F0 m 28 ls []) := by
    intro H locs ls hP hD hS hl
    refine lv_iload_n hx hb dX7_allBeginnings_28 rfl (lv_at hl 0 rfl) ?_
    obtain rfl := Option.some.inj h
    exact hret _ _ _ _ dX7_allBeginnings_29 hP hD hS
  have LL : ∀ (n : Nat) (m1 : Int32) (m2 : Int32) (H : Heap) (locs : List Loc) (ls : Array Slot), lpX7_allBeginnings_4 row n m1 m2 = some w_10 → va_P (dC, dI) vwCl [(h_th, .inr (7, [.ref h_row, v_th_undos, v_th_isKept, v_th_text, v_th_length, v_th_sizes, v_th_values, v_th_asked, v_th_first, v_th_behind, v_th_readBits, v_th_clauses, v_th_doing, v_th_numbers, v_th_planWord, v_th_addWord, v_th_delWord, v_th_fillWord, v_th_probes, v_th_links, v_th_looks, v_th_found, v_th_isOver])), (h_row, .inl (cyI, 1824, .inl row))] H → va_D A [(h_th, .inr (7, [.ref h_row, v_th_undos, v_th_isKept, v_th_text, v_th_length, v_th_sizes, v_th_values, v_th_asked, v_th_first, v_th_behind, v_th_readBits, v_th_clauses, v_th_doing, v_th_numbers, v_th_planWord, v_th_addWord, v_th_delWord, v_th_fillWord, v_th_probes, v_th_links, v_th_looks, v_th_found, v_th_isOver])), (h_row, .inl (cyI, 1824, .inl row))] → va_S A s.heap H locs → lv_has ls 3 [(0, .ref h_th), (1, .int m1), (2, .int m2)] → W p l e ({ frames := 2, cells := 0, slots := 0, locals := 45 }) s m args below meth c H locs 0 0 Q (F0 m 4 ls []) := by
    intro n
    induction n with
    | zero =>
      intro m1 m2 H locs ls h
      exact absurd h (by rw [lpX7_allBeginnings_4]; exact fun q => by cases q)
    | succ n ih =>
      intro m1 m2 H locs ls h hP hD hS hl
      rw [lpX7_allBeginnings_4] at h
      refine lv_iload_n hx hb dX7_allBeginnings_4 rfl (lv_at hl 2 rfl) ?_
      refine lv_aload_n hx hb dX7_allBeginnings_5 rfl (lv_at hl 0 rfl) ?_
      refine va_get (D := (dC, dI)) (ci := 7) (v := .ref h_row) (C := RX7) (T := TX7) (N := 23) hx hb hts (fun _ hw => List.mem_cons_of_mem _ (List.mem_append_right _ hw)) hown hK hP 0 rfl rfl 0 (by decide) (hts (.fieldLink RX7 7 "PrefixIndexModel" "row" "[I") (List.mem_of_getElem? (i := 1) rfl)) (fun _ h9 => h9) rfl dX7_allBeginnings_6 ?_
      refine lv_iconst (v := 0) hx hb dX7_allBeginnings_9 (by decide) ?_
      obtain ⟨hi_6, h⟩ := oin_e h
      refine va_iald hx hb hK hP 1 0 rfl rfl hi_6 dX7_allBeginnings_10 ?_
      refine lv_icmp_gt (tgt := 28) hx hb dX7_allBeginnings_11 (by decide) (fun c_7 => ?_) (fun c_7 => ?_)
      · have h := og_ite_t c_7 h
        obtain rfl := Option.some.inj h
        exact J _ _ _ hP hD hS (lv_sub hl [1] rfl)
      · have h := og_ite_f c_7 h
        refine lv_iload_n hx hb dX7_allBeginnings_14 rfl (lv_at hl 1 rfl) ?_
        refine lv_aload_n hx hb dX7_allBeginnings_15 rfl (lv_at hl 0 rfl) ?_
        refine lv_iload_n hx hb dX7_allBeginnings_16 rfl (lv_at hl 2 rfl) ?_
        obtain ⟨u_8, hc_9, h⟩ := obd_e h
        refine Gci (wr := []) (va_runV (As := [.int m2]) (rest := [.int m1]) ⟨hx, hb, hml, hown, hts⟩ (tX7_levelOf l dC dI cyI cyJ cyZ cyO H.size h_th h_row v_th_undos v_th_isKept v_th_text v_th_length v_th_sizes v_th_values v_th_asked v_th_first v_th_behind v_th_readBits v_th_clauses v_th_doing v_th_numbers v_th_planWord v_th_addWord v_th_delWord v_th_fillWord v_th_probes v_th_links v_th_looks v_th_found v_th_isOver row m2 u_8 hc_9) (cwV 1 hts gX7_allBeginnings_X7_levelOf rfl rfl rfl (by decide +kernel) ⟨Nat.le_of_ble_eq_true rfl, Nat.le_of_ble_eq_true rfl⟩) (GpreV hP hD hK hN [0, 1] rfl (by decide) 7 0 rfl rfl rfl) rfl rfl hl.1 rfl (lv_room (Nat.le_of_ble_eq_true rfl)) dX7_allBeginnings_17 ⟨Nat.zero_le _, Nat.zero_le _⟩) hP hD hS hA [0, 1] [] rfl rfl (by decide) (by decide) (fun H locs hP hD hS => ?_)
        have hP : va_P (dC, dI) vwCl [(h_th, .inr (7, [.ref h_row, v_th_undos, v_th_isKept, v_th_text, v_th_length, v_th_sizes, v_th_values, v_th_asked, v_th_first, v_th_behind, v_th_readBits, v_th_clauses, v_th_doing, v_th_numbers, v_th_planWord, v_th_addWord, v_th_delWord, v_th_fillWord, v_th_probes, v_th_links, v_th_looks, v_th_found, v_th_isOver])), (h_row, .inl (cyI, 1824, .inl row))] H := hP
        have hD : va_D A [(h_th, .inr (7, [.ref h_row, v_th_undos, v_th_isKept, v_th_text, v_th_length, v_th_sizes, v_th_values, v_th_asked, v_th_first, v_th_behind, v_th_readBits, v_th_clauses, v_th_doing, v_th_numbers, v_th_planWord, v_th_addWord, v_th_delWord, v_th_fillWord, v_th_probes, v_th_links, v_th_looks, v_th_found, v_th_isOver])), (h_row, .inl (cyI, 1824, .inl row))] := hD
        refine lv_iadd hx hb dX7_allBeginnings_20 ?_
        refine lv_istore_n (lv' := [(1, .int (m1 + u_8)), (0, .ref h_th), (2, .int m2)]) hx hb dX7_allBeginnings_21 rfl hl (by decide) rfl (fun ls hl => ?_)
        refine lv_iinc (v := m2 + (1 : Int32)) (lv' := [(2, .int (m2 + (1 : Int32))), (1, .int (m1 + u_8)), (0, .ref h_th)]) hx hb dX7_allBeginnings_22 hl (k := 2) rfl rfl (by decide) rfl (fun ls hl => ?_)
        refine lv_goto (tgt := 4) hx hb dX7_allBeginnings_25 (by decide) ?_
        exact ih (m1 + u_8) (m2 + (1 : Int32)) _ _ _ h hP hD hS (lv_sub hl [2, 1, 0] rfl)
  exact LL _ (0 : Int32) (0 : Int32) _ _ _ hw_11 hP hD hS (lv_sub hl [2, 1, 0] rfl)

def lpX7_allPlaces_4 (sizes : (Nat → Int32)) : Nat → Int32 → Int32 → Option (Int32 × Int32)
  | 0, _, _ => none
  | n + 1, m1, m2 => if (3 : Int32) ≤ m2 then (some (m1, m2)) else (oin m2 3 (obd (if 0 ≤ (sizes m2.toNatClampNeg) then (oin m2 3 (some (sizes m2.toNatClampNeg))) else (some (0 : Int32))) fun w_5 => lpX7_allPlaces_4 sizes n (m1 + w_5) (m2 + (1 : Int32))))

def fX7_allPlaces (sizes : (Nat → Int32)) : Option (Int32) := obd (lpX7_allPlaces_4 sizes 100000 (0 : Int32) (0 : Int32)) fun w_14 => some w_14.1

set_option maxHeartbeats 4000000 in
set_option maxRecDepth 100000 in
theorem tX7_allPlaces (l : Launch) (dC : Nat → ClassId) (dI : Nat → Nat → Nat) (cyI cyJ cyZ cyO : ClassId) (sz : Nat) (h_th h_sizes : Nat) (v_th_row : Value) (v_th_undos : Value) (v_th_isKept : Value) (v_th_text : Value) (v_th_length : Value) (v_th_values : Value) (v_th_asked : Value) (v_th_first : Value) (v_th_behind : Value) (v_th_readBits : Value) (v_th_clauses : Value) (v_th_doing : Value) (v_th_numbers : Value) (v_th_planWord : Value) (v_th_addWord : Value) (v_th_delWord : Value) (v_th_fillWord : Value) (v_th_probes : Value) (v_th_links : Value) (v_th_looks : Value) (v_th_found : Value) (v_th_isOver : Value) (sizes : (Nat → Int32)) (u : Int32) (hf : fX7_allPlaces sizes = some u) : Met l yX7_allPlaces wsX7_allPlaces ({ frames := 0, cells := 0, slots := 0, locals := 0 }) (va_Pc [.ref h_th] (GP (dC, dI) (T4 cyI cyJ cyZ cyO) sz [(h_th, .inr (7, [v_th_row, v_th_undos, v_th_isKept, v_th_text, v_th_length, .ref h_sizes, v_th_values, v_th_asked, v_th_first, v_th_behind, v_th_readBits, v_th_clauses, v_th_doing, v_th_numbers, v_th_planWord, v_th_addWord, v_th_delWord, v_th_fillWord, v_th_probes, v_th_links, v_th_looks, v_th_found, v_th_isOver])), (h_sizes, .inl (cyI, 3, .inl sizes))])) (va_Qi (fun (r : Int32) (_ : Unit) => r = u) (GB (dC, dI) [(h_th, .inr (7, [v_th_row, v_th_undos, v_th_isKept, v_th_text, v_th_length, .ref h_sizes, v_th_values, v_th_asked, v_th_first, v_th_behind, v_th_readBits, v_th_clauses, v_th_doing, v_th_numbers, v_th_planWord, v_th_addWord, v_th_delWord, v_th_fillWord, v_th_probes, v_th_links, v_th_looks, v_th_found, v_th_isOver])), (h_sizes, .inl (cyI, 3, .inl sizes))] (va_A [(h_th, .inr (7, [v_th_row, v_th_undos, v_th_isKept, v_th_text, v_th_length, .ref h_sizes, v_th_values, v_th_asked, v_th_first, v_th_behind, v_th_readBits, v_th_clauses, v_th_doing, v_th_numbers, v_th_planWord, v_th_addWord, v_th_delWord, v_th_fillWord, v_th_probes, v_th_links, v_th_looks, v_th_found, v_th_isOver])), (h_sizes, .inl (cyI, 3, .inl sizes))] sz)) (va_A [(h_th, .inr (7, [v_th_row, v_th_undos, v_th_isKept, v_th_text, v_th_length, .ref h_sizes, v_th_values, v_th_asked, v_th_first, v_th_behind, v_th_readBits, v_th_clauses, v_th_doing, v_th_numbers, v_th_planWord, v_th_addWord, v_th_delWord, v_th_fillWord, v_th_probes, v_th_links, v_th_looks, v_th_found, v_th_isOver])), (h_sizes, .inl (cyI, 3, .inl sizes))] sz)) 0 0 (va_A [(h_th, .inr (7, [v_th_row, v_th_undos, v_th_isKept, v_th_text, v_th_length, .ref h_sizes, v_th_values, v_th_asked, v_th_first, v_th_behind, v_th_readBits, v_th_clauses, v_th_doing, v_th_numbers, v_th_planWord, v_th_addWord, v_th_delWord, v_th_fillWord, v_th_probes, v_th_links, v_th_looks, v_th_found, v_th_isOver])), (h_sizes, .inl (cyI, 3, .inl sizes))] sz) := by
  refine GMetI (by decide) rfl (Nat.le_of_ble_eq_true rfl) ?_
  intro p e s m args below meth c A Q ls hx hb hml hts hown hN hK hA hret hP hD hS hl
  have h := hf
  clear hf
  unfold fX7_allPlaces at h
  have hown : s.vm.findClass RX7 = some m.cls := hown
  have hl : lv_has ls 3 [(0, .ref h_th)] := hl
  refine lv_iconst (v := 0) hx hb dX7_allPlaces_0 (by decide) ?_
  refine lv_istore_n (lv' := [(1, .int (0 : Int32)), (0, .ref h_th)]) hx hb dX7_allPlaces_1 rfl hl (by decide) rfl (fun ls hl => ?_)
  refine lv_iconst (v := 0) hx hb dX7_allPlaces_2 (by decide) ?_
  refine lv_istore_n (lv' := [(2, .int (0 : Int32)), (1, .int (0 : Int32)), (0, .ref h_th)]) hx hb dX7_allPlaces_3 rfl hl (by decide) rfl (fun ls hl => ?_)
  obtain ⟨w_14, hw_15, h⟩ := obd_e h
  have J : ∀ (H : Heap) (locs : List Loc) (ls : Array Slot), va_P (dC, dI) vwCl [(h_th, .inr (7, [v_th_row, v_th_undos, v_th_isKept, v_th_text, v_th_length, .ref h_sizes, v_th_values, v_th_asked, v_th_first, v_th_behind, v_th_readBits, v_th_clauses, v_th_doing, v_th_numbers, v_th_planWord, v_th_addWord, v_th_delWord, v_th_fillWord, v_th_probes, v_th_links, v_th_looks, v_th_found, v_th_isOver])), (h_sizes, .inl (cyI, 3, .inl sizes))] H → va_D A [(h_th, .inr (7, [v_th_row, v_th_undos, v_th_isKept, v_th_text, v_th_length, .ref h_sizes, v_th_values, v_th_asked, v_th_first, v_th_behind, v_th_readBits, v_th_clauses, v_th_doing, v_th_numbers, v_th_planWord, v_th_addWord, v_th_delWord, v_th_fillWord, v_th_probes, v_th_links, v_th_looks, v_th_found, v_th_isOver])), (h_sizes, .inl (cyI, 3, .inl sizes))] → va_S A s.heap H locs → lv_has ls 3 [(1, .int w_14.1)] → W p l e ({ frames := 0, cells := 0, slots := 0, locals := 0 }) s m args below meth c H locs 0 0 Q (F0 m 37 ls []) := by
    intro H locs ls hP hD hS hl
    refine lv_iload_n hx hb dX7_allPlaces_37 rfl (lv_at hl 0 rfl) ?_
    obtain rfl := Option.some.inj h
    exact hret _ _ _ _ dX7_allPlaces_38 hP hD hS
  have LL : ∀ (n : Nat) (m1 : Int32) (m2 : Int32) (H : Heap) (locs : List Loc) (ls : Array Slot), lpX7_allPlaces_4 sizes n m1 m2 = some w_14 → va_P (dC, dI) vwCl [(h_th, .inr (7, [v_th_row, v_th_undos, v_th_isKept, v_th_text, v_th_length, .ref h_sizes, v_th_values, v_th_asked, v_th_first, v_th_behind, v_th_readBits, v_th_clauses, v_th_doing, v_th_numbers, v_th_planWord, v_th_addWord, v_th_delWord, v_th_fillWord, v_th_probes, v_th_links, v_th_looks, v_th_found, v_th_isOver])), (h_sizes, .inl (cyI, 3, .inl sizes))] H → va_D A [(h_th, .inr (7, [v_th_row, v_th_undos, v_th_isKept, v_th_text, v_th_length, .ref h_sizes, v_th_values, v_th_asked, v_th_first, v_th_behind, v_th_readBits, v_th_clauses, v_th_doing, v_th_numbers, v_th_planWord, v_th_addWord, v_th_delWord, v_th_fillWord, v_th_probes, v_th_links, v_th_looks, v_th_found, v_th_isOver])), (h_sizes, .inl (cyI, 3, .inl sizes))] → va_S A s.heap H locs → lv_has ls 3 [(0, .ref h_th), (1, .int m1), (2, .int m2)] → W p l e ({ frames := 0, cells := 0, slots := 0, locals := 0 }) s m args below meth c H locs 0 0 Q (F0 m 4 ls []) := by
    intro n
    induction n with
    | zero =>
      intro m1 m2 H locs ls h
      exact absurd h (by rw [lpX7_allPlaces_4]; exact fun q => by cases q)
    | succ n ih =>
      intro m1 m2 H locs ls h hP hD hS hl
      rw [lpX7_allPlaces_4] at h
      refine lv_iload_n hx hb dX7_allPlaces_4 rfl (lv_at hl 2 rfl) ?_
      refine lv_iconst (v := 3) hx hb dX7_allPlaces_5 (by decide) ?_
      refine lv_icmp_ge (tgt := 37) hx hb dX7_allPlaces_6 (by decide) (fun c_8 => ?_) (fun c_8 => ?_)
      · have h := og_ite_t c_8 h
        obtain rfl := Option.some.inj h
        exact J _ _ _ hP hD hS (lv_sub hl [1] rfl)
      · have h := og_ite_f c_8 h
        refine lv_iload_n hx hb dX7_allPlaces_9 rfl (lv_at hl 1 rfl) ?_
        refine lv_aload_n hx hb dX7_allPlaces_10 rfl (lv_at hl 0 rfl) ?_
        refine va_get (D := (dC, dI)) (ci := 7) (v := .ref h_sizes) (C := RX7) (T := TX7) (N := 23) hx hb hts (fun _ hw => List.mem_cons_of_mem _ (List.mem_append_right _ hw)) hown hK hP 0 rfl rfl 5 (by decide) (hts (.fieldLink RX7 20 "PrefixIndexModel" "sizes" "[I") (List.mem_of_getElem? (i := 1) rfl)) (fun _ h9 => h9) rfl dX7_allPlaces_11 ?_
        refine lv_iload_n hx hb dX7_allPlaces_14 rfl (lv_at hl 2 rfl) ?_
        obtain ⟨hi_9, h⟩ := oin_e h
        refine va_iald hx hb hK hP 1 0 rfl rfl hi_9 dX7_allPlaces_15 ?_
        obtain ⟨w_11, hm_13, h⟩ := obd_e h
        have J : ∀ (H : Heap) (locs : List Loc) (ls : Array Slot), va_P (dC, dI) vwCl [(h_th, .inr (7, [v_th_row, v_th_undos, v_th_isKept, v_th_text, v_th_length, .ref h_sizes, v_th_values, v_th_asked, v_th_first, v_th_behind, v_th_readBits, v_th_clauses, v_th_doing, v_th_numbers, v_th_planWord, v_th_addWord, v_th_delWord, v_th_fillWord, v_th_probes, v_th_links, v_th_looks, v_th_found, v_th_isOver])), (h_sizes, .inl (cyI, 3, .inl sizes))] H → va_D A [(h_th, .inr (7, [v_th_row, v_th_undos, v_th_isKept, v_th_text, v_th_length, .ref h_sizes, v_th_values, v_th_asked, v_th_first, v_th_behind, v_th_readBits, v_th_clauses, v_th_doing, v_th_numbers, v_th_planWord, v_th_addWord, v_th_delWord, v_th_fillWord, v_th_probes, v_th_links, v_th_looks, v_th_found, v_th_isOver])), (h_sizes, .inl (cyI, 3, .inl sizes))] → va_S A s.heap H locs → lv_has ls 3 [(0, .ref h_th), (2, .int m2)] → W p l e ({ frames := 0, cells := 0, slots := 0, locals := 0 }) s m args below meth c H locs 0 0 Q (F0 m 29 ls [.int w_11, .int m1]) := by
          intro H locs ls hP hD hS hl
          refine lv_iadd hx hb dX7_allPlaces_29 ?_
          refine lv_istore_n (lv' := [(1, .int (m1 + w_11)), (0, .ref h_th), (2, .int m2)]) hx hb dX7_allPlaces_30 rfl hl (by decide) rfl (fun ls hl => ?_)
          refine lv_iinc (v := m2 + (1 : Int32)) (lv' := [(2, .int (m2 + (1 : Int32))), (1, .int (m1 + w_11)), (0, .ref h_th)]) hx hb dX7_allPlaces_31 hl (k := 2) rfl rfl (by decide) rfl (fun ls hl => ?_)
          refine lv_goto (tgt := 4) hx hb dX7_allPlaces_34 (by decide) ?_
          exact ih (m1 + w_11) (m2 + (1 : Int32)) _ _ _ h hP hD hS (lv_sub hl [2, 1, 0] rfl)
        replace h := hm_13
        refine lv_if_ge (tgt := 23) hx hb dX7_allPlaces_16 (by decide) (fun c_10 => ?_) (fun c_10 => ?_)
        · have h := og_ite_t c_10 h
          refine lv_aload_n hx hb dX7_allPlaces_23 rfl (lv_at hl 0 rfl) ?_
          refine va_get (D := (dC, dI)) (ci := 7) (v := .ref h_sizes) (C := RX7) (T := TX7) (N := 23) hx hb hts (fun _ hw => List.mem_cons_of_mem _ (List.mem_append_right _ hw)) hown hK hP 0 rfl rfl 5 (by decide) (hts (.fieldLink RX7 20 "PrefixIndexModel" "sizes" "[I") (List.mem_of_getElem? (i := 1) rfl)) (fun _ h9 => h9) rfl dX7_allPlaces_24 ?_
          refine lv_iload_n hx hb dX7_allPlaces_27 rfl (lv_at hl 2 rfl) ?_
          obtain ⟨hi_12, h⟩ := oin_e h
          refine va_iald hx hb hK hP 1 0 rfl rfl hi_12 dX7_allPlaces_28 ?_
          obtain rfl := Option.some.inj h
          exact J _ _ _ hP hD hS (lv_sub hl [0, 2] rfl)
        · have h := og_ite_f c_10 h
          refine lv_iconst (v := 0) hx hb dX7_allPlaces_19 (by decide) ?_
          refine lv_goto (tgt := 29) hx hb dX7_allPlaces_20 (by decide) ?_
          obtain rfl := Option.some.inj h
          exact J _ _ _ hP hD hS (lv_sub hl [0, 2] rfl)
  exact LL _ (0 : Int32) (0 : Int32) _ _ _ hw_15 hP hD hS (lv_sub hl [2, 1, 0] rfl)

def fX7_count (undos : Int32) (length : Int32) (row : (Nat → Int32)) (sizes : (Nat → Int32)) (x0 : Int32) : Option (Int32) := if x0 = (0 : Int32) then (oin x0 1824 (some (row x0.toNatClampNeg))) else (if x0 = (1 : Int32) then (oin x0 1824 (some (row x0.toNatClampNeg))) else (if x0 = (2 : Int32) then (oin x0 1824 (some (row x0.toNatClampNeg))) else (if x0 = (3 : Int32) then (oin x0 1824 (some (row x0.toNatClampNeg))) else (if x0 = (4 : Int32) then (obd (fX7_allBeginnings row) fun u_10 => some u_10) else (if x0 = (5 : Int32) then (oin (4 : Int32) 1824 (some (row (4 : Int32).toNatClampNeg))) else (if x0 = (6 : Int32) then (oin (5 : Int32) 1824 (some (row (5 : Int32).toNatClampNeg))) else (if x0 = (7 : Int32) then (obd (fX7_allPlaces sizes) fun u_17 => some u_17) else (if x0 = (8 : Int32) then (some undos) else (if x0 = (9 : Int32) then (some length) else (some (-3 : Int32)))))))))))

set_option maxHeartbeats 4000000 in
set_option maxRecDepth 100000 in
theorem tX7_count (l : Launch) (dC : Nat → ClassId) (dI : Nat → Nat → Nat) (cyI cyJ cyZ cyO : ClassId) (sz : Nat) (h_th h_row h_sizes : Nat) (v_th_isKept : Value) (v_th_text : Value) (v_th_values : Value) (v_th_asked : Value) (v_th_first : Value) (v_th_behind : Value) (v_th_readBits : Value) (v_th_clauses : Value) (v_th_doing : Value) (v_th_numbers : Value) (v_th_planWord : Value) (v_th_addWord : Value) (v_th_delWord : Value) (v_th_fillWord : Value) (v_th_probes : Value) (v_th_links : Value) (v_th_looks : Value) (v_th_found : Value) (v_th_isOver : Value) (undos : Int32) (length : Int32) (row : (Nat → Int32)) (sizes : (Nat → Int32)) (x0 : Int32) (u : Int32) (hf : fX7_count undos length row sizes x0 = some u) : Met l yX7_count wsX7_count ({ frames := 3, cells := 0, slots := 0, locals := 67 }) (va_Pc [.ref h_th, .int x0] (GP (dC, dI) (T4 cyI cyJ cyZ cyO) sz [(h_th, .inr (7, [.ref h_row, .int undos, v_th_isKept, v_th_text, .int length, .ref h_sizes, v_th_values, v_th_asked, v_th_first, v_th_behind, v_th_readBits, v_th_clauses, v_th_doing, v_th_numbers, v_th_planWord, v_th_addWord, v_th_delWord, v_th_fillWord, v_th_probes, v_th_links, v_th_looks, v_th_found, v_th_isOver])), (h_row, .inl (cyI, 1824, .inl row)), (h_sizes, .inl (cyI, 3, .inl sizes))])) (va_Qi (fun (r : Int32) (_ : Unit) => r = u) (GB (dC, dI) [(h_th, .inr (7, [.ref h_row, .int undos, v_th_isKept, v_th_text, .int length, .ref h_sizes, v_th_values, v_th_asked, v_th_first, v_th_behind, v_th_readBits, v_th_clauses, v_th_doing, v_th_numbers, v_th_planWord, v_th_addWord, v_th_delWord, v_th_fillWord, v_th_probes, v_th_links, v_th_looks, v_th_found, v_th_isOver])), (h_row, .inl (cyI, 1824, .inl row)), (h_sizes, .inl (cyI, 3, .inl sizes))] (va_A [(h_th, .inr (7, [.ref h_row, .int undos, v_th_isKept, v_th_text, .int length, .ref h_sizes, v_th_values, v_th_asked, v_th_first, v_th_behind, v_th_readBits, v_th_clauses, v_th_doing, v_th_numbers, v_th_planWord, v_th_addWord, v_th_delWord, v_th_fillWord, v_th_probes, v_th_links, v_th_looks, v_th_found, v_th_isOver])), (h_row, .inl (cyI, 1824, .inl row)), (h_sizes, .inl (cyI, 3, .inl sizes))] sz)) (va_A [(h_th, .inr (7, [.ref h_row, .int undos, v_th_isKept, v_th_text, .int length, .ref h_sizes, v_th_values, v_th_asked, v_th_first, v_th_behind, v_th_readBits, v_th_clauses, v_th_doing, v_th_numbers, v_th_planWord, v_th_addWord, v_th_delWord, v_th_fillWord, v_th_probes, v_th_links, v_th_looks, v_th_found, v_th_isOver])), (h_row, .inl (cyI, 1824, .inl row)), (h_sizes, .inl (cyI, 3, .inl sizes))] sz)) 0 0 (va_A [(h_th, .inr (7, [.ref h_row, .int undos, v_th_isKept, v_th_text, .int length, .ref h_sizes, v_th_values, v_th_asked, v_th_first, v_th_behind, v_th_readBits, v_th_clauses, v_th_doing, v_th_numbers, v_th_planWord, v_th_addWord, v_th_delWord, v_th_fillWord, v_th_probes, v_th_links, v_th_looks, v_th_found, v_th_isOver])), (h_row, .inl (cyI, 1824, .inl row)), (h_sizes, .inl (cyI, 3, .inl sizes))] sz) := by
  refine GMetI (by decide) rfl (Nat.le_of_ble_eq_true rfl) ?_
  intro p e s m args below meth c A Q ls hx hb hml hts hown hN hK hA hret hP hD hS hl
  have h := hf
  clear hf
  unfold fX7_count at h
  have hown : s.vm.findClass RX7 = some m.cls := hown
  have hl : lv_has ls 2 [(0, .ref h_th), (1, .int x0)] := hl
  refine lv_iload_n hx hb dX7_count_0 rfl (lv_at hl 1 rfl) ?_
  by_cases c_1 : x0 = (0 : Int32)
  · have h := og_ite_t c_1 h
    refine lv_tableIn (off := 55) (tgt := 56) hx hb dX7_count_1 (by rw [c_1]; decide) (by rw [c_1]; decide) (by rw [c_1]; rfl) (by decide) ?_
    refine lv_aload_n hx hb dX7_count_56 rfl (lv_at hl 0 rfl) ?_
    refine va_get (D := (dC, dI)) (ci := 7) (v := .ref h_row) (C := RX7) (T := TX7) (N := 23) hx hb hts (fun _ hw => List.mem_cons_of_mem _ (List.mem_append_right _ hw)) hown hK hP 0 rfl rfl 0 (by decide) (hts (.fieldLink RX7 7 "PrefixIndexModel" "row" "[I") (List.mem_of_getElem? (i := 1) rfl)) (fun _ h9 => h9) rfl dX7_count_57 ?_
    refine lv_iload_n hx hb dX7_count_60 rfl (lv_at hl 1 rfl) ?_
    obtain ⟨hi_2, h⟩ := oin_e h
    refine va_iald hx hb hK hP 1 0 rfl rfl hi_2 dX7_count_61 ?_
    obtain rfl := Option.some.inj h
    exact hret _ _ _ _ dX7_count_62 hP hD hS
  have h := og_ite_f c_1 h
  by_cases c_3 : x0 = (1 : Int32)
  · have h := og_ite_t c_3 h
    refine lv_tableIn (off := 55) (tgt := 56) hx hb dX7_count_1 (by rw [c_3]; decide) (by rw [c_3]; decide) (by rw [c_3]; rfl) (by decide) ?_
    refine lv_aload_n hx hb dX7_count_56 rfl (lv_at hl 0 rfl) ?_
    refine va_get (D := (dC, dI)) (ci := 7) (v := .ref h_row) (C := RX7) (T := TX7) (N := 23) hx hb hts (fun _ hw => List.mem_cons_of_mem _ (List.mem_append_right _ hw)) hown hK hP 0 rfl rfl 0 (by decide) (hts (.fieldLink RX7 7 "PrefixIndexModel" "row" "[I") (List.mem_of_getElem? (i := 1) rfl)) (fun _ h9 => h9) rfl dX7_count_57 ?_
    refine lv_iload_n hx hb dX7_count_60 rfl (lv_at hl 1 rfl) ?_
    obtain ⟨hi_4, h⟩ := oin_e h
    refine va_iald hx hb hK hP 1 0 rfl rfl hi_4 dX7_count_61 ?_
    obtain rfl := Option.some.inj h
    exact hret _ _ _ _ dX7_count_62 hP hD hS
  have h := og_ite_f c_3 h
  by_cases c_5 : x0 = (2 : Int32)
  · have h := og_ite_t c_5 h
    refine lv_tableIn (off := 55) (tgt := 56) hx hb dX7_count_1 (by rw [c_5]; decide) (by rw [c_5]; decide) (by rw [c_5]; rfl) (by decide) ?_
    refine lv_aload_n hx hb dX7_count_56 rfl (lv_at hl 0 rfl) ?_
    refine va_get (D := (dC, dI)) (ci := 7) (v := .ref h_row) (C := RX7) (T := TX7) (N := 23) hx hb hts (fun _ hw => List.mem_cons_of_mem _ (List.mem_append_right _ hw)) hown hK hP 0 rfl rfl 0 (by decide) (hts (.fieldLink RX7 7 "PrefixIndexModel" "row" "[I") (List.mem_of_getElem? (i := 1) rfl)) (fun _ h9 => h9) rfl dX7_count_57 ?_
    refine lv_iload_n hx hb dX7_count_60 rfl (lv_at hl 1 rfl) ?_
    obtain ⟨hi_6, h⟩ := oin_e h
    refine va_iald hx hb hK hP 1 0 rfl rfl hi_6 dX7_count_61 ?_
    obtain rfl := Option.some.inj h
    exact hret _ _ _ _ dX7_count_62 hP hD hS
  have h := og_ite_f c_5 h
  by_cases c_7 : x0 = (3 : Int32)
  · have h := og_ite_t c_7 h
    refine lv_tableIn (off := 55) (tgt := 56) hx hb dX7_count_1 (by rw [c_7]; decide) (by rw [c_7]; decide) (by rw [c_7]; rfl) (by decide) ?_
    refine lv_aload_n hx hb dX7_count_56 rfl (lv_at hl 0 rfl) ?_
    refine va_get (D := (dC, dI)) (ci := 7) (v := .ref h_row) (C := RX7) (T := TX7) (N := 23) hx hb hts (fun _ hw => List.mem_cons_of_mem _ (List.mem_append_right _ hw)) hown hK hP 0 rfl rfl 0 (by decide) (hts (.fieldLink RX7 7 "PrefixIndexModel" "row" "[I") (List.mem_of_getElem? (i := 1) rfl)) (fun _ h9 => h9) rfl dX7_count_57 ?_
    refine lv_iload_n hx hb dX7_count_60 rfl (lv_at hl 1 rfl) ?_
    obtain ⟨hi_8, h⟩ := oin_e h
    refine va_iald hx hb hK hP 1 0 rfl rfl hi_8 dX7_count_61 ?_
    obtain rfl := Option.some.inj h
    exact hret _ _ _ _ dX7_count_62 hP hD hS
  have h := og_ite_f c_7 h
  by_cases c_9 : x0 = (4 : Int32)
  · have h := og_ite_t c_9 h
    refine lv_tableIn (off := 62) (tgt := 63) hx hb dX7_count_1 (by rw [c_9]; decide) (by rw [c_9]; decide) (by rw [c_9]; rfl) (by decide) ?_
    refine lv_aload_n hx hb dX7_count_63 rfl (lv_at hl 0 rfl) ?_
    obtain ⟨u_10, hc_11, h⟩ := obd_e h
    refine Gci (wr := [(h_sizes, .inl (cyI, 3, .inl sizes))]) (va_runV (As := []) (rest := []) ⟨hx, hb, hml, hown, hts⟩ (tX7_allBeginnings l dC dI cyI cyJ cyZ cyO s.heap.size h_th h_row (.int undos) v_th_isKept v_th_text (.int length) (.ref h_sizes) v_th_values v_th_asked v_th_first v_th_behind v_th_readBits v_th_clauses v_th_doing v_th_numbers v_th_planWord v_th_addWord v_th_delWord v_th_fillWord v_th_probes v_th_links v_th_looks v_th_found v_th_isOver row u_10 hc_11) (cwV 0 hts gX7_count_X7_allBeginnings rfl rfl rfl (by decide +kernel) ⟨Nat.le_of_ble_eq_true rfl, Nat.le_of_ble_eq_true rfl⟩) (GpreV hP hD hK hN [0, 1] rfl (by decide) 7 0 rfl rfl rfl) rfl rfl hl.1 rfl (lv_room (Nat.le_of_ble_eq_true rfl)) dX7_count_64 ⟨Nat.zero_le _, Nat.zero_le _⟩) hP hD hS hA [0, 1] [2] rfl rfl (by decide) (by decide) (fun H locs hP hD hS => ?_)
    have hP : va_P (dC, dI) vwCl [(h_sizes, .inl (cyI, 3, .inl sizes)), (h_th, .inr (7, [.ref h_row, .int undos, v_th_isKept, v_th_text, .int length, .ref h_sizes, v_th_values, v_th_asked, v_th_first, v_th_behind, v_th_readBits, v_th_clauses, v_th_doing, v_th_numbers, v_th_planWord, v_th_addWord, v_th_delWord, v_th_fillWord, v_th_probes, v_th_links, v_th_looks, v_th_found, v_th_isOver])), (h_row, .inl (cyI, 1824, .inl row))] H := hP
    have hD : va_D A [(h_sizes, .inl (cyI, 3, .inl sizes)), (h_th, .inr (7, [.ref h_row, .int undos, v_th_isKept, v_th_text, .int length, .ref h_sizes, v_th_values, v_th_asked, v_th_first, v_th_behind, v_th_readBits, v_th_clauses, v_th_doing, v_th_numbers, v_th_planWord, v_th_addWord, v_th_delWord, v_th_fillWord, v_th_probes, v_th_links, v_th_looks, v_th_found, v_th_isOver])), (h_row, .inl (cyI, 1824, .inl row))] := hD
    obtain rfl := Option.some.inj h
    have hP := hP.sub (ws' := [(h_th, .inr (7, [.ref h_row, .int undos, v_th_isKept, v_th_text, .int length, .ref h_sizes, v_th_values, v_th_asked, v_th_first, v_th_behind, v_th_readBits, v_th_clauses, v_th_doing, v_th_numbers, v_th_planWord, v_th_addWord, v_th_delWord, v_th_fillWord, v_th_probes, v_th_links, v_th_looks, v_th_found, v_th_isOver])), (h_row, .inl (cyI, 1824, .inl row)), (h_sizes, .inl (cyI, 3, .inl sizes))]) [1, 2, 0] rfl
    have hD := hD.sub (ws' := [(h_th, .inr (7, [.ref h_row, .int undos, v_th_isKept, v_th_text, .int length, .ref h_sizes, v_th_values, v_th_asked, v_th_first, v_th_behind, v_th_readBits, v_th_clauses, v_th_doing, v_th_numbers, v_th_planWord, v_th_addWord, v_th_delWord, v_th_fillWord, v_th_probes, v_th_links, v_th_looks, v_th_found, v_th_isOver])), (h_row, .inl (cyI, 1824, .inl row)), (h_sizes, .inl (cyI, 3, .inl sizes))]) [1, 2, 0] (by decide) rfl
    exact hret _ _ _ _ dX7_count_67 hP hD hS
  have h := og_ite_f c_9 h
  by_cases c_12 : x0 = (5 : Int32)
  · have h := og_ite_t c_12 h
    refine lv_tableIn (off := 67) (tgt := 68) hx hb dX7_count_1 (by rw [c_12]; decide) (by rw [c_12]; decide) (by rw [c_12]; rfl) (by decide) ?_
    refine lv_aload_n hx hb dX7_count_68 rfl (lv_at hl 0 rfl) ?_
    refine va_get (D := (dC, dI)) (ci := 7) (v := .ref h_row) (C := RX7) (T := TX7) (N := 23) hx hb hts (fun _ hw => List.mem_cons_of_mem _ (List.mem_append_right _ hw)) hown hK hP 0 rfl rfl 0 (by decide) (hts (.fieldLink RX7 7 "PrefixIndexModel" "row" "[I") (List.mem_of_getElem? (i := 1) rfl)) (fun _ h9 => h9) rfl dX7_count_69 ?_
    refine lv_iconst (v := 4) hx hb dX7_count_72 (by decide) ?_
    obtain ⟨hi_13, h⟩ := oin_e h
    refine va_iald hx hb hK hP 1 0 rfl rfl hi_13 dX7_count_73 ?_
    obtain rfl := Option.some.inj h
    exact hret _ _ _ _ dX7_count_74 hP hD hS
  have h := og_ite_f c_12 h
  by_cases c_14 : x0 = (6 : Int32)
  · have h := og_ite_t c_14 h
    refine lv_tableIn (off := 74) (tgt := 75) hx hb dX7_count_1 (by rw [c_14]; decide) (by rw [c_14]; decide) (by rw [c_14]; rfl) (by decide) ?_
    refine lv_aload_n hx hb dX7_count_75 rfl (lv_at hl 0 rfl) ?_
    refine va_get (D := (dC, dI)) (ci := 7) (v := .ref h_row) (C := RX7) (T := TX7) (N := 23) hx hb hts (fun _ hw => List.mem_cons_of_mem _ (List.mem_append_right _ hw)) hown hK hP 0 rfl rfl 0 (by decide) (hts (.fieldLink RX7 7 "PrefixIndexModel" "row" "[I") (List.mem_of_getElem? (i := 1) rfl)) (fun _ h9 => h9) rfl dX7_count_76 ?_
    refine lv_iconst (v := 5) hx hb dX7_count_79 (by decide) ?_
    obtain ⟨hi_15, h⟩ := oin_e h
    refine va_iald hx hb hK hP 1 0 rfl rfl hi_15 dX7_count_80 ?_
    obtain rfl := Option.some.inj h
    exact hret _ _ _ _ dX7_count_81 hP hD hS
  have h := og_ite_f c_14 h
  by_cases c_16 : x0 = (7 : Int32)
  · have h := og_ite_t c_16 h
    refine lv_tableIn (off := 81) (tgt := 82) hx hb dX7_count_1 (by rw [c_16]; decide) (by rw [c_16]; decide) (by rw [c_16]; rfl) (by decide) ?_
    refine lv_aload_n hx hb dX7_count_82 rfl (lv_at hl 0 rfl) ?_
    obtain ⟨u_17, hc_18, h⟩ := obd_e h
    refine Gci (wr := [(h_row, .inl (cyI, 1824, .inl row))]) (va_runV (As := []) (rest := []) ⟨hx, hb, hml, hown, hts⟩ (tX7_allPlaces l dC dI cyI cyJ cyZ cyO s.heap.size h_th h_sizes (.ref h_row) (.int undos) v_th_isKept v_th_text (.int length) v_th_values v_th_asked v_th_first v_th_behind v_th_readBits v_th_clauses v_th_doing v_th_numbers v_th_planWord v_th_addWord v_th_delWord v_th_fillWord v_th_probes v_th_links v_th_looks v_th_found v_th_isOver sizes u_17 hc_18) (cwV 0 hts gX7_count_X7_allPlaces rfl rfl rfl (by decide +kernel) ⟨Nat.le_of_ble_eq_true rfl, Nat.le_of_ble_eq_true rfl⟩) (GpreV hP hD hK hN [0, 2] rfl (by decide) 7 0 rfl rfl rfl) rfl rfl hl.1 rfl (lv_room (Nat.le_of_ble_eq_true rfl)) dX7_count_83 ⟨Nat.zero_le _, Nat.zero_le _⟩) hP hD hS hA [0, 2] [1] rfl rfl (by decide) (by decide) (fun H locs hP hD hS => ?_)
    have hP : va_P (dC, dI) vwCl [(h_row, .inl (cyI, 1824, .inl row)), (h_th, .inr (7, [.ref h_row, .int undos, v_th_isKept, v_th_text, .int length, .ref h_sizes, v_th_values, v_th_asked, v_th_first, v_th_behind, v_th_readBits, v_th_clauses, v_th_doing, v_th_numbers, v_th_planWord, v_th_addWord, v_th_delWord, v_th_fillWord, v_th_probes, v_th_links, v_th_looks, v_th_found, v_th_isOver])), (h_sizes, .inl (cyI, 3, .inl sizes))] H := hP
    have hD : va_D A [(h_row, .inl (cyI, 1824, .inl row)), (h_th, .inr (7, [.ref h_row, .int undos, v_th_isKept, v_th_text, .int length, .ref h_sizes, v_th_values, v_th_asked, v_th_first, v_th_behind, v_th_readBits, v_th_clauses, v_th_doing, v_th_numbers, v_th_planWord, v_th_addWord, v_th_delWord, v_th_fillWord, v_th_probes, v_th_links, v_th_looks, v_th_found, v_th_isOver])), (h_sizes, .inl (cyI, 3, .inl sizes))] := hD
    obtain rfl := Option.some.inj h
    have hP := hP.sub (ws' := [(h_th, .inr (7, [.ref h_row, .int undos, v_th_isKept, v_th_text, .int length, .ref h_sizes, v_th_values, v_th_asked, v_th_first, v_th_behind, v_th_readBits, v_th_clauses, v_th_doing, v_th_numbers, v_th_planWord, v_th_addWord, v_th_delWord, v_th_fillWord, v_th_probes, v_th_links, v_th_looks, v_th_found, v_th_isOver])), (h_row, .inl (cyI, 1824, .inl row)), (h_sizes, .inl (cyI, 3, .inl sizes))]) [1, 0, 2] rfl
    have hD := hD.sub (ws' := [(h_th, .inr (7, [.ref h_row, .int undos, v_th_isKept, v_th_text, .int length, .ref h_sizes, v_th_values, v_th_asked, v_th_first, v_th_behind, v_th_readBits, v_th_clauses, v_th_doing, v_th_numbers, v_th_planWord, v_th_addWord, v_th_delWord, v_th_fillWord, v_th_probes, v_th_links, v_th_looks, v_th_found, v_th_isOver])), (h_row, .inl (cyI, 1824, .inl row)), (h_sizes, .inl (cyI, 3, .inl sizes))]) [1, 0, 2] (by decide) rfl
    exact hret _ _ _ _ dX7_count_86 hP hD hS
  have h := og_ite_f c_16 h
  by_cases c_19 : x0 = (8 : Int32)
  · have h := og_ite_t c_19 h
    refine lv_tableIn (off := 86) (tgt := 87) hx hb dX7_count_1 (by rw [c_19]; decide) (by rw [c_19]; decide) (by rw [c_19]; rfl) (by decide) ?_
    refine lv_aload_n hx hb dX7_count_87 rfl (lv_at hl 0 rfl) ?_
    refine va_get (D := (dC, dI)) (ci := 7) (v := .int undos) (C := RX7) (T := TX7) (N := 23) hx hb hts (fun _ hw => List.mem_cons_of_mem _ (List.mem_append_right _ hw)) hown hK hP 0 rfl rfl 1 (by decide) (hts (.fieldLink RX7 148 "PrefixIndexModel" "undos" "I") (List.mem_of_getElem? (i := 2) rfl)) (fun _ h9 => h9) rfl dX7_count_88 ?_
    obtain rfl := Option.some.inj h
    exact hret _ _ _ _ dX7_count_91 hP hD hS
  have h := og_ite_f c_19 h
  by_cases c_20 : x0 = (9 : Int32)
  · have h := og_ite_t c_20 h
    refine lv_tableIn (off := 91) (tgt := 92) hx hb dX7_count_1 (by rw [c_20]; decide) (by rw [c_20]; decide) (by rw [c_20]; rfl) (by decide) ?_
    refine lv_aload_n hx hb dX7_count_92 rfl (lv_at hl 0 rfl) ?_
    refine va_get (D := (dC, dI)) (ci := 7) (v := .int length) (C := RX7) (T := TX7) (N := 23) hx hb hts (fun _ hw => List.mem_cons_of_mem _ (List.mem_append_right _ hw)) hown hK hP 0 rfl rfl 4 (by decide) (hts (.fieldLink RX7 79 "PrefixIndexModel" "length" "I") (List.mem_of_getElem? (i := 3) rfl)) (fun _ h9 => h9) rfl dX7_count_93 ?_
    obtain rfl := Option.some.inj h
    exact hret _ _ _ _ dX7_count_96 hP hD hS
  have h := og_ite_f c_20 h
  have ec_1 : (x0).toInt ≠ 0 := fun q => c_1 (Int32.toInt_inj.mp (q.trans (by decide)))
  have ec_3 : (x0).toInt ≠ 1 := fun q => c_3 (Int32.toInt_inj.mp (q.trans (by decide)))
  have ec_5 : (x0).toInt ≠ 2 := fun q => c_5 (Int32.toInt_inj.mp (q.trans (by decide)))
  have ec_7 : (x0).toInt ≠ 3 := fun q => c_7 (Int32.toInt_inj.mp (q.trans (by decide)))
  have ec_9 : (x0).toInt ≠ 4 := fun q => c_9 (Int32.toInt_inj.mp (q.trans (by decide)))
  have ec_12 : (x0).toInt ≠ 5 := fun q => c_12 (Int32.toInt_inj.mp (q.trans (by decide)))
  have ec_14 : (x0).toInt ≠ 6 := fun q => c_14 (Int32.toInt_inj.mp (q.trans (by decide)))
  have ec_16 : (x0).toInt ≠ 7 := fun q => c_16 (Int32.toInt_inj.mp (q.trans (by decide)))
  have ec_19 : (x0).toInt ≠ 8 := fun q => c_19 (Int32.toInt_inj.mp (q.trans (by decide)))
  have ec_20 : (x0).toInt ≠ 9 := fun q => c_20 (Int32.toInt_inj.mp (q.trans (by decide)))
  refine lv_tableOut (tgt := 97) hx hb dX7_count_1 (by omega) (by decide) ?_
  refine lv_bipush (v := (-3)) hx hb dX7_count_97 (by decide) ?_
  obtain rfl := Option.some.inj h
  exact hret _ _ _ _ dX7_count_99 hP hD hS
