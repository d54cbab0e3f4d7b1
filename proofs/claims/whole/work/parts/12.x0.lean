def fX0_top (bits : Int32) : Option (Int32) := some (((1 : Int32) <<< (bits &&& 31)) - (1 : Int32))

set_option maxHeartbeats 4000000 in
set_option maxRecDepth 100000 in
theorem tX0_top (l : Launch) (dC : Nat → ClassId) (dI : Nat → Nat → Nat) (cyI cyJ cyZ cyO : ClassId) (sz : Nat) (h_th : Nat) (v_th_keys : Value) (v_th_marks : Value) (v_th_size : Value) (v_th_keyCount : Value) (v_th_markCount : Value) (v_th_splits : Value) (v_th_joins : Value) (bits : Int32) (u : Int32) (hf : fX0_top bits = some u) : Met l yX0_top wsX0_top ({ frames := 0, cells := 0, slots := 0, locals := 0 }) (va_Pc [.ref h_th] (GP (dC, dI) (T4 cyI cyJ cyZ cyO) sz [(h_th, .inr (0, [v_th_keys, v_th_marks, .int bits, v_th_size, v_th_keyCount, v_th_markCount, v_th_splits, v_th_joins]))])) (va_Qi (fun (r : Int32) (_ : Unit) => r = u) (GB (dC, dI) [(h_th, .inr (0, [v_th_keys, v_th_marks, .int bits, v_th_size, v_th_keyCount, v_th_markCount, v_th_splits, v_th_joins]))] (va_A [(h_th, .inr (0, [v_th_keys, v_th_marks, .int bits, v_th_size, v_th_keyCount, v_th_markCount, v_th_splits, v_th_joins]))] sz)) (va_A [(h_th, .inr (0, [v_th_keys, v_th_marks, .int bits, v_th_size, v_th_keyCount, v_th_markCount, v_th_splits, v_th_joins]))] sz)) 0 0 (va_A [(h_th, .inr (0, [v_th_keys, v_th_marks, .int bits, v_th_size, v_th_keyCount, v_th_markCount, v_th_splits, v_th_joins]))] sz) := by
  refine GMetI (by decide) rfl (Nat.le_of_ble_eq_true rfl) ?_
  intro p e s m args below meth c A Q ls hx hb hml hts hown hN hK hA hret hP hD hS hl
  have h := hf
  clear hf
  unfold fX0_top at h
  have hown : s.vm.findClass RX0 = some m.cls := hown
  have hl : lv_has ls 1 [(0, .ref h_th)] := hl
  refine lv_iconst (v := 1) hx hb dX0_top_0 (by decide) ?_
  refine lv_aload_n hx hb dX0_top_1 rfl (lv_at hl 0 rfl) ?_
  refine va_get (D := (dC, dI)) (ci := 0) (v := .int bits) (C := RX0) (T := TX0) (N := 8) hx hb hts (fun _ hw => List.mem_cons_of_mem _ (List.mem_append_right _ hw)) hown hK hP 0 rfl rfl 2 (by decide) (hts (.fieldLink RX0 22 "PrefixIndex$Buckets" "bits" "I") (List.mem_of_getElem? (i := 1) rfl)) (fun _ h9 => h9) rfl dX0_top_2 ?_
  refine lv_ishl hx hb dX0_top_5 ?_
  refine lv_iconst (v := 1) hx hb dX0_top_6 (by decide) ?_
  refine lv_isub hx hb dX0_top_7 ?_
  obtain rfl := Option.some.inj h
  exact hret _ _ _ _ dX0_top_8 hP hD hS

def fX0_begin (bits : Int32) (size : Int32) (keyCount : Int32) (markCount : Int32) (splits : Int32) (joins : Int32) (marks : (Nat → Int32)) (x0 : Int32) (x1 : Int32) : Option (Int32 × Int32 × Int32 × Int32 × Int32 × Int32 × (Nat → Int32)) := obd (fX0_top x0) fun u_1 => oin (0 : Int32) 48 (some (x0, x1, (0 : Int32), (1 : Int32), (0 : Int32), (0 : Int32), upd marks (0 : Int32).toNatClampNeg u_1))

set_option maxHeartbeats 4000000 in
set_option maxRecDepth 100000 in
theorem tX0_begin (l : Launch) (dC : Nat → ClassId) (dI : Nat → Nat → Nat) (cyI cyJ cyZ cyO : ClassId) (sz : Nat) (h_th h_marks : Nat) (v_th_keys : Value) (bits : Int32) (size : Int32) (keyCount : Int32) (markCount : Int32) (splits : Int32) (joins : Int32) (marks : (Nat → Int32)) (x0 : Int32) (x1 : Int32) (u : Int32 × Int32 × Int32 × Int32 × Int32 × Int32 × (Nat → Int32)) (hf : fX0_begin bits size keyCount markCount splits joins marks x0 x1 = some u) : Met l yX0_begin wsX0_begin ({ frames := 1, cells := 0, slots := 0, locals := 20 }) (va_Pc [.ref h_th, .int x0, .int x1] (GP (dC, dI) (T4 cyI cyJ cyZ cyO) sz [(h_th, .inr (0, [v_th_keys, .ref h_marks, .int bits, .int size, .int keyCount, .int markCount, .int splits, .int joins])), (h_marks, .inl (cyI, 48, .inl marks))])) (va_Qv (fun (_ : Unit) => True) (GB (dC, dI) [(h_th, .inr (0, [v_th_keys, .ref h_marks, .int u.1, .int u.2.1, .int u.2.2.1, .int u.2.2.2.1, .int u.2.2.2.2.1, .int u.2.2.2.2.2.1])), (h_marks, .inl (cyI, 48, .inl u.2.2.2.2.2.2))] (va_A [(h_th, .inr (0, [v_th_keys, .ref h_marks, .int bits, .int size, .int keyCount, .int markCount, .int splits, .int joins])), (h_marks, .inl (cyI, 48, .inl marks))] sz)) (va_A [(h_th, .inr (0, [v_th_keys, .ref h_marks, .int bits, .int size, .int keyCount, .int markCount, .int splits, .int joins])), (h_marks, .inl (cyI, 48, .inl marks))] sz)) 0 0 (va_A [(h_th, .inr (0, [v_th_keys, .ref h_marks, .int bits, .int size, .int keyCount, .int markCount, .int splits, .int joins])), (h_marks, .inl (cyI, 48, .inl marks))] sz) := by
  refine GMetV (by decide) rfl (Nat.le_of_ble_eq_true rfl) ?_
  intro p e s m args below meth c A Q ls hx hb hml hts hown hN hK hA hret hP hD hS hl
  have h := hf
  clear hf
  unfold fX0_begin at h
  have hown : s.vm.findClass RX0 = some m.cls := hown
  have hl : lv_has ls 3 [(0, .ref h_th), (1, .int x0), (2, .int x1)] := hl
  refine lv_aload_n hx hb dX0_begin_0 rfl (lv_at hl 0 rfl) ?_
  refine lv_iload_n hx hb dX0_begin_1 rfl (lv_at hl 1 rfl) ?_
  refine va_put (D := (dC, dI)) (ci := 0) (v := .int x0) (ty := .int) (C := RX0) (T := TX0) (N := 8) hx hb hts (fun _ hw => List.mem_cons_of_mem _ (List.mem_append_right _ hw)) tyX0 tyX0_ok nmX0 hown hK hP hD hS 0 rfl rfl 2 (by decide) (hts (.fieldLink RX0 22 "PrefixIndex$Buckets" "bits" "I") (List.mem_of_getElem? (i := 1) rfl)) (fun _ h9 => h9) rfl (by decide +kernel) rfl rfl (Nat.le_of_ble_eq_true rfl) dX0_begin_2 (fun H locs hP hD hS => ?_)
  have hP : va_P (dC, dI) vwCl [(h_th, .inr (0, [v_th_keys, .ref h_marks, .int x0, .int size, .int keyCount, .int markCount, .int splits, .int joins])), (h_marks, .inl (cyI, 48, .inl marks))] H := hP
  have hD : va_D A [(h_th, .inr (0, [v_th_keys, .ref h_marks, .int x0, .int size, .int keyCount, .int markCount, .int splits, .int joins])), (h_marks, .inl (cyI, 48, .inl marks))] := hD
  refine lv_aload_n hx hb dX0_begin_5 rfl (lv_at hl 0 rfl) ?_
  refine lv_iload_n hx hb dX0_begin_6 rfl (lv_at hl 2 rfl) ?_
  refine va_put (D := (dC, dI)) (ci := 0) (v := .int x1) (ty := .int) (C := RX0) (T := TX0) (N := 8) hx hb hts (fun _ hw => List.mem_cons_of_mem _ (List.mem_append_right _ hw)) tyX0 tyX0_ok nmX0 hown hK hP hD hS 0 rfl rfl 3 (by decide) (hts (.fieldLink RX0 26 "PrefixIndex$Buckets" "size" "I") (List.mem_of_getElem? (i := 2) rfl)) (fun _ h9 => h9) rfl (by decide +kernel) rfl rfl (Nat.le_of_ble_eq_true rfl) dX0_begin_7 (fun H locs hP hD hS => ?_)
  have hP : va_P (dC, dI) vwCl [(h_th, .inr (0, [v_th_keys, .ref h_marks, .int x0, .int x1, .int keyCount, .int markCount, .int splits, .int joins])), (h_marks, .inl (cyI, 48, .inl marks))] H := hP
  have hD : va_D A [(h_th, .inr (0, [v_th_keys, .ref h_marks, .int x0, .int x1, .int keyCount, .int markCount, .int splits, .int joins])), (h_marks, .inl (cyI, 48, .inl marks))] := hD
  refine lv_aload_n hx hb dX0_begin_10 rfl (lv_at hl 0 rfl) ?_
  refine lv_iconst (v := 0) hx hb dX0_begin_11 (by decide) ?_
  refine va_put (D := (dC, dI)) (ci := 0) (v := .int (0 : Int32)) (ty := .int) (C := RX0) (T := TX0) (N := 8) hx hb hts (fun _ hw => List.mem_cons_of_mem _ (List.mem_append_right _ hw)) tyX0 tyX0_ok nmX0 hown hK hP hD hS 0 rfl rfl 4 (by decide) (hts (.fieldLink RX0 29 "PrefixIndex$Buckets" "keyCount" "I") (List.mem_of_getElem? (i := 3) rfl)) (fun _ h9 => h9) rfl (by decide +kernel) rfl rfl (Nat.le_of_ble_eq_true rfl) dX0_begin_12 (fun H locs hP hD hS => ?_)
  have hP : va_P (dC, dI) vwCl [(h_th, .inr (0, [v_th_keys, .ref h_marks, .int x0, .int x1, .int (0 : Int32), .int markCount, .int splits, .int joins])), (h_marks, .inl (cyI, 48, .inl marks))] H := hP
  have hD : va_D A [(h_th, .inr (0, [v_th_keys, .ref h_marks, .int x0, .int x1, .int (0 : Int32), .int markCount, .int splits, .int joins])), (h_marks, .inl (cyI, 48, .inl marks))] := hD
  refine lv_aload_n hx hb dX0_begin_15 rfl (lv_at hl 0 rfl) ?_
  refine lv_iconst (v := 1) hx hb dX0_begin_16 (by decide) ?_
  refine va_put (D := (dC, dI)) (ci := 0) (v := .int (1 : Int32)) (ty := .int) (C := RX0) (T := TX0) (N := 8) hx hb hts (fun _ hw => List.mem_cons_of_mem _ (List.mem_append_right _ hw)) tyX0 tyX0_ok nmX0 hown hK hP hD hS 0 rfl rfl 5 (by decide) (hts (.fieldLink RX0 32 "PrefixIndex$Buckets" "markCount" "I") (List.mem_of_getElem? (i := 4) rfl)) (fun _ h9 => h9) rfl (by decide +kernel) rfl rfl (Nat.le_of_ble_eq_true rfl) dX0_begin_17 (fun H locs hP hD hS => ?_)
  have hP : va_P (dC, dI) vwCl [(h_th, .inr (0, [v_th_keys, .ref h_marks, .int x0, .int x1, .int (0 : Int32), .int (1 : Int32), .int splits, .int joins])), (h_marks, .inl (cyI, 48, .inl marks))] H := hP
  have hD : va_D A [(h_th, .inr (0, [v_th_keys, .ref h_marks, .int x0, .int x1, .int (0 : Int32), .int (1 : Int32), .int splits, .int joins])), (h_marks, .inl (cyI, 48, .inl marks))] := hD
  refine lv_aload_n hx hb dX0_begin_20 rfl (lv_at hl 0 rfl) ?_
  refine va_get (D := (dC, dI)) (ci := 0) (v := .ref h_marks) (C := RX0) (T := TX0) (N := 8) hx hb hts (fun _ hw => List.mem_cons_of_mem _ (List.mem_append_right _ hw)) hown hK hP 0 rfl rfl 1 (by decide) (hts (.fieldLink RX0 15 "PrefixIndex$Buckets" "marks" "[I") (List.mem_of_getElem? (i := 5) rfl)) (fun _ h9 => h9) rfl dX0_begin_21 ?_
  refine lv_iconst (v := 0) hx hb dX0_begin_24 (by decide) ?_
  refine lv_aload_n hx hb dX0_begin_25 rfl (lv_at hl 0 rfl) ?_
  obtain ⟨u_1, hc_2, h⟩ := obd_e h
  refine Gci (wr := [(h_marks, .inl (cyI, 48, .inl marks))]) (va_runV (As := []) (rest := [.int (0 : Int32), .ref h_marks]) ⟨hx, hb, hml, hown, hts⟩ (tX0_top l dC dI cyI cyJ cyZ cyO H.size h_th v_th_keys (.ref h_marks) (.int x1) (.int (0 : Int32)) (.int (1 : Int32)) (.int splits) (.int joins) x0 u_1 hc_2) (cwV 0 hts gX0_begin_X0_top rfl rfl rfl (by decide +kernel) ⟨Nat.le_of_ble_eq_true rfl, Nat.le_of_ble_eq_true rfl⟩) (GpreV hP hD hK hN [0] rfl (by decide) 0 0 rfl rfl rfl) rfl rfl hl.1 rfl (lv_room (Nat.le_of_ble_eq_true rfl)) dX0_begin_26 ⟨Nat.zero_le _, Nat.zero_le _⟩) hP hD hS hA [0] [1] rfl rfl (by decide) (by decide) (fun H locs hP hD hS => ?_)
  have hP : va_P (dC, dI) vwCl [(h_marks, .inl (cyI, 48, .inl marks)), (h_th, .inr (0, [v_th_keys, .ref h_marks, .int x0, .int x1, .int (0 : Int32), .int (1 : Int32), .int splits, .int joins]))] H := hP
  have hD : va_D A [(h_marks, .inl (cyI, 48, .inl marks)), (h_th, .inr (0, [v_th_keys, .ref h_marks, .int x0, .int x1, .int (0 : Int32), .int (1 : Int32), .int splits, .int joins]))] := hD
  obtain ⟨hi_3, h⟩ := oin_e h
  refine va_iast hx hb hK hP hD hS 0 0 rfl rfl hi_3 dX0_begin_29 (fun H locs hP hD hS => ?_)
  have hP : va_P (dC, dI) vwCl [(h_marks, .inl (cyI, 48, .inl (upd marks (0 : Int32).toNatClampNeg u_1))), (h_th, .inr (0, [v_th_keys, .ref h_marks, .int x0, .int x1, .int (0 : Int32), .int (1 : Int32), .int splits, .int joins]))] H := hP
  have hD : va_D A [(h_marks, .inl (cyI, 48, .inl (upd marks (0 : Int32).toNatClampNeg u_1))), (h_th, .inr (0, [v_th_keys, .ref h_marks, .int x0, .int x1, .int (0 : Int32), .int (1 : Int32), .int splits, .int joins]))] := hD
  refine lv_aload_n hx hb dX0_begin_30 rfl (lv_at hl 0 rfl) ?_
  refine lv_iconst (v := 0) hx hb dX0_begin_31 (by decide) ?_
  refine va_put (D := (dC, dI)) (ci := 0) (v := .int (0 : Int32)) (ty := .int) (C := RX0) (T := TX0) (N := 8) hx hb hts (fun _ hw => List.mem_cons_of_mem _ (List.mem_append_right _ hw)) tyX0 tyX0_ok nmX0 hown hK hP hD hS 1 rfl rfl 6 (by decide) (hts (.fieldLink RX0 39 "PrefixIndex$Buckets" "splits" "I") (List.mem_of_getElem? (i := 6) rfl)) (fun _ h9 => h9) rfl (by decide +kernel) rfl rfl (Nat.le_of_ble_eq_true rfl) dX0_begin_32 (fun H locs hP hD hS => ?_)
  have hP : va_P (dC, dI) vwCl [(h_marks, .inl (cyI, 48, .inl (upd marks (0 : Int32).toNatClampNeg u_1))), (h_th, .inr (0, [v_th_keys, .ref h_marks, .int x0, .int x1, .int (0 : Int32), .int (1 : Int32), .int (0 : Int32), .int joins]))] H := hP
  have hD : va_D A [(h_marks, .inl (cyI, 48, .inl (upd marks (0 : Int32).toNatClampNeg u_1))), (h_th, .inr (0, [v_th_keys, .ref h_marks, .int x0, .int x1, .int (0 : Int32), .int (1 : Int32), .int (0 : Int32), .int joins]))] := hD
  refine lv_aload_n hx hb dX0_begin_35 rfl (lv_at hl 0 rfl) ?_
  refine lv_iconst (v := 0) hx hb dX0_begin_36 (by decide) ?_
  refine va_put (D := (dC, dI)) (ci := 0) (v := .int (0 : Int32)) (ty := .int) (C := RX0) (T := TX0) (N := 8) hx hb hts (fun _ hw => List.mem_cons_of_mem _ (List.mem_append_right _ hw)) tyX0 tyX0_ok nmX0 hown hK hP hD hS 1 rfl rfl 7 (by decide) (hts (.fieldLink RX0 42 "PrefixIndex$Buckets" "joins" "I") (List.mem_of_getElem? (i := 7) rfl)) (fun _ h9 => h9) rfl (by decide +kernel) rfl rfl (Nat.le_of_ble_eq_true rfl) dX0_begin_37 (fun H locs hP hD hS => ?_)
  have hP : va_P (dC, dI) vwCl [(h_marks, .inl (cyI, 48, .inl (upd marks (0 : Int32).toNatClampNeg u_1))), (h_th, .inr (0, [v_th_keys, .ref h_marks, .int x0, .int x1, .int (0 : Int32), .int (1 : Int32), .int (0 : Int32), .int (0 : Int32)]))] H := hP
  have hD : va_D A [(h_marks, .inl (cyI, 48, .inl (upd marks (0 : Int32).toNatClampNeg u_1))), (h_th, .inr (0, [v_th_keys, .ref h_marks, .int x0, .int x1, .int (0 : Int32), .int (1 : Int32), .int (0 : Int32), .int (0 : Int32)]))] := hD
  obtain rfl := Option.some.inj h
  have hP := hP.sub (ws' := [(h_th, .inr (0, [v_th_keys, .ref h_marks, .int x0, .int x1, .int (0 : Int32), .int (1 : Int32), .int (0 : Int32), .int (0 : Int32)])), (h_marks, .inl (cyI, 48, .inl (upd marks (0 : Int32).toNatClampNeg u_1)))]) [1, 0] rfl
  have hD := hD.sub (ws' := [(h_th, .inr (0, [v_th_keys, .ref h_marks, .int x0, .int x1, .int (0 : Int32), .int (1 : Int32), .int (0 : Int32), .int (0 : Int32)])), (h_marks, .inl (cyI, 48, .inl (upd marks (0 : Int32).toNatClampNeg u_1)))]) [1, 0] (by decide) rfl
  exact hret _ _ _ _ dX0_begin_40 hP hD hS

def fX0_inBounds (bits : Int32) (x0 : Int32) : Option (Int32) := obd (if x0 < 0 then (some (0 : Int32)) else (obd (fX0_top bits) fun u_3 => if u_3 < x0 then (some (0 : Int32)) else (some (1 : Int32)))) fun w_2 => obl w_2 (some w_2)

set_option maxHeartbeats 4000000 in
set_option maxRecDepth 100000 in
theorem tX0_inBounds (l : Launch) (dC : Nat → ClassId) (dI : Nat → Nat → Nat) (cyI cyJ cyZ cyO : ClassId) (sz : Nat) (h_th : Nat) (v_th_keys : Value) (v_th_marks : Value) (v_th_size : Value) (v_th_keyCount : Value) (v_th_markCount : Value) (v_th_splits : Value) (v_th_joins : Value) (bits : Int32) (x0 : Int32) (u : Int32) (hf : fX0_inBounds bits x0 = some u) : Met l yX0_inBounds wsX0_inBounds ({ frames := 1, cells := 0, slots := 0, locals := 20 }) (va_Pc [.ref h_th, .int x0] (GP (dC, dI) (T4 cyI cyJ cyZ cyO) sz [(h_th, .inr (0, [v_th_keys, v_th_marks, .int bits, v_th_size, v_th_keyCount, v_th_markCount, v_th_splits, v_th_joins]))])) (va_Qi (fun (r : Int32) (_ : Unit) => r = u) (GB (dC, dI) [(h_th, .inr (0, [v_th_keys, v_th_marks, .int bits, v_th_size, v_th_keyCount, v_th_markCount, v_th_splits, v_th_joins]))] (va_A [(h_th, .inr (0, [v_th_keys, v_th_marks, .int bits, v_th_size, v_th_keyCount, v_th_markCount, v_th_splits, v_th_joins]))] sz)) (va_A [(h_th, .inr (0, [v_th_keys, v_th_marks, .int bits, v_th_size, v_th_keyCount, v_th_markCount, v_th_splits, v_th_joins]))] sz)) 0 0 (va_A [(h_th, .inr (0, [v_th_keys, v_th_marks, .int bits, v_th_size, v_th_keyCount, v_th_markCount, v_th_splits, v_th_joins]))] sz) := by
  refine GMetZ (by decide) rfl (Nat.le_of_ble_eq_true rfl) ?_
  intro p e s m args below meth c A Q ls hx hb hml hts hown hN hK hA hret hP hD hS hl
  have h := hf
  clear hf
  unfold fX0_inBounds at h
  have hown : s.vm.findClass RX0 = some m.cls := hown
  have hl : lv_has ls 2 [(0, .ref h_th), (1, .int x0)] := hl
  refine lv_iload_n hx hb dX0_inBounds_0 rfl (lv_at hl 1 rfl) ?_
  obtain ⟨w_2, hm_6, h⟩ := obd_e h
  have J : ∀ (H : Heap) (locs : List Loc) (ls : Array Slot), va_P (dC, dI) vwCl [(h_th, .inr (0, [v_th_keys, v_th_marks, .int bits, v_th_size, v_th_keyCount, v_th_markCount, v_th_splits, v_th_joins]))] H → va_D A [(h_th, .inr (0, [v_th_keys, v_th_marks, .int bits, v_th_size, v_th_keyCount, v_th_markCount, v_th_splits, v_th_joins]))] → va_S A s.heap H locs → lv_has ls 2 [] → W p l e ({ frames := 1, cells := 0, slots := 0, locals := 20 }) s m args below meth c H locs 0 0 Q (F0 m 17 ls [.int w_2]) := by
    intro H locs ls hP hD hS hl
    obtain ⟨hz, h⟩ := obl_e h
    obtain rfl := Option.some.inj h
    exact hret _ _ _ _ dX0_inBounds_17 hz hP hD hS
  replace h := hm_6
  refine lv_if_lt (tgt := 16) hx hb dX0_inBounds_1 (by decide) (fun c_1 => ?_) (fun c_1 => ?_)
  · have h := og_ite_t c_1 h
    refine lv_iconst (v := 0) hx hb dX0_inBounds_16 (by decide) ?_
    obtain rfl := Option.some.inj h
    exact J _ _ _ hP hD hS (lv_sub hl [] rfl)
  · have h := og_ite_f c_1 h
    refine lv_iload_n hx hb dX0_inBounds_4 rfl (lv_at hl 1 rfl) ?_
    refine lv_aload_n hx hb dX0_inBounds_5 rfl (lv_at hl 0 rfl) ?_
    obtain ⟨u_3, hc_4, h⟩ := obd_e h
    refine Gci (wr := []) (va_runV (As := []) (rest := [.int x0]) ⟨hx, hb, hml, hown, hts⟩ (tX0_top l dC dI cyI cyJ cyZ cyO s.heap.size h_th v_th_keys v_th_marks v_th_size v_th_keyCount v_th_markCount v_th_splits v_th_joins bits u_3 hc_4) (cwV 0 hts gX0_inBounds_X0_top rfl rfl rfl (by decide +kernel) ⟨Nat.le_of_ble_eq_true rfl, Nat.le_of_ble_eq_true rfl⟩) (GpreV hP hD hK hN [0] rfl (by decide) 0 0 rfl rfl rfl) rfl rfl hl.1 rfl (lv_room (Nat.le_of_ble_eq_true rfl)) dX0_inBounds_6 ⟨Nat.zero_le _, Nat.zero_le _⟩) hP hD hS hA [0] [] rfl rfl (by decide) (by decide) (fun H locs hP hD hS => ?_)
    have hP : va_P (dC, dI) vwCl [(h_th, .inr (0, [v_th_keys, v_th_marks, .int bits, v_th_size, v_th_keyCount, v_th_markCount, v_th_splits, v_th_joins]))] H := hP
    have hD : va_D A [(h_th, .inr (0, [v_th_keys, v_th_marks, .int bits, v_th_size, v_th_keyCount, v_th_markCount, v_th_splits, v_th_joins]))] := hD
    refine lv_icmp_gt (tgt := 16) hx hb dX0_inBounds_9 (by decide) (fun c_5 => ?_) (fun c_5 => ?_)
    · have h := og_ite_t c_5 h
      refine lv_iconst (v := 0) hx hb dX0_inBounds_16 (by decide) ?_
      obtain rfl := Option.some.inj h
      exact J _ _ _ hP hD hS (lv_sub hl [] rfl)
    · have h := og_ite_f c_5 h
      refine lv_iconst (v := 1) hx hb dX0_inBounds_12 (by decide) ?_
      refine lv_goto (tgt := 17) hx hb dX0_inBounds_13 (by decide) ?_
      obtain rfl := Option.some.inj h
      exact J _ _ _ hP hD hS (lv_sub hl [] rfl)

def fX0_hasLevel (bits : Int32) (x0 : Int32) : Option (Int32) := olet (if x0 < 0 then ((0 : Int32)) else (if bits < x0 then ((0 : Int32)) else ((1 : Int32)))) fun y_2 => obl y_2 (some y_2)

set_option maxHeartbeats 4000000 in
set_option maxRecDepth 100000 in
theorem tX0_hasLevel (l : Launch) (dC : Nat → ClassId) (dI : Nat → Nat → Nat) (cyI cyJ cyZ cyO : ClassId) (sz : Nat) (h_th : Nat) (v_th_keys : Value) (v_th_marks : Value) (v_th_size : Value) (v_th_keyCount : Value) (v_th_markCount : Value) (v_th_splits : Value) (v_th_joins : Value) (bits : Int32) (x0 : Int32) (u : Int32) (hf : fX0_hasLevel bits x0 = some u) : Met l yX0_hasLevel wsX0_hasLevel ({ frames := 0, cells := 0, slots := 0, locals := 0 }) (va_Pc [.ref h_th, .int x0] (GP (dC, dI) (T4 cyI cyJ cyZ cyO) sz [(h_th, .inr (0, [v_th_keys, v_th_marks, .int bits, v_th_size, v_th_keyCount, v_th_markCount, v_th_splits, v_th_joins]))])) (va_Qi (fun (r : Int32) (_ : Unit) => r = u) (GB (dC, dI) [(h_th, .inr (0, [v_th_keys, v_th_marks, .int bits, v_th_size, v_th_keyCount, v_th_markCount, v_th_splits, v_th_joins]))] (va_A [(h_th, .inr (0, [v_th_keys, v_th_marks, .int bits, v_th_size, v_th_keyCount, v_th_markCount, v_th_splits, v_th_joins]))] sz)) (va_A [(h_th, .inr (0, [v_th_keys, v_th_marks, .int bits, v_th_size, v_th_keyCount, v_th_markCount, v_th_splits, v_th_joins]))] sz)) 0 0 (va_A [(h_th, .inr (0, [v_th_keys, v_th_marks, .int bits, v_th_size, v_th_keyCount, v_th_markCount, v_th_splits, v_th_joins]))] sz) := by
  refine GMetZ (by decide) rfl (Nat.le_of_ble_eq_true rfl) ?_
  intro p e s m args below meth c A Q ls hx hb hml hts hown hN hK hA hret hP hD hS hl
  have h := hf
  clear hf
  unfold fX0_hasLevel at h
  have hown : s.vm.findClass RX0 = some m.cls := hown
  have hl : lv_has ls 2 [(0, .ref h_th), (1, .int x0)] := hl
  refine lv_iload_n hx hb dX0_hasLevel_0 rfl (lv_at hl 1 rfl) ?_
  obtain ⟨y_2, ey_2, h⟩ := olet_e h
  have J : ∀ (H : Heap) (locs : List Loc) (ls : Array Slot), va_P (dC, dI) vwCl [(h_th, .inr (0, [v_th_keys, v_th_marks, .int bits, v_th_size, v_th_keyCount, v_th_markCount, v_th_splits, v_th_joins]))] H → va_D A [(h_th, .inr (0, [v_th_keys, v_th_marks, .int bits, v_th_size, v_th_keyCount, v_th_markCount, v_th_splits, v_th_joins]))] → va_S A s.heap H locs → lv_has ls 2 [] → W p l e ({ frames := 0, cells := 0, slots := 0, locals := 0 }) s m args below meth c H locs 0 0 Q (F0 m 17 ls [.int y_2]) := by
    intro H locs ls hP hD hS hl
    obtain ⟨hz, h⟩ := obl_e h
    obtain rfl := Option.some.inj h
    exact hret _ _ _ _ dX0_hasLevel_17 hz hP hD hS
  clear h
  refine lv_if_lt (tgt := 16) hx hb dX0_hasLevel_1 (by decide) (fun c_1 => ?_) (fun c_1 => ?_)
  · refine lv_iconst (v := 0) hx hb dX0_hasLevel_16 (by decide) ?_
    rw [if_pos c_1] at ey_2
    subst ey_2
    exact J _ _ _ hP hD hS (lv_sub hl [] rfl)
  · refine lv_iload_n hx hb dX0_hasLevel_4 rfl (lv_at hl 1 rfl) ?_
    refine lv_aload_n hx hb dX0_hasLevel_5 rfl (lv_at hl 0 rfl) ?_
    refine va_get (D := (dC, dI)) (ci := 0) (v := .int bits) (C := RX0) (T := TX0) (N := 8) hx hb hts (fun _ hw => List.mem_cons_of_mem _ (List.mem_append_right _ hw)) hown hK hP 0 rfl rfl 2 (by decide) (hts (.fieldLink RX0 22 "PrefixIndex$Buckets" "bits" "I") (List.mem_of_getElem? (i := 1) rfl)) (fun _ h9 => h9) rfl dX0_hasLevel_6 ?_
    refine lv_icmp_gt (tgt := 16) hx hb dX0_hasLevel_9 (by decide) (fun c_3 => ?_) (fun c_3 => ?_)
    · refine lv_iconst (v := 0) hx hb dX0_hasLevel_16 (by decide) ?_
      rw [if_neg c_1, if_pos c_3] at ey_2
      subst ey_2
      exact J _ _ _ hP hD hS (lv_sub hl [] rfl)
    · refine lv_iconst (v := 1) hx hb dX0_hasLevel_12 (by decide) ?_
      refine lv_goto (tgt := 17) hx hb dX0_hasLevel_13 (by decide) ?_
      rw [if_neg c_1, if_neg c_3] at ey_2
      subst ey_2
      exact J _ _ _ hP hD hS (lv_sub hl [] rfl)

def fX0_rankOf (keyCount : Int32) (keys : (Nat → Int32)) (x0 : Int32) : Option (Int32) := obd (fX6_firstNotBelow 96 keys keyCount x0) fun u_1 => some u_1

set_option maxHeartbeats 4000000 in
set_option maxRecDepth 100000 in
theorem tX0_rankOf (l : Launch) (dC : Nat → ClassId) (dI : Nat → Nat → Nat) (cyI cyJ cyZ cyO : ClassId) (sz : Nat) (h_th h_keys : Nat) (v_th_marks : Value) (v_th_bits : Value) (v_th_size : Value) (v_th_markCount : Value) (v_th_splits : Value) (v_th_joins : Value) (keyCount : Int32) (keys : (Nat → Int32)) (x0 : Int32) (u : Int32) (hf : fX0_rankOf keyCount keys x0 = some u) : Met l yX0_rankOf wsX0_rankOf ({ frames := 1, cells := 0, slots := 0, locals := 26 }) (va_Pc [.ref h_th, .int x0] (GP (dC, dI) (T4 cyI cyJ cyZ cyO) sz [(h_th, .inr (0, [.ref h_keys, v_th_marks, v_th_bits, v_th_size, .int keyCount, v_th_markCount, v_th_splits, v_th_joins])), (h_keys, .inl (cyI, 96, .inl keys))])) (va_Qi (fun (r : Int32) (_ : Unit) => r = u) (GB (dC, dI) [(h_th, .inr (0, [.ref h_keys, v_th_marks, v_th_bits, v_th_size, .int keyCount, v_th_markCount, v_th_splits, v_th_joins])), (h_keys, .inl (cyI, 96, .inl keys))] (va_A [(h_th, .inr (0, [.ref h_keys, v_th_marks, v_th_bits, v_th_size, .int keyCount, v_th_markCount, v_th_splits, v_th_joins])), (h_keys, .inl (cyI, 96, .inl keys))] sz)) (va_A [(h_th, .inr (0, [.ref h_keys, v_th_marks, v_th_bits, v_th_size, .int keyCount, v_th_markCount, v_th_splits, v_th_joins])), (h_keys, .inl (cyI, 96, .inl keys))] sz)) 0 0 (va_A [(h_th, .inr (0, [.ref h_keys, v_th_marks, v_th_bits, v_th_size, .int keyCount, v_th_markCount, v_th_splits, v_th_joins])), (h_keys, .inl (cyI, 96, .inl keys))] sz) := by
  refine GMetI (by decide) rfl (Nat.le_of_ble_eq_true rfl) ?_
  intro p e s m args below meth c A Q ls hx hb hml hts hown hN hK hA hret hP hD hS hl
  have h := hf
  clear hf
  unfold fX0_rankOf at h
  have hown : s.vm.findClass RX0 = some m.cls := hown
  have hl : lv_has ls 2 [(0, .ref h_th), (1, .int x0)] := hl
  refine lv_aload_n hx hb dX0_rankOf_0 rfl (lv_at hl 0 rfl) ?_
  refine va_get (D := (dC, dI)) (ci := 0) (v := .ref h_keys) (C := RX0) (T := TX0) (N := 8) hx hb hts (fun _ hw => List.mem_cons_of_mem _ (List.mem_append_right _ hw)) hown hK hP 0 rfl rfl 0 (by decide) (hts (.fieldLink RX0 9 "PrefixIndex$Buckets" "keys" "[I") (List.mem_of_getElem? (i := 1) rfl)) (fun _ h9 => h9) rfl dX0_rankOf_1 ?_
  refine lv_aload_n hx hb dX0_rankOf_4 rfl (lv_at hl 0 rfl) ?_
  refine va_get (D := (dC, dI)) (ci := 0) (v := .int keyCount) (C := RX0) (T := TX0) (N := 8) hx hb hts (fun _ hw => List.mem_cons_of_mem _ (List.mem_append_right _ hw)) hown hK hP 0 rfl rfl 4 (by decide) (hts (.fieldLink RX0 29 "PrefixIndex$Buckets" "keyCount" "I") (List.mem_of_getElem? (i := 2) rfl)) (fun _ h9 => h9) rfl dX0_rankOf_5 ?_
  refine lv_iload_n hx hb dX0_rankOf_8 rfl (lv_at hl 1 rfl) ?_
  obtain ⟨u_1, hc_2, h⟩ := obd_e h
  refine Gci (wr := [(h_th, .inr (0, [.ref h_keys, v_th_marks, v_th_bits, v_th_size, .int keyCount, v_th_markCount, v_th_splits, v_th_joins]))]) (va_runSN (As := [.ref h_keys, .int keyCount, .int x0]) (rest := []) ⟨hx, hb, hml, hown, hts⟩ (tX6_firstNotBelow l dC dI cyI cyJ cyZ cyO s.heap.size h_keys 96 keys keyCount x0 u_1 hc_2) ⟨va_cnB 3 hts gX0_rankOf_X6_firstNotBelow_n49 rfl rfl rfl (hN.m 2 rfl) (hts (.initialized RX6) (List.mem_of_getElem? (i := 4) rfl)) (by decide +kernel) ⟨Nat.le_of_ble_eq_true rfl, Nat.le_of_ble_eq_true rfl⟩, (hts (.static yX6_firstNotBelow) (List.mem_of_getElem? (i := 3) rfl)), trivial⟩ (GpreS hP hD hK hN [1] rfl (by decide)) rfl rfl hl.1 rfl (lv_room (Nat.le_of_ble_eq_true rfl)) dX0_rankOf_9 ⟨Nat.zero_le _, Nat.zero_le _⟩) hP hD hS hA [1] [0] rfl rfl (by decide) (by decide) (fun H locs hP hD hS => ?_)
  have hP : va_P (dC, dI) vwCl [(h_th, .inr (0, [.ref h_keys, v_th_marks, v_th_bits, v_th_size, .int keyCount, v_th_markCount, v_th_splits, v_th_joins])), (h_keys, .inl (cyI, 96, .inl keys))] H := hP
  have hD : va_D A [(h_th, .inr (0, [.ref h_keys, v_th_marks, v_th_bits, v_th_size, .int keyCount, v_th_markCount, v_th_splits, v_th_joins])), (h_keys, .inl (cyI, 96, .inl keys))] := hD
  obtain rfl := Option.some.inj h
  exact hret _ _ _ _ dX0_rankOf_12 hP hD hS

def fX0_keyAt (keyCount : Int32) (keys : (Nat → Int32)) (x0 : Int32) : Option (Int32) := obd (if x0 < 0 then (some (-1 : Int32)) else (if keyCount ≤ x0 then (some (-1 : Int32)) else (if (96 : Int32) ≤ x0 then (some (-1 : Int32)) else (oin x0 96 (some (keys x0.toNatClampNeg)))))) fun w_2 => some w_2

set_option maxHeartbeats 4000000 in
set_option maxRecDepth 100000 in
theorem tX0_keyAt (l : Launch) (dC : Nat → ClassId) (dI : Nat → Nat → Nat) (cyI cyJ cyZ cyO : ClassId) (sz : Nat) (h_th h_keys : Nat) (v_th_marks : Value) (v_th_bits : Value) (v_th_size : Value) (v_th_markCount : Value) (v_th_splits : Value) (v_th_joins : Value) (keyCount : Int32) (keys : (Nat → Int32)) (x0 : Int32) (u : Int32) (hf : fX0_keyAt keyCount keys x0 = some u) : Met l yX0_keyAt wsX0_keyAt ({ frames := 0, cells := 0, slots := 0, locals := 0 }) (va_Pc [.ref h_th, .int x0] (GP (dC, dI) (T4 cyI cyJ cyZ cyO) sz [(h_th, .inr (0, [.ref h_keys, v_th_marks, v_th_bits, v_th_size, .int keyCount, v_th_markCount, v_th_splits, v_th_joins])), (h_keys, .inl (cyI, 96, .inl keys))])) (va_Qi (fun (r : Int32) (_ : Unit) => r = u) (GB (dC, dI) [(h_th, .inr (0, [.ref h_keys, v_th_marks, v_th_bits, v_th_size, .int keyCount, v_th_markCount, v_th_splits, v_th_joins])), (h_keys, .inl (cyI, 96, .inl keys))] (va_A [(h_th, .inr (0, [.ref h_keys, v_th_marks, v_th_bits, v_th_size, .int keyCount, v_th_markCount, v_th_splits, v_th_joins])), (h_keys, .inl (cyI, 96, .inl keys))] sz)) (va_A [(h_th, .inr (0, [.ref h_keys, v_th_marks, v_th_bits, v_th_size, .int keyCount, v_th_markCount, v_th_splits, v_th_joins])), (h_keys, .inl (cyI, 96, .inl keys))] sz)) 0 0 (va_A [(h_th, .inr (0, [.ref h_keys, v_th_marks, v_th_bits, v_th_size, .int keyCount, v_th_markCount, v_th_splits, v_th_joins])), (h_keys, .inl (cyI, 96, .inl keys))] sz) := by
  refine GMetI (by decide) rfl (Nat.le_of_ble_eq_true rfl) ?_
  intro p e s m args below meth c A Q ls hx hb hml hts hown hN hK hA hret hP hD hS hl
  have h := hf
  clear hf
  unfold fX0_keyAt at h
  have hown : s.vm.findClass RX0 = some m.cls := hown
  have hl : lv_has ls 2 [(0, .ref h_th), (1, .int x0)] := hl
  refine lv_iload_n hx hb dX0_keyAt_0 rfl (lv_at hl 1 rfl) ?_
  obtain ⟨w_2, hm_6, h⟩ := obd_e h
  have J : ∀ (H : Heap) (locs : List Loc) (ls : Array Slot), va_P (dC, dI) vwCl [(h_th, .inr (0, [.ref h_keys, v_th_marks, v_th_bits, v_th_size, .int keyCount, v_th_markCount, v_th_splits, v_th_joins])), (h_keys, .inl (cyI, 96, .inl keys))] H → va_D A [(h_th, .inr (0, [.ref h_keys, v_th_marks, v_th_bits, v_th_size, .int keyCount, v_th_markCount, v_th_splits, v_th_joins])), (h_keys, .inl (cyI, 96, .inl keys))] → va_S A s.heap H locs → lv_has ls 2 [] → W p l e ({ frames := 0, cells := 0, slots := 0, locals := 0 }) s m args below meth c H locs 0 0 Q (F0 m 31 ls [.int w_2]) := by
    intro H locs ls hP hD hS hl
    obtain rfl := Option.some.inj h
    exact hret _ _ _ _ dX0_keyAt_31 hP hD hS
  replace h := hm_6
  refine lv_if_lt (tgt := 30) hx hb dX0_keyAt_1 (by decide) (fun c_1 => ?_) (fun c_1 => ?_)
  · have h := og_ite_t c_1 h
    refine lv_iconst (v := (-1)) hx hb dX0_keyAt_30 (by decide) ?_
    obtain rfl := Option.some.inj h
    exact J _ _ _ hP hD hS (lv_sub hl [] rfl)
  · have h := og_ite_f c_1 h
    refine lv_iload_n hx hb dX0_keyAt_4 rfl (lv_at hl 1 rfl) ?_
    refine lv_aload_n hx hb dX0_keyAt_5 rfl (lv_at hl 0 rfl) ?_
    refine va_get (D := (dC, dI)) (ci := 0) (v := .int keyCount) (C := RX0) (T := TX0) (N := 8) hx hb hts (fun _ hw => List.mem_cons_of_mem _ (List.mem_append_right _ hw)) hown hK hP 0 rfl rfl 4 (by decide) (hts (.fieldLink RX0 29 "PrefixIndex$Buckets" "keyCount" "I") (List.mem_of_getElem? (i := 1) rfl)) (fun _ h9 => h9) rfl dX0_keyAt_6 ?_
    refine lv_icmp_ge (tgt := 30) hx hb dX0_keyAt_9 (by decide) (fun c_3 => ?_) (fun c_3 => ?_)
    · have h := og_ite_t c_3 h
      refine lv_iconst (v := (-1)) hx hb dX0_keyAt_30 (by decide) ?_
      obtain rfl := Option.some.inj h
      exact J _ _ _ hP hD hS (lv_sub hl [] rfl)
    · have h := og_ite_f c_3 h
      refine lv_iload_n hx hb dX0_keyAt_12 rfl (lv_at hl 1 rfl) ?_
      refine lv_aload_n hx hb dX0_keyAt_13 rfl (lv_at hl 0 rfl) ?_
      refine va_get (D := (dC, dI)) (ci := 0) (v := .ref h_keys) (C := RX0) (T := TX0) (N := 8) hx hb hts (fun _ hw => List.mem_cons_of_mem _ (List.mem_append_right _ hw)) hown hK hP 0 rfl rfl 0 (by decide) (hts (.fieldLink RX0 9 "PrefixIndex$Buckets" "keys" "[I") (List.mem_of_getElem? (i := 2) rfl)) (fun _ h9 => h9) rfl dX0_keyAt_14 ?_
      refine va_alen (v := (96 : Int32)) hx hb hK hP 1 0 rfl rfl rfl dX0_keyAt_17 ?_
      refine lv_icmp_ge (tgt := 30) hx hb dX0_keyAt_18 (by decide) (fun c_4 => ?_) (fun c_4 => ?_)
      · have h := og_ite_t c_4 h
        refine lv_iconst (v := (-1)) hx hb dX0_keyAt_30 (by decide) ?_
        obtain rfl := Option.some.inj h
        exact J _ _ _ hP hD hS (lv_sub hl [] rfl)
      · have h := og_ite_f c_4 h
        refine lv_aload_n hx hb dX0_keyAt_21 rfl (lv_at hl 0 rfl) ?_
        refine va_get (D := (dC, dI)) (ci := 0) (v := .ref h_keys) (C := RX0) (T := TX0) (N := 8) hx hb hts (fun _ hw => List.mem_cons_of_mem _ (List.mem_append_right _ hw)) hown hK hP 0 rfl rfl 0 (by decide) (hts (.fieldLink RX0 9 "PrefixIndex$Buckets" "keys" "[I") (List.mem_of_getElem? (i := 2) rfl)) (fun _ h9 => h9) rfl dX0_keyAt_22 ?_
        refine lv_iload_n hx hb dX0_keyAt_25 rfl (lv_at hl 1 rfl) ?_
        obtain ⟨hi_5, h⟩ := oin_e h
        refine va_iald hx hb hK hP 1 0 rfl rfl hi_5 dX0_keyAt_26 ?_
        refine lv_goto (tgt := 31) hx hb dX0_keyAt_27 (by decide) ?_
        obtain rfl := Option.some.inj h
        exact J _ _ _ hP hD hS (lv_sub hl [] rfl)

def fX0_holds (keyCount : Int32) (keys : (Nat → Int32)) (x0 : Int32) : Option (Int32) := obd (if x0 < 0 then (some (0 : Int32)) else (obd (fX0_rankOf keyCount keys x0) fun u_3 => obd (fX0_keyAt keyCount keys u_3) fun u_5 => if u_5 = x0 then (some (1 : Int32)) else (some (0 : Int32)))) fun w_2 => obl w_2 (some w_2)

set_option maxHeartbeats 4000000 in
set_option maxRecDepth 100000 in
theorem tX0_holds (l : Launch) (dC : Nat → ClassId) (dI : Nat → Nat → Nat) (cyI cyJ cyZ cyO : ClassId) (sz : Nat) (h_th h_keys : Nat) (v_th_marks : Value) (v_th_bits : Value) (v_th_size : Value) (v_th_markCount : Value) (v_th_splits : Value) (v_th_joins : Value) (keyCount : Int32) (keys : (Nat → Int32)) (x0 : Int32) (u : Int32) (hf : fX0_holds keyCount keys x0 = some u) : Met l yX0_holds wsX0_holds ({ frames := 2, cells := 0, slots := 0, locals := 47 }) (va_Pc [.ref h_th, .int x0] (GP (dC, dI) (T4 cyI cyJ cyZ cyO) sz [(h_th, .inr (0, [.ref h_keys, v_th_marks, v_th_bits, v_th_size, .int keyCount, v_th_markCount, v_th_splits, v_th_joins])), (h_keys, .inl (cyI, 96, .inl keys))])) (va_Qi (fun (r : Int32) (_ : Unit) => r = u) (GB (dC, dI) [(h_th, .inr (0, [.ref h_keys, v_th_marks, v_th_bits, v_th_size, .int keyCount, v_th_markCount, v_th_splits, v_th_joins])), (h_keys, .inl (cyI, 96, .inl keys))] (va_A [(h_th, .inr (0, [.ref h_keys, v_th_marks, v_th_bits, v_th_size, .int keyCount, v_th_markCount, v_th_splits, v_th_joins])), (h_keys, .inl (cyI, 96, .inl keys))] sz)) (va_A [(h_th, .inr (0, [.ref h_keys, v_th_marks, v_th_bits, v_th_size, .int keyCount, v_th_markCount, v_th_splits, v_th_joins])), (h_keys, .inl (cyI, 96, .inl keys))] sz)) 0 0 (va_A [(h_th, .inr (0, [.ref h_keys, v_th_marks, v_th_bits, v_th_size, .int keyCount, v_th_markCount, v_th_splits, v_th_joins])), (h_keys, .inl (cyI, 96, .inl keys))] sz) := by
  refine GMetZ (by decide) rfl (Nat.le_of_ble_eq_true rfl) ?_
  intro p e s m args below meth c A Q ls hx hb hml hts hown hN hK hA hret hP hD hS hl
  have h := hf
  clear hf
  unfold fX0_holds at h
  have hown : s.vm.findClass RX0 = some m.cls := hown
  have hl : lv_has ls 2 [(0, .ref h_th), (1, .int x0)] := hl
  refine lv_iload_n hx hb dX0_holds_0 rfl (lv_at hl 1 rfl) ?_
  obtain ⟨w_2, hm_8, h⟩ := obd_e h
  have J : ∀ (H : Heap) (locs : List Loc) (ls : Array Slot), va_P (dC, dI) vwCl [(h_th, .inr (0, [.ref h_keys, v_th_marks, v_th_bits, v_th_size, .int keyCount, v_th_markCount, v_th_splits, v_th_joins])), (h_keys, .inl (cyI, 96, .inl keys))] H → va_D A [(h_th, .inr (0, [.ref h_keys, v_th_marks, v_th_bits, v_th_size, .int keyCount, v_th_markCount, v_th_splits, v_th_joins])), (h_keys, .inl (cyI, 96, .inl keys))] → va_S A s.heap H locs → lv_has ls 2 [] → W p l e ({ frames := 2, cells := 0, slots := 0, locals := 47 }) s m args below meth c H locs 0 0 Q (F0 m 22 ls [.int w_2]) := by
    intro H locs ls hP hD hS hl
    obtain ⟨hz, h⟩ := obl_e h
    obtain rfl := Option.some.inj h
    exact hret _ _ _ _ dX0_holds_22 hz hP hD hS
  replace h := hm_8
  refine lv_if_lt (tgt := 21) hx hb dX0_holds_1 (by decide) (fun c_1 => ?_) (fun c_1 => ?_)
  · have h := og_ite_t c_1 h
    refine lv_iconst (v := 0) hx hb dX0_holds_21 (by decide) ?_
    obtain rfl := Option.some.inj h
    exact J _ _ _ hP hD hS (lv_sub hl [] rfl)
  · have h := og_ite_f c_1 h
    refine lv_aload_n hx hb dX0_holds_4 rfl (lv_at hl 0 rfl) ?_
    refine lv_aload_n hx hb dX0_holds_5 rfl (lv_at hl 0 rfl) ?_
    refine lv_iload_n hx hb dX0_holds_6 rfl (lv_at hl 1 rfl) ?_
    obtain ⟨u_3, hc_4, h⟩ := obd_e h
    refine Gci (wr := []) (va_runV (As := [.int x0]) (rest := [.ref h_th]) ⟨hx, hb, hml, hown, hts⟩ (tX0_rankOf l dC dI cyI cyJ cyZ cyO s.heap.size h_th h_keys v_th_marks v_th_bits v_th_size v_th_markCount v_th_splits v_th_joins keyCount keys x0 u_3 hc_4) (cwV 1 hts gX0_holds_X0_rankOf rfl rfl rfl (by decide +kernel) ⟨Nat.le_of_ble_eq_true rfl, Nat.le_of_ble_eq_true rfl⟩) (GpreV hP hD hK hN [0, 1] rfl (by decide) 0 0 rfl rfl rfl) rfl rfl hl.1 rfl (lv_room (Nat.le_of_ble_eq_true rfl)) dX0_holds_7 ⟨Nat.zero_le _, Nat.zero_le _⟩) hP hD hS hA [0, 1] [] rfl rfl (by decide) (by decide) (fun H locs hP hD hS => ?_)
    have hP : va_P (dC, dI) vwCl [(h_th, .inr (0, [.ref h_keys, v_th_marks, v_th_bits, v_th_size, .int keyCount, v_th_markCount, v_th_splits, v_th_joins])), (h_keys, .inl (cyI, 96, .inl keys))] H := hP
    have hD : va_D A [(h_th, .inr (0, [.ref h_keys, v_th_marks, v_th_bits, v_th_size, .int keyCount, v_th_markCount, v_th_splits, v_th_joins])), (h_keys, .inl (cyI, 96, .inl keys))] := hD
    obtain ⟨u_5, hc_6, h⟩ := obd_e h
    refine Gci (wr := []) (va_runV (As := [.int u_3]) (rest := []) ⟨hx, hb, hml, hown, hts⟩ (tX0_keyAt l dC dI cyI cyJ cyZ cyO H.size h_th h_keys v_th_marks v_th_bits v_th_size v_th_markCount v_th_splits v_th_joins keyCount keys u_3 u_5 hc_6) (cwV 1 hts gX0_holds_X0_keyAt rfl rfl rfl (by decide +kernel) ⟨Nat.le_of_ble_eq_true rfl, Nat.le_of_ble_eq_true rfl⟩) (GpreV hP hD hK hN [0, 1] rfl (by decide) 0 0 rfl rfl rfl) rfl rfl hl.1 rfl (lv_room (Nat.le_of_ble_eq_true rfl)) dX0_holds_10 ⟨Nat.zero_le _, Nat.zero_le _⟩) hP hD hS hA [0, 1] [] rfl rfl (by decide) (by decide) (fun H locs hP hD hS => ?_)
    have hP : va_P (dC, dI) vwCl [(h_th, .inr (0, [.ref h_keys, v_th_marks, v_th_bits, v_th_size, .int keyCount, v_th_markCount, v_th_splits, v_th_joins])), (h_keys, .inl (cyI, 96, .inl keys))] H := hP
    have hD : va_D A [(h_th, .inr (0, [.ref h_keys, v_th_marks, v_th_bits, v_th_size, .int keyCount, v_th_markCount, v_th_splits, v_th_joins])), (h_keys, .inl (cyI, 96, .inl keys))] := hD
    refine lv_iload_n hx hb dX0_holds_13 rfl (lv_at hl 1 rfl) ?_
    refine lv_icmp_ne (tgt := 21) hx hb dX0_holds_14 (by decide) (fun c_7 => ?_) (fun c_7 => ?_)
    · have h := og_ite_f c_7 h
      refine lv_iconst (v := 0) hx hb dX0_holds_21 (by decide) ?_
      obtain rfl := Option.some.inj h
      exact J _ _ _ hP hD hS (lv_sub hl [] rfl)
    · have h := og_ite_t c_7 h
      refine lv_iconst (v := 1) hx hb dX0_holds_17 (by decide) ?_
      refine lv_goto (tgt := 22) hx hb dX0_holds_18 (by decide) ?_
      obtain rfl := Option.some.inj h
      exact J _ _ _ hP hD hS (lv_sub hl [] rfl)

def fX0_markAt (markCount : Int32) (marks : (Nat → Int32)) (x0 : Int32) : Option (Int32) := obd (if x0 < 0 then (some (-1 : Int32)) else (if markCount ≤ x0 then (some (-1 : Int32)) else (if (48 : Int32) ≤ x0 then (some (-1 : Int32)) else (oin x0 48 (some (marks x0.toNatClampNeg)))))) fun w_2 => some w_2

set_option maxHeartbeats 4000000 in
set_option maxRecDepth 100000 in
theorem tX0_markAt (l : Launch) (dC : Nat → ClassId) (dI : Nat → Nat → Nat) (cyI cyJ cyZ cyO : ClassId) (sz : Nat) (h_th h_marks : Nat) (v_th_keys : Value) (v_th_bits : Value) (v_th_size : Value) (v_th_keyCount : Value) (v_th_splits : Value) (v_th_joins : Value) (markCount : Int32) (marks : (Nat → Int32)) (x0 : Int32) (u : Int32) (hf : fX0_markAt markCount marks x0 = some u) : Met l yX0_markAt wsX0_markAt ({ frames := 0, cells := 0, slots := 0, locals := 0 }) (va_Pc [.ref h_th, .int x0] (GP (dC, dI) (T4 cyI cyJ cyZ cyO) sz [(h_th, .inr (0, [v_th_keys, .ref h_marks, v_th_bits, v_th_size, v_th_keyCount, .int markCount, v_th_splits, v_th_joins])), (h_marks, .inl (cyI, 48, .inl marks))])) (va_Qi (fun (r : Int32) (_ : Unit) => r = u) (GB (dC, dI) [(h_th, .inr (0, [v_th_keys, .ref h_marks, v_th_bits, v_th_size, v_th_keyCount, .int markCount, v_th_splits, v_th_joins])), (h_marks, .inl (cyI, 48, .inl marks))] (va_A [(h_th, .inr (0, [v_th_keys, .ref h_marks, v_th_bits, v_th_size, v_th_keyCount, .int markCount, v_th_splits, v_th_joins])), (h_marks, .inl (cyI, 48, .inl marks))] sz)) (va_A [(h_th, .inr (0, [v_th_keys, .ref h_marks, v_th_bits, v_th_size, v_th_keyCount, .int markCount, v_th_splits, v_th_joins])), (h_marks, .inl (cyI, 48, .inl marks))] sz)) 0 0 (va_A [(h_th, .inr (0, [v_th_keys, .ref h_marks, v_th_bits, v_th_size, v_th_keyCount, .int markCount, v_th_splits, v_th_joins])), (h_marks, .inl (cyI, 48, .inl marks))] sz) := by
  refine GMetI (by decide) rfl (Nat.le_of_ble_eq_true rfl) ?_
  intro p e s m args below meth c A Q ls hx hb hml hts hown hN hK hA hret hP hD hS hl
  have h := hf
  clear hf
  unfold fX0_markAt at h
  have hown : s.vm.findClass RX0 = some m.cls := hown
  have hl : lv_has ls 2 [(0, .ref h_th), (1, .int x0)] := hl
  refine lv_iload_n hx hb dX0_markAt_0 rfl (lv_at hl 1 rfl) ?_
  obtain ⟨w_2, hm_6, h⟩ := obd_e h
  have J : ∀ (H : Heap) (locs : List Loc) (ls : Array Slot), va_P (dC, dI) vwCl [(h_th, .inr (0, [v_th_keys, .ref h_marks, v_th_bits, v_th_size, v_th_keyCount, .int markCount, v_th_splits, v_th_joins])), (h_marks, .inl (cyI, 48, .inl marks))] H → va_D A [(h_th, .inr (0, [v_th_keys, .ref h_marks, v_th_bits, v_th_size, v_th_keyCount, .int markCount, v_th_splits, v_th_joins])), (h_marks, .inl (cyI, 48, .inl marks))] → va_S A s.heap H locs → lv_has ls 2 [] → W p l e ({ frames := 0, cells := 0, slots := 0, locals := 0 }) s m args below meth c H locs 0 0 Q (F0 m 31 ls [.int w_2]) := by
    intro H locs ls hP hD hS hl
    obtain rfl := Option.some.inj h
    exact hret _ _ _ _ dX0_markAt_31 hP hD hS
  replace h := hm_6
  refine lv_if_lt (tgt := 30) hx hb dX0_markAt_1 (by decide) (fun c_1 => ?_) (fun c_1 => ?_)
  · have h := og_ite_t c_1 h
    refine lv_iconst (v := (-1)) hx hb dX0_markAt_30 (by decide) ?_
    obtain rfl := Option.some.inj h
    exact J _ _ _ hP hD hS (lv_sub hl [] rfl)
  · have h := og_ite_f c_1 h
    refine lv_iload_n hx hb dX0_markAt_4 rfl (lv_at hl 1 rfl) ?_
    refine lv_aload_n hx hb dX0_markAt_5 rfl (lv_at hl 0 rfl) ?_
    refine va_get (D := (dC, dI)) (ci := 0) (v := .int markCount) (C := RX0) (T := TX0) (N := 8) hx hb hts (fun _ hw => List.mem_cons_of_mem _ (List.mem_append_right _ hw)) hown hK hP 0 rfl rfl 5 (by decide) (hts (.fieldLink RX0 32 "PrefixIndex$Buckets" "markCount" "I") (List.mem_of_getElem? (i := 1) rfl)) (fun _ h9 => h9) rfl dX0_markAt_6 ?_
    refine lv_icmp_ge (tgt := 30) hx hb dX0_markAt_9 (by decide) (fun c_3 => ?_) (fun c_3 => ?_)
    · have h := og_ite_t c_3 h
      refine lv_iconst (v := (-1)) hx hb dX0_markAt_30 (by decide) ?_
      obtain rfl := Option.some.inj h
      exact J _ _ _ hP hD hS (lv_sub hl [] rfl)
    · have h := og_ite_f c_3 h
      refine lv_iload_n hx hb dX0_markAt_12 rfl (lv_at hl 1 rfl) ?_
      refine lv_aload_n hx hb dX0_markAt_13 rfl (lv_at hl 0 rfl) ?_
      refine va_get (D := (dC, dI)) (ci := 0) (v := .ref h_marks) (C := RX0) (T := TX0) (N := 8) hx hb hts (fun _ hw => List.mem_cons_of_mem _ (List.mem_append_right _ hw)) hown hK hP 0 rfl rfl 1 (by decide) (hts (.fieldLink RX0 15 "PrefixIndex$Buckets" "marks" "[I") (List.mem_of_getElem? (i := 2) rfl)) (fun _ h9 => h9) rfl dX0_markAt_14 ?_
      refine va_alen (v := (48 : Int32)) hx hb hK hP 1 0 rfl rfl rfl dX0_markAt_17 ?_
      refine lv_icmp_ge (tgt := 30) hx hb dX0_markAt_18 (by decide) (fun c_4 => ?_) (fun c_4 => ?_)
      · have h := og_ite_t c_4 h
        refine lv_iconst (v := (-1)) hx hb dX0_markAt_30 (by decide) ?_
        obtain rfl := Option.some.inj h
        exact J _ _ _ hP hD hS (lv_sub hl [] rfl)
      · have h := og_ite_f c_4 h
        refine lv_aload_n hx hb dX0_markAt_21 rfl (lv_at hl 0 rfl) ?_
        refine va_get (D := (dC, dI)) (ci := 0) (v := .ref h_marks) (C := RX0) (T := TX0) (N := 8) hx hb hts (fun _ hw => List.mem_cons_of_mem _ (List.mem_append_right _ hw)) hown hK hP 0 rfl rfl 1 (by decide) (hts (.fieldLink RX0 15 "PrefixIndex$Buckets" "marks" "[I") (List.mem_of_getElem? (i := 2) rfl)) (fun _ h9 => h9) rfl dX0_markAt_22 ?_
        refine lv_iload_n hx hb dX0_markAt_25 rfl (lv_at hl 1 rfl) ?_
        obtain ⟨hi_5, h⟩ := oin_e h
        refine va_iald hx hb hK hP 1 0 rfl rfl hi_5 dX0_markAt_26 ?_
        refine lv_goto (tgt := 31) hx hb dX0_markAt_27 (by decide) ?_
        obtain rfl := Option.some.inj h
        exact J _ _ _ hP hD hS (lv_sub hl [] rfl)

def fX0_bucketOf (markCount : Int32) (marks : (Nat → Int32)) (x0 : Int32) : Option (Int32) := obd (fX6_firstNotBelow 48 marks markCount x0) fun u_1 => some u_1

set_option maxHeartbeats 4000000 in
set_option maxRecDepth 100000 in
theorem tX0_bucketOf (l : Launch) (dC : Nat → ClassId) (dI : Nat → Nat → Nat) (cyI cyJ cyZ cyO : ClassId) (sz : Nat) (h_th h_marks : Nat) (v_th_keys : Value) (v_th_bits : Value) (v_th_size : Value) (v_th_keyCount : Value) (v_th_splits : Value) (v_th_joins : Value) (markCount : Int32) (marks : (Nat → Int32)) (x0 : Int32) (u : Int32) (hf : fX0_bucketOf markCount marks x0 = some u) : Met l yX0_bucketOf wsX0_bucketOf ({ frames := 1, cells := 0, slots := 0, locals := 26 }) (va_Pc [.ref h_th, .int x0] (GP (dC, dI) (T4 cyI cyJ cyZ cyO) sz [(h_th, .inr (0, [v_th_keys, .ref h_marks, v_th_bits, v_th_size, v_th_keyCount, .int markCount, v_th_splits, v_th_joins])), (h_marks, .inl (cyI, 48, .inl marks))])) (va_Qi (fun (r : Int32) (_ : Unit) => r = u) (GB (dC, dI) [(h_th, .inr (0, [v_th_keys, .ref h_marks, v_th_bits, v_th_size, v_th_keyCount, .int markCount, v_th_splits, v_th_joins])), (h_marks, .inl (cyI, 48, .inl marks))] (va_A [(h_th, .inr (0, [v_th_keys, .ref h_marks, v_th_bits, v_th_size, v_th_keyCount, .int markCount, v_th_splits, v_th_joins])), (h_marks, .inl (cyI, 48, .inl marks))] sz)) (va_A [(h_th, .inr (0, [v_th_keys, .ref h_marks, v_th_bits, v_th_size, v_th_keyCount, .int markCount, v_th_splits, v_th_joins])), (h_marks, .inl (cyI, 48, .inl marks))] sz)) 0 0 (va_A [(h_th, .inr (0, [v_th_keys, .ref h_marks, v_th_bits, v_th_size, v_th_keyCount, .int markCount, v_th_splits, v_th_joins])), (h_marks, .inl (cyI, 48, .inl marks))] sz) := by
  refine GMetI (by decide) rfl (Nat.le_of_ble_eq_true rfl) ?_
  intro p e s m args below meth c A Q ls hx hb hml hts hown hN hK hA hret hP hD hS hl
  have h := hf
  clear hf
  unfold fX0_bucketOf at h
  have hown : s.vm.findClass RX0 = some m.cls := hown
  have hl : lv_has ls 2 [(0, .ref h_th), (1, .int x0)] := hl
  refine lv_aload_n hx hb dX0_bucketOf_0 rfl (lv_at hl 0 rfl) ?_
  refine va_get (D := (dC, dI)) (ci := 0) (v := .ref h_marks) (C := RX0) (T := TX0) (N := 8) hx hb hts (fun _ hw => List.mem_cons_of_mem _ (List.mem_append_right _ hw)) hown hK hP 0 rfl rfl 1 (by decide) (hts (.fieldLink RX0 15 "PrefixIndex$Buckets" "marks" "[I") (List.mem_of_getElem? (i := 1) rfl)) (fun _ h9 => h9) rfl dX0_bucketOf_1 ?_
  refine lv_aload_n hx hb dX0_bucketOf_4 rfl (lv_at hl 0 rfl) ?_
  refine va_get (D := (dC, dI)) (ci := 0) (v := .int markCount) (C := RX0) (T := TX0) (N := 8) hx hb hts (fun _ hw => List.mem_cons_of_mem _ (List.mem_append_right _ hw)) hown hK hP 0 rfl rfl 5 (by decide) (hts (.fieldLink RX0 32 "PrefixIndex$Buckets" "markCount" "I") (List.mem_of_getElem? (i := 2) rfl)) (fun _ h9 => h9) rfl dX0_bucketOf_5 ?_
  refine lv_iload_n hx hb dX0_bucketOf_8 rfl (lv_at hl 1 rfl) ?_
  obtain ⟨u_1, hc_2, h⟩ := obd_e h
  refine Gci (wr := [(h_th, .inr (0, [v_th_keys, .ref h_marks, v_th_bits, v_th_size, v_th_keyCount, .int markCount, v_th_splits, v_th_joins]))]) (va_runSN (As := [.ref h_marks, .int markCount, .int x0]) (rest := []) ⟨hx, hb, hml, hown, hts⟩ (tX6_firstNotBelow l dC dI cyI cyJ cyZ cyO s.heap.size h_marks 48 marks markCount x0 u_1 hc_2) ⟨va_cnB 3 hts gX0_bucketOf_X6_firstNotBelow_n49 rfl rfl rfl (hN.m 2 rfl) (hts (.initialized RX6) (List.mem_of_getElem? (i := 4) rfl)) (by decide +kernel) ⟨Nat.le_of_ble_eq_true rfl, Nat.le_of_ble_eq_true rfl⟩, (hts (.static yX6_firstNotBelow) (List.mem_of_getElem? (i := 3) rfl)), trivial⟩ (GpreS hP hD hK hN [1] rfl (by decide)) rfl rfl hl.1 rfl (lv_room (Nat.le_of_ble_eq_true rfl)) dX0_bucketOf_9 ⟨Nat.zero_le _, Nat.zero_le _⟩) hP hD hS hA [1] [0] rfl rfl (by decide) (by decide) (fun H locs hP hD hS => ?_)
  have hP : va_P (dC, dI) vwCl [(h_th, .inr (0, [v_th_keys, .ref h_marks, v_th_bits, v_th_size, v_th_keyCount, .int markCount, v_th_splits, v_th_joins])), (h_marks, .inl (cyI, 48, .inl marks))] H := hP
  have hD : va_D A [(h_th, .inr (0, [v_th_keys, .ref h_marks, v_th_bits, v_th_size, v_th_keyCount, .int markCount, v_th_splits, v_th_joins])), (h_marks, .inl (cyI, 48, .inl marks))] := hD
  obtain rfl := Option.some.inj h
  exact hret _ _ _ _ dX0_bucketOf_12 hP hD hS

def fX0_endOf (keyCount : Int32) (markCount : Int32) (keys : (Nat → Int32)) (marks : (Nat → Int32)) (x0 : Int32) : Option (Int32) := obd (fX0_markAt markCount marks x0) fun u_1 => obd (fX6_firstNotBelow 96 keys keyCount (u_1 + (1 : Int32))) fun u_3 => some u_3

set_option maxHeartbeats 4000000 in
set_option maxRecDepth 100000 in
theorem tX0_endOf (l : Launch) (dC : Nat → ClassId) (dI : Nat → Nat → Nat) (cyI cyJ cyZ cyO : ClassId) (sz : Nat) (h_th h_keys h_marks : Nat) (v_th_bits : Value) (v_th_size : Value) (v_th_splits : Value) (v_th_joins : Value) (keyCount : Int32) (markCount : Int32) (keys : (Nat → Int32)) (marks : (Nat → Int32)) (x0 : Int32) (u : Int32) (hf : fX0_endOf keyCount markCount keys marks x0 = some u) : Met l yX0_endOf wsX0_endOf ({ frames := 1, cells := 0, slots := 0, locals := 26 }) (va_Pc [.ref h_th, .int x0] (GP (dC, dI) (T4 cyI cyJ cyZ cyO) sz [(h_th, .inr (0, [.ref h_keys, .ref h_marks, v_th_bits, v_th_size, .int keyCount, .int markCount, v_th_splits, v_th_joins])), (h_keys, .inl (cyI, 96, .inl keys)), (h_marks, .inl (cyI, 48, .inl marks))])) (va_Qi (fun (r : Int32) (_ : Unit) => r = u) (GB (dC, dI) [(h_th, .inr (0, [.ref h_keys, .ref h_marks, v_th_bits, v_th_size, .int keyCount, .int markCount, v_th_splits, v_th_joins])), (h_keys, .inl (cyI, 96, .inl keys)), (h_marks, .inl (cyI, 48, .inl marks))] (va_A [(h_th, .inr (0, [.ref h_keys, .ref h_marks, v_th_bits, v_th_size, .int keyCount, .int markCount, v_th_splits, v_th_joins])), (h_keys, .inl (cyI, 96, .inl keys)), (h_marks, .inl (cyI, 48, .inl marks))] sz)) (va_A [(h_th, .inr (0, [.ref h_keys, .ref h_marks, v_th_bits, v_th_size, .int keyCount, .int markCount, v_th_splits, v_th_joins])), (h_keys, .inl (cyI, 96, .inl keys)), (h_marks, .inl (cyI, 48, .inl marks))] sz)) 0 0 (va_A [(h_th, .inr (0, [.ref h_keys, .ref h_marks, v_th_bits, v_th_size, .int keyCount, .int markCount, v_th_splits, v_th_joins])), (h_keys, .inl (cyI, 96, .inl keys)), (h_marks, .inl (cyI, 48, .inl marks))] sz) := by
  refine GMetI (by decide) rfl (Nat.le_of_ble_eq_true rfl) ?_
  intro p e s m args below meth c A Q ls hx hb hml hts hown hN hK hA hret hP hD hS hl
  have h := hf
  clear hf
  unfold fX0_endOf at h
  have hown : s.vm.findClass RX0 = some m.cls := hown
  have hl : lv_has ls 2 [(0, .ref h_th), (1, .int x0)] := hl
  refine lv_aload_n hx hb dX0_endOf_0 rfl (lv_at hl 0 rfl) ?_
  refine va_get (D := (dC, dI)) (ci := 0) (v := .ref h_keys) (C := RX0) (T := TX0) (N := 8) hx hb hts (fun _ hw => List.mem_cons_of_mem _ (List.mem_append_right _ hw)) hown hK hP 0 rfl rfl 0 (by decide) (hts (.fieldLink RX0 9 "PrefixIndex$Buckets" "keys" "[I") (List.mem_of_getElem? (i := 1) rfl)) (fun _ h9 => h9) rfl dX0_endOf_1 ?_
  refine lv_aload_n hx hb dX0_endOf_4 rfl (lv_at hl 0 rfl) ?_
  refine va_get (D := (dC, dI)) (ci := 0) (v := .int keyCount) (C := RX0) (T := TX0) (N := 8) hx hb hts (fun _ hw => List.mem_cons_of_mem _ (List.mem_append_right _ hw)) hown hK hP 0 rfl rfl 4 (by decide) (hts (.fieldLink RX0 29 "PrefixIndex$Buckets" "keyCount" "I") (List.mem_of_getElem? (i := 2) rfl)) (fun _ h9 => h9) rfl dX0_endOf_5 ?_
  refine lv_aload_n hx hb dX0_endOf_8 rfl (lv_at hl 0 rfl) ?_
  refine lv_iload_n hx hb dX0_endOf_9 rfl (lv_at hl 1 rfl) ?_
  obtain ⟨u_1, hc_2, h⟩ := obd_e h
  refine Gci (wr := [(h_keys, .inl (cyI, 96, .inl keys))]) (va_runV (As := [.int x0]) (rest := [.int keyCount, .ref h_keys]) ⟨hx, hb, hml, hown, hts⟩ (tX0_markAt l dC dI cyI cyJ cyZ cyO s.heap.size h_th h_marks (.ref h_keys) v_th_bits v_th_size (.int keyCount) v_th_splits v_th_joins markCount marks x0 u_1 hc_2) (cwV 1 hts gX0_endOf_X0_markAt rfl rfl rfl (by decide +kernel) ⟨Nat.le_of_ble_eq_true rfl, Nat.le_of_ble_eq_true rfl⟩) (GpreV hP hD hK hN [0, 2] rfl (by decide) 0 0 rfl rfl rfl) rfl rfl hl.1 rfl (lv_room (Nat.le_of_ble_eq_true rfl)) dX0_endOf_10 ⟨Nat.zero_le _, Nat.zero_le _⟩) hP hD hS hA [0, 2] [1] rfl rfl (by decide) (by decide) (fun H locs hP hD hS => ?_)
  have hP : va_P (dC, dI) vwCl [(h_keys, .inl (cyI, 96, .inl keys)), (h_th, .inr (0, [.ref h_keys, .ref h_marks, v_th_bits, v_th_size, .int keyCount, .int markCount, v_th_splits, v_th_joins])), (h_marks, .inl (cyI, 48, .inl marks))] H := hP
  have hD : va_D A [(h_keys, .inl (cyI, 96, .inl keys)), (h_th, .inr (0, [.ref h_keys, .ref h_marks, v_th_bits, v_th_size, .int keyCount, .int markCount, v_th_splits, v_th_joins])), (h_marks, .inl (cyI, 48, .inl marks))] := hD
  refine lv_iconst (v := 1) hx hb dX0_endOf_13 (by decide) ?_
  refine lv_iadd hx hb dX0_endOf_14 ?_
  obtain ⟨u_3, hc_4, h⟩ := obd_e h
  refine Gci (wr := [(h_th, .inr (0, [.ref h_keys, .ref h_marks, v_th_bits, v_th_size, .int keyCount, .int markCount, v_th_splits, v_th_joins])), (h_marks, .inl (cyI, 48, .inl marks))]) (va_runSN (As := [.ref h_keys, .int keyCount, .int (u_1 + (1 : Int32))]) (rest := []) ⟨hx, hb, hml, hown, hts⟩ (tX6_firstNotBelow l dC dI cyI cyJ cyZ cyO H.size h_keys 96 keys keyCount (u_1 + (1 : Int32)) u_3 hc_4) ⟨va_cnB 3 hts gX0_endOf_X6_firstNotBelow_n49 rfl rfl rfl (hN.m 2 rfl) (hts (.initialized RX6) (List.mem_of_getElem? (i := 11) rfl)) (by decide +kernel) ⟨Nat.le_of_ble_eq_true rfl, Nat.le_of_ble_eq_true rfl⟩, (hts (.static yX6_firstNotBelow) (List.mem_of_getElem? (i := 10) rfl)), trivial⟩ (GpreS hP hD hK hN [0] rfl (by decide)) rfl rfl hl.1 rfl (lv_room (Nat.le_of_ble_eq_true rfl)) dX0_endOf_15 ⟨Nat.zero_le _, Nat.zero_le _⟩) hP hD hS hA [0] [1, 2] rfl rfl (by decide) (by decide) (fun H locs hP hD hS => ?_)
  have hP : va_P (dC, dI) vwCl [(h_th, .inr (0, [.ref h_keys, .ref h_marks, v_th_bits, v_th_size, .int keyCount, .int markCount, v_th_splits, v_th_joins])), (h_marks, .inl (cyI, 48, .inl marks)), (h_keys, .inl (cyI, 96, .inl keys))] H := hP
  have hD : va_D A [(h_th, .inr (0, [.ref h_keys, .ref h_marks, v_th_bits, v_th_size, .int keyCount, .int markCount, v_th_splits, v_th_joins])), (h_marks, .inl (cyI, 48, .inl marks)), (h_keys, .inl (cyI, 96, .inl keys))] := hD
  obtain rfl := Option.some.inj h
  have hP := hP.sub (ws' := [(h_th, .inr (0, [.ref h_keys, .ref h_marks, v_th_bits, v_th_size, .int keyCount, .int markCount, v_th_splits, v_th_joins])), (h_keys, .inl (cyI, 96, .inl keys)), (h_marks, .inl (cyI, 48, .inl marks))]) [0, 2, 1] rfl
  have hD := hD.sub (ws' := [(h_th, .inr (0, [.ref h_keys, .ref h_marks, v_th_bits, v_th_size, .int keyCount, .int markCount, v_th_splits, v_th_joins])), (h_keys, .inl (cyI, 96, .inl keys)), (h_marks, .inl (cyI, 48, .inl marks))]) [0, 2, 1] (by decide) rfl
  exact hret _ _ _ _ dX0_endOf_18 hP hD hS

def fX0_startOf (keyCount : Int32) (markCount : Int32) (keys : (Nat → Int32)) (marks : (Nat → Int32)) (x0 : Int32) : Option (Int32) := obd (fX0_endOf keyCount markCount keys marks (x0 - (1 : Int32))) fun u_1 => some u_1

set_option maxHeartbeats 4000000 in
set_option maxRecDepth 100000 in
theorem tX0_startOf (l : Launch) (dC : Nat → ClassId) (dI : Nat → Nat → Nat) (cyI cyJ cyZ cyO : ClassId) (sz : Nat) (h_th h_keys h_marks : Nat) (v_th_bits : Value) (v_th_size : Value) (v_th_splits : Value) (v_th_joins : Value) (keyCount : Int32) (markCount : Int32) (keys : (Nat → Int32)) (marks : (Nat → Int32)) (x0 : Int32) (u : Int32) (hf : fX0_startOf keyCount markCount keys marks x0 = some u) : Met l yX0_startOf wsX0_startOf ({ frames := 2, cells := 0, slots := 0, locals := 47 }) (va_Pc [.ref h_th, .int x0] (GP (dC, dI) (T4 cyI cyJ cyZ cyO) sz [(h_th, .inr (0, [.ref h_keys, .ref h_marks, v_th_bits, v_th_size, .int keyCount, .int markCount, v_th_splits, v_th_joins])), (h_keys, .inl (cyI, 96, .inl keys)), (h_marks, .inl (cyI, 48, .inl marks))])) (va_Qi (fun (r : Int32) (_ : Unit) => r = u) (GB (dC, dI) [(h_th, .inr (0, [.ref h_keys, .ref h_marks, v_th_bits, v_th_size, .int keyCount, .int markCount, v_th_splits, v_th_joins])), (h_keys, .inl (cyI, 96, .inl keys)), (h_marks, .inl (cyI, 48, .inl marks))] (va_A [(h_th, .inr (0, [.ref h_keys, .ref h_marks, v_th_bits, v_th_size, .int keyCount, .int markCount, v_th_splits, v_th_joins])), (h_keys, .inl (cyI, 96, .inl keys)), (h_marks, .inl (cyI, 48, .inl marks))] sz)) (va_A [(h_th, .inr (0, [.ref h_keys, .ref h_marks, v_th_bits, v_th_size, .int keyCount, .int markCount, v_th_splits, v_th_joins])), (h_keys, .inl (cyI, 96, .inl keys)), (h_marks, .inl (cyI, 48, .inl marks))] sz)) 0 0 (va_A [(h_th, .inr (0, [.ref h_keys, .ref h_marks, v_th_bits, v_th_size, .int keyCount, .int markCount, v_th_splits, v_th_joins])), (h_keys, .inl (cyI, 96, .inl keys)), (h_marks, .inl (cyI, 48, .inl marks))] sz) := by
  refine GMetI (by decide) rfl (Nat.le_of_ble_eq_true rfl) ?_
  intro p e s m args below meth c A Q ls hx hb hml hts hown hN hK hA hret hP hD hS hl
  have h := hf
  clear hf
  unfold fX0_startOf at h
  have hown : s.vm.findClass RX0 = some m.cls := hown
  have hl : lv_has ls 2 [(0, .ref h_th), (1, .int x0)] := hl
  refine lv_aload_n hx hb dX0_startOf_0 rfl (lv_at hl 0 rfl) ?_
  refine lv_iload_n hx hb dX0_startOf_1 rfl (lv_at hl 1 rfl) ?_
  refine lv_iconst (v := 1) hx hb dX0_startOf_2 (by decide) ?_
  refine lv_isub hx hb dX0_startOf_3 ?_
  obtain ⟨u_1, hc_2, h⟩ := obd_e h
  refine Gci (wr := []) (va_runV (As := [.int (x0 - (1 : Int32))]) (rest := []) ⟨hx, hb, hml, hown, hts⟩ (tX0_endOf l dC dI cyI cyJ cyZ cyO s.heap.size h_th h_keys h_marks v_th_bits v_th_size v_th_splits v_th_joins keyCount markCount keys marks (x0 - (1 : Int32)) u_1 hc_2) (cwV 1 hts gX0_startOf_X0_endOf rfl rfl rfl (by decide +kernel) ⟨Nat.le_of_ble_eq_true rfl, Nat.le_of_ble_eq_true rfl⟩) (GpreV hP hD hK hN [0, 1, 2] rfl (by decide) 0 0 rfl rfl rfl) rfl rfl hl.1 rfl (lv_room (Nat.le_of_ble_eq_true rfl)) dX0_startOf_4 ⟨Nat.zero_le _, Nat.zero_le _⟩) hP hD hS hA [0, 1, 2] [] rfl rfl (by decide) (by decide) (fun H locs hP hD hS => ?_)
  have hP : va_P (dC, dI) vwCl [(h_th, .inr (0, [.ref h_keys, .ref h_marks, v_th_bits, v_th_size, .int keyCount, .int markCount, v_th_splits, v_th_joins])), (h_keys, .inl (cyI, 96, .inl keys)), (h_marks, .inl (cyI, 48, .inl marks))] H := hP
  have hD : va_D A [(h_th, .inr (0, [.ref h_keys, .ref h_marks, v_th_bits, v_th_size, .int keyCount, .int markCount, v_th_splits, v_th_joins])), (h_keys, .inl (cyI, 96, .inl keys)), (h_marks, .inl (cyI, 48, .inl marks))] := hD
  obtain rfl := Option.some.inj h
  exact hret _ _ _ _ dX0_startOf_7 hP hD hS

def fX0_keysIn (keyCount : Int32) (markCount : Int32) (keys : (Nat → Int32)) (marks : (Nat → Int32)) (x0 : Int32) : Option (Int32) := obd (fX0_endOf keyCount markCount keys marks x0) fun u_1 => obd (fX0_endOf keyCount markCount keys marks (x0 - (1 : Int32))) fun u_3 => some (u_1 - u_3)

set_option maxHeartbeats 4000000 in
set_option maxRecDepth 100000 in
theorem tX0_keysIn (l : Launch) (dC : Nat → ClassId) (dI : Nat → Nat → Nat) (cyI cyJ cyZ cyO : ClassId) (sz : Nat) (h_th h_keys h_marks : Nat) (v_th_bits : Value) (v_th_size : Value) (v_th_splits : Value) (v_th_joins : Value) (keyCount : Int32) (markCount : Int32) (keys : (Nat → Int32)) (marks : (Nat → Int32)) (x0 : Int32) (u : Int32) (hf : fX0_keysIn keyCount markCount keys marks x0 = some u) : Met l yX0_keysIn wsX0_keysIn ({ frames := 2, cells := 0, slots := 0, locals := 47 }) (va_Pc [.ref h_th, .int x0] (GP (dC, dI) (T4 cyI cyJ cyZ cyO) sz [(h_th, .inr (0, [.ref h_keys, .ref h_marks, v_th_bits, v_th_size, .int keyCount, .int markCount, v_th_splits, v_th_joins])), (h_keys, .inl (cyI, 96, .inl keys)), (h_marks, .inl (cyI, 48, .inl marks))])) (va_Qi (fun (r : Int32) (_ : Unit) => r = u) (GB (dC, dI) [(h_th, .inr (0, [.ref h_keys, .ref h_marks, v_th_bits, v_th_size, .int keyCount, .int markCount, v_th_splits, v_th_joins])), (h_keys, .inl (cyI, 96, .inl keys)), (h_marks, .inl (cyI, 48, .inl marks))] (va_A [(h_th, .inr (0, [.ref h_keys, .ref h_marks, v_th_bits, v_th_size, .int keyCount, .int markCount, v_th_splits, v_th_joins])), (h_keys, .inl (cyI, 96, .inl keys)), (h_marks, .inl (cyI, 48, .inl marks))] sz)) (va_A [(h_th, .inr (0, [.ref h_keys, .ref h_marks, v_th_bits, v_th_size, .int keyCount, .int markCount, v_th_splits, v_th_joins])), (h_keys, .inl (cyI, 96, .inl keys)), (h_marks, .inl (cyI, 48, .inl marks))] sz)) 0 0 (va_A [(h_th, .inr (0, [.ref h_keys, .ref h_marks, v_th_bits, v_th_size, .int keyCount, .int markCount, v_th_splits, v_th_joins])), (h_keys, .inl (cyI, 96, .inl keys)), (h_marks, .inl (cyI, 48, .inl marks))] sz) := by
  refine GMetI (by decide) rfl (Nat.le_of_ble_eq_true rfl) ?_
  intro p e s m args below meth c A Q ls hx hb hml hts hown hN hK hA hret hP hD hS hl
  have h := hf
  clear hf
  unfold fX0_keysIn at h
  have hown : s.vm.findClass RX0 = some m.cls := hown
  have hl : lv_has ls 2 [(0, .ref h_th), (1, .int x0)] := hl
  refine lv_aload_n hx hb dX0_keysIn_0 rfl (lv_at hl 0 rfl) ?_
  refine lv_iload_n hx hb dX0_keysIn_1 rfl (lv_at hl 1 rfl) ?_
  obtain ⟨u_1, hc_2, h⟩ := obd_e h
  refine Gci (wr := []) (va_runV (As := [.int x0]) (rest := []) ⟨hx, hb, hml, hown, hts⟩ (tX0_endOf l dC dI cyI cyJ cyZ cyO s.heap.size h_th h_keys h_marks v_th_bits v_th_size v_th_splits v_th_joins keyCount markCount keys marks x0 u_1 hc_2) (cwV 1 hts gX0_keysIn_X0_endOf rfl rfl rfl (by decide +kernel) ⟨Nat.le_of_ble_eq_true rfl, Nat.le_of_ble_eq_true rfl⟩) (GpreV hP hD hK hN [0, 1, 2] rfl (by decide) 0 0 rfl rfl rfl) rfl rfl hl.1 rfl (lv_room (Nat.le_of_ble_eq_true rfl)) dX0_keysIn_2 ⟨Nat.zero_le _, Nat.zero_le _⟩) hP hD hS hA [0, 1, 2] [] rfl rfl (by decide) (by decide) (fun H locs hP hD hS => ?_)
  have hP : va_P (dC, dI) vwCl [(h_th, .inr (0, [.ref h_keys, .ref h_marks, v_th_bits, v_th_size, .int keyCount, .int markCount, v_th_splits, v_th_joins])), (h_keys, .inl (cyI, 96, .inl keys)), (h_marks, .inl (cyI, 48, .inl marks))] H := hP
  have hD : va_D A [(h_th, .inr (0, [.ref h_keys, .ref h_marks, v_th_bits, v_th_size, .int keyCount, .int markCount, v_th_splits, v_th_joins])), (h_keys, .inl (cyI, 96, .inl keys)), (h_marks, .inl (cyI, 48, .inl marks))] := hD
  refine lv_aload_n hx hb dX0_keysIn_5 rfl (lv_at hl 0 rfl) ?_
  refine lv_iload_n hx hb dX0_keysIn_6 rfl (lv_at hl 1 rfl) ?_
  refine lv_iconst (v := 1) hx hb dX0_keysIn_7 (by decide) ?_
  refine lv_isub hx hb dX0_keysIn_8 ?_
  obtain ⟨u_3, hc_4, h⟩ := obd_e h
  refine Gci (wr := []) (va_runV (As := [.int (x0 - (1 : Int32))]) (rest := [.int u_1]) ⟨hx, hb, hml, hown, hts⟩ (tX0_endOf l dC dI cyI cyJ cyZ cyO H.size h_th h_keys h_marks v_th_bits v_th_size v_th_splits v_th_joins keyCount markCount keys marks (x0 - (1 : Int32)) u_3 hc_4) (cwV 1 hts gX0_keysIn_X0_endOf rfl rfl rfl (by decide +kernel) ⟨Nat.le_of_ble_eq_true rfl, Nat.le_of_ble_eq_true rfl⟩) (GpreV hP hD hK hN [0, 1, 2] rfl (by decide) 0 0 rfl rfl rfl) rfl rfl hl.1 rfl (lv_room (Nat.le_of_ble_eq_true rfl)) dX0_keysIn_9 ⟨Nat.zero_le _, Nat.zero_le _⟩) hP hD hS hA [0, 1, 2] [] rfl rfl (by decide) (by decide) (fun H locs hP hD hS => ?_)
  have hP : va_P (dC, dI) vwCl [(h_th, .inr (0, [.ref h_keys, .ref h_marks, v_th_bits, v_th_size, .int keyCount, .int markCount, v_th_splits, v_th_joins])), (h_keys, .inl (cyI, 96, .inl keys)), (h_marks, .inl (cyI, 48, .inl marks))] H := hP
  have hD : va_D A [(h_th, .inr (0, [.ref h_keys, .ref h_marks, v_th_bits, v_th_size, .int keyCount, .int markCount, v_th_splits, v_th_joins])), (h_keys, .inl (cyI, 96, .inl keys)), (h_marks, .inl (cyI, 48, .inl marks))] := hD
  refine lv_isub hx hb dX0_keysIn_12 ?_
  obtain rfl := Option.some.inj h
  exact hret _ _ _ _ dX0_keysIn_13 hP hD hS

def fX0_halve (keyCount : Int32) (markCount : Int32) (splits : Int32) (keys : (Nat → Int32)) (marks : (Nat → Int32)) (x0 : Int32) : Option (Int32 × Int32 × (Nat → Int32)) := obd (fX0_endOf keyCount markCount keys marks (x0 - (1 : Int32))) fun u_1 => obd (fX0_endOf keyCount markCount keys marks x0) fun u_3 => obd (fX0_keyAt keyCount keys ((u_1 + ((u_3 - u_1) / (2 : Int32))) - (1 : Int32))) fun u_6 => obd (fX6_insertAt 48 marks markCount x0 u_6) fun u_8 => olet (if u_8.1 = 0 then (markCount) else ((markCount + (1 : Int32)))) fun y_11 => olet (if u_8.1 = 0 then (splits) else ((splits + (1 : Int32)))) fun y_12 => some (y_11, y_12, u_8.2)

set_option maxHeartbeats 4000000 in
set_option maxRecDepth 100000 in
theorem tX0_halve (l : Launch) (dC : Nat → ClassId) (dI : Nat → Nat → Nat) (cyI cyJ cyZ cyO : ClassId) (sz : Nat) (h_th h_keys h_marks : Nat) (v_th_bits : Value) (v_th_size : Value) (v_th_joins : Value) (keyCount : Int32) (markCount : Int32) (splits : Int32) (keys : (Nat → Int32)) (marks : (Nat → Int32)) (x0 : Int32) (u : Int32 × Int32 × (Nat → Int32)) (hf : fX0_halve keyCount markCount splits keys marks x0 = some u) : Met l yX0_halve wsX0_halve ({ frames := 2, cells := 0, slots := 0, locals := 47 }) (va_Pc [.ref h_th, .int x0] (GP (dC, dI) (T4 cyI cyJ cyZ cyO) sz [(h_th, .inr (0, [.ref h_keys, .ref h_marks, v_th_bits, v_th_size, .int keyCount, .int markCount, .int splits, v_th_joins])), (h_keys, .inl (cyI, 96, .inl keys)), (h_marks, .inl (cyI, 48, .inl marks))])) (va_Qv (fun (_ : Unit) => True) (GB (dC, dI) [(h_th, .inr (0, [.ref h_keys, .ref h_marks, v_th_bits, v_th_size, .int keyCount, .int u.1, .int u.2.1, v_th_joins])), (h_keys, .inl (cyI, 96, .inl keys)), (h_marks, .inl (cyI, 48, .inl u.2.2))] (va_A [(h_th, .inr (0, [.ref h_keys, .ref h_marks, v_th_bits, v_th_size, .int keyCount, .int markCount, .int splits, v_th_joins])), (h_keys, .inl (cyI, 96, .inl keys)), (h_marks, .inl (cyI, 48, .inl marks))] sz)) (va_A [(h_th, .inr (0, [.ref h_keys, .ref h_marks, v_th_bits, v_th_size, .int keyCount, .int markCount, .int splits, v_th_joins])), (h_keys, .inl (cyI, 96, .inl keys)), (h_marks, .inl (cyI, 48, .inl marks))] sz)) 0 0 (va_A [(h_th, .inr (0, [.ref h_keys, .ref h_marks, v_th_bits, v_th_size, .int keyCount, .int markCount, .int splits, v_th_joins])), (h_keys, .inl (cyI, 96, .inl keys)), (h_marks, .inl (cyI, 48, .inl marks))] sz) := by
  refine GMetV (by decide) rfl (Nat.le_of_ble_eq_true rfl) ?_
  intro p e s m args below meth c A Q ls hx hb hml hts hown hN hK hA hret hP hD hS hl
  have h := hf
  clear hf
  unfold fX0_halve at h
  have hown : s.vm.findClass RX0 = some m.cls := hown
  have hl : lv_has ls 5 [(0, .ref h_th), (1, .int x0)] := hl
  refine lv_aload_n hx hb dX0_halve_0 rfl (lv_at hl 0 rfl) ?_
  refine lv_iload_n hx hb dX0_halve_1 rfl (lv_at hl 1 rfl) ?_
  refine lv_iconst (v := 1) hx hb dX0_halve_2 (by decide) ?_
  refine lv_isub hx hb dX0_halve_3 ?_
  obtain ⟨u_1, hc_2, h⟩ := obd_e h
  refine Gci (wr := []) (va_runV (As := [.int (x0 - (1 : Int32))]) (rest := []) ⟨hx, hb, hml, hown, hts⟩ (tX0_endOf l dC dI cyI cyJ cyZ cyO s.heap.size h_th h_keys h_marks v_th_bits v_th_size (.int splits) v_th_joins keyCount markCount keys marks (x0 - (1 : Int32)) u_1 hc_2) (cwV 1 hts gX0_halve_X0_endOf rfl rfl rfl (by decide +kernel) ⟨Nat.le_of_ble_eq_true rfl, Nat.le_of_ble_eq_true rfl⟩) (GpreV hP hD hK hN [0, 1, 2] rfl (by decide) 0 0 rfl rfl rfl) rfl rfl hl.1 rfl (lv_room (Nat.le_of_ble_eq_true rfl)) dX0_halve_4 ⟨Nat.zero_le _, Nat.zero_le _⟩) hP hD hS hA [0, 1, 2] [] rfl rfl (by decide) (by decide) (fun H locs hP hD hS => ?_)
  have hP : va_P (dC, dI) vwCl [(h_th, .inr (0, [.ref h_keys, .ref h_marks, v_th_bits, v_th_size, .int keyCount, .int markCount, .int splits, v_th_joins])), (h_keys, .inl (cyI, 96, .inl keys)), (h_marks, .inl (cyI, 48, .inl marks))] H := hP
  have hD : va_D A [(h_th, .inr (0, [.ref h_keys, .ref h_marks, v_th_bits, v_th_size, .int keyCount, .int markCount, .int splits, v_th_joins])), (h_keys, .inl (cyI, 96, .inl keys)), (h_marks, .inl (cyI, 48, .inl marks))] := hD
  refine lv_istore_n (lv' := [(2, .int u_1), (0, .ref h_th), (1, .int x0)]) hx hb dX0_halve_7 rfl hl (by decide) rfl (fun ls hl => ?_)
  refine lv_aload_n hx hb dX0_halve_8 rfl (lv_at hl 1 rfl) ?_
  refine lv_iload_n hx hb dX0_halve_9 rfl (lv_at hl 2 rfl) ?_
  obtain ⟨u_3, hc_4, h⟩ := obd_e h
  refine Gci (wr := []) (va_runV (As := [.int x0]) (rest := []) ⟨hx, hb, hml, hown, hts⟩ (tX0_endOf l dC dI cyI cyJ cyZ cyO H.size h_th h_keys h_marks v_th_bits v_th_size (.int splits) v_th_joins keyCount markCount keys marks x0 u_3 hc_4) (cwV 1 hts gX0_halve_X0_endOf rfl rfl rfl (by decide +kernel) ⟨Nat.le_of_ble_eq_true rfl, Nat.le_of_ble_eq_true rfl⟩) (GpreV hP hD hK hN [0, 1, 2] rfl (by decide) 0 0 rfl rfl rfl) rfl rfl hl.1 rfl (lv_room (Nat.le_of_ble_eq_true rfl)) dX0_halve_10 ⟨Nat.zero_le _, Nat.zero_le _⟩) hP hD hS hA [0, 1, 2] [] rfl rfl (by decide) (by decide) (fun H locs hP hD hS => ?_)
  have hP : va_P (dC, dI) vwCl [(h_th, .inr (0, [.ref h_keys, .ref h_marks, v_th_bits, v_th_size, .int keyCount, .int markCount, .int splits, v_th_joins])), (h_keys, .inl (cyI, 96, .inl keys)), (h_marks, .inl (cyI, 48, .inl marks))] H := hP
  have hD : va_D A [(h_th, .inr (0, [.ref h_keys, .ref h_marks, v_th_bits, v_th_size, .int keyCount, .int markCount, .int splits, v_th_joins])), (h_keys, .inl (cyI, 96, .inl keys)), (h_marks, .inl (cyI, 48, .inl marks))] := hD
  refine lv_iload_n hx hb dX0_halve_13 rfl (lv_at hl 0 rfl) ?_
  refine lv_isub hx hb dX0_halve_14 ?_
  refine lv_iconst (v := 2) hx hb dX0_halve_15 (by decide) ?_
  refine lv_idiv hx hb dX0_halve_16 (by decide) ?_
  refine lv_istore_n (lv' := [(3, .int ((u_3 - u_1) / (2 : Int32))), (2, .int u_1), (0, .ref h_th), (1, .int x0)]) hx hb dX0_halve_17 rfl hl (by decide) rfl (fun ls hl => ?_)
  refine lv_aload_n hx hb dX0_halve_18 rfl (lv_at hl 2 rfl) ?_
  refine lv_iload_n hx hb dX0_halve_19 rfl (lv_at hl 1 rfl) ?_
  refine lv_iload_n hx hb dX0_halve_20 rfl (lv_at hl 0 rfl) ?_
  refine lv_iadd hx hb dX0_halve_21 ?_
  refine lv_iconst (v := 1) hx hb dX0_halve_22 (by decide) ?_
  refine lv_isub hx hb dX0_halve_23 ?_
  obtain ⟨u_6, hc_7, h⟩ := obd_e h
  refine Gci (wr := [(h_marks, .inl (cyI, 48, .inl marks))]) (va_runV (As := [.int ((u_1 + ((u_3 - u_1) / (2 : Int32))) - (1 : Int32))]) (rest := []) ⟨hx, hb, hml, hown, hts⟩ (tX0_keyAt l dC dI cyI cyJ cyZ cyO H.size h_th h_keys (.ref h_marks) v_th_bits v_th_size (.int markCount) (.int splits) v_th_joins keyCount keys ((u_1 + ((u_3 - u_1) / (2 : Int32))) - (1 : Int32)) u_6 hc_7) (cwV 1 hts gX0_halve_X0_keyAt rfl rfl rfl (by decide +kernel) ⟨Nat.le_of_ble_eq_true rfl, Nat.le_of_ble_eq_true rfl⟩) (GpreV hP hD hK hN [0, 1] rfl (by decide) 0 0 rfl rfl rfl) rfl rfl hl.1 rfl (lv_room (Nat.le_of_ble_eq_true rfl)) dX0_halve_24 ⟨Nat.zero_le _, Nat.zero_le _⟩) hP hD hS hA [0, 1] [2] rfl rfl (by decide) (by decide) (fun H locs hP hD hS => ?_)
  have hP : va_P (dC, dI) vwCl [(h_marks, .inl (cyI, 48, .inl marks)), (h_th, .inr (0, [.ref h_keys, .ref h_marks, v_th_bits, v_th_size, .int keyCount, .int markCount, .int splits, v_th_joins])), (h_keys, .inl (cyI, 96, .inl keys))] H := hP
  have hD : va_D A [(h_marks, .inl (cyI, 48, .inl marks)), (h_th, .inr (0, [.ref h_keys, .ref h_marks, v_th_bits, v_th_size, .int keyCount, .int markCount, .int splits, v_th_joins])), (h_keys, .inl (cyI, 96, .inl keys))] := hD
  refine lv_istore (lv' := [(4, .int u_6), (3, .int ((u_3 - u_1) / (2 : Int32))), (2, .int u_1), (0, .ref h_th), (1, .int x0)]) hx hb dX0_halve_27 hl (by decide) rfl (fun ls hl => ?_)
  refine lv_aload_n hx hb dX0_halve_29 rfl (lv_at hl 3 rfl) ?_
  refine va_get (D := (dC, dI)) (ci := 0) (v := .ref h_marks) (C := RX0) (T := TX0) (N := 8) hx hb hts (fun _ hw => List.mem_cons_of_mem _ (List.mem_append_right _ hw)) hown hK hP 1 rfl rfl 1 (by decide) (hts (.fieldLink RX0 15 "PrefixIndex$Buckets" "marks" "[I") (List.mem_of_getElem? (i := 1) rfl)) (fun _ h9 => h9) rfl dX0_halve_30 ?_
  refine lv_aload_n hx hb dX0_halve_33 rfl (lv_at hl 3 rfl) ?_
  refine va_get (D := (dC, dI)) (ci := 0) (v := .int markCount) (C := RX0) (T := TX0) (N := 8) hx hb hts (fun _ hw => List.mem_cons_of_mem _ (List.mem_append_right _ hw)) hown hK hP 1 rfl rfl 5 (by decide) (hts (.fieldLink RX0 32 "PrefixIndex$Buckets" "markCount" "I") (List.mem_of_getElem? (i := 2) rfl)) (fun _ h9 => h9) rfl dX0_halve_34 ?_
  refine lv_iload_n hx hb dX0_halve_37 rfl (lv_at hl 4 rfl) ?_
  refine lv_iload hx hb dX0_halve_38 (lv_at hl 0 rfl) ?_
  obtain ⟨u_8, hc_9, h⟩ := obd_e h
  refine Gci (wr := [(h_th, .inr (0, [.ref h_keys, .ref h_marks, v_th_bits, v_th_size, .int keyCount, .int markCount, .int splits, v_th_joins])), (h_keys, .inl (cyI, 96, .inl keys))]) (va_runSN (As := [.ref h_marks, .int markCount, .int x0, .int u_6]) (rest := []) ⟨hx, hb, hml, hown, hts⟩ (tX6_insertAt l dC dI cyI cyJ cyZ cyO H.size h_marks 48 marks markCount x0 u_6 u_8 hc_9) ⟨va_cnB 4 hts gX0_halve_X6_insertAt_n70 rfl rfl rfl (hN.m 3 rfl) (hts (.initialized RX6) (List.mem_of_getElem? (i := 16) rfl)) (by decide +kernel) ⟨Nat.le_of_ble_eq_true rfl, Nat.le_of_ble_eq_true rfl⟩, (hts (.static yX6_insertAt) (List.mem_of_getElem? (i := 22) rfl)), trivial⟩ (GpreS hP hD hK hN [0] rfl (by decide)) rfl rfl hl.1 rfl (lv_room (Nat.le_of_ble_eq_true rfl)) dX0_halve_40 ⟨Nat.zero_le _, Nat.zero_le _⟩) hP hD hS hA [0] [1, 2] rfl rfl (by decide) (by decide) (fun H locs hP hD hS => ?_)
  have hP : va_P (dC, dI) vwCl [(h_th, .inr (0, [.ref h_keys, .ref h_marks, v_th_bits, v_th_size, .int keyCount, .int markCount, .int splits, v_th_joins])), (h_keys, .inl (cyI, 96, .inl keys)), (h_marks, .inl (cyI, 48, .inl u_8.2))] H := hP
  have hD : va_D A [(h_th, .inr (0, [.ref h_keys, .ref h_marks, v_th_bits, v_th_size, .int keyCount, .int markCount, .int splits, v_th_joins])), (h_keys, .inl (cyI, 96, .inl keys)), (h_marks, .inl (cyI, 48, .inl u_8.2))] := hD
  obtain ⟨y_11, ey_11, h⟩ := olet_e h
  obtain ⟨y_12, ey_12, h⟩ := olet_e h
  have J : ∀ (H : Heap) (locs : List Loc) (ls : Array Slot), va_P (dC, dI) vwCl [(h_th, .inr (0, [.ref h_keys, .ref h_marks, v_th_bits, v_th_size, .int keyCount, .int y_11, .int y_12, v_th_joins])), (h_keys, .inl (cyI, 96, .inl keys)), (h_marks, .inl (cyI, 48, .inl u_8.2))] H → va_D A [(h_th, .inr (0, [.ref h_keys, .ref h_marks, v_th_bits, v_th_size, .int keyCount, .int y_11, .int y_12, v_th_joins])), (h_keys, .inl (cyI, 96, .inl keys)), (h_marks, .inl (cyI, 48, .inl u_8.2))] → va_S A s.heap H locs → lv_has ls 5 [] → W p l e ({ frames := 2, cells := 0, slots := 0, locals := 47 }) s m args below meth c H locs 0 0 Q (F0 m 66 ls []) := by
    intro H locs ls hP hD hS hl
    obtain rfl := Option.some.inj h
    exact hret _ _ _ _ dX0_halve_66 hP hD hS
  clear h
  refine lv_if_eq (tgt := 66) hx hb dX0_halve_43 (by decide) (fun c_10 => ?_) (fun c_10 => ?_)
  · rw [if_pos c_10] at ey_11
    rw [if_pos c_10] at ey_12
    subst ey_11
    subst ey_12
    exact J H locs _ hP hD hS (lv_sub hl [] rfl)
  · refine lv_aload_n hx hb dX0_halve_46 rfl (lv_at hl 3 rfl) ?_
    refine lv_dup hx hb dX0_halve_47 rfl ?_
    refine va_get (D := (dC, dI)) (ci := 0) (v := .int markCount) (C := RX0) (T := TX0) (N := 8) hx hb hts (fun _ hw => List.mem_cons_of_mem _ (List.mem_append_right _ hw)) hown hK hP 0 rfl rfl 5 (by decide) (hts (.fieldLink RX0 32 "PrefixIndex$Buckets" "markCount" "I") (List.mem_of_getElem? (i := 2) rfl)) (fun _ h9 => h9) rfl dX0_halve_48 ?_
    refine lv_iconst (v := 1) hx hb dX0_halve_51 (by decide) ?_
    refine lv_iadd hx hb dX0_halve_52 ?_
    refine va_put (D := (dC, dI)) (ci := 0) (v := .int (markCount + (1 : Int32))) (ty := .int) (C := RX0) (T := TX0) (N := 8) hx hb hts (fun _ hw => List.mem_cons_of_mem _ (List.mem_append_right _ hw)) tyX0 tyX0_ok nmX0 hown hK hP hD hS 0 rfl rfl 5 (by decide) (hts (.fieldLink RX0 32 "PrefixIndex$Buckets" "markCount" "I") (List.mem_of_getElem? (i := 2) rfl)) (fun _ h9 => h9) rfl (by decide +kernel) rfl rfl (Nat.le_of_ble_eq_true rfl) dX0_halve_53 (fun H locs hP hD hS => ?_)
    have hP : va_P (dC, dI) vwCl [(h_th, .inr (0, [.ref h_keys, .ref h_marks, v_th_bits, v_th_size, .int keyCount, .int (markCount + (1 : Int32)), .int splits, v_th_joins])), (h_keys, .inl (cyI, 96, .inl keys)), (h_marks, .inl (cyI, 48, .inl u_8.2))] H := hP
    have hD : va_D A [(h_th, .inr (0, [.ref h_keys, .ref h_marks, v_th_bits, v_th_size, .int keyCount, .int (markCount + (1 : Int32)), .int splits, v_th_joins])), (h_keys, .inl (cyI, 96, .inl keys)), (h_marks, .inl (cyI, 48, .inl u_8.2))] := hD
    refine lv_aload_n hx hb dX0_halve_56 rfl (lv_at hl 3 rfl) ?_
    refine lv_dup hx hb dX0_halve_57 rfl ?_
    refine va_get (D := (dC, dI)) (ci := 0) (v := .int splits) (C := RX0) (T := TX0) (N := 8) hx hb hts (fun _ hw => List.mem_cons_of_mem _ (List.mem_append_right _ hw)) hown hK hP 0 rfl rfl 6 (by decide) (hts (.fieldLink RX0 39 "PrefixIndex$Buckets" "splits" "I") (List.mem_of_getElem? (i := 3) rfl)) (fun _ h9 => h9) rfl dX0_halve_58 ?_
    refine lv_iconst (v := 1) hx hb dX0_halve_61 (by decide) ?_
    refine lv_iadd hx hb dX0_halve_62 ?_
    refine va_put (D := (dC, dI)) (ci := 0) (v := .int (splits + (1 : Int32))) (ty := .int) (C := RX0) (T := TX0) (N := 8) hx hb hts (fun _ hw => List.mem_cons_of_mem _ (List.mem_append_right _ hw)) tyX0 tyX0_ok nmX0 hown hK hP hD hS 0 rfl rfl 6 (by decide) (hts (.fieldLink RX0 39 "PrefixIndex$Buckets" "splits" "I") (List.mem_of_getElem? (i := 3) rfl)) (fun _ h9 => h9) rfl (by decide +kernel) rfl rfl (Nat.le_of_ble_eq_true rfl) dX0_halve_63 (fun H locs hP hD hS => ?_)
    have hP : va_P (dC, dI) vwCl [(h_th, .inr (0, [.ref h_keys, .ref h_marks, v_th_bits, v_th_size, .int keyCount, .int (markCount + (1 : Int32)), .int (splits + (1 : Int32)), v_th_joins])), (h_keys, .inl (cyI, 96, .inl keys)), (h_marks, .inl (cyI, 48, .inl u_8.2))] H := hP
    have hD : va_D A [(h_th, .inr (0, [.ref h_keys, .ref h_marks, v_th_bits, v_th_size, .int keyCount, .int (markCount + (1 : Int32)), .int (splits + (1 : Int32)), v_th_joins])), (h_keys, .inl (cyI, 96, .inl keys)), (h_marks, .inl (cyI, 48, .inl u_8.2))] := hD
    rw [if_neg c_10] at ey_11
    rw [if_neg c_10] at ey_12
    subst ey_11
    subst ey_12
    exact J H locs _ hP hD hS (lv_sub hl [] rfl)

def fX0_putIn (size : Int32) (keyCount : Int32) (markCount : Int32) (splits : Int32) (keys : (Nat → Int32)) (marks : (Nat → Int32)) (x0 : Int32) : Option (Int32 × Int32 × Int32 × (Nat → Int32) × (Nat → Int32)) := obd (fX0_holds keyCount keys x0) fun u_1 => if u_1 = 0 then (obd (fX0_rankOf keyCount keys x0) fun u_4 => obd (fX6_insertAt 96 keys keyCount u_4 x0) fun u_6 => if u_6.1 = 0 then (some (keyCount, markCount, splits, u_6.2, marks)) else (obd (fX0_bucketOf markCount marks x0) fun u_9 => obd (fX0_keysIn (keyCount + (1 : Int32)) markCount u_6.2 marks u_9) fun u_11 => obd (if u_11 ≤ ((4 : Int32) * size) then (some (markCount, splits, marks)) else (obd (fX0_halve (keyCount + (1 : Int32)) markCount splits u_6.2 marks u_9) fun u_15 => some (u_15.1, u_15.2.1, u_15.2.2))) fun w_14 => some ((keyCount + (1 : Int32)), w_14.1, w_14.2.1, u_6.2, w_14.2.2))) else (some (keyCount, markCount, splits, keys, marks))

set_option maxHeartbeats 4000000 in
set_option maxRecDepth 100000 in
theorem tX0_putIn (l : Launch) (dC : Nat → ClassId) (dI : Nat → Nat → Nat) (cyI cyJ cyZ cyO : ClassId) (sz : Nat) (h_th h_keys h_marks : Nat) (v_th_bits : Value) (v_th_joins : Value) (size : Int32) (keyCount : Int32) (markCount : Int32) (splits : Int32) (keys : (Nat → Int32)) (marks : (Nat → Int32)) (x0 : Int32) (u : Int32 × Int32 × Int32 × (Nat → Int32) × (Nat → Int32)) (hf : fX0_putIn size keyCount markCount splits keys marks x0 = some u) : Met l yX0_putIn wsX0_putIn ({ frames := 3, cells := 0, slots := 0, locals := 71 }) (va_Pc [.ref h_th, .int x0] (GP (dC, dI) (T4 cyI cyJ cyZ cyO) sz [(h_th, .inr (0, [.ref h_keys, .ref h_marks, v_th_bits, .int size, .int keyCount, .int markCount, .int splits, v_th_joins])), (h_keys, .inl (cyI, 96, .inl keys)), (h_marks, .inl (cyI, 48, .inl marks))])) (va_Qv (fun (_ : Unit) => True) (GB (dC, dI) [(h_th, .inr (0, [.ref h_keys, .ref h_marks, v_th_bits, .int size, .int u.1, .int u.2.1, .int u.2.2.1, v_th_joins])), (h_keys, .inl (cyI, 96, .inl u.2.2.2.1)), (h_marks, .inl (cyI, 48, .inl u.2.2.2.2))] (va_A [(h_th, .inr (0, [.ref h_keys, .ref h_marks, v_th_bits, .int size, .int keyCount, .int markCount, .int splits, v_th_joins])), (h_keys, .inl (cyI, 96, .inl keys)), (h_marks, .inl (cyI, 48, .inl marks))] sz)) (va_A [(h_th, .inr (0, [.ref h_keys, .ref h_marks, v_th_bits, .int size, .int keyCount, .int markCount, .int splits, v_th_joins])), (h_keys, .inl (cyI, 96, .inl keys)), (h_marks, .inl (cyI, 48, .inl marks))] sz)) 0 0 (va_A [(h_th, .inr (0, [.ref h_keys, .ref h_marks, v_th_bits, .int size, .int keyCount, .int markCount, .int splits, v_th_joins])), (h_keys, .inl (cyI, 96, .inl keys)), (h_marks, .inl (cyI, 48, .inl marks))] sz) := by
  refine GMetV (by decide) rfl (Nat.le_of_ble_eq_true rfl) ?_
  intro p e s m args below meth c A Q ls hx hb hml hts hown hN hK hA hret hP hD hS hl
  have h := hf
  clear hf
  unfold fX0_putIn at h
  have hown : s.vm.findClass RX0 = some m.cls := hown
  have hl : lv_has ls 3 [(0, .ref h_th), (1, .int x0)] := hl
  refine lv_aload_n hx hb dX0_putIn_0 rfl (lv_at hl 0 rfl) ?_
  refine lv_iload_n hx hb dX0_putIn_1 rfl (lv_at hl 1 rfl) ?_
  obtain ⟨u_1, hc_2, h⟩ := obd_e h
  refine Gci (wr := [(h_marks, .inl (cyI, 48, .inl marks))]) (va_runV (As := [.int x0]) (rest := []) ⟨hx, hb, hml, hown, hts⟩ (tX0_holds l dC dI cyI cyJ cyZ cyO s.heap.size h_th h_keys (.ref h_marks) v_th_bits (.int size) (.int markCount) (.int splits) v_th_joins keyCount keys x0 u_1 hc_2) (cwV 1 hts gX0_putIn_X0_holds rfl rfl rfl (by decide +kernel) ⟨Nat.le_of_ble_eq_true rfl, Nat.le_of_ble_eq_true rfl⟩) (GpreV hP hD hK hN [0, 1] rfl (by decide) 0 0 rfl rfl rfl) rfl rfl hl.1 rfl (lv_room (Nat.le_of_ble_eq_true rfl)) dX0_putIn_2 ⟨Nat.zero_le _, Nat.zero_le _⟩) hP hD hS hA [0, 1] [2] rfl rfl (by decide) (by decide) (fun H locs hP hD hS => ?_)
  have hP : va_P (dC, dI) vwCl [(h_marks, .inl (cyI, 48, .inl marks)), (h_th, .inr (0, [.ref h_keys, .ref h_marks, v_th_bits, .int size, .int keyCount, .int markCount, .int splits, v_th_joins])), (h_keys, .inl (cyI, 96, .inl keys))] H := hP
  have hD : va_D A [(h_marks, .inl (cyI, 48, .inl marks)), (h_th, .inr (0, [.ref h_keys, .ref h_marks, v_th_bits, .int size, .int keyCount, .int markCount, .int splits, v_th_joins])), (h_keys, .inl (cyI, 96, .inl keys))] := hD
  refine lv_if_ne (tgt := 28) hx hb dX0_putIn_5 (by decide) (fun c_3 => ?_) (fun c_3 => ?_)
  · have h := og_ite_f c_3 h
    obtain rfl := Option.some.inj h
    have hP := hP.sub (ws' := [(h_th, .inr (0, [.ref h_keys, .ref h_marks, v_th_bits, .int size, .int keyCount, .int markCount, .int splits, v_th_joins])), (h_keys, .inl (cyI, 96, .inl keys)), (h_marks, .inl (cyI, 48, .inl marks))]) [1, 2, 0] rfl
    have hD := hD.sub (ws' := [(h_th, .inr (0, [.ref h_keys, .ref h_marks, v_th_bits, .int size, .int keyCount, .int markCount, .int splits, v_th_joins])), (h_keys, .inl (cyI, 96, .inl keys)), (h_marks, .inl (cyI, 48, .inl marks))]) [1, 2, 0] (by decide) rfl
    exact hret _ _ _ _ dX0_putIn_28 hP hD hS
  · have h := og_ite_t c_3 h
    refine lv_aload_n hx hb dX0_putIn_8 rfl (lv_at hl 0 rfl) ?_
    refine va_get (D := (dC, dI)) (ci := 0) (v := .ref h_keys) (C := RX0) (T := TX0) (N := 8) hx hb hts (fun _ hw => List.mem_cons_of_mem _ (List.mem_append_right _ hw)) hown hK hP 1 rfl rfl 0 (by decide) (hts (.fieldLink RX0 9 "PrefixIndex$Buckets" "keys" "[I") (List.mem_of_getElem? (i := 1) rfl)) (fun _ h9 => h9) rfl dX0_putIn_9 ?_
    refine lv_aload_n hx hb dX0_putIn_12 rfl (lv_at hl 0 rfl) ?_
    refine va_get (D := (dC, dI)) (ci := 0) (v := .int keyCount) (C := RX0) (T := TX0) (N := 8) hx hb hts (fun _ hw => List.mem_cons_of_mem _ (List.mem_append_right _ hw)) hown hK hP 1 rfl rfl 4 (by decide) (hts (.fieldLink RX0 29 "PrefixIndex$Buckets" "keyCount" "I") (List.mem_of_getElem? (i := 2) rfl)) (fun _ h9 => h9) rfl dX0_putIn_13 ?_
    refine lv_aload_n hx hb dX0_putIn_16 rfl (lv_at hl 0 rfl) ?_
    refine lv_iload_n hx hb dX0_putIn_17 rfl (lv_at hl 1 rfl) ?_
    obtain ⟨u_4, hc_5, h⟩ := obd_e h
    refine Gci (wr := [(h_marks, .inl (cyI, 48, .inl marks))]) (va_runV (As := [.int x0]) (rest := [.int keyCount, .ref h_keys]) ⟨hx, hb, hml, hown, hts⟩ (tX0_rankOf l dC dI cyI cyJ cyZ cyO H.size h_th h_keys (.ref h_marks) v_th_bits (.int size) (.int markCount) (.int splits) v_th_joins keyCount keys x0 u_4 hc_5) (cwV 1 hts gX0_putIn_X0_rankOf rfl rfl rfl (by decide +kernel) ⟨Nat.le_of_ble_eq_true rfl, Nat.le_of_ble_eq_true rfl⟩) (GpreV hP hD hK hN [1, 2] rfl (by decide) 0 0 rfl rfl rfl) rfl rfl hl.1 rfl (lv_room (Nat.le_of_ble_eq_true rfl)) dX0_putIn_18 ⟨Nat.zero_le _, Nat.zero_le _⟩) hP hD hS hA [1, 2] [0] rfl rfl (by decide) (by decide) (fun H locs hP hD hS => ?_)
    have hP : va_P (dC, dI) vwCl [(h_marks, .inl (cyI, 48, .inl marks)), (h_th, .inr (0, [.ref h_keys, .ref h_marks, v_th_bits, .int size, .int keyCount, .int markCount, .int splits, v_th_joins])), (h_keys, .inl (cyI, 96, .inl keys))] H := hP
    have hD : va_D A [(h_marks, .inl (cyI, 48, .inl marks)), (h_th, .inr (0, [.ref h_keys, .ref h_marks, v_th_bits, .int size, .int keyCount, .int markCount, .int splits, v_th_joins])), (h_keys, .inl (cyI, 96, .inl keys))] := hD
    refine lv_iload_n hx hb dX0_putIn_21 rfl (lv_at hl 1 rfl) ?_
    obtain ⟨u_6, hc_7, h⟩ := obd_e h
    refine Gci (wr := [(h_marks, .inl (cyI, 48, .inl marks)), (h_th, .inr (0, [.ref h_keys, .ref h_marks, v_th_bits, .int size, .int keyCount, .int markCount, .int splits, v_th_joins]))]) (va_runSN (As := [.ref h_keys, .int keyCount, .int u_4, .int x0]) (rest := []) ⟨hx, hb, hml, hown, hts⟩ (tX6_insertAt l dC dI cyI cyJ cyZ cyO H.size h_keys 96 keys keyCount u_4 x0 u_6 hc_7) ⟨va_cnB 4 hts gX0_putIn_X6_insertAt_n70 rfl rfl rfl (hN.m 3 rfl) (hts (.initialized RX6) (List.mem_of_getElem? (i := 14) rfl)) (by decide +kernel) ⟨Nat.le_of_ble_eq_true rfl, Nat.le_of_ble_eq_true rfl⟩, (hts (.static yX6_insertAt) (List.mem_of_getElem? (i := 20) rfl)), trivial⟩ (GpreS hP hD hK hN [2] rfl (by decide)) rfl rfl hl.1 rfl (lv_room (Nat.le_of_ble_eq_true rfl)) dX0_putIn_22 ⟨Nat.zero_le _, Nat.zero_le _⟩) hP hD hS hA [2] [0, 1] rfl rfl (by decide) (by decide) (fun H locs hP hD hS => ?_)
    have hP : va_P (dC, dI) vwCl [(h_marks, .inl (cyI, 48, .inl marks)), (h_th, .inr (0, [.ref h_keys, .ref h_marks, v_th_bits, .int size, .int keyCount, .int markCount, .int splits, v_th_joins])), (h_keys, .inl (cyI, 96, .inl u_6.2))] H := hP
    have hD : va_D A [(h_marks, .inl (cyI, 48, .inl marks)), (h_th, .inr (0, [.ref h_keys, .ref h_marks, v_th_bits, .int size, .int keyCount, .int markCount, .int splits, v_th_joins])), (h_keys, .inl (cyI, 96, .inl u_6.2))] := hD
    refine lv_if_ne (tgt := 29) hx hb dX0_putIn_25 (by decide) (fun c_8 => ?_) (fun c_8 => ?_)
    · have h := og_ite_f c_8 h
      refine lv_aload_n hx hb dX0_putIn_29 rfl (lv_at hl 0 rfl) ?_
      refine lv_dup hx hb dX0_putIn_30 rfl ?_
      refine va_get (D := (dC, dI)) (ci := 0) (v := .int keyCount) (C := RX0) (T := TX0) (N := 8) hx hb hts (fun _ hw => List.mem_cons_of_mem _ (List.mem_append_right _ hw)) hown hK hP 1 rfl rfl 4 (by decide) (hts (.fieldLink RX0 29 "PrefixIndex$Buckets" "keyCount" "I") (List.mem_of_getElem? (i := 2) rfl)) (fun _ h9 => h9) rfl dX0_putIn_31 ?_
      refine lv_iconst (v := 1) hx hb dX0_putIn_34 (by decide) ?_
      refine lv_iadd hx hb dX0_putIn_35 ?_
      refine va_put (D := (dC, dI)) (ci := 0) (v := .int (keyCount + (1 : Int32))) (ty := .int) (C := RX0) (T := TX0) (N := 8) hx hb hts (fun _ hw => List.mem_cons_of_mem _ (List.mem_append_right _ hw)) tyX0 tyX0_ok nmX0 hown hK hP hD hS 1 rfl rfl 4 (by decide) (hts (.fieldLink RX0 29 "PrefixIndex$Buckets" "keyCount" "I") (List.mem_of_getElem? (i := 2) rfl)) (fun _ h9 => h9) rfl (by decide +kernel) rfl rfl (Nat.le_of_ble_eq_true rfl) dX0_putIn_36 (fun H locs hP hD hS => ?_)
      have hP : va_P (dC, dI) vwCl [(h_marks, .inl (cyI, 48, .inl marks)), (h_th, .inr (0, [.ref h_keys, .ref h_marks, v_th_bits, .int size, .int (keyCount + (1 : Int32)), .int markCount, .int splits, v_th_joins])), (h_keys, .inl (cyI, 96, .inl u_6.2))] H := hP
      have hD : va_D A [(h_marks, .inl (cyI, 48, .inl marks)), (h_th, .inr (0, [.ref h_keys, .ref h_marks, v_th_bits, .int size, .int (keyCount + (1 : Int32)), .int markCount, .int splits, v_th_joins])), (h_keys, .inl (cyI, 96, .inl u_6.2))] := hD
      refine lv_aload_n hx hb dX0_putIn_39 rfl (lv_at hl 0 rfl) ?_
      refine lv_iload_n hx hb dX0_putIn_40 rfl (lv_at hl 1 rfl) ?_
      obtain ⟨u_9, hc_10, h⟩ := obd_e h
      refine Gci (wr := [(h_keys, .inl (cyI, 96, .inl u_6.2))]) (va_runV (As := [.int x0]) (rest := []) ⟨hx, hb, hml, hown, hts⟩ (tX0_bucketOf l dC dI cyI cyJ cyZ cyO H.size h_th h_marks (.ref h_keys) v_th_bits (.int size) (.int (keyCount + (1 : Int32))) (.int splits) v_th_joins markCount marks x0 u_9 hc_10) (cwV 1 hts gX0_putIn_X0_bucketOf rfl rfl rfl (by decide +kernel) ⟨Nat.le_of_ble_eq_true rfl, Nat.le_of_ble_eq_true rfl⟩) (GpreV hP hD hK hN [1, 0] rfl (by decide) 0 0 rfl rfl rfl) rfl rfl hl.1 rfl (lv_room (Nat.le_of_ble_eq_true rfl)) dX0_putIn_41 ⟨Nat.zero_le _, Nat.zero_le _⟩) hP hD hS hA [1, 0] [2] rfl rfl (by decide) (by decide) (fun H locs hP hD hS => ?_)
      have hP : va_P (dC, dI) vwCl [(h_keys, .inl (cyI, 96, .inl u_6.2)), (h_th, .inr (0, [.ref h_keys, .ref h_marks, v_th_bits, .int size, .int (keyCount + (1 : Int32)), .int markCount, .int splits, v_th_joins])), (h_marks, .inl (cyI, 48, .inl marks))] H := hP
      have hD : va_D A [(h_keys, .inl (cyI, 96, .inl u_6.2)), (h_th, .inr (0, [.ref h_keys, .ref h_marks, v_th_bits, .int size, .int (keyCount + (1 : Int32)), .int markCount, .int splits, v_th_joins])), (h_marks, .inl (cyI, 48, .inl marks))] := hD
      refine lv_istore_n (lv' := [(2, .int u_9), (0, .ref h_th), (1, .int x0)]) hx hb dX0_putIn_44 rfl hl (by decide) rfl (fun ls hl => ?_)
      refine lv_aload_n hx hb dX0_putIn_45 rfl (lv_at hl 1 rfl) ?_
      refine lv_iload_n hx hb dX0_putIn_46 rfl (lv_at hl 0 rfl) ?_
      obtain ⟨u_11, hc_12, h⟩ := obd_e h
      refine Gci (wr := []) (va_runV (As := [.int u_9]) (rest := []) ⟨hx, hb, hml, hown, hts⟩ (tX0_keysIn l dC dI cyI cyJ cyZ cyO H.size h_th h_keys h_marks v_th_bits (.int size) (.int splits) v_th_joins (keyCount + (1 : Int32)) markCount u_6.2 marks u_9 u_11 hc_12) (cwV 1 hts gX0_putIn_X0_keysIn rfl rfl rfl (by decide +kernel) ⟨Nat.le_of_ble_eq_true rfl, Nat.le_of_ble_eq_true rfl⟩) (GpreV hP hD hK hN [1, 0, 2] rfl (by decide) 0 0 rfl rfl rfl) rfl rfl hl.1 rfl (lv_room (Nat.le_of_ble_eq_true rfl)) dX0_putIn_47 ⟨Nat.zero_le _, Nat.zero_le _⟩) hP hD hS hA [1, 0, 2] [] rfl rfl (by decide) (by decide) (fun H locs hP hD hS => ?_)
      have hP : va_P (dC, dI) vwCl [(h_th, .inr (0, [.ref h_keys, .ref h_marks, v_th_bits, .int size, .int (keyCount + (1 : Int32)), .int markCount, .int splits, v_th_joins])), (h_keys, .inl (cyI, 96, .inl u_6.2)), (h_marks, .inl (cyI, 48, .inl marks))] H := hP
      have hD : va_D A [(h_th, .inr (0, [.ref h_keys, .ref h_marks, v_th_bits, .int size, .int (keyCount + (1 : Int32)), .int markCount, .int splits, v_th_joins])), (h_keys, .inl (cyI, 96, .inl u_6.2)), (h_marks, .inl (cyI, 48, .inl marks))] := hD
      refine lv_iconst (v := 4) hx hb dX0_putIn_50 (by decide) ?_
      refine lv_aload_n hx hb dX0_putIn_51 rfl (lv_at hl 1 rfl) ?_
      refine va_get (D := (dC, dI)) (ci := 0) (v := .int size) (C := RX0) (T := TX0) (N := 8) hx hb hts (fun _ hw => List.mem_cons_of_mem _ (List.mem_append_right _ hw)) hown hK hP 0 rfl rfl 3 (by decide) (hts (.fieldLink RX0 26 "PrefixIndex$Buckets" "size" "I") (List.mem_of_getElem? (i := 3) rfl)) (fun _ h9 => h9) rfl dX0_putIn_52 ?_
      refine lv_imul hx hb dX0_putIn_55 ?_
      obtain ⟨w_14, hm_17, h⟩ := obd_e h
      have J : ∀ (H : Heap) (locs : List Loc) (ls : Array Slot), va_P (dC, dI) vwCl [(h_th, .inr (0, [.ref h_keys, .ref h_marks, v_th_bits, .int size, .int (keyCount + (1 : Int32)), .int w_14.1, .int w_14.2.1, v_th_joins])), (h_keys, .inl (cyI, 96, .inl u_6.2)), (h_marks, .inl (cyI, 48, .inl w_14.2.2))] H → va_D A [(h_th, .inr (0, [.ref h_keys, .ref h_marks, v_th_bits, .int size, .int (keyCount + (1 : Int32)), .int w_14.1, .int w_14.2.1, v_th_joins])), (h_keys, .inl (cyI, 96, .inl u_6.2)), (h_marks, .inl (cyI, 48, .inl w_14.2.2))] → va_S A s.heap H locs → lv_has ls 3 [] → W p l e ({ frames := 3, cells := 0, slots := 0, locals := 71 }) s m args below meth c H locs 0 0 Q (F0 m 64 ls []) := by
        intro H locs ls hP hD hS hl
        obtain rfl := Option.some.inj h
        exact hret _ _ _ _ dX0_putIn_64 hP hD hS
      replace h := hm_17
      refine lv_icmp_le (tgt := 64) hx hb dX0_putIn_56 (by decide) (fun c_13 => ?_) (fun c_13 => ?_)
      · have h := og_ite_t c_13 h
        obtain rfl := Option.some.inj h
        exact J _ _ _ hP hD hS (lv_sub hl [] rfl)
      · have h := og_ite_f c_13 h
        refine lv_aload_n hx hb dX0_putIn_59 rfl (lv_at hl 1 rfl) ?_
        refine lv_iload_n hx hb dX0_putIn_60 rfl (lv_at hl 0 rfl) ?_
        obtain ⟨u_15, hc_16, h⟩ := obd_e h
        refine Gcv (wr := []) (va_runV (As := [.int u_9]) (rest := []) ⟨hx, hb, hml, hown, hts⟩ (tX0_halve l dC dI cyI cyJ cyZ cyO H.size h_th h_keys h_marks v_th_bits (.int size) v_th_joins (keyCount + (1 : Int32)) markCount splits u_6.2 marks u_9 u_15 hc_16) (cwV 1 hts gX0_putIn_X0_halve rfl rfl rfl (by decide +kernel) ⟨Nat.le_of_ble_eq_true rfl, Nat.le_of_ble_eq_true rfl⟩) (GpreV hP hD hK hN [0, 1, 2] rfl (by decide) 0 0 rfl rfl rfl) rfl rfl hl.1 rfl (lv_room (Nat.le_of_ble_eq_true rfl)) dX0_putIn_61 ⟨Nat.zero_le _, Nat.zero_le _⟩) hP hD hS hA [0, 1, 2] [] rfl rfl (by decide) (by decide) (fun H locs hP hD hS => ?_)
        have hP : va_P (dC, dI) vwCl [(h_th, .inr (0, [.ref h_keys, .ref h_marks, v_th_bits, .int size, .int (keyCount + (1 : Int32)), .int u_15.1, .int u_15.2.1, v_th_joins])), (h_keys, .inl (cyI, 96, .inl u_6.2)), (h_marks, .inl (cyI, 48, .inl u_15.2.2))] H := hP
        have hD : va_D A [(h_th, .inr (0, [.ref h_keys, .ref h_marks, v_th_bits, .int size, .int (keyCount + (1 : Int32)), .int u_15.1, .int u_15.2.1, v_th_joins])), (h_keys, .inl (cyI, 96, .inl u_6.2)), (h_marks, .inl (cyI, 48, .inl u_15.2.2))] := hD
        obtain rfl := Option.some.inj h
        exact J _ _ _ hP hD hS (lv_sub hl [] rfl)
    · have h := og_ite_t c_8 h
      obtain rfl := Option.some.inj h
      have hP := hP.sub (ws' := [(h_th, .inr (0, [.ref h_keys, .ref h_marks, v_th_bits, .int size, .int keyCount, .int markCount, .int splits, v_th_joins])), (h_keys, .inl (cyI, 96, .inl u_6.2)), (h_marks, .inl (cyI, 48, .inl marks))]) [1, 2, 0] rfl
      have hD := hD.sub (ws' := [(h_th, .inr (0, [.ref h_keys, .ref h_marks, v_th_bits, .int size, .int keyCount, .int markCount, .int splits, v_th_joins])), (h_keys, .inl (cyI, 96, .inl u_6.2)), (h_marks, .inl (cyI, 48, .inl marks))]) [1, 2, 0] (by decide) rfl
      exact hret _ _ _ _ dX0_putIn_28 hP hD hS

def lpX0_putInAll_3 (q1 : Int32) (q2 : Int32) (q3 : Int32) (bits : Int32) (size : Int32) : Nat → Int32 → Int32 → Int32 → Int32 → (Nat → Int32) → (Nat → Int32) → Option (Int32 × Int32 × Int32 × Int32 × (Nat → Int32) × (Nat → Int32))
  | 0, _, _, _, _, _, _ => none
  | n + 1, m4, zkeyCount, zmarkCount, zsplits, zkeys, zmarks => if q3 ≤ m4 then (some (m4, zkeyCount, zmarkCount, zsplits, zkeys, zmarks)) else (obd (fX0_inBounds bits (q1 + (m4 * q2))) fun u_3 => obd (if u_3 = 0 then (some (zkeyCount, zmarkCount, zsplits, zkeys, zmarks)) else (obd (fX0_putIn size zkeyCount zmarkCount zsplits zkeys zmarks (q1 + (m4 * q2))) fun u_7 => some (u_7.1, u_7.2.1, u_7.2.2.1, u_7.2.2.2.1, u_7.2.2.2.2))) fun w_6 => lpX0_putInAll_3 q1 q2 q3 bits size n (m4 + (1 : Int32)) w_6.1 w_6.2.1 w_6.2.2.1 w_6.2.2.2.1 w_6.2.2.2.2)

def fX0_putInAll (bits : Int32) (size : Int32) (keyCount : Int32) (markCount : Int32) (splits : Int32) (keys : (Nat → Int32)) (marks : (Nat → Int32)) (x0 : Int32) (x1 : Int32) (x2 : Int32) : Option (Int32 × Int32 × Int32 × (Nat → Int32) × (Nat → Int32)) := obd (lpX0_putInAll_3 x0 x1 x2 bits size 100000 (0 : Int32) keyCount markCount splits keys marks) fun w_18 => some (w_18.2.1, w_18.2.2.1, w_18.2.2.2.1, w_18.2.2.2.2.1, w_18.2.2.2.2.2)

set_option maxHeartbeats 4000000 in
set_option maxRecDepth 100000 in
theorem tX0_putInAll (l : Launch) (dC : Nat → ClassId) (dI : Nat → Nat → Nat) (cyI cyJ cyZ cyO : ClassId) (sz : Nat) (h_th h_keys h_marks : Nat) (v_th_joins : Value) (bits : Int32) (size : Int32) (keyCount : Int32) (markCount : Int32) (splits : Int32) (keys : (Nat → Int32)) (marks : (Nat → Int32)) (x0 : Int32) (x1 : Int32) (x2 : Int32) (u : Int32 × Int32 × Int32 × (Nat → Int32) × (Nat → Int32)) (hf : fX0_putInAll bits size keyCount markCount splits keys marks x0 x1 x2 = some u) : Met l yX0_putInAll wsX0_putInAll ({ frames := 4, cells := 0, slots := 0, locals := 93 }) (va_Pc [.ref h_th, .int x0, .int x1, .int x2] (GP (dC, dI) (T4 cyI cyJ cyZ cyO) sz [(h_th, .inr (0, [.ref h_keys, .ref h_marks, .int bits, .int size, .int keyCount, .int markCount, .int splits, v_th_joins])), (h_keys, .inl (cyI, 96, .inl keys)), (h_marks, .inl (cyI, 48, .inl marks))])) (va_Qv (fun (_ : Unit) => True) (GB (dC, dI) [(h_th, .inr (0, [.ref h_keys, .ref h_marks, .int bits, .int size, .int u.1, .int u.2.1, .int u.2.2.1, v_th_joins])), (h_keys, .inl (cyI, 96, .inl u.2.2.2.1)), (h_marks, .inl (cyI, 48, .inl u.2.2.2.2))] (va_A [(h_th, .inr (0, [.ref h_keys, .ref h_marks, .int bits, .int size, .int keyCount, .int markCount, .int splits, v_th_joins])), (h_keys, .inl (cyI, 96, .inl keys)), (h_marks, .inl (cyI, 48, .inl marks))] sz)) (va_A [(h_th, .inr (0, [.ref h_keys, .ref h_marks, .int bits, .int size, .int keyCount, .int markCount, .int splits, v_th_joins])), (h_keys, .inl (cyI, 96, .inl keys)), (h_marks, .inl (cyI, 48, .inl marks))] sz)) 0 0 (va_A [(h_th, .inr (0, [.ref h_keys, .ref h_marks, .int bits, .int size, .int keyCount, .int markCount, .int splits, v_th_joins])), (h_keys, .inl (cyI, 96, .inl keys)), (h_marks, .inl (cyI, 48, .inl marks))] sz) := by
  refine GMetV (by decide) rfl (Nat.le_of_ble_eq_true rfl) ?_
  intro p e s m args below meth c A Q ls hx hb hml hts hown hN hK hA hret hP hD hS hl
  have h := hf
  clear hf
  unfold fX0_putInAll at h
  have hown : s.vm.findClass RX0 = some m.cls := hown
  have hl : lv_has ls 6 [(0, .ref h_th), (1, .int x0), (2, .int x1), (3, .int x2)] := hl
  refine lv_iconst (v := 0) hx hb dX0_putInAll_0 (by decide) ?_
  refine lv_istore (lv' := [(4, .int (0 : Int32)), (0, .ref h_th), (1, .int x0), (2, .int x1), (3, .int x2)]) hx hb dX0_putInAll_1 hl (by decide) rfl (fun ls hl => ?_)
  obtain ⟨w_18, hw_19, h⟩ := obd_e h
  have J : ∀ (H : Heap) (locs : List Loc) (ls : Array Slot), va_P (dC, dI) vwCl [(h_th, .inr (0, [.ref h_keys, .ref h_marks, .int bits, .int size, .int w_18.2.1, .int w_18.2.2.1, .int w_18.2.2.2.1, v_th_joins])), (h_keys, .inl (cyI, 96, .inl w_18.2.2.2.2.1)), (h_marks, .inl (cyI, 48, .inl w_18.2.2.2.2.2))] H → va_D A [(h_th, .inr (0, [.ref h_keys, .ref h_marks, .int bits, .int size, .int w_18.2.1, .int w_18.2.2.1, .int w_18.2.2.2.1, v_th_joins])), (h_keys, .inl (cyI, 96, .inl w_18.2.2.2.2.1)), (h_marks, .inl (cyI, 48, .inl w_18.2.2.2.2.2))] → va_S A s.heap H locs → lv_has ls 6 [] → W p l e ({ frames := 4, cells := 0, slots := 0, locals := 93 }) s m args below meth c H locs 0 0 Q (F0 m 38 ls []) := by
    intro H locs ls hP hD hS hl
    obtain rfl := Option.some.inj h
    exact hret _ _ _ _ dX0_putInAll_38 hP hD hS
  have LL : ∀ (n : Nat) (m4 : Int32) (zkeyCount : Int32) (zmarkCount : Int32) (zsplits : Int32) (zkeys : (Nat → Int32)) (zmarks : (Nat → Int32)) (H : Heap) (locs : List Loc) (ls : Array Slot), lpX0_putInAll_3 x0 x1 x2 bits size n m4 zkeyCount zmarkCount zsplits zkeys zmarks = some w_18 → va_P (dC, dI) vwCl [(h_th, .inr (0, [.ref h_keys, .ref h_marks, .int bits, .int size, .int zkeyCount, .int zmarkCount, .int zsplits, v_th_joins])), (h_keys, .inl (cyI, 96, .inl zkeys)), (h_marks, .inl (cyI, 48, .inl zmarks))] H → va_D A [(h_th, .inr (0, [.ref h_keys, .ref h_marks, .int bits, .int size, .int zkeyCount, .int zmarkCount, .int zsplits, v_th_joins])), (h_keys, .inl (cyI, 96, .inl zkeys)), (h_marks, .inl (cyI, 48, .inl zmarks))] → va_S A s.heap H locs → lv_has ls 6 [(0, .ref h_th), (1, .int x0), (2, .int x1), (3, .int x2), (4, .int m4)] → W p l e ({ frames := 4, cells := 0, slots := 0, locals := 93 }) s m args below meth c H locs 0 0 Q (F0 m 3 ls []) := by
    intro n
    induction n with
    | zero =>
      intro m4 zkeyCount zmarkCount zsplits zkeys zmarks H locs ls h
      exact absurd h (by rw [lpX0_putInAll_3]; exact fun q => by cases q)
    | succ n ih =>
      intro m4 zkeyCount zmarkCount zsplits zkeys zmarks H locs ls h hP hD hS hl
      rw [lpX0_putInAll_3] at h
      refine lv_iload hx hb dX0_putInAll_3 (lv_at hl 4 rfl) ?_
      refine lv_iload_n hx hb dX0_putInAll_5 rfl (lv_at hl 3 rfl) ?_
      refine lv_icmp_ge (tgt := 38) hx hb dX0_putInAll_6 (by decide) (fun c_10 => ?_) (fun c_10 => ?_)
      · have h := og_ite_t c_10 h
        obtain rfl := Option.some.inj h
        exact J _ _ _ hP hD hS (lv_sub hl [] rfl)
      · have h := og_ite_f c_10 h
        refine lv_iload_n hx hb dX0_putInAll_9 rfl (lv_at hl 1 rfl) ?_
        refine lv_iload hx hb dX0_putInAll_10 (lv_at hl 4 rfl) ?_
        refine lv_iload_n hx hb dX0_putInAll_12 rfl (lv_at hl 2 rfl) ?_
        refine lv_imul hx hb dX0_putInAll_13 ?_
        refine lv_iadd hx hb dX0_putInAll_14 ?_
        refine lv_istore (lv' := [(5, .int (x0 + (m4 * x1))), (0, .ref h_th), (1, .int x0), (2, .int x1), (3, .int x2), (4, .int m4)]) hx hb dX0_putInAll_15 hl (by decide) rfl (fun ls hl => ?_)
        refine lv_aload_n hx hb dX0_putInAll_17 rfl (lv_at hl 1 rfl) ?_
        refine lv_iload hx hb dX0_putInAll_18 (lv_at hl 0 rfl) ?_
        obtain ⟨u_11, hc_12, h⟩ := obd_e h
        refine Gci (wr := [(h_keys, .inl (cyI, 96, .inl zkeys)), (h_marks, .inl (cyI, 48, .inl zmarks))]) (va_runV (As := [.int (x0 + (m4 * x1))]) (rest := []) ⟨hx, hb, hml, hown, hts⟩ (tX0_inBounds l dC dI cyI cyJ cyZ cyO H.size h_th (.ref h_keys) (.ref h_marks) (.int size) (.int zkeyCount) (.int zmarkCount) (.int zsplits) v_th_joins bits (x0 + (m4 * x1)) u_11 hc_12) (cwV 1 hts gX0_putInAll_X0_inBounds rfl rfl rfl (by decide +kernel) ⟨Nat.le_of_ble_eq_true rfl, Nat.le_of_ble_eq_true rfl⟩) (GpreV hP hD hK hN [0] rfl (by decide) 0 0 rfl rfl rfl) rfl rfl hl.1 rfl (lv_room (Nat.le_of_ble_eq_true rfl)) dX0_putInAll_20 ⟨Nat.zero_le _, Nat.zero_le _⟩) hP hD hS hA [0] [1, 2] rfl rfl (by decide) (by decide) (fun H locs hP hD hS => ?_)
        have hP : va_P (dC, dI) vwCl [(h_keys, .inl (cyI, 96, .inl zkeys)), (h_marks, .inl (cyI, 48, .inl zmarks)), (h_th, .inr (0, [.ref h_keys, .ref h_marks, .int bits, .int size, .int zkeyCount, .int zmarkCount, .int zsplits, v_th_joins]))] H := hP
        have hD : va_D A [(h_keys, .inl (cyI, 96, .inl zkeys)), (h_marks, .inl (cyI, 48, .inl zmarks)), (h_th, .inr (0, [.ref h_keys, .ref h_marks, .int bits, .int size, .int zkeyCount, .int zmarkCount, .int zsplits, v_th_joins]))] := hD
        obtain ⟨w_14, hm_17, h⟩ := obd_e h
        have J : ∀ (H : Heap) (locs : List Loc) (ls : Array Slot), va_P (dC, dI) vwCl [(h_keys, .inl (cyI, 96, .inl w_14.2.2.2.1)), (h_marks, .inl (cyI, 48, .inl w_14.2.2.2.2)), (h_th, .inr (0, [.ref h_keys, .ref h_marks, .int bits, .int size, .int w_14.1, .int w_14.2.1, .int w_14.2.2.1, v_th_joins]))] H → va_D A [(h_keys, .inl (cyI, 96, .inl w_14.2.2.2.1)), (h_marks, .inl (cyI, 48, .inl w_14.2.2.2.2)), (h_th, .inr (0, [.ref h_keys, .ref h_marks, .int bits, .int size, .int w_14.1, .int w_14.2.1, .int w_14.2.2.1, v_th_joins]))] → va_S A s.heap H locs → lv_has ls 6 [(0, .ref h_th), (1, .int x0), (2, .int x1), (3, .int x2), (4, .int m4)] → W p l e ({ frames := 4, cells := 0, slots := 0, locals := 93 }) s m args below meth c H locs 0 0 Q (F0 m 32 ls []) := by
          intro H locs ls hP hD hS hl
          refine lv_iinc (v := m4 + (1 : Int32)) (lv' := [(4, .int (m4 + (1 : Int32))), (0, .ref h_th), (1, .int x0), (2, .int x1), (3, .int x2)]) hx hb dX0_putInAll_32 hl (k := 4) rfl rfl (by decide) rfl (fun ls hl => ?_)
          refine lv_goto (tgt := 3) hx hb dX0_putInAll_35 (by decide) ?_
          have hP := hP.sub (ws' := [(h_th, .inr (0, [.ref h_keys, .ref h_marks, .int bits, .int size, .int w_14.1, .int w_14.2.1, .int w_14.2.2.1, v_th_joins])), (h_keys, .inl (cyI, 96, .inl w_14.2.2.2.1)), (h_marks, .inl (cyI, 48, .inl w_14.2.2.2.2))]) [2, 0, 1] rfl
          have hD := hD.sub (ws' := [(h_th, .inr (0, [.ref h_keys, .ref h_marks, .int bits, .int size, .int w_14.1, .int w_14.2.1, .int w_14.2.2.1, v_th_joins])), (h_keys, .inl (cyI, 96, .inl w_14.2.2.2.1)), (h_marks, .inl (cyI, 48, .inl w_14.2.2.2.2))]) [2, 0, 1] (by decide) rfl
          exact ih (m4 + (1 : Int32)) w_14.1 w_14.2.1 w_14.2.2.1 w_14.2.2.2.1 w_14.2.2.2.2 _ _ _ h hP hD hS (lv_sub hl [1, 2, 3, 4, 0] rfl)
        replace h := hm_17
        refine lv_if_eq (tgt := 32) hx hb dX0_putInAll_23 (by decide) (fun c_13 => ?_) (fun c_13 => ?_)
        · have h := og_ite_t c_13 h
          obtain rfl := Option.some.inj h
          exact J _ _ _ hP hD hS (lv_sub hl [1, 2, 3, 4, 5] rfl)
        · have h := og_ite_f c_13 h
          refine lv_aload_n hx hb dX0_putInAll_26 rfl (lv_at hl 1 rfl) ?_
          refine lv_iload hx hb dX0_putInAll_27 (lv_at hl 0 rfl) ?_
          obtain ⟨u_15, hc_16, h⟩ := obd_e h
          refine Gcv (wr := []) (va_runV (As := [.int (x0 + (m4 * x1))]) (rest := []) ⟨hx, hb, hml, hown, hts⟩ (tX0_putIn l dC dI cyI cyJ cyZ cyO H.size h_th h_keys h_marks (.int bits) v_th_joins size zkeyCount zmarkCount zsplits zkeys zmarks (x0 + (m4 * x1)) u_15 hc_16) (cwV 1 hts gX0_putInAll_X0_putIn rfl rfl rfl (by decide +kernel) ⟨Nat.le_of_ble_eq_true rfl, Nat.le_of_ble_eq_true rfl⟩) (GpreV hP hD hK hN [2, 0, 1] rfl (by decide) 0 0 rfl rfl rfl) rfl rfl hl.1 rfl (lv_room (Nat.le_of_ble_eq_true rfl)) dX0_putInAll_29 ⟨Nat.zero_le _, Nat.zero_le _⟩) hP hD hS hA [2, 0, 1] [] rfl rfl (by decide) (by decide) (fun H locs hP hD hS => ?_)
          have hP : va_P (dC, dI) vwCl [(h_th, .inr (0, [.ref h_keys, .ref h_marks, .int bits, .int size, .int u_15.1, .int u_15.2.1, .int u_15.2.2.1, v_th_joins])), (h_keys, .inl (cyI, 96, .inl u_15.2.2.2.1)), (h_marks, .inl (cyI, 48, .inl u_15.2.2.2.2))] H := hP
          have hD : va_D A [(h_th, .inr (0, [.ref h_keys, .ref h_marks, .int bits, .int size, .int u_15.1, .int u_15.2.1, .int u_15.2.2.1, v_th_joins])), (h_keys, .inl (cyI, 96, .inl u_15.2.2.2.1)), (h_marks, .inl (cyI, 48, .inl u_15.2.2.2.2))] := hD
          obtain rfl := Option.some.inj h
          have hP := hP.sub (ws' := [(h_keys, .inl (cyI, 96, .inl u_15.2.2.2.1)), (h_marks, .inl (cyI, 48, .inl u_15.2.2.2.2)), (h_th, .inr (0, [.ref h_keys, .ref h_marks, .int bits, .int size, .int u_15.1, .int u_15.2.1, .int u_15.2.2.1, v_th_joins]))]) [1, 2, 0] rfl
          have hD := hD.sub (ws' := [(h_keys, .inl (cyI, 96, .inl u_15.2.2.2.1)), (h_marks, .inl (cyI, 48, .inl u_15.2.2.2.2)), (h_th, .inr (0, [.ref h_keys, .ref h_marks, .int bits, .int size, .int u_15.1, .int u_15.2.1, .int u_15.2.2.1, v_th_joins]))]) [1, 2, 0] (by decide) rfl
          exact J _ _ _ hP hD hS (lv_sub hl [1, 2, 3, 4, 5] rfl)
  exact LL _ (0 : Int32) keyCount markCount splits keys marks _ _ _ hw_19 hP hD hS (lv_sub hl [1, 2, 3, 4, 0] rfl)

def fX0_unite (size : Int32) (keyCount : Int32) (markCount : Int32) (splits : Int32) (joins : Int32) (keys : (Nat → Int32)) (marks : (Nat → Int32)) (x0 : Int32) : Option (Int32 × Int32 × Int32 × (Nat → Int32)) := olet (if x0 = (markCount - (1 : Int32)) then ((x0 - (1 : Int32))) else (x0)) fun y_2 => obd (fX6_deleteAt 48 marks markCount y_2) fun u_3 => if u_3.1 = 0 then (some (markCount, splits, joins, u_3.2)) else (obd (fX0_keysIn keyCount (markCount - (1 : Int32)) keys u_3.2 y_2) fun u_6 => obd (if u_6 ≤ ((3 : Int32) * size) then (some ((markCount - (1 : Int32)), splits, u_3.2)) else (obd (fX0_halve keyCount (markCount - (1 : Int32)) splits keys u_3.2 y_2) fun u_10 => some (u_10.1, u_10.2.1, u_10.2.2))) fun w_9 => some (w_9.1, w_9.2.1, (joins + (1 : Int32)), w_9.2.2))

set_option maxHeartbeats 4000000 in
set_option maxRecDepth 100000 in
theorem tX0_unite (l : Launch) (dC : Nat → ClassId) (dI : Nat → Nat → Nat) (cyI cyJ cyZ cyO : ClassId) (sz : Nat) (h_th h_keys h_marks : Nat) (v_th_bits : Value) (size : Int32) (keyCount : Int32) (markCount : Int32) (splits : Int32) (joins : Int32) (keys : (Nat → Int32)) (marks : (Nat → Int32)) (x0 : Int32) (u : Int32 × Int32 × Int32 × (Nat → Int32)) (hf : fX0_unite size keyCount markCount splits joins keys marks x0 = some u) : Met l yX0_unite wsX0_unite ({ frames := 3, cells := 0, slots := 0, locals := 71 }) (va_Pc [.ref h_th, .int x0] (GP (dC, dI) (T4 cyI cyJ cyZ cyO) sz [(h_th, .inr (0, [.ref h_keys, .ref h_marks, v_th_bits, .int size, .int keyCount, .int markCount, .int splits, .int joins])), (h_keys, .inl (cyI, 96, .inl keys)), (h_marks, .inl (cyI, 48, .inl marks))])) (va_Qv (fun (_ : Unit) => True) (GB (dC, dI) [(h_th, .inr (0, [.ref h_keys, .ref h_marks, v_th_bits, .int size, .int keyCount, .int u.1, .int u.2.1, .int u.2.2.1])), (h_keys, .inl (cyI, 96, .inl keys)), (h_marks, .inl (cyI, 48, .inl u.2.2.2))] (va_A [(h_th, .inr (0, [.ref h_keys, .ref h_marks, v_th_bits, .int size, .int keyCount, .int markCount, .int splits, .int joins])), (h_keys, .inl (cyI, 96, .inl keys)), (h_marks, .inl (cyI, 48, .inl marks))] sz)) (va_A [(h_th, .inr (0, [.ref h_keys, .ref h_marks, v_th_bits, .int size, .int keyCount, .int markCount, .int splits, .int joins])), (h_keys, .inl (cyI, 96, .inl keys)), (h_marks, .inl (cyI, 48, .inl marks))] sz)) 0 0 (va_A [(h_th, .inr (0, [.ref h_keys, .ref h_marks, v_th_bits, .int size, .int keyCount, .int markCount, .int splits, .int joins])), (h_keys, .inl (cyI, 96, .inl keys)), (h_marks, .inl (cyI, 48, .inl marks))] sz) := by
  refine GMetV (by decide) rfl (Nat.le_of_ble_eq_true rfl) ?_
  intro p e s m args below meth c A Q ls hx hb hml hts hown hN hK hA hret hP hD hS hl
  have h := hf
  clear hf
  unfold fX0_unite at h
  have hown : s.vm.findClass RX0 = some m.cls := hown
  have hl : lv_has ls 3 [(0, .ref h_th), (1, .int x0)] := hl
  refine lv_iload_n hx hb dX0_unite_0 rfl (lv_at hl 1 rfl) ?_
  refine lv_aload_n hx hb dX0_unite_1 rfl (lv_at hl 0 rfl) ?_
  refine va_get (D := (dC, dI)) (ci := 0) (v := .int markCount) (C := RX0) (T := TX0) (N := 8) hx hb hts (fun _ hw => List.mem_cons_of_mem _ (List.mem_append_right _ hw)) hown hK hP 0 rfl rfl 5 (by decide) (hts (.fieldLink RX0 32 "PrefixIndex$Buckets" "markCount" "I") (List.mem_of_getElem? (i := 1) rfl)) (fun _ h9 => h9) rfl dX0_unite_2 ?_
  refine lv_iconst (v := 1) hx hb dX0_unite_5 (by decide) ?_
  refine lv_isub hx hb dX0_unite_6 ?_
  obtain ⟨y_2, ey_2, h⟩ := olet_e h
  have J : ∀ (H : Heap) (locs : List Loc) (ls : Array Slot), va_P (dC, dI) vwCl [(h_th, .inr (0, [.ref h_keys, .ref h_marks, v_th_bits, .int size, .int keyCount, .int markCount, .int splits, .int joins])), (h_keys, .inl (cyI, 96, .inl keys)), (h_marks, .inl (cyI, 48, .inl marks))] H → va_D A [(h_th, .inr (0, [.ref h_keys, .ref h_marks, v_th_bits, .int size, .int keyCount, .int markCount, .int splits, .int joins])), (h_keys, .inl (cyI, 96, .inl keys)), (h_marks, .inl (cyI, 48, .inl marks))] → va_S A s.heap H locs → lv_has ls 3 [(0, .ref h_th)] → W p l e ({ frames := 3, cells := 0, slots := 0, locals := 71 }) s m args below meth c H locs 0 0 Q (F0 m 17 ls [.int y_2]) := by
    intro H locs ls hP hD hS hl
    refine lv_istore_n (lv' := [(2, .int y_2), (0, .ref h_th)]) hx hb dX0_unite_17 rfl hl (by decide) rfl (fun ls hl => ?_)
    refine lv_aload_n hx hb dX0_unite_18 rfl (lv_at hl 1 rfl) ?_
    refine va_get (D := (dC, dI)) (ci := 0) (v := .ref h_marks) (C := RX0) (T := TX0) (N := 8) hx hb hts (fun _ hw => List.mem_cons_of_mem _ (List.mem_append_right _ hw)) hown hK hP 0 rfl rfl 1 (by decide) (hts (.fieldLink RX0 15 "PrefixIndex$Buckets" "marks" "[I") (List.mem_of_getElem? (i := 2) rfl)) (fun _ h9 => h9) rfl dX0_unite_19 ?_
    refine lv_aload_n hx hb dX0_unite_22 rfl (lv_at hl 1 rfl) ?_
    refine va_get (D := (dC, dI)) (ci := 0) (v := .int markCount) (C := RX0) (T := TX0) (N := 8) hx hb hts (fun _ hw => List.mem_cons_of_mem _ (List.mem_append_right _ hw)) hown hK hP 0 rfl rfl 5 (by decide) (hts (.fieldLink RX0 32 "PrefixIndex$Buckets" "markCount" "I") (List.mem_of_getElem? (i := 1) rfl)) (fun _ h9 => h9) rfl dX0_unite_23 ?_
    refine lv_iload_n hx hb dX0_unite_26 rfl (lv_at hl 0 rfl) ?_
    obtain ⟨u_3, hc_4, h⟩ := obd_e h
    refine Gci (wr := [(h_th, .inr (0, [.ref h_keys, .ref h_marks, v_th_bits, .int size, .int keyCount, .int markCount, .int splits, .int joins])), (h_keys, .inl (cyI, 96, .inl keys))]) (va_runSN (As := [.ref h_marks, .int markCount, .int y_2]) (rest := []) ⟨hx, hb, hml, hown, hts⟩ (tX6_deleteAt l dC dI cyI cyJ cyZ cyO H.size h_marks 48 marks markCount y_2 u_3 hc_4) ⟨va_cnB 3 hts gX0_unite_X6_deleteAt_n90 rfl rfl rfl (hN.m 4 rfl) (hts (.initialized RX6) (List.mem_of_getElem? (i := 6) rfl)) (by decide +kernel) ⟨Nat.le_of_ble_eq_true rfl, Nat.le_of_ble_eq_true rfl⟩, (hts (.static yX6_deleteAt) (List.mem_of_getElem? (i := 5) rfl)), trivial⟩ (GpreS hP hD hK hN [2] rfl (by decide)) rfl rfl hl.1 rfl (lv_room (Nat.le_of_ble_eq_true rfl)) dX0_unite_27 ⟨Nat.zero_le _, Nat.zero_le _⟩) hP hD hS hA [2] [0, 1] rfl rfl (by decide) (by decide) (fun H locs hP hD hS => ?_)
    have hP : va_P (dC, dI) vwCl [(h_th, .inr (0, [.ref h_keys, .ref h_marks, v_th_bits, .int size, .int keyCount, .int markCount, .int splits, .int joins])), (h_keys, .inl (cyI, 96, .inl keys)), (h_marks, .inl (cyI, 48, .inl u_3.2))] H := hP
    have hD : va_D A [(h_th, .inr (0, [.ref h_keys, .ref h_marks, v_th_bits, .int size, .int keyCount, .int markCount, .int splits, .int joins])), (h_keys, .inl (cyI, 96, .inl keys)), (h_marks, .inl (cyI, 48, .inl u_3.2))] := hD
    refine lv_if_ne (tgt := 34) hx hb dX0_unite_30 (by decide) (fun c_5 => ?_) (fun c_5 => ?_)
    · have h := og_ite_f c_5 h
      refine lv_aload_n hx hb dX0_unite_34 rfl (lv_at hl 1 rfl) ?_
      refine lv_dup hx hb dX0_unite_35 rfl ?_
      refine va_get (D := (dC, dI)) (ci := 0) (v := .int markCount) (C := RX0) (T := TX0) (N := 8) hx hb hts (fun _ hw => List.mem_cons_of_mem _ (List.mem_append_right _ hw)) hown hK hP 0 rfl rfl 5 (by decide) (hts (.fieldLink RX0 32 "PrefixIndex$Buckets" "markCount" "I") (List.mem_of_getElem? (i := 1) rfl)) (fun _ h9 => h9) rfl dX0_unite_36 ?_
      refine lv_iconst (v := 1) hx hb dX0_unite_39 (by decide) ?_
      refine lv_isub hx hb dX0_unite_40 ?_
      refine va_put (D := (dC, dI)) (ci := 0) (v := .int (markCount - (1 : Int32))) (ty := .int) (C := RX0) (T := TX0) (N := 8) hx hb hts (fun _ hw => List.mem_cons_of_mem _ (List.mem_append_right _ hw)) tyX0 tyX0_ok nmX0 hown hK hP hD hS 0 rfl rfl 5 (by decide) (hts (.fieldLink RX0 32 "PrefixIndex$Buckets" "markCount" "I") (List.mem_of_getElem? (i := 1) rfl)) (fun _ h9 => h9) rfl (by decide +kernel) rfl rfl (Nat.le_of_ble_eq_true rfl) dX0_unite_41 (fun H locs hP hD hS => ?_)
      have hP : va_P (dC, dI) vwCl [(h_th, .inr (0, [.ref h_keys, .ref h_marks, v_th_bits, .int size, .int keyCount, .int (markCount - (1 : Int32)), .int splits, .int joins])), (h_keys, .inl (cyI, 96, .inl keys)), (h_marks, .inl (cyI, 48, .inl u_3.2))] H := hP
      have hD : va_D A [(h_th, .inr (0, [.ref h_keys, .ref h_marks, v_th_bits, .int size, .int keyCount, .int (markCount - (1 : Int32)), .int splits, .int joins])), (h_keys, .inl (cyI, 96, .inl keys)), (h_marks, .inl (cyI, 48, .inl u_3.2))] := hD
      refine lv_aload_n hx hb dX0_unite_44 rfl (lv_at hl 1 rfl) ?_
      refine lv_dup hx hb dX0_unite_45 rfl ?_
      refine va_get (D := (dC, dI)) (ci := 0) (v := .int joins) (C := RX0) (T := TX0) (N := 8) hx hb hts (fun _ hw => List.mem_cons_of_mem _ (List.mem_append_right _ hw)) hown hK hP 0 rfl rfl 7 (by decide) (hts (.fieldLink RX0 42 "PrefixIndex$Buckets" "joins" "I") (List.mem_of_getElem? (i := 3) rfl)) (fun _ h9 => h9) rfl dX0_unite_46 ?_
      refine lv_iconst (v := 1) hx hb dX0_unite_49 (by decide) ?_
      refine lv_iadd hx hb dX0_unite_50 ?_
      refine va_put (D := (dC, dI)) (ci := 0) (v := .int (joins + (1 : Int32))) (ty := .int) (C := RX0) (T := TX0) (N := 8) hx hb hts (fun _ hw => List.mem_cons_of_mem _ (List.mem_append_right _ hw)) tyX0 tyX0_ok nmX0 hown hK hP hD hS 0 rfl rfl 7 (by decide) (hts (.fieldLink RX0 42 "PrefixIndex$Buckets" "joins" "I") (List.mem_of_getElem? (i := 3) rfl)) (fun _ h9 => h9) rfl (by decide +kernel) rfl rfl (Nat.le_of_ble_eq_true rfl) dX0_unite_51 (fun H locs hP hD hS => ?_)
      have hP : va_P (dC, dI) vwCl [(h_th, .inr (0, [.ref h_keys, .ref h_marks, v_th_bits, .int size, .int keyCount, .int (markCount - (1 : Int32)), .int splits, .int (joins + (1 : Int32))])), (h_keys, .inl (cyI, 96, .inl keys)), (h_marks, .inl (cyI, 48, .inl u_3.2))] H := hP
      have hD : va_D A [(h_th, .inr (0, [.ref h_keys, .ref h_marks, v_th_bits, .int size, .int keyCount, .int (markCount - (1 : Int32)), .int splits, .int (joins + (1 : Int32))])), (h_keys, .inl (cyI, 96, .inl keys)), (h_marks, .inl (cyI, 48, .inl u_3.2))] := hD
      refine lv_aload_n hx hb dX0_unite_54 rfl (lv_at hl 1 rfl) ?_
      refine lv_iload_n hx hb dX0_unite_55 rfl (lv_at hl 0 rfl) ?_
      obtain ⟨u_6, hc_7, h⟩ := obd_e h
      refine Gci (wr := []) (va_runV (As := [.int y_2]) (rest := []) ⟨hx, hb, hml, hown, hts⟩ (tX0_keysIn l dC dI cyI cyJ cyZ cyO H.size h_th h_keys h_marks v_th_bits (.int size) (.int splits) (.int (joins + (1 : Int32))) keyCount (markCount - (1 : Int32)) keys u_3.2 y_2 u_6 hc_7) (cwV 1 hts gX0_unite_X0_keysIn rfl rfl rfl (by decide +kernel) ⟨Nat.le_of_ble_eq_true rfl, Nat.le_of_ble_eq_true rfl⟩) (GpreV hP hD hK hN [0, 1, 2] rfl (by decide) 0 0 rfl rfl rfl) rfl rfl hl.1 rfl (lv_room (Nat.le_of_ble_eq_true rfl)) dX0_unite_56 ⟨Nat.zero_le _, Nat.zero_le _⟩) hP hD hS hA [0, 1, 2] [] rfl rfl (by decide) (by decide) (fun H locs hP hD hS => ?_)
      have hP : va_P (dC, dI) vwCl [(h_th, .inr (0, [.ref h_keys, .ref h_marks, v_th_bits, .int size, .int keyCount, .int (markCount - (1 : Int32)), .int splits, .int (joins + (1 : Int32))])), (h_keys, .inl (cyI, 96, .inl keys)), (h_marks, .inl (cyI, 48, .inl u_3.2))] H := hP
      have hD : va_D A [(h_th, .inr (0, [.ref h_keys, .ref h_marks, v_th_bits, .int size, .int keyCount, .int (markCount - (1 : Int32)), .int splits, .int (joins + (1 : Int32))])), (h_keys, .inl (cyI, 96, .inl keys)), (h_marks, .inl (cyI, 48, .inl u_3.2))] := hD
      refine lv_iconst (v := 3) hx hb dX0_unite_59 (by decide) ?_
      refine lv_aload_n hx hb dX0_unite_60 rfl (lv_at hl 1 rfl) ?_
      refine va_get (D := (dC, dI)) (ci := 0) (v := .int size) (C := RX0) (T := TX0) (N := 8) hx hb hts (fun _ hw => List.mem_cons_of_mem _ (List.mem_append_right _ hw)) hown hK hP 0 rfl rfl 3 (by decide) (hts (.fieldLink RX0 26 "PrefixIndex$Buckets" "size" "I") (List.mem_of_getElem? (i := 4) rfl)) (fun _ h9 => h9) rfl dX0_unite_61 ?_
      refine lv_imul hx hb dX0_unite_64 ?_
      obtain ⟨w_9, hm_12, h⟩ := obd_e h
      have J : ∀ (H : Heap) (locs : List Loc) (ls : Array Slot), va_P (dC, dI) vwCl [(h_th, .inr (0, [.ref h_keys, .ref h_marks, v_th_bits, .int size, .int keyCount, .int w_9.1, .int w_9.2.1, .int (joins + (1 : Int32))])), (h_keys, .inl (cyI, 96, .inl keys)), (h_marks, .inl (cyI, 48, .inl w_9.2.2))] H → va_D A [(h_th, .inr (0, [.ref h_keys, .ref h_marks, v_th_bits, .int size, .int keyCount, .int w_9.1, .int w_9.2.1, .int (joins + (1 : Int32))])), (h_keys, .inl (cyI, 96, .inl keys)), (h_marks, .inl (cyI, 48, .inl w_9.2.2))] → va_S A s.heap H locs → lv_has ls 3 [] → W p l e ({ frames := 3, cells := 0, slots := 0, locals := 71 }) s m args below meth c H locs 0 0 Q (F0 m 73 ls []) := by
        intro H locs ls hP hD hS hl
        obtain rfl := Option.some.inj h
        exact hret _ _ _ _ dX0_unite_73 hP hD hS
      replace h := hm_12
      refine lv_icmp_le (tgt := 73) hx hb dX0_unite_65 (by decide) (fun c_8 => ?_) (fun c_8 => ?_)
      · have h := og_ite_t c_8 h
        obtain rfl := Option.some.inj h
        exact J _ _ _ hP hD hS (lv_sub hl [] rfl)
      · have h := og_ite_f c_8 h
        refine lv_aload_n hx hb dX0_unite_68 rfl (lv_at hl 1 rfl) ?_
        refine lv_iload_n hx hb dX0_unite_69 rfl (lv_at hl 0 rfl) ?_
        obtain ⟨u_10, hc_11, h⟩ := obd_e h
        refine Gcv (wr := []) (va_runV (As := [.int y_2]) (rest := []) ⟨hx, hb, hml, hown, hts⟩ (tX0_halve l dC dI cyI cyJ cyZ cyO H.size h_th h_keys h_marks v_th_bits (.int size) (.int (joins + (1 : Int32))) keyCount (markCount - (1 : Int32)) splits keys u_3.2 y_2 u_10 hc_11) (cwV 1 hts gX0_unite_X0_halve rfl rfl rfl (by decide +kernel) ⟨Nat.le_of_ble_eq_true rfl, Nat.le_of_ble_eq_true rfl⟩) (GpreV hP hD hK hN [0, 1, 2] rfl (by decide) 0 0 rfl rfl rfl) rfl rfl hl.1 rfl (lv_room (Nat.le_of_ble_eq_true rfl)) dX0_unite_70 ⟨Nat.zero_le _, Nat.zero_le _⟩) hP hD hS hA [0, 1, 2] [] rfl rfl (by decide) (by decide) (fun H locs hP hD hS => ?_)
        have hP : va_P (dC, dI) vwCl [(h_th, .inr (0, [.ref h_keys, .ref h_marks, v_th_bits, .int size, .int keyCount, .int u_10.1, .int u_10.2.1, .int (joins + (1 : Int32))])), (h_keys, .inl (cyI, 96, .inl keys)), (h_marks, .inl (cyI, 48, .inl u_10.2.2))] H := hP
        have hD : va_D A [(h_th, .inr (0, [.ref h_keys, .ref h_marks, v_th_bits, .int size, .int keyCount, .int u_10.1, .int u_10.2.1, .int (joins + (1 : Int32))])), (h_keys, .inl (cyI, 96, .inl keys)), (h_marks, .inl (cyI, 48, .inl u_10.2.2))] := hD
        obtain rfl := Option.some.inj h
        exact J _ _ _ hP hD hS (lv_sub hl [] rfl)
    · have h := og_ite_t c_5 h
      obtain rfl := Option.some.inj h
      exact hret _ _ _ _ dX0_unite_33 hP hD hS
  clear h
  refine lv_icmp_ne (tgt := 16) hx hb dX0_unite_7 (by decide) (fun c_1 => ?_) (fun c_1 => ?_)
  · refine lv_iload_n hx hb dX0_unite_16 rfl (lv_at hl 1 rfl) ?_
    rw [if_neg c_1] at ey_2
    subst ey_2
    exact J _ _ _ hP hD hS (lv_sub hl [0] rfl)
  · refine lv_iload_n hx hb dX0_unite_10 rfl (lv_at hl 1 rfl) ?_
    refine lv_iconst (v := 1) hx hb dX0_unite_11 (by decide) ?_
    refine lv_isub hx hb dX0_unite_12 ?_
    refine lv_goto (tgt := 17) hx hb dX0_unite_13 (by decide) ?_
    rw [if_pos c_1] at ey_2
    subst ey_2
    exact J _ _ _ hP hD hS (lv_sub hl [0] rfl)

def fX0_takeOut (size : Int32) (keyCount : Int32) (markCount : Int32) (splits : Int32) (joins : Int32) (keys : (Nat → Int32)) (marks : (Nat → Int32)) (x0 : Int32) : Option (Int32 × Int32 × Int32 × Int32 × (Nat → Int32) × (Nat → Int32)) := obd (fX0_holds keyCount keys x0) fun u_1 => if u_1 = 0 then (some (keyCount, markCount, splits, joins, keys, marks)) else (obd (fX0_rankOf keyCount keys x0) fun u_4 => obd (fX6_deleteAt 96 keys keyCount u_4) fun u_6 => if u_6.1 = 0 then (some (keyCount, markCount, splits, joins, u_6.2, marks)) else (obd (fX0_bucketOf markCount marks x0) fun u_9 => obd (if markCount ≤ (1 : Int32) then (some (markCount, splits, joins, marks)) else (obd (fX0_keysIn (keyCount - (1 : Int32)) markCount u_6.2 marks u_9) fun u_13 => if size ≤ u_13 then (some (markCount, splits, joins, marks)) else (obd (fX0_unite size (keyCount - (1 : Int32)) markCount splits joins u_6.2 marks u_9) fun u_16 => some (u_16.1, u_16.2.1, u_16.2.2.1, u_16.2.2.2)))) fun w_12 => some ((keyCount - (1 : Int32)), w_12.1, w_12.2.1, w_12.2.2.1, u_6.2, w_12.2.2.2)))

set_option maxHeartbeats 4000000 in
set_option maxRecDepth 100000 in
theorem tX0_takeOut (l : Launch) (dC : Nat → ClassId) (dI : Nat → Nat → Nat) (cyI cyJ cyZ cyO : ClassId) (sz : Nat) (h_th h_keys h_marks : Nat) (v_th_bits : Value) (size : Int32) (keyCount : Int32) (markCount : Int32) (splits : Int32) (joins : Int32) (keys : (Nat → Int32)) (marks : (Nat → Int32)) (x0 : Int32) (u : Int32 × Int32 × Int32 × Int32 × (Nat → Int32) × (Nat → Int32)) (hf : fX0_takeOut size keyCount markCount splits joins keys marks x0 = some u) : Met l yX0_takeOut wsX0_takeOut ({ frames := 4, cells := 0, slots := 0, locals := 93 }) (va_Pc [.ref h_th, .int x0] (GP (dC, dI) (T4 cyI cyJ cyZ cyO) sz [(h_th, .inr (0, [.ref h_keys, .ref h_marks, v_th_bits, .int size, .int keyCount, .int markCount, .int splits, .int joins])), (h_keys, .inl (cyI, 96, .inl keys)), (h_marks, .inl (cyI, 48, .inl marks))])) (va_Qv (fun (_ : Unit) => True) (GB (dC, dI) [(h_th, .inr (0, [.ref h_keys, .ref h_marks, v_th_bits, .int size, .int u.1, .int u.2.1, .int u.2.2.1, .int u.2.2.2.1])), (h_keys, .inl (cyI, 96, .inl u.2.2.2.2.1)), (h_marks, .inl (cyI, 48, .inl u.2.2.2.2.2))] (va_A [(h_th, .inr (0, [.ref h_keys, .ref h_marks, v_th_bits, .int size, .int keyCount, .int markCount, .int splits, .int joins])), (h_keys, .inl (cyI, 96, .inl keys)), (h_marks, .inl (cyI, 48, .inl marks))] sz)) (va_A [(h_th, .inr (0, [.ref h_keys, .ref h_marks, v_th_bits, .int size, .int keyCount, .int markCount, .int splits, .int joins])), (h_keys, .inl (cyI, 96, .inl keys)), (h_marks, .inl (cyI, 48, .inl marks))] sz)) 0 0 (va_A [(h_th, .inr (0, [.ref h_keys, .ref h_marks, v_th_bits, .int size, .int keyCount, .int markCount, .int splits, .int joins])), (h_keys, .inl (cyI, 96, .inl keys)), (h_marks, .inl (cyI, 48, .inl marks))] sz) := by
  refine GMetV (by decide) rfl (Nat.le_of_ble_eq_true rfl) ?_
  intro p e s m args below meth c A Q ls hx hb hml hts hown hN hK hA hret hP hD hS hl
  have h := hf
  clear hf
  unfold fX0_takeOut at h
  have hown : s.vm.findClass RX0 = some m.cls := hown
  have hl : lv_has ls 3 [(0, .ref h_th), (1, .int x0)] := hl
  refine lv_aload_n hx hb dX0_takeOut_0 rfl (lv_at hl 0 rfl) ?_
  refine lv_iload_n hx hb dX0_takeOut_1 rfl (lv_at hl 1 rfl) ?_
  obtain ⟨u_1, hc_2, h⟩ := obd_e h
  refine Gci (wr := [(h_marks, .inl (cyI, 48, .inl marks))]) (va_runV (As := [.int x0]) (rest := []) ⟨hx, hb, hml, hown, hts⟩ (tX0_holds l dC dI cyI cyJ cyZ cyO s.heap.size h_th h_keys (.ref h_marks) v_th_bits (.int size) (.int markCount) (.int splits) (.int joins) keyCount keys x0 u_1 hc_2) (cwV 1 hts gX0_takeOut_X0_holds rfl rfl rfl (by decide +kernel) ⟨Nat.le_of_ble_eq_true rfl, Nat.le_of_ble_eq_true rfl⟩) (GpreV hP hD hK hN [0, 1] rfl (by decide) 0 0 rfl rfl rfl) rfl rfl hl.1 rfl (lv_room (Nat.le_of_ble_eq_true rfl)) dX0_takeOut_2 ⟨Nat.zero_le _, Nat.zero_le _⟩) hP hD hS hA [0, 1] [2] rfl rfl (by decide) (by decide) (fun H locs hP hD hS => ?_)
  have hP : va_P (dC, dI) vwCl [(h_marks, .inl (cyI, 48, .inl marks)), (h_th, .inr (0, [.ref h_keys, .ref h_marks, v_th_bits, .int size, .int keyCount, .int markCount, .int splits, .int joins])), (h_keys, .inl (cyI, 96, .inl keys))] H := hP
  have hD : va_D A [(h_marks, .inl (cyI, 48, .inl marks)), (h_th, .inr (0, [.ref h_keys, .ref h_marks, v_th_bits, .int size, .int keyCount, .int markCount, .int splits, .int joins])), (h_keys, .inl (cyI, 96, .inl keys))] := hD
  refine lv_if_eq (tgt := 27) hx hb dX0_takeOut_5 (by decide) (fun c_3 => ?_) (fun c_3 => ?_)
  · have h := og_ite_t c_3 h
    obtain rfl := Option.some.inj h
    have hP := hP.sub (ws' := [(h_th, .inr (0, [.ref h_keys, .ref h_marks, v_th_bits, .int size, .int keyCount, .int markCount, .int splits, .int joins])), (h_keys, .inl (cyI, 96, .inl keys)), (h_marks, .inl (cyI, 48, .inl marks))]) [1, 2, 0] rfl
    have hD := hD.sub (ws' := [(h_th, .inr (0, [.ref h_keys, .ref h_marks, v_th_bits, .int size, .int keyCount, .int markCount, .int splits, .int joins])), (h_keys, .inl (cyI, 96, .inl keys)), (h_marks, .inl (cyI, 48, .inl marks))]) [1, 2, 0] (by decide) rfl
    exact hret _ _ _ _ dX0_takeOut_27 hP hD hS
  · have h := og_ite_f c_3 h
    refine lv_aload_n hx hb dX0_takeOut_8 rfl (lv_at hl 0 rfl) ?_
    refine va_get (D := (dC, dI)) (ci := 0) (v := .ref h_keys) (C := RX0) (T := TX0) (N := 8) hx hb hts (fun _ hw => List.mem_cons_of_mem _ (List.mem_append_right _ hw)) hown hK hP 1 rfl rfl 0 (by decide) (hts (.fieldLink RX0 9 "PrefixIndex$Buckets" "keys" "[I") (List.mem_of_getElem? (i := 1) rfl)) (fun _ h9 => h9) rfl dX0_takeOut_9 ?_
    refine lv_aload_n hx hb dX0_takeOut_12 rfl (lv_at hl 0 rfl) ?_
    refine va_get (D := (dC, dI)) (ci := 0) (v := .int keyCount) (C := RX0) (T := TX0) (N := 8) hx hb hts (fun _ hw => List.mem_cons_of_mem _ (List.mem_append_right _ hw)) hown hK hP 1 rfl rfl 4 (by decide) (hts (.fieldLink RX0 29 "PrefixIndex$Buckets" "keyCount" "I") (List.mem_of_getElem? (i := 2) rfl)) (fun _ h9 => h9) rfl dX0_takeOut_13 ?_
    refine lv_aload_n hx hb dX0_takeOut_16 rfl (lv_at hl 0 rfl) ?_
    refine lv_iload_n hx hb dX0_takeOut_17 rfl (lv_at hl 1 rfl) ?_
    obtain ⟨u_4, hc_5, h⟩ := obd_e h
    refine Gci (wr := [(h_marks, .inl (cyI, 48, .inl marks))]) (va_runV (As := [.int x0]) (rest := [.int keyCount, .ref h_keys]) ⟨hx, hb, hml, hown, hts⟩ (tX0_rankOf l dC dI cyI cyJ cyZ cyO H.size h_th h_keys (.ref h_marks) v_th_bits (.int size) (.int markCount) (.int splits) (.int joins) keyCount keys x0 u_4 hc_5) (cwV 1 hts gX0_takeOut_X0_rankOf rfl rfl rfl (by decide +kernel) ⟨Nat.le_of_ble_eq_true rfl, Nat.le_of_ble_eq_true rfl⟩) (GpreV hP hD hK hN [1, 2] rfl (by decide) 0 0 rfl rfl rfl) rfl rfl hl.1 rfl (lv_room (Nat.le_of_ble_eq_true rfl)) dX0_takeOut_18 ⟨Nat.zero_le _, Nat.zero_le _⟩) hP hD hS hA [1, 2] [0] rfl rfl (by decide) (by decide) (fun H locs hP hD hS => ?_)
    have hP : va_P (dC, dI) vwCl [(h_marks, .inl (cyI, 48, .inl marks)), (h_th, .inr (0, [.ref h_keys, .ref h_marks, v_th_bits, .int size, .int keyCount, .int markCount, .int splits, .int joins])), (h_keys, .inl (cyI, 96, .inl keys))] H := hP
    have hD : va_D A [(h_marks, .inl (cyI, 48, .inl marks)), (h_th, .inr (0, [.ref h_keys, .ref h_marks, v_th_bits, .int size, .int keyCount, .int markCount, .int splits, .int joins])), (h_keys, .inl (cyI, 96, .inl keys))] := hD
    obtain ⟨u_6, hc_7, h⟩ := obd_e h
    refine Gci (wr := [(h_marks, .inl (cyI, 48, .inl marks)), (h_th, .inr (0, [.ref h_keys, .ref h_marks, v_th_bits, .int size, .int keyCount, .int markCount, .int splits, .int joins]))]) (va_runSN (As := [.ref h_keys, .int keyCount, .int u_4]) (rest := []) ⟨hx, hb, hml, hown, hts⟩ (tX6_deleteAt l dC dI cyI cyJ cyZ cyO H.size h_keys 96 keys keyCount u_4 u_6 hc_7) ⟨va_cnB 3 hts gX0_takeOut_X6_deleteAt_n90 rfl rfl rfl (hN.m 4 rfl) (hts (.initialized RX6) (List.mem_of_getElem? (i := 15) rfl)) (by decide +kernel) ⟨Nat.le_of_ble_eq_true rfl, Nat.le_of_ble_eq_true rfl⟩, (hts (.static yX6_deleteAt) (List.mem_of_getElem? (i := 21) rfl)), trivial⟩ (GpreS hP hD hK hN [2] rfl (by decide)) rfl rfl hl.1 rfl (lv_room (Nat.le_of_ble_eq_true rfl)) dX0_takeOut_21 ⟨Nat.zero_le _, Nat.zero_le _⟩) hP hD hS hA [2] [0, 1] rfl rfl (by decide) (by decide) (fun H locs hP hD hS => ?_)
    have hP : va_P (dC, dI) vwCl [(h_marks, .inl (cyI, 48, .inl marks)), (h_th, .inr (0, [.ref h_keys, .ref h_marks, v_th_bits, .int size, .int keyCount, .int markCount, .int splits, .int joins])), (h_keys, .inl (cyI, 96, .inl u_6.2))] H := hP
    have hD : va_D A [(h_marks, .inl (cyI, 48, .inl marks)), (h_th, .inr (0, [.ref h_keys, .ref h_marks, v_th_bits, .int size, .int keyCount, .int markCount, .int splits, .int joins])), (h_keys, .inl (cyI, 96, .inl u_6.2))] := hD
    refine lv_if_ne (tgt := 28) hx hb dX0_takeOut_24 (by decide) (fun c_8 => ?_) (fun c_8 => ?_)
    · have h := og_ite_f c_8 h
      refine lv_aload_n hx hb dX0_takeOut_28 rfl (lv_at hl 0 rfl) ?_
      refine lv_dup hx hb dX0_takeOut_29 rfl ?_
      refine va_get (D := (dC, dI)) (ci := 0) (v := .int keyCount) (C := RX0) (T := TX0) (N := 8) hx hb hts (fun _ hw => List.mem_cons_of_mem _ (List.mem_append_right _ hw)) hown hK hP 1 rfl rfl 4 (by decide) (hts (.fieldLink RX0 29 "PrefixIndex$Buckets" "keyCount" "I") (List.mem_of_getElem? (i := 2) rfl)) (fun _ h9 => h9) rfl dX0_takeOut_30 ?_
      refine lv_iconst (v := 1) hx hb dX0_takeOut_33 (by decide) ?_
      refine lv_isub hx hb dX0_takeOut_34 ?_
      refine va_put (D := (dC, dI)) (ci := 0) (v := .int (keyCount - (1 : Int32))) (ty := .int) (C := RX0) (T := TX0) (N := 8) hx hb hts (fun _ hw => List.mem_cons_of_mem _ (List.mem_append_right _ hw)) tyX0 tyX0_ok nmX0 hown hK hP hD hS 1 rfl rfl 4 (by decide) (hts (.fieldLink RX0 29 "PrefixIndex$Buckets" "keyCount" "I") (List.mem_of_getElem? (i := 2) rfl)) (fun _ h9 => h9) rfl (by decide +kernel) rfl rfl (Nat.le_of_ble_eq_true rfl) dX0_takeOut_35 (fun H locs hP hD hS => ?_)
      have hP : va_P (dC, dI) vwCl [(h_marks, .inl (cyI, 48, .inl marks)), (h_th, .inr (0, [.ref h_keys, .ref h_marks, v_th_bits, .int size, .int (keyCount - (1 : Int32)), .int markCount, .int splits, .int joins])), (h_keys, .inl (cyI, 96, .inl u_6.2))] H := hP
      have hD : va_D A [(h_marks, .inl (cyI, 48, .inl marks)), (h_th, .inr (0, [.ref h_keys, .ref h_marks, v_th_bits, .int size, .int (keyCount - (1 : Int32)), .int markCount, .int splits, .int joins])), (h_keys, .inl (cyI, 96, .inl u_6.2))] := hD
      refine lv_aload_n hx hb dX0_takeOut_38 rfl (lv_at hl 0 rfl) ?_
      refine lv_iload_n hx hb dX0_takeOut_39 rfl (lv_at hl 1 rfl) ?_
      obtain ⟨u_9, hc_10, h⟩ := obd_e h
      refine Gci (wr := [(h_keys, .inl (cyI, 96, .inl u_6.2))]) (va_runV (As := [.int x0]) (rest := []) ⟨hx, hb, hml, hown, hts⟩ (tX0_bucketOf l dC dI cyI cyJ cyZ cyO H.size h_th h_marks (.ref h_keys) v_th_bits (.int size) (.int (keyCount - (1 : Int32))) (.int splits) (.int joins) markCount marks x0 u_9 hc_10) (cwV 1 hts gX0_takeOut_X0_bucketOf rfl rfl rfl (by decide +kernel) ⟨Nat.le_of_ble_eq_true rfl, Nat.le_of_ble_eq_true rfl⟩) (GpreV hP hD hK hN [1, 0] rfl (by decide) 0 0 rfl rfl rfl) rfl rfl hl.1 rfl (lv_room (Nat.le_of_ble_eq_true rfl)) dX0_takeOut_40 ⟨Nat.zero_le _, Nat.zero_le _⟩) hP hD hS hA [1, 0] [2] rfl rfl (by decide) (by decide) (fun H locs hP hD hS => ?_)
      have hP : va_P (dC, dI) vwCl [(h_keys, .inl (cyI, 96, .inl u_6.2)), (h_th, .inr (0, [.ref h_keys, .ref h_marks, v_th_bits, .int size, .int (keyCount - (1 : Int32)), .int markCount, .int splits, .int joins])), (h_marks, .inl (cyI, 48, .inl marks))] H := hP
      have hD : va_D A [(h_keys, .inl (cyI, 96, .inl u_6.2)), (h_th, .inr (0, [.ref h_keys, .ref h_marks, v_th_bits, .int size, .int (keyCount - (1 : Int32)), .int markCount, .int splits, .int joins])), (h_marks, .inl (cyI, 48, .inl marks))] := hD
      refine lv_istore_n (lv' := [(2, .int u_9), (0, .ref h_th), (1, .int x0)]) hx hb dX0_takeOut_43 rfl hl (by decide) rfl (fun ls hl => ?_)
      refine lv_aload_n hx hb dX0_takeOut_44 rfl (lv_at hl 1 rfl) ?_
      refine va_get (D := (dC, dI)) (ci := 0) (v := .int markCount) (C := RX0) (T := TX0) (N := 8) hx hb hts (fun _ hw => List.mem_cons_of_mem _ (List.mem_append_right _ hw)) hown hK hP 1 rfl rfl 5 (by decide) (hts (.fieldLink RX0 32 "PrefixIndex$Buckets" "markCount" "I") (List.mem_of_getElem? (i := 3) rfl)) (fun _ h9 => h9) rfl dX0_takeOut_45 ?_
      refine lv_iconst (v := 1) hx hb dX0_takeOut_48 (by decide) ?_
      obtain ⟨w_12, hm_18, h⟩ := obd_e h
      have J : ∀ (H : Heap) (locs : List Loc) (ls : Array Slot), va_P (dC, dI) vwCl [(h_keys, .inl (cyI, 96, .inl u_6.2)), (h_th, .inr (0, [.ref h_keys, .ref h_marks, v_th_bits, .int size, .int (keyCount - (1 : Int32)), .int w_12.1, .int w_12.2.1, .int w_12.2.2.1])), (h_marks, .inl (cyI, 48, .inl w_12.2.2.2))] H → va_D A [(h_keys, .inl (cyI, 96, .inl u_6.2)), (h_th, .inr (0, [.ref h_keys, .ref h_marks, v_th_bits, .int size, .int (keyCount - (1 : Int32)), .int w_12.1, .int w_12.2.1, .int w_12.2.2.1])), (h_marks, .inl (cyI, 48, .inl w_12.2.2.2))] → va_S A s.heap H locs → lv_has ls 3 [] → W p l e ({ frames := 4, cells := 0, slots := 0, locals := 93 }) s m args below meth c H locs 0 0 Q (F0 m 69 ls []) := by
        intro H locs ls hP hD hS hl
        obtain rfl := Option.some.inj h
        have hP := hP.sub (ws' := [(h_th, .inr (0, [.ref h_keys, .ref h_marks, v_th_bits, .int size, .int (keyCount - (1 : Int32)), .int w_12.1, .int w_12.2.1, .int w_12.2.2.1])), (h_keys, .inl (cyI, 96, .inl u_6.2)), (h_marks, .inl (cyI, 48, .inl w_12.2.2.2))]) [1, 0, 2] rfl
        have hD := hD.sub (ws' := [(h_th, .inr (0, [.ref h_keys, .ref h_marks, v_th_bits, .int size, .int (keyCount - (1 : Int32)), .int w_12.1, .int w_12.2.1, .int w_12.2.2.1])), (h_keys, .inl (cyI, 96, .inl u_6.2)), (h_marks, .inl (cyI, 48, .inl w_12.2.2.2))]) [1, 0, 2] (by decide) rfl
        exact hret _ _ _ _ dX0_takeOut_69 hP hD hS
      replace h := hm_18
      refine lv_icmp_le (tgt := 69) hx hb dX0_takeOut_49 (by decide) (fun c_11 => ?_) (fun c_11 => ?_)
      · have h := og_ite_t c_11 h
        obtain rfl := Option.some.inj h
        exact J _ _ _ hP hD hS (lv_sub hl [] rfl)
      · have h := og_ite_f c_11 h
        refine lv_aload_n hx hb dX0_takeOut_52 rfl (lv_at hl 1 rfl) ?_
        refine lv_iload_n hx hb dX0_takeOut_53 rfl (lv_at hl 0 rfl) ?_
        obtain ⟨u_13, hc_14, h⟩ := obd_e h
        refine Gci (wr := []) (va_runV (As := [.int u_9]) (rest := []) ⟨hx, hb, hml, hown, hts⟩ (tX0_keysIn l dC dI cyI cyJ cyZ cyO H.size h_th h_keys h_marks v_th_bits (.int size) (.int splits) (.int joins) (keyCount - (1 : Int32)) markCount u_6.2 marks u_9 u_13 hc_14) (cwV 1 hts gX0_takeOut_X0_keysIn rfl rfl rfl (by decide +kernel) ⟨Nat.le_of_ble_eq_true rfl, Nat.le_of_ble_eq_true rfl⟩) (GpreV hP hD hK hN [1, 0, 2] rfl (by decide) 0 0 rfl rfl rfl) rfl rfl hl.1 rfl (lv_room (Nat.le_of_ble_eq_true rfl)) dX0_takeOut_54 ⟨Nat.zero_le _, Nat.zero_le _⟩) hP hD hS hA [1, 0, 2] [] rfl rfl (by decide) (by decide) (fun H locs hP hD hS => ?_)
        have hP : va_P (dC, dI) vwCl [(h_th, .inr (0, [.ref h_keys, .ref h_marks, v_th_bits, .int size, .int (keyCount - (1 : Int32)), .int markCount, .int splits, .int joins])), (h_keys, .inl (cyI, 96, .inl u_6.2)), (h_marks, .inl (cyI, 48, .inl marks))] H := hP
        have hD : va_D A [(h_th, .inr (0, [.ref h_keys, .ref h_marks, v_th_bits, .int size, .int (keyCount - (1 : Int32)), .int markCount, .int splits, .int joins])), (h_keys, .inl (cyI, 96, .inl u_6.2)), (h_marks, .inl (cyI, 48, .inl marks))] := hD
        refine lv_aload_n hx hb dX0_takeOut_57 rfl (lv_at hl 1 rfl) ?_
        refine va_get (D := (dC, dI)) (ci := 0) (v := .int size) (C := RX0) (T := TX0) (N := 8) hx hb hts (fun _ hw => List.mem_cons_of_mem _ (List.mem_append_right _ hw)) hown hK hP 0 rfl rfl 3 (by decide) (hts (.fieldLink RX0 26 "PrefixIndex$Buckets" "size" "I") (List.mem_of_getElem? (i := 4) rfl)) (fun _ h9 => h9) rfl dX0_takeOut_58 ?_
        refine lv_icmp_ge (tgt := 69) hx hb dX0_takeOut_61 (by decide) (fun c_15 => ?_) (fun c_15 => ?_)
        · have h := og_ite_t c_15 h
          obtain rfl := Option.some.inj h
          have hP := hP.sub (ws' := [(h_keys, .inl (cyI, 96, .inl u_6.2)), (h_th, .inr (0, [.ref h_keys, .ref h_marks, v_th_bits, .int size, .int (keyCount - (1 : Int32)), .int markCount, .int splits, .int joins])), (h_marks, .inl (cyI, 48, .inl marks))]) [1, 0, 2] rfl
          have hD := hD.sub (ws' := [(h_keys, .inl (cyI, 96, .inl u_6.2)), (h_th, .inr (0, [.ref h_keys, .ref h_marks, v_th_bits, .int size, .int (keyCount - (1 : Int32)), .int markCount, .int splits, .int joins])), (h_marks, .inl (cyI, 48, .inl marks))]) [1, 0, 2] (by decide) rfl
          exact J _ _ _ hP hD hS (lv_sub hl [] rfl)
        · have h := og_ite_f c_15 h
          refine lv_aload_n hx hb dX0_takeOut_64 rfl (lv_at hl 1 rfl) ?_
          refine lv_iload_n hx hb dX0_takeOut_65 rfl (lv_at hl 0 rfl) ?_
          obtain ⟨u_16, hc_17, h⟩ := obd_e h
          refine Gcv (wr := []) (va_runV (As := [.int u_9]) (rest := []) ⟨hx, hb, hml, hown, hts⟩ (tX0_unite l dC dI cyI cyJ cyZ cyO H.size h_th h_keys h_marks v_th_bits size (keyCount - (1 : Int32)) markCount splits joins u_6.2 marks u_9 u_16 hc_17) (cwV 1 hts gX0_takeOut_X0_unite rfl rfl rfl (by decide +kernel) ⟨Nat.le_of_ble_eq_true rfl, Nat.le_of_ble_eq_true rfl⟩) (GpreV hP hD hK hN [0, 1, 2] rfl (by decide) 0 0 rfl rfl rfl) rfl rfl hl.1 rfl (lv_room (Nat.le_of_ble_eq_true rfl)) dX0_takeOut_66 ⟨Nat.zero_le _, Nat.zero_le _⟩) hP hD hS hA [0, 1, 2] [] rfl rfl (by decide) (by decide) (fun H locs hP hD hS => ?_)
          have hP : va_P (dC, dI) vwCl [(h_th, .inr (0, [.ref h_keys, .ref h_marks, v_th_bits, .int size, .int (keyCount - (1 : Int32)), .int u_16.1, .int u_16.2.1, .int u_16.2.2.1])), (h_keys, .inl (cyI, 96, .inl u_6.2)), (h_marks, .inl (cyI, 48, .inl u_16.2.2.2))] H := hP
          have hD : va_D A [(h_th, .inr (0, [.ref h_keys, .ref h_marks, v_th_bits, .int size, .int (keyCount - (1 : Int32)), .int u_16.1, .int u_16.2.1, .int u_16.2.2.1])), (h_keys, .inl (cyI, 96, .inl u_6.2)), (h_marks, .inl (cyI, 48, .inl u_16.2.2.2))] := hD
          obtain rfl := Option.some.inj h
          have hP := hP.sub (ws' := [(h_keys, .inl (cyI, 96, .inl u_6.2)), (h_th, .inr (0, [.ref h_keys, .ref h_marks, v_th_bits, .int size, .int (keyCount - (1 : Int32)), .int u_16.1, .int u_16.2.1, .int u_16.2.2.1])), (h_marks, .inl (cyI, 48, .inl u_16.2.2.2))]) [1, 0, 2] rfl
          have hD := hD.sub (ws' := [(h_keys, .inl (cyI, 96, .inl u_6.2)), (h_th, .inr (0, [.ref h_keys, .ref h_marks, v_th_bits, .int size, .int (keyCount - (1 : Int32)), .int u_16.1, .int u_16.2.1, .int u_16.2.2.1])), (h_marks, .inl (cyI, 48, .inl u_16.2.2.2))]) [1, 0, 2] (by decide) rfl
          exact J _ _ _ hP hD hS (lv_sub hl [] rfl)
    · have h := og_ite_t c_8 h
      obtain rfl := Option.some.inj h
      have hP := hP.sub (ws' := [(h_th, .inr (0, [.ref h_keys, .ref h_marks, v_th_bits, .int size, .int keyCount, .int markCount, .int splits, .int joins])), (h_keys, .inl (cyI, 96, .inl u_6.2)), (h_marks, .inl (cyI, 48, .inl marks))]) [1, 2, 0] rfl
      have hD := hD.sub (ws' := [(h_th, .inr (0, [.ref h_keys, .ref h_marks, v_th_bits, .int size, .int keyCount, .int markCount, .int splits, .int joins])), (h_keys, .inl (cyI, 96, .inl u_6.2)), (h_marks, .inl (cyI, 48, .inl marks))]) [1, 2, 0] (by decide) rfl
      exact hret _ _ _ _ dX0_takeOut_27 hP hD hS

def lpX0_takeOutAll_17 (q1 : Int32) (q3 : Int32) (size : Int32) : Nat → Int32 → Int32 → Int32 → Int32 → Int32 → (Nat → Int32) → (Nat → Int32) → Option (Int32 × Int32 × Int32 × Int32 × Int32 × (Nat → Int32) × (Nat → Int32))
  | 0, _, _, _, _, _, _, _ => none
  | n + 1, m4, zkeyCount, zmarkCount, zsplits, zjoins, zkeys, zmarks => if q3 ≤ m4 then (some (m4, zkeyCount, zmarkCount, zsplits, zjoins, zkeys, zmarks)) else (obd (fX0_rankOf zkeyCount zkeys q1) fun u_7 => obd (fX0_keyAt zkeyCount zkeys u_7) fun u_9 => obd (fX0_takeOut size zkeyCount zmarkCount zsplits zjoins zkeys zmarks u_9) fun u_11 => lpX0_takeOutAll_17 q1 q3 size n (m4 + (1 : Int32)) u_11.1 u_11.2.1 u_11.2.2.1 u_11.2.2.2.1 u_11.2.2.2.2.1 u_11.2.2.2.2.2)

def fX0_takeOutAll (size : Int32) (keyCount : Int32) (markCount : Int32) (splits : Int32) (joins : Int32) (keys : (Nat → Int32)) (marks : (Nat → Int32)) (x0 : Int32) (x1 : Int32) : Option (Int32 × Int32 × Int32 × Int32 × (Nat → Int32) × (Nat → Int32)) := obd (fX0_rankOf keyCount keys (x1 + (1 : Int32))) fun u_1 => obd (fX0_rankOf keyCount keys x0) fun u_3 => obd (lpX0_takeOutAll_17 x0 (u_1 - u_3) size 100000 (0 : Int32) keyCount markCount splits joins keys marks) fun w_20 => some (w_20.2.1, w_20.2.2.1, w_20.2.2.2.1, w_20.2.2.2.2.1, w_20.2.2.2.2.2.1, w_20.2.2.2.2.2.2)

set_option maxHeartbeats 4000000 in
set_option maxRecDepth 100000 in
theorem tX0_takeOutAll (l : Launch) (dC : Nat → ClassId) (dI : Nat → Nat → Nat) (cyI cyJ cyZ cyO : ClassId) (sz : Nat) (h_th h_keys h_marks : Nat) (v_th_bits : Value) (size : Int32) (keyCount : Int32) (markCount : Int32) (splits : Int32) (joins : Int32) (keys : (Nat → Int32)) (marks : (Nat → Int32)) (x0 : Int32) (x1 : Int32) (u : Int32 × Int32 × Int32 × Int32 × (Nat → Int32) × (Nat → Int32)) (hf : fX0_takeOutAll size keyCount markCount splits joins keys marks x0 x1 = some u) : Met l yX0_takeOutAll wsX0_takeOutAll ({ frames := 5, cells := 0, slots := 0, locals := 115 }) (va_Pc [.ref h_th, .int x0, .int x1] (GP (dC, dI) (T4 cyI cyJ cyZ cyO) sz [(h_th, .inr (0, [.ref h_keys, .ref h_marks, v_th_bits, .int size, .int keyCount, .int markCount, .int splits, .int joins])), (h_keys, .inl (cyI, 96, .inl keys)), (h_marks, .inl (cyI, 48, .inl marks))])) (va_Qv (fun (_ : Unit) => True) (GB (dC, dI) [(h_th, .inr (0, [.ref h_keys, .ref h_marks, v_th_bits, .int size, .int u.1, .int u.2.1, .int u.2.2.1, .int u.2.2.2.1])), (h_keys, .inl (cyI, 96, .inl u.2.2.2.2.1)), (h_marks, .inl (cyI, 48, .inl u.2.2.2.2.2))] (va_A [(h_th, .inr (0, [.ref h_keys, .ref h_marks, v_th_bits, .int size, .int keyCount, .int markCount, .int splits, .int joins])), (h_keys, .inl (cyI, 96, .inl keys)), (h_marks, .inl (cyI, 48, .inl marks))] sz)) (va_A [(h_th, .inr (0, [.ref h_keys, .ref h_marks, v_th_bits, .int size, .int keyCount, .int markCount, .int splits, .int joins])), (h_keys, .inl (cyI, 96, .inl keys)), (h_marks, .inl (cyI, 48, .inl marks))] sz)) 0 0 (va_A [(h_th, .inr (0, [.ref h_keys, .ref h_marks, v_th_bits, .int size, .int keyCount, .int markCount, .int splits, .int joins])), (h_keys, .inl (cyI, 96, .inl keys)), (h_marks, .inl (cyI, 48, .inl marks))] sz) := by
  refine GMetV (by decide) rfl (Nat.le_of_ble_eq_true rfl) ?_
  intro p e s m args below meth c A Q ls hx hb hml hts hown hN hK hA hret hP hD hS hl
  have h := hf
  clear hf
  unfold fX0_takeOutAll at h
  have hown : s.vm.findClass RX0 = some m.cls := hown
  have hl : lv_has ls 5 [(0, .ref h_th), (1, .int x0), (2, .int x1)] := hl
  refine lv_aload_n hx hb dX0_takeOutAll_0 rfl (lv_at hl 0 rfl) ?_
  refine lv_iload_n hx hb dX0_takeOutAll_1 rfl (lv_at hl 2 rfl) ?_
  refine lv_iconst (v := 1) hx hb dX0_takeOutAll_2 (by decide) ?_
  refine lv_iadd hx hb dX0_takeOutAll_3 ?_
  obtain ⟨u_1, hc_2, h⟩ := obd_e h
  refine Gci (wr := [(h_marks, .inl (cyI, 48, .inl marks))]) (va_runV (As := [.int (x1 + (1 : Int32))]) (rest := []) ⟨hx, hb, hml, hown, hts⟩ (tX0_rankOf l dC dI cyI cyJ cyZ cyO s.heap.size h_th h_keys (.ref h_marks) v_th_bits (.int size) (.int markCount) (.int splits) (.int joins) keyCount keys (x1 + (1 : Int32)) u_1 hc_2) (cwV 1 hts gX0_takeOutAll_X0_rankOf rfl rfl rfl (by decide +kernel) ⟨Nat.le_of_ble_eq_true rfl, Nat.le_of_ble_eq_true rfl⟩) (GpreV hP hD hK hN [0, 1] rfl (by decide) 0 0 rfl rfl rfl) rfl rfl hl.1 rfl (lv_room (Nat.le_of_ble_eq_true rfl)) dX0_takeOutAll_4 ⟨Nat.zero_le _, Nat.zero_le _⟩) hP hD hS hA [0, 1] [2] rfl rfl (by decide) (by decide) (fun H locs hP hD hS => ?_)
  have hP : va_P (dC, dI) vwCl [(h_marks, .inl (cyI, 48, .inl marks)), (h_th, .inr (0, [.ref h_keys, .ref h_marks, v_th_bits, .int size, .int keyCount, .int markCount, .int splits, .int joins])), (h_keys, .inl (cyI, 96, .inl keys))] H := hP
  have hD : va_D A [(h_marks, .inl (cyI, 48, .inl marks)), (h_th, .inr (0, [.ref h_keys, .ref h_marks, v_th_bits, .int size, .int keyCount, .int markCount, .int splits, .int joins])), (h_keys, .inl (cyI, 96, .inl keys))] := hD
  refine lv_aload_n hx hb dX0_takeOutAll_7 rfl (lv_at hl 0 rfl) ?_
  refine lv_iload_n hx hb dX0_takeOutAll_8 rfl (lv_at hl 1 rfl) ?_
  obtain ⟨u_3, hc_4, h⟩ := obd_e h
  refine Gci (wr := [(h_marks, .inl (cyI, 48, .inl marks))]) (va_runV (As := [.int x0]) (rest := [.int u_1]) ⟨hx, hb, hml, hown, hts⟩ (tX0_rankOf l dC dI cyI cyJ cyZ cyO H.size h_th h_keys (.ref h_marks) v_th_bits (.int size) (.int markCount) (.int splits) (.int joins) keyCount keys x0 u_3 hc_4) (cwV 1 hts gX0_takeOutAll_X0_rankOf rfl rfl rfl (by decide +kernel) ⟨Nat.le_of_ble_eq_true rfl, Nat.le_of_ble_eq_true rfl⟩) (GpreV hP hD hK hN [1, 2] rfl (by decide) 0 0 rfl rfl rfl) rfl rfl hl.1 rfl (lv_room (Nat.le_of_ble_eq_true rfl)) dX0_takeOutAll_9 ⟨Nat.zero_le _, Nat.zero_le _⟩) hP hD hS hA [1, 2] [0] rfl rfl (by decide) (by decide) (fun H locs hP hD hS => ?_)
  have hP : va_P (dC, dI) vwCl [(h_marks, .inl (cyI, 48, .inl marks)), (h_th, .inr (0, [.ref h_keys, .ref h_marks, v_th_bits, .int size, .int keyCount, .int markCount, .int splits, .int joins])), (h_keys, .inl (cyI, 96, .inl keys))] H := hP
  have hD : va_D A [(h_marks, .inl (cyI, 48, .inl marks)), (h_th, .inr (0, [.ref h_keys, .ref h_marks, v_th_bits, .int size, .int keyCount, .int markCount, .int splits, .int joins])), (h_keys, .inl (cyI, 96, .inl keys))] := hD
  refine lv_isub hx hb dX0_takeOutAll_12 ?_
  refine lv_istore_n (lv' := [(3, .int (u_1 - u_3)), (0, .ref h_th), (1, .int x0), (2, .int x1)]) hx hb dX0_takeOutAll_13 rfl hl (by decide) rfl (fun ls hl => ?_)
  refine lv_iconst (v := 0) hx hb dX0_takeOutAll_14 (by decide) ?_
  refine lv_istore (lv' := [(4, .int (0 : Int32)), (3, .int (u_1 - u_3)), (0, .ref h_th), (1, .int x0), (2, .int x1)]) hx hb dX0_takeOutAll_15 hl (by decide) rfl (fun ls hl => ?_)
  obtain ⟨w_20, hw_21, h⟩ := obd_e h
  have J : ∀ (H : Heap) (locs : List Loc) (ls : Array Slot), va_P (dC, dI) vwCl [(h_marks, .inl (cyI, 48, .inl w_20.2.2.2.2.2.2)), (h_th, .inr (0, [.ref h_keys, .ref h_marks, v_th_bits, .int size, .int w_20.2.1, .int w_20.2.2.1, .int w_20.2.2.2.1, .int w_20.2.2.2.2.1])), (h_keys, .inl (cyI, 96, .inl w_20.2.2.2.2.2.1))] H → va_D A [(h_marks, .inl (cyI, 48, .inl w_20.2.2.2.2.2.2)), (h_th, .inr (0, [.ref h_keys, .ref h_marks, v_th_bits, .int size, .int w_20.2.1, .int w_20.2.2.1, .int w_20.2.2.2.1, .int w_20.2.2.2.2.1])), (h_keys, .inl (cyI, 96, .inl w_20.2.2.2.2.2.1))] → va_S A s.heap H locs → lv_has ls 5 [] → W p l e ({ frames := 5, cells := 0, slots := 0, locals := 115 }) s m args below meth c H locs 0 0 Q (F0 m 42 ls []) := by
    intro H locs ls hP hD hS hl
    obtain rfl := Option.some.inj h
    have hP := hP.sub (ws' := [(h_th, .inr (0, [.ref h_keys, .ref h_marks, v_th_bits, .int size, .int w_20.2.1, .int w_20.2.2.1, .int w_20.2.2.2.1, .int w_20.2.2.2.2.1])), (h_keys, .inl (cyI, 96, .inl w_20.2.2.2.2.2.1)), (h_marks, .inl (cyI, 48, .inl w_20.2.2.2.2.2.2))]) [1, 2, 0] rfl
    have hD := hD.sub (ws' := [(h_th, .inr (0, [.ref h_keys, .ref h_marks, v_th_bits, .int size, .int w_20.2.1, .int w_20.2.2.1, .int w_20.2.2.2.1, .int w_20.2.2.2.2.1])), (h_keys, .inl (cyI, 96, .inl w_20.2.2.2.2.2.1)), (h_marks, .inl (cyI, 48, .inl w_20.2.2.2.2.2.2))]) [1, 2, 0] (by decide) rfl
    exact hret _ _ _ _ dX0_takeOutAll_42 hP hD hS
  have LL : ∀ (n : Nat) (m4 : Int32) (zkeyCount : Int32) (zmarkCount : Int32) (zsplits : Int32) (zjoins : Int32) (zkeys : (Nat → Int32)) (zmarks : (Nat → Int32)) (H : Heap) (locs : List Loc) (ls : Array Slot), lpX0_takeOutAll_17 x0 (u_1 - u_3) size n m4 zkeyCount zmarkCount zsplits zjoins zkeys zmarks = some w_20 → va_P (dC, dI) vwCl [(h_marks, .inl (cyI, 48, .inl zmarks)), (h_th, .inr (0, [.ref h_keys, .ref h_marks, v_th_bits, .int size, .int zkeyCount, .int zmarkCount, .int zsplits, .int zjoins])), (h_keys, .inl (cyI, 96, .inl zkeys))] H → va_D A [(h_marks, .inl (cyI, 48, .inl zmarks)), (h_th, .inr (0, [.ref h_keys, .ref h_marks, v_th_bits, .int size, .int zkeyCount, .int zmarkCount, .int zsplits, .int zjoins])), (h_keys, .inl (cyI, 96, .inl zkeys))] → va_S A s.heap H locs → lv_has ls 5 [(0, .ref h_th), (1, .int x0), (3, .int (u_1 - u_3)), (4, .int m4)] → W p l e ({ frames := 5, cells := 0, slots := 0, locals := 115 }) s m args below meth c H locs 0 0 Q (F0 m 17 ls []) := by
    intro n
    induction n with
    | zero =>
      intro m4 zkeyCount zmarkCount zsplits zjoins zkeys zmarks H locs ls h
      exact absurd h (by rw [lpX0_takeOutAll_17]; exact fun q => by cases q)
    | succ n ih =>
      intro m4 zkeyCount zmarkCount zsplits zjoins zkeys zmarks H locs ls h hP hD hS hl
      rw [lpX0_takeOutAll_17] at h
      refine lv_iload hx hb dX0_takeOutAll_17 (lv_at hl 3 rfl) ?_
      refine lv_iload_n hx hb dX0_takeOutAll_19 rfl (lv_at hl 2 rfl) ?_
      refine lv_icmp_ge (tgt := 42) hx hb dX0_takeOutAll_20 (by decide) (fun c_13 => ?_) (fun c_13 => ?_)
      · have h := og_ite_t c_13 h
        obtain rfl := Option.some.inj h
        exact J _ _ _ hP hD hS (lv_sub hl [] rfl)
      · have h := og_ite_f c_13 h
        refine lv_aload_n hx hb dX0_takeOutAll_23 rfl (lv_at hl 0 rfl) ?_
        refine lv_aload_n hx hb dX0_takeOutAll_24 rfl (lv_at hl 0 rfl) ?_
        refine lv_aload_n hx hb dX0_takeOutAll_25 rfl (lv_at hl 0 rfl) ?_
        refine lv_iload_n hx hb dX0_takeOutAll_26 rfl (lv_at hl 1 rfl) ?_
        obtain ⟨u_14, hc_15, h⟩ := obd_e h
        refine Gci (wr := [(h_marks, .inl (cyI, 48, .inl zmarks))]) (va_runV (As := [.int x0]) (rest := [.ref h_th, .ref h_th]) ⟨hx, hb, hml, hown, hts⟩ (tX0_rankOf l dC dI cyI cyJ cyZ cyO H.size h_th h_keys (.ref h_marks) v_th_bits (.int size) (.int zmarkCount) (.int zsplits) (.int zjoins) zkeyCount zkeys x0 u_14 hc_15) (cwV 1 hts gX0_takeOutAll_X0_rankOf rfl rfl rfl (by decide +kernel) ⟨Nat.le_of_ble_eq_true rfl, Nat.le_of_ble_eq_true rfl⟩) (GpreV hP hD hK hN [1, 2] rfl (by decide) 0 0 rfl rfl rfl) rfl rfl hl.1 rfl (lv_room (Nat.le_of_ble_eq_true rfl)) dX0_takeOutAll_27 ⟨Nat.zero_le _, Nat.zero_le _⟩) hP hD hS hA [1, 2] [0] rfl rfl (by decide) (by decide) (fun H locs hP hD hS => ?_)
        have hP : va_P (dC, dI) vwCl [(h_marks, .inl (cyI, 48, .inl zmarks)), (h_th, .inr (0, [.ref h_keys, .ref h_marks, v_th_bits, .int size, .int zkeyCount, .int zmarkCount, .int zsplits, .int zjoins])), (h_keys, .inl (cyI, 96, .inl zkeys))] H := hP
        have hD : va_D A [(h_marks, .inl (cyI, 48, .inl zmarks)), (h_th, .inr (0, [.ref h_keys, .ref h_marks, v_th_bits, .int size, .int zkeyCount, .int zmarkCount, .int zsplits, .int zjoins])), (h_keys, .inl (cyI, 96, .inl zkeys))] := hD
        obtain ⟨u_16, hc_17, h⟩ := obd_e h
        refine Gci (wr := [(h_marks, .inl (cyI, 48, .inl zmarks))]) (va_runV (As := [.int u_14]) (rest := [.ref h_th]) ⟨hx, hb, hml, hown, hts⟩ (tX0_keyAt l dC dI cyI cyJ cyZ cyO H.size h_th h_keys (.ref h_marks) v_th_bits (.int size) (.int zmarkCount) (.int zsplits) (.int zjoins) zkeyCount zkeys u_14 u_16 hc_17) (cwV 1 hts gX0_takeOutAll_X0_keyAt rfl rfl rfl (by decide +kernel) ⟨Nat.le_of_ble_eq_true rfl, Nat.le_of_ble_eq_true rfl⟩) (GpreV hP hD hK hN [1, 2] rfl (by decide) 0 0 rfl rfl rfl) rfl rfl hl.1 rfl (lv_room (Nat.le_of_ble_eq_true rfl)) dX0_takeOutAll_30 ⟨Nat.zero_le _, Nat.zero_le _⟩) hP hD hS hA [1, 2] [0] rfl rfl (by decide) (by decide) (fun H locs hP hD hS => ?_)
        have hP : va_P (dC, dI) vwCl [(h_marks, .inl (cyI, 48, .inl zmarks)), (h_th, .inr (0, [.ref h_keys, .ref h_marks, v_th_bits, .int size, .int zkeyCount, .int zmarkCount, .int zsplits, .int zjoins])), (h_keys, .inl (cyI, 96, .inl zkeys))] H := hP
        have hD : va_D A [(h_marks, .inl (cyI, 48, .inl zmarks)), (h_th, .inr (0, [.ref h_keys, .ref h_marks, v_th_bits, .int size, .int zkeyCount, .int zmarkCount, .int zsplits, .int zjoins])), (h_keys, .inl (cyI, 96, .inl zkeys))] := hD
        obtain ⟨u_18, hc_19, h⟩ := obd_e h
        refine Gcv (wr := []) (va_runV (As := [.int u_16]) (rest := []) ⟨hx, hb, hml, hown, hts⟩ (tX0_takeOut l dC dI cyI cyJ cyZ cyO H.size h_th h_keys h_marks v_th_bits size zkeyCount zmarkCount zsplits zjoins zkeys zmarks u_16 u_18 hc_19) (cwV 1 hts gX0_takeOutAll_X0_takeOut rfl rfl rfl (by decide +kernel) ⟨Nat.le_of_ble_eq_true rfl, Nat.le_of_ble_eq_true rfl⟩) (GpreV hP hD hK hN [1, 2, 0] rfl (by decide) 0 0 rfl rfl rfl) rfl rfl hl.1 rfl (lv_room (Nat.le_of_ble_eq_true rfl)) dX0_takeOutAll_33 ⟨Nat.zero_le _, Nat.zero_le _⟩) hP hD hS hA [1, 2, 0] [] rfl rfl (by decide) (by decide) (fun H locs hP hD hS => ?_)
        have hP : va_P (dC, dI) vwCl [(h_th, .inr (0, [.ref h_keys, .ref h_marks, v_th_bits, .int size, .int u_18.1, .int u_18.2.1, .int u_18.2.2.1, .int u_18.2.2.2.1])), (h_keys, .inl (cyI, 96, .inl u_18.2.2.2.2.1)), (h_marks, .inl (cyI, 48, .inl u_18.2.2.2.2.2))] H := hP
        have hD : va_D A [(h_th, .inr (0, [.ref h_keys, .ref h_marks, v_th_bits, .int size, .int u_18.1, .int u_18.2.1, .int u_18.2.2.1, .int u_18.2.2.2.1])), (h_keys, .inl (cyI, 96, .inl u_18.2.2.2.2.1)), (h_marks, .inl (cyI, 48, .inl u_18.2.2.2.2.2))] := hD
        refine lv_iinc (v := m4 + (1 : Int32)) (lv' := [(4, .int (m4 + (1 : Int32))), (0, .ref h_th), (1, .int x0), (3, .int (u_1 - u_3))]) hx hb dX0_takeOutAll_36 hl (k := 3) rfl rfl (by decide) rfl (fun ls hl => ?_)
        refine lv_goto (tgt := 17) hx hb dX0_takeOutAll_39 (by decide) ?_
        have hP := hP.sub (ws' := [(h_marks, .inl (cyI, 48, .inl u_18.2.2.2.2.2)), (h_th, .inr (0, [.ref h_keys, .ref h_marks, v_th_bits, .int size, .int u_18.1, .int u_18.2.1, .int u_18.2.2.1, .int u_18.2.2.2.1])), (h_keys, .inl (cyI, 96, .inl u_18.2.2.2.2.1))]) [2, 0, 1] rfl
        have hD := hD.sub (ws' := [(h_marks, .inl (cyI, 48, .inl u_18.2.2.2.2.2)), (h_th, .inr (0, [.ref h_keys, .ref h_marks, v_th_bits, .int size, .int u_18.1, .int u_18.2.1, .int u_18.2.2.1, .int u_18.2.2.2.1])), (h_keys, .inl (cyI, 96, .inl u_18.2.2.2.2.1))]) [2, 0, 1] (by decide) rfl
        exact ih (m4 + (1 : Int32)) u_18.1 u_18.2.1 u_18.2.2.1 u_18.2.2.2.1 u_18.2.2.2.2.1 u_18.2.2.2.2.2 _ _ _ h hP hD hS (lv_sub hl [1, 2, 3, 0] rfl)
  exact LL _ (0 : Int32) keyCount markCount splits joins keys marks _ _ _ hw_21 hP hD hS (lv_sub hl [2, 3, 1, 0] rfl)

def fX0_beginningOf (bits : Int32) (x0 : Int32) (x1 : Int32) : Option (Int32) := some (x0 >>> ((bits - x1) &&& 31))

set_option maxHeartbeats 4000000 in
set_option maxRecDepth 100000 in
theorem tX0_beginningOf (l : Launch) (dC : Nat → ClassId) (dI : Nat → Nat → Nat) (cyI cyJ cyZ cyO : ClassId) (sz : Nat) (h_th : Nat) (v_th_keys : Value) (v_th_marks : Value) (v_th_size : Value) (v_th_keyCount : Value) (v_th_markCount : Value) (v_th_splits : Value) (v_th_joins : Value) (bits : Int32) (x0 : Int32) (x1 : Int32) (u : Int32) (hf : fX0_beginningOf bits x0 x1 = some u) : Met l yX0_beginningOf wsX0_beginningOf ({ frames := 0, cells := 0, slots := 0, locals := 0 }) (va_Pc [.ref h_th, .int x0, .int x1] (GP (dC, dI) (T4 cyI cyJ cyZ cyO) sz [(h_th, .inr (0, [v_th_keys, v_th_marks, .int bits, v_th_size, v_th_keyCount, v_th_markCount, v_th_splits, v_th_joins]))])) (va_Qi (fun (r : Int32) (_ : Unit) => r = u) (GB (dC, dI) [(h_th, .inr (0, [v_th_keys, v_th_marks, .int bits, v_th_size, v_th_keyCount, v_th_markCount, v_th_splits, v_th_joins]))] (va_A [(h_th, .inr (0, [v_th_keys, v_th_marks, .int bits, v_th_size, v_th_keyCount, v_th_markCount, v_th_splits, v_th_joins]))] sz)) (va_A [(h_th, .inr (0, [v_th_keys, v_th_marks, .int bits, v_th_size, v_th_keyCount, v_th_markCount, v_th_splits, v_th_joins]))] sz)) 0 0 (va_A [(h_th, .inr (0, [v_th_keys, v_th_marks, .int bits, v_th_size, v_th_keyCount, v_th_markCount, v_th_splits, v_th_joins]))] sz) := by
  refine GMetI (by decide) rfl (Nat.le_of_ble_eq_true rfl) ?_
  intro p e s m args below meth c A Q ls hx hb hml hts hown hN hK hA hret hP hD hS hl
  have h := hf
  clear hf
  unfold fX0_beginningOf at h
  have hown : s.vm.findClass RX0 = some m.cls := hown
  have hl : lv_has ls 3 [(0, .ref h_th), (1, .int x0), (2, .int x1)] := hl
  refine lv_iload_n hx hb dX0_beginningOf_0 rfl (lv_at hl 1 rfl) ?_
  refine lv_aload_n hx hb dX0_beginningOf_1 rfl (lv_at hl 0 rfl) ?_
  refine va_get (D := (dC, dI)) (ci := 0) (v := .int bits) (C := RX0) (T := TX0) (N := 8) hx hb hts (fun _ hw => List.mem_cons_of_mem _ (List.mem_append_right _ hw)) hown hK hP 0 rfl rfl 2 (by decide) (hts (.fieldLink RX0 22 "PrefixIndex$Buckets" "bits" "I") (List.mem_of_getElem? (i := 1) rfl)) (fun _ h9 => h9) rfl dX0_beginningOf_2 ?_
  refine lv_iload_n hx hb dX0_beginningOf_5 rfl (lv_at hl 2 rfl) ?_
  refine lv_isub hx hb dX0_beginningOf_6 ?_
  refine lv_ishr hx hb dX0_beginningOf_7 ?_
  obtain rfl := Option.some.inj h
  exact hret _ _ _ _ dX0_beginningOf_8 hP hD hS

def fX0_marksAhead (bits : Int32) (markCount : Int32) (marks : (Nat → Int32)) (x0 : Int32) (x1 : Int32) : Option (Int32) := obd (fX6_firstNotBelow 48 marks markCount (x1 <<< ((bits - x0) &&& 31))) fun u_1 => some u_1

set_option maxHeartbeats 4000000 in
set_option maxRecDepth 100000 in
theorem tX0_marksAhead (l : Launch) (dC : Nat → ClassId) (dI : Nat → Nat → Nat) (cyI cyJ cyZ cyO : ClassId) (sz : Nat) (h_th h_marks : Nat) (v_th_keys : Value) (v_th_size : Value) (v_th_keyCount : Value) (v_th_splits : Value) (v_th_joins : Value) (bits : Int32) (markCount : Int32) (marks : (Nat → Int32)) (x0 : Int32) (x1 : Int32) (u : Int32) (hf : fX0_marksAhead bits markCount marks x0 x1 = some u) : Met l yX0_marksAhead wsX0_marksAhead ({ frames := 1, cells := 0, slots := 0, locals := 26 }) (va_Pc [.ref h_th, .int x0, .int x1] (GP (dC, dI) (T4 cyI cyJ cyZ cyO) sz [(h_th, .inr (0, [v_th_keys, .ref h_marks, .int bits, v_th_size, v_th_keyCount, .int markCount, v_th_splits, v_th_joins])), (h_marks, .inl (cyI, 48, .inl marks))])) (va_Qi (fun (r : Int32) (_ : Unit) => r = u) (GB (dC, dI) [(h_th, .inr (0, [v_th_keys, .ref h_marks, .int bits, v_th_size, v_th_keyCount, .int markCount, v_th_splits, v_th_joins])), (h_marks, .inl (cyI, 48, .inl marks))] (va_A [(h_th, .inr (0, [v_th_keys, .ref h_marks, .int bits, v_th_size, v_th_keyCount, .int markCount, v_th_splits, v_th_joins])), (h_marks, .inl (cyI, 48, .inl marks))] sz)) (va_A [(h_th, .inr (0, [v_th_keys, .ref h_marks, .int bits, v_th_size, v_th_keyCount, .int markCount, v_th_splits, v_th_joins])), (h_marks, .inl (cyI, 48, .inl marks))] sz)) 0 0 (va_A [(h_th, .inr (0, [v_th_keys, .ref h_marks, .int bits, v_th_size, v_th_keyCount, .int markCount, v_th_splits, v_th_joins])), (h_marks, .inl (cyI, 48, .inl marks))] sz) := by
  refine GMetI (by decide) rfl (Nat.le_of_ble_eq_true rfl) ?_
  intro p e s m args below meth c A Q ls hx hb hml hts hown hN hK hA hret hP hD hS hl
  have h := hf
  clear hf
  unfold fX0_marksAhead at h
  have hown : s.vm.findClass RX0 = some m.cls := hown
  have hl : lv_has ls 3 [(0, .ref h_th), (1, .int x0), (2, .int x1)] := hl
  refine lv_aload_n hx hb dX0_marksAhead_0 rfl (lv_at hl 0 rfl) ?_
  refine va_get (D := (dC, dI)) (ci := 0) (v := .ref h_marks) (C := RX0) (T := TX0) (N := 8) hx hb hts (fun _ hw => List.mem_cons_of_mem _ (List.mem_append_right _ hw)) hown hK hP 0 rfl rfl 1 (by decide) (hts (.fieldLink RX0 15 "PrefixIndex$Buckets" "marks" "[I") (List.mem_of_getElem? (i := 1) rfl)) (fun _ h9 => h9) rfl dX0_marksAhead_1 ?_
  refine lv_aload_n hx hb dX0_marksAhead_4 rfl (lv_at hl 0 rfl) ?_
  refine va_get (D := (dC, dI)) (ci := 0) (v := .int markCount) (C := RX0) (T := TX0) (N := 8) hx hb hts (fun _ hw => List.mem_cons_of_mem _ (List.mem_append_right _ hw)) hown hK hP 0 rfl rfl 5 (by decide) (hts (.fieldLink RX0 32 "PrefixIndex$Buckets" "markCount" "I") (List.mem_of_getElem? (i := 2) rfl)) (fun _ h9 => h9) rfl dX0_marksAhead_5 ?_
  refine lv_iload_n hx hb dX0_marksAhead_8 rfl (lv_at hl 2 rfl) ?_
  refine lv_aload_n hx hb dX0_marksAhead_9 rfl (lv_at hl 0 rfl) ?_
  refine va_get (D := (dC, dI)) (ci := 0) (v := .int bits) (C := RX0) (T := TX0) (N := 8) hx hb hts (fun _ hw => List.mem_cons_of_mem _ (List.mem_append_right _ hw)) hown hK hP 0 rfl rfl 2 (by decide) (hts (.fieldLink RX0 22 "PrefixIndex$Buckets" "bits" "I") (List.mem_of_getElem? (i := 3) rfl)) (fun _ h9 => h9) rfl dX0_marksAhead_10 ?_
  refine lv_iload_n hx hb dX0_marksAhead_13 rfl (lv_at hl 1 rfl) ?_
  refine lv_isub hx hb dX0_marksAhead_14 ?_
  refine lv_ishl hx hb dX0_marksAhead_15 ?_
  obtain ⟨u_1, hc_2, h⟩ := obd_e h
  refine Gci (wr := [(h_th, .inr (0, [v_th_keys, .ref h_marks, .int bits, v_th_size, v_th_keyCount, .int markCount, v_th_splits, v_th_joins]))]) (va_runSN (As := [.ref h_marks, .int markCount, .int (x1 <<< ((bits - x0) &&& 31))]) (rest := []) ⟨hx, hb, hml, hown, hts⟩ (tX6_firstNotBelow l dC dI cyI cyJ cyZ cyO s.heap.size h_marks 48 marks markCount (x1 <<< ((bits - x0) &&& 31)) u_1 hc_2) ⟨va_cnB 3 hts gX0_marksAhead_X6_firstNotBelow_n49 rfl rfl rfl (hN.m 2 rfl) (hts (.initialized RX6) (List.mem_of_getElem? (i := 5) rfl)) (by decide +kernel) ⟨Nat.le_of_ble_eq_true rfl, Nat.le_of_ble_eq_true rfl⟩, (hts (.static yX6_firstNotBelow) (List.mem_of_getElem? (i := 4) rfl)), trivial⟩ (GpreS hP hD hK hN [1] rfl (by decide)) rfl rfl hl.1 rfl (lv_room (Nat.le_of_ble_eq_true rfl)) dX0_marksAhead_16 ⟨Nat.zero_le _, Nat.zero_le _⟩) hP hD hS hA [1] [0] rfl rfl (by decide) (by decide) (fun H locs hP hD hS => ?_)
  have hP : va_P (dC, dI) vwCl [(h_th, .inr (0, [v_th_keys, .ref h_marks, .int bits, v_th_size, v_th_keyCount, .int markCount, v_th_splits, v_th_joins])), (h_marks, .inl (cyI, 48, .inl marks))] H := hP
  have hD : va_D A [(h_th, .inr (0, [v_th_keys, .ref h_marks, .int bits, v_th_size, v_th_keyCount, .int markCount, v_th_splits, v_th_joins])), (h_marks, .inl (cyI, 48, .inl marks))] := hD
  obtain rfl := Option.some.inj h
  exact hret _ _ _ _ dX0_marksAhead_19 hP hD hS

def fX0_marksBehind (bits : Int32) (markCount : Int32) (marks : (Nat → Int32)) (x0 : Int32) (x1 : Int32) : Option (Int32) := obd (fX6_firstNotBelow 48 marks markCount ((x1 + (1 : Int32)) <<< ((bits - x0) &&& 31))) fun u_1 => some u_1

set_option maxHeartbeats 4000000 in
set_option maxRecDepth 100000 in
theorem tX0_marksBehind (l : Launch) (dC : Nat → ClassId) (dI : Nat → Nat → Nat) (cyI cyJ cyZ cyO : ClassId) (sz : Nat) (h_th h_marks : Nat) (v_th_keys : Value) (v_th_size : Value) (v_th_keyCount : Value) (v_th_splits : Value) (v_th_joins : Value) (bits : Int32) (markCount : Int32) (marks : (Nat → Int32)) (x0 : Int32) (x1 : Int32) (u : Int32) (hf : fX0_marksBehind bits markCount marks x0 x1 = some u) : Met l yX0_marksBehind wsX0_marksBehind ({ frames := 1, cells := 0, slots := 0, locals := 26 }) (va_Pc [.ref h_th, .int x0, .int x1] (GP (dC, dI) (T4 cyI cyJ cyZ cyO) sz [(h_th, .inr (0, [v_th_keys, .ref h_marks, .int bits, v_th_size, v_th_keyCount, .int markCount, v_th_splits, v_th_joins])), (h_marks, .inl (cyI, 48, .inl marks))])) (va_Qi (fun (r : Int32) (_ : Unit) => r = u) (GB (dC, dI) [(h_th, .inr (0, [v_th_keys, .ref h_marks, .int bits, v_th_size, v_th_keyCount, .int markCount, v_th_splits, v_th_joins])), (h_marks, .inl (cyI, 48, .inl marks))] (va_A [(h_th, .inr (0, [v_th_keys, .ref h_marks, .int bits, v_th_size, v_th_keyCount, .int markCount, v_th_splits, v_th_joins])), (h_marks, .inl (cyI, 48, .inl marks))] sz)) (va_A [(h_th, .inr (0, [v_th_keys, .ref h_marks, .int bits, v_th_size, v_th_keyCount, .int markCount, v_th_splits, v_th_joins])), (h_marks, .inl (cyI, 48, .inl marks))] sz)) 0 0 (va_A [(h_th, .inr (0, [v_th_keys, .ref h_marks, .int bits, v_th_size, v_th_keyCount, .int markCount, v_th_splits, v_th_joins])), (h_marks, .inl (cyI, 48, .inl marks))] sz) := by
  refine GMetI (by decide) rfl (Nat.le_of_ble_eq_true rfl) ?_
  intro p e s m args below meth c A Q ls hx hb hml hts hown hN hK hA hret hP hD hS hl
  have h := hf
  clear hf
  unfold fX0_marksBehind at h
  have hown : s.vm.findClass RX0 = some m.cls := hown
  have hl : lv_has ls 3 [(0, .ref h_th), (1, .int x0), (2, .int x1)] := hl
  refine lv_aload_n hx hb dX0_marksBehind_0 rfl (lv_at hl 0 rfl) ?_
  refine va_get (D := (dC, dI)) (ci := 0) (v := .ref h_marks) (C := RX0) (T := TX0) (N := 8) hx hb hts (fun _ hw => List.mem_cons_of_mem _ (List.mem_append_right _ hw)) hown hK hP 0 rfl rfl 1 (by decide) (hts (.fieldLink RX0 15 "PrefixIndex$Buckets" "marks" "[I") (List.mem_of_getElem? (i := 1) rfl)) (fun _ h9 => h9) rfl dX0_marksBehind_1 ?_
  refine lv_aload_n hx hb dX0_marksBehind_4 rfl (lv_at hl 0 rfl) ?_
  refine va_get (D := (dC, dI)) (ci := 0) (v := .int markCount) (C := RX0) (T := TX0) (N := 8) hx hb hts (fun _ hw => List.mem_cons_of_mem _ (List.mem_append_right _ hw)) hown hK hP 0 rfl rfl 5 (by decide) (hts (.fieldLink RX0 32 "PrefixIndex$Buckets" "markCount" "I") (List.mem_of_getElem? (i := 2) rfl)) (fun _ h9 => h9) rfl dX0_marksBehind_5 ?_
  refine lv_iload_n hx hb dX0_marksBehind_8 rfl (lv_at hl 2 rfl) ?_
  refine lv_iconst (v := 1) hx hb dX0_marksBehind_9 (by decide) ?_
  refine lv_iadd hx hb dX0_marksBehind_10 ?_
  refine lv_aload_n hx hb dX0_marksBehind_11 rfl (lv_at hl 0 rfl) ?_
  refine va_get (D := (dC, dI)) (ci := 0) (v := .int bits) (C := RX0) (T := TX0) (N := 8) hx hb hts (fun _ hw => List.mem_cons_of_mem _ (List.mem_append_right _ hw)) hown hK hP 0 rfl rfl 2 (by decide) (hts (.fieldLink RX0 22 "PrefixIndex$Buckets" "bits" "I") (List.mem_of_getElem? (i := 3) rfl)) (fun _ h9 => h9) rfl dX0_marksBehind_12 ?_
  refine lv_iload_n hx hb dX0_marksBehind_15 rfl (lv_at hl 1 rfl) ?_
  refine lv_isub hx hb dX0_marksBehind_16 ?_
  refine lv_ishl hx hb dX0_marksBehind_17 ?_
  obtain ⟨u_1, hc_2, h⟩ := obd_e h
  refine Gci (wr := [(h_th, .inr (0, [v_th_keys, .ref h_marks, .int bits, v_th_size, v_th_keyCount, .int markCount, v_th_splits, v_th_joins]))]) (va_runSN (As := [.ref h_marks, .int markCount, .int ((x1 + (1 : Int32)) <<< ((bits - x0) &&& 31))]) (rest := []) ⟨hx, hb, hml, hown, hts⟩ (tX6_firstNotBelow l dC dI cyI cyJ cyZ cyO s.heap.size h_marks 48 marks markCount ((x1 + (1 : Int32)) <<< ((bits - x0) &&& 31)) u_1 hc_2) ⟨va_cnB 3 hts gX0_marksBehind_X6_firstNotBelow_n49 rfl rfl rfl (hN.m 2 rfl) (hts (.initialized RX6) (List.mem_of_getElem? (i := 5) rfl)) (by decide +kernel) ⟨Nat.le_of_ble_eq_true rfl, Nat.le_of_ble_eq_true rfl⟩, (hts (.static yX6_firstNotBelow) (List.mem_of_getElem? (i := 4) rfl)), trivial⟩ (GpreS hP hD hK hN [1] rfl (by decide)) rfl rfl hl.1 rfl (lv_room (Nat.le_of_ble_eq_true rfl)) dX0_marksBehind_18 ⟨Nat.zero_le _, Nat.zero_le _⟩) hP hD hS hA [1] [0] rfl rfl (by decide) (by decide) (fun H locs hP hD hS => ?_)
  have hP : va_P (dC, dI) vwCl [(h_th, .inr (0, [v_th_keys, .ref h_marks, .int bits, v_th_size, v_th_keyCount, .int markCount, v_th_splits, v_th_joins])), (h_marks, .inl (cyI, 48, .inl marks))] H := hP
  have hD : va_D A [(h_th, .inr (0, [v_th_keys, .ref h_marks, .int bits, v_th_size, v_th_keyCount, .int markCount, v_th_splits, v_th_joins])), (h_marks, .inl (cyI, 48, .inl marks))] := hD
  obtain rfl := Option.some.inj h
  exact hret _ _ _ _ dX0_marksBehind_21 hP hD hS

def fX0_isBeginning (bits : Int32) (markCount : Int32) (marks : (Nat → Int32)) (x0 : Int32) (x1 : Int32) : Option (Int32) := obd (fX0_marksAhead bits markCount marks x0 x1) fun u_1 => obd (fX0_markAt markCount marks u_1) fun u_3 => obd (fX0_beginningOf bits u_3 x0) fun u_5 => olet (if u_5 = x1 then ((1 : Int32)) else ((0 : Int32))) fun y_8 => obl y_8 (some y_8)

set_option maxHeartbeats 4000000 in
set_option maxRecDepth 100000 in
theorem tX0_isBeginning (l : Launch) (dC : Nat → ClassId) (dI : Nat → Nat → Nat) (cyI cyJ cyZ cyO : ClassId) (sz : Nat) (h_th h_marks : Nat) (v_th_keys : Value) (v_th_size : Value) (v_th_keyCount : Value) (v_th_splits : Value) (v_th_joins : Value) (bits : Int32) (markCount : Int32) (marks : (Nat → Int32)) (x0 : Int32) (x1 : Int32) (u : Int32) (hf : fX0_isBeginning bits markCount marks x0 x1 = some u) : Met l yX0_isBeginning wsX0_isBeginning ({ frames := 2, cells := 0, slots := 0, locals := 48 }) (va_Pc [.ref h_th, .int x0, .int x1] (GP (dC, dI) (T4 cyI cyJ cyZ cyO) sz [(h_th, .inr (0, [v_th_keys, .ref h_marks, .int bits, v_th_size, v_th_keyCount, .int markCount, v_th_splits, v_th_joins])), (h_marks, .inl (cyI, 48, .inl marks))])) (va_Qi (fun (r : Int32) (_ : Unit) => r = u) (GB (dC, dI) [(h_th, .inr (0, [v_th_keys, .ref h_marks, .int bits, v_th_size, v_th_keyCount, .int markCount, v_th_splits, v_th_joins])), (h_marks, .inl (cyI, 48, .inl marks))] (va_A [(h_th, .inr (0, [v_th_keys, .ref h_marks, .int bits, v_th_size, v_th_keyCount, .int markCount, v_th_splits, v_th_joins])), (h_marks, .inl (cyI, 48, .inl marks))] sz)) (va_A [(h_th, .inr (0, [v_th_keys, .ref h_marks, .int bits, v_th_size, v_th_keyCount, .int markCount, v_th_splits, v_th_joins])), (h_marks, .inl (cyI, 48, .inl marks))] sz)) 0 0 (va_A [(h_th, .inr (0, [v_th_keys, .ref h_marks, .int bits, v_th_size, v_th_keyCount, .int markCount, v_th_splits, v_th_joins])), (h_marks, .inl (cyI, 48, .inl marks))] sz) := by
  refine GMetZ (by decide) rfl (Nat.le_of_ble_eq_true rfl) ?_
  intro p e s m args below meth c A Q ls hx hb hml hts hown hN hK hA hret hP hD hS hl
  have h := hf
  clear hf
  unfold fX0_isBeginning at h
  have hown : s.vm.findClass RX0 = some m.cls := hown
  have hl : lv_has ls 3 [(0, .ref h_th), (1, .int x0), (2, .int x1)] := hl
  refine lv_aload_n hx hb dX0_isBeginning_0 rfl (lv_at hl 0 rfl) ?_
  refine lv_aload_n hx hb dX0_isBeginning_1 rfl (lv_at hl 0 rfl) ?_
  refine lv_aload_n hx hb dX0_isBeginning_2 rfl (lv_at hl 0 rfl) ?_
  refine lv_iload_n hx hb dX0_isBeginning_3 rfl (lv_at hl 1 rfl) ?_
  refine lv_iload_n hx hb dX0_isBeginning_4 rfl (lv_at hl 2 rfl) ?_
  obtain ⟨u_1, hc_2, h⟩ := obd_e h
  refine Gci (wr := []) (va_runV (As := [.int x0, .int x1]) (rest := [.ref h_th, .ref h_th]) ⟨hx, hb, hml, hown, hts⟩ (tX0_marksAhead l dC dI cyI cyJ cyZ cyO s.heap.size h_th h_marks v_th_keys v_th_size v_th_keyCount v_th_splits v_th_joins bits markCount marks x0 x1 u_1 hc_2) (cwV 2 hts gX0_isBeginning_X0_marksAhead rfl rfl rfl (by decide +kernel) ⟨Nat.le_of_ble_eq_true rfl, Nat.le_of_ble_eq_true rfl⟩) (GpreV hP hD hK hN [0, 1] rfl (by decide) 0 0 rfl rfl rfl) rfl rfl hl.1 rfl (lv_room (Nat.le_of_ble_eq_true rfl)) dX0_isBeginning_5 ⟨Nat.zero_le _, Nat.zero_le _⟩) hP hD hS hA [0, 1] [] rfl rfl (by decide) (by decide) (fun H locs hP hD hS => ?_)
  have hP : va_P (dC, dI) vwCl [(h_th, .inr (0, [v_th_keys, .ref h_marks, .int bits, v_th_size, v_th_keyCount, .int markCount, v_th_splits, v_th_joins])), (h_marks, .inl (cyI, 48, .inl marks))] H := hP
  have hD : va_D A [(h_th, .inr (0, [v_th_keys, .ref h_marks, .int bits, v_th_size, v_th_keyCount, .int markCount, v_th_splits, v_th_joins])), (h_marks, .inl (cyI, 48, .inl marks))] := hD
  obtain ⟨u_3, hc_4, h⟩ := obd_e h
  refine Gci (wr := []) (va_runV (As := [.int u_1]) (rest := [.ref h_th]) ⟨hx, hb, hml, hown, hts⟩ (tX0_markAt l dC dI cyI cyJ cyZ cyO H.size h_th h_marks v_th_keys (.int bits) v_th_size v_th_keyCount v_th_splits v_th_joins markCount marks u_1 u_3 hc_4) (cwV 1 hts gX0_isBeginning_X0_markAt rfl rfl rfl (by decide +kernel) ⟨Nat.le_of_ble_eq_true rfl, Nat.le_of_ble_eq_true rfl⟩) (GpreV hP hD hK hN [0, 1] rfl (by decide) 0 0 rfl rfl rfl) rfl rfl hl.1 rfl (lv_room (Nat.le_of_ble_eq_true rfl)) dX0_isBeginning_8 ⟨Nat.zero_le _, Nat.zero_le _⟩) hP hD hS hA [0, 1] [] rfl rfl (by decide) (by decide) (fun H locs hP hD hS => ?_)
  have hP : va_P (dC, dI) vwCl [(h_th, .inr (0, [v_th_keys, .ref h_marks, .int bits, v_th_size, v_th_keyCount, .int markCount, v_th_splits, v_th_joins])), (h_marks, .inl (cyI, 48, .inl marks))] H := hP
  have hD : va_D A [(h_th, .inr (0, [v_th_keys, .ref h_marks, .int bits, v_th_size, v_th_keyCount, .int markCount, v_th_splits, v_th_joins])), (h_marks, .inl (cyI, 48, .inl marks))] := hD
  refine lv_iload_n hx hb dX0_isBeginning_11 rfl (lv_at hl 1 rfl) ?_
  obtain ⟨u_5, hc_6, h⟩ := obd_e h
  refine Gci (wr := [(h_marks, .inl (cyI, 48, .inl marks))]) (va_runV (As := [.int u_3, .int x0]) (rest := []) ⟨hx, hb, hml, hown, hts⟩ (tX0_beginningOf l dC dI cyI cyJ cyZ cyO H.size h_th v_th_keys (.ref h_marks) v_th_size v_th_keyCount (.int markCount) v_th_splits v_th_joins bits u_3 x0 u_5 hc_6) (cwV 2 hts gX0_isBeginning_X0_beginningOf rfl rfl rfl (by decide +kernel) ⟨Nat.le_of_ble_eq_true rfl, Nat.le_of_ble_eq_true rfl⟩) (GpreV hP hD hK hN [0] rfl (by decide) 0 0 rfl rfl rfl) rfl rfl hl.1 rfl (lv_room (Nat.le_of_ble_eq_true rfl)) dX0_isBeginning_12 ⟨Nat.zero_le _, Nat.zero_le _⟩) hP hD hS hA [0] [1] rfl rfl (by decide) (by decide) (fun H locs hP hD hS => ?_)
  have hP : va_P (dC, dI) vwCl [(h_marks, .inl (cyI, 48, .inl marks)), (h_th, .inr (0, [v_th_keys, .ref h_marks, .int bits, v_th_size, v_th_keyCount, .int markCount, v_th_splits, v_th_joins]))] H := hP
  have hD : va_D A [(h_marks, .inl (cyI, 48, .inl marks)), (h_th, .inr (0, [v_th_keys, .ref h_marks, .int bits, v_th_size, v_th_keyCount, .int markCount, v_th_splits, v_th_joins]))] := hD
  refine lv_iload_n hx hb dX0_isBeginning_15 rfl (lv_at hl 2 rfl) ?_
  obtain ⟨y_8, ey_8, h⟩ := olet_e h
  have J : ∀ (H : Heap) (locs : List Loc) (ls : Array Slot), va_P (dC, dI) vwCl [(h_marks, .inl (cyI, 48, .inl marks)), (h_th, .inr (0, [v_th_keys, .ref h_marks, .int bits, v_th_size, v_th_keyCount, .int markCount, v_th_splits, v_th_joins]))] H → va_D A [(h_marks, .inl (cyI, 48, .inl marks)), (h_th, .inr (0, [v_th_keys, .ref h_marks, .int bits, v_th_size, v_th_keyCount, .int markCount, v_th_splits, v_th_joins]))] → va_S A s.heap H locs → lv_has ls 3 [] → W p l e ({ frames := 2, cells := 0, slots := 0, locals := 48 }) s m args below meth c H locs 0 0 Q (F0 m 24 ls [.int y_8]) := by
    intro H locs ls hP hD hS hl
    obtain ⟨hz, h⟩ := obl_e h
    obtain rfl := Option.some.inj h
    have hP := hP.sub (ws' := [(h_th, .inr (0, [v_th_keys, .ref h_marks, .int bits, v_th_size, v_th_keyCount, .int markCount, v_th_splits, v_th_joins])), (h_marks, .inl (cyI, 48, .inl marks))]) [1, 0] rfl
    have hD := hD.sub (ws' := [(h_th, .inr (0, [v_th_keys, .ref h_marks, .int bits, v_th_size, v_th_keyCount, .int markCount, v_th_splits, v_th_joins])), (h_marks, .inl (cyI, 48, .inl marks))]) [1, 0] (by decide) rfl
    exact hret _ _ _ _ dX0_isBeginning_24 hz hP hD hS
  clear h
  refine lv_icmp_ne (tgt := 23) hx hb dX0_isBeginning_16 (by decide) (fun c_7 => ?_) (fun c_7 => ?_)
  · refine lv_iconst (v := 0) hx hb dX0_isBeginning_23 (by decide) ?_
    rw [if_neg c_7] at ey_8
    subst ey_8
    exact J H locs _ hP hD hS (lv_sub hl [] rfl)
  · refine lv_iconst (v := 1) hx hb dX0_isBeginning_19 (by decide) ?_
    refine lv_goto (tgt := 24) hx hb dX0_isBeginning_20 (by decide) ?_
    rw [if_pos c_7] at ey_8
    subst ey_8
    exact J H locs _ hP hD hS (lv_sub hl [] rfl)

def lpX0_beginnings_7 (q1 : Int32) (bits : Int32) (markCount : Int32) (marks : (Nat → Int32)) : Nat → Int32 → Int32 → Int32 → Option (Int32 × Int32 × Int32)
  | 0, _, _, _ => none
  | n + 1, m2, m3, m4 => if markCount ≤ m4 then (some (m2, m3, m4)) else (obd (fX0_markAt markCount marks m4) fun u_3 => obd (fX0_beginningOf bits u_3 q1) fun u_5 => olet (if u_5 = m3 then (m2) else (m2 + (1 : Int32))) fun y_8 => olet (if u_5 = m3 then (m3) else (u_5)) fun y_9 => lpX0_beginnings_7 q1 bits markCount marks n y_8 y_9 (m4 + (1 : Int32)))

def fX0_beginnings (bits : Int32) (markCount : Int32) (marks : (Nat → Int32)) (x0 : Int32) : Option (Int32) := obd (lpX0_beginnings_7 x0 bits markCount marks 100000 (0 : Int32) (-1 : Int32) (0 : Int32)) fun w_18 => some w_18.1

set_option maxHeartbeats 4000000 in
set_option maxRecDepth 100000 in
theorem tX0_beginnings (l : Launch) (dC : Nat → ClassId) (dI : Nat → Nat → Nat) (cyI cyJ cyZ cyO : ClassId) (sz : Nat) (h_th h_marks : Nat) (v_th_keys : Value) (v_th_size : Value) (v_th_keyCount : Value) (v_th_splits : Value) (v_th_joins : Value) (bits : Int32) (markCount : Int32) (marks : (Nat → Int32)) (x0 : Int32) (u : Int32) (hf : fX0_beginnings bits markCount marks x0 = some u) : Met l yX0_beginnings wsX0_beginnings ({ frames := 1, cells := 0, slots := 0, locals := 22 }) (va_Pc [.ref h_th, .int x0] (GP (dC, dI) (T4 cyI cyJ cyZ cyO) sz [(h_th, .inr (0, [v_th_keys, .ref h_marks, .int bits, v_th_size, v_th_keyCount, .int markCount, v_th_splits, v_th_joins])), (h_marks, .inl (cyI, 48, .inl marks))])) (va_Qi (fun (r : Int32) (_ : Unit) => r = u) (GB (dC, dI) [(h_th, .inr (0, [v_th_keys, .ref h_marks, .int bits, v_th_size, v_th_keyCount, .int markCount, v_th_splits, v_th_joins])), (h_marks, .inl (cyI, 48, .inl marks))] (va_A [(h_th, .inr (0, [v_th_keys, .ref h_marks, .int bits, v_th_size, v_th_keyCount, .int markCount, v_th_splits, v_th_joins])), (h_marks, .inl (cyI, 48, .inl marks))] sz)) (va_A [(h_th, .inr (0, [v_th_keys, .ref h_marks, .int bits, v_th_size, v_th_keyCount, .int markCount, v_th_splits, v_th_joins])), (h_marks, .inl (cyI, 48, .inl marks))] sz)) 0 0 (va_A [(h_th, .inr (0, [v_th_keys, .ref h_marks, .int bits, v_th_size, v_th_keyCount, .int markCount, v_th_splits, v_th_joins])), (h_marks, .inl (cyI, 48, .inl marks))] sz) := by
  refine GMetI (by decide) rfl (Nat.le_of_ble_eq_true rfl) ?_
  intro p e s m args below meth c A Q ls hx hb hml hts hown hN hK hA hret hP hD hS hl
  have h := hf
  clear hf
  unfold fX0_beginnings at h
  have hown : s.vm.findClass RX0 = some m.cls := hown
  have hl : lv_has ls 6 [(0, .ref h_th), (1, .int x0)] := hl
  refine lv_iconst (v := 0) hx hb dX0_beginnings_0 (by decide) ?_
  refine lv_istore_n (lv' := [(2, .int (0 : Int32)), (0, .ref h_th), (1, .int x0)]) hx hb dX0_beginnings_1 rfl hl (by decide) rfl (fun ls hl => ?_)
  refine lv_iconst (v := (-1)) hx hb dX0_beginnings_2 (by decide) ?_
  refine lv_istore_n (lv' := [(3, .int (-1 : Int32)), (2, .int (0 : Int32)), (0, .ref h_th), (1, .int x0)]) hx hb dX0_beginnings_3 rfl hl (by decide) rfl (fun ls hl => ?_)
  refine lv_iconst (v := 0) hx hb dX0_beginnings_4 (by decide) ?_
  refine lv_istore (lv' := [(4, .int (0 : Int32)), (3, .int (-1 : Int32)), (2, .int (0 : Int32)), (0, .ref h_th), (1, .int x0)]) hx hb dX0_beginnings_5 hl (by decide) rfl (fun ls hl => ?_)
  obtain ⟨w_18, hw_19, h⟩ := obd_e h
  have J : ∀ (H : Heap) (locs : List Loc) (ls : Array Slot), va_P (dC, dI) vwCl [(h_th, .inr (0, [v_th_keys, .ref h_marks, .int bits, v_th_size, v_th_keyCount, .int markCount, v_th_splits, v_th_joins])), (h_marks, .inl (cyI, 48, .inl marks))] H → va_D A [(h_th, .inr (0, [v_th_keys, .ref h_marks, .int bits, v_th_size, v_th_keyCount, .int markCount, v_th_splits, v_th_joins])), (h_marks, .inl (cyI, 48, .inl marks))] → va_S A s.heap H locs → lv_has ls 6 [(2, .int w_18.1)] → W p l e ({ frames := 1, cells := 0, slots := 0, locals := 22 }) s m args below meth c H locs 0 0 Q (F0 m 47 ls []) := by
    intro H locs ls hP hD hS hl
    refine lv_iload_n hx hb dX0_beginnings_47 rfl (lv_at hl 0 rfl) ?_
    obtain rfl := Option.some.inj h
    exact hret _ _ _ _ dX0_beginnings_48 hP hD hS
  have LL : ∀ (n : Nat) (m2 : Int32) (m3 : Int32) (m4 : Int32) (H : Heap) (locs : List Loc) (ls : Array Slot), lpX0_beginnings_7 x0 bits markCount marks n m2 m3 m4 = some w_18 → va_P (dC, dI) vwCl [(h_th, .inr (0, [v_th_keys, .ref h_marks, .int bits, v_th_size, v_th_keyCount, .int markCount, v_th_splits, v_th_joins])), (h_marks, .inl (cyI, 48, .inl marks))] H → va_D A [(h_th, .inr (0, [v_th_keys, .ref h_marks, .int bits, v_th_size, v_th_keyCount, .int markCount, v_th_splits, v_th_joins])), (h_marks, .inl (cyI, 48, .inl marks))] → va_S A s.heap H locs → lv_has ls 6 [(0, .ref h_th), (1, .int x0), (2, .int m2), (3, .int m3), (4, .int m4)] → W p l e ({ frames := 1, cells := 0, slots := 0, locals := 22 }) s m args below meth c H locs 0 0 Q (F0 m 7 ls []) := by
    intro n
    induction n with
    | zero =>
      intro m2 m3 m4 H locs ls h
      exact absurd h (by rw [lpX0_beginnings_7]; exact fun q => by cases q)
    | succ n ih =>
      intro m2 m3 m4 H locs ls h hP hD hS hl
      rw [lpX0_beginnings_7] at h
      refine lv_iload hx hb dX0_beginnings_7 (lv_at hl 4 rfl) ?_
      refine lv_aload_n hx hb dX0_beginnings_9 rfl (lv_at hl 0 rfl) ?_
      refine va_get (D := (dC, dI)) (ci := 0) (v := .int markCount) (C := RX0) (T := TX0) (N := 8) hx hb hts (fun _ hw => List.mem_cons_of_mem _ (List.mem_append_right _ hw)) hown hK hP 0 rfl rfl 5 (by decide) (hts (.fieldLink RX0 32 "PrefixIndex$Buckets" "markCount" "I") (List.mem_of_getElem? (i := 1) rfl)) (fun _ h9 => h9) rfl dX0_beginnings_10 ?_
      refine lv_icmp_ge (tgt := 47) hx hb dX0_beginnings_13 (by decide) (fun c_10 => ?_) (fun c_10 => ?_)
      · have h := og_ite_t c_10 h
        obtain rfl := Option.some.inj h
        exact J _ _ _ hP hD hS (lv_sub hl [2] rfl)
      · have h := og_ite_f c_10 h
        refine lv_aload_n hx hb dX0_beginnings_16 rfl (lv_at hl 0 rfl) ?_
        refine lv_aload_n hx hb dX0_beginnings_17 rfl (lv_at hl 0 rfl) ?_
        refine lv_iload hx hb dX0_beginnings_18 (lv_at hl 4 rfl) ?_
        obtain ⟨u_11, hc_12, h⟩ := obd_e h
        refine Gci (wr := []) (va_runV (As := [.int m4]) (rest := [.ref h_th]) ⟨hx, hb, hml, hown, hts⟩ (tX0_markAt l dC dI cyI cyJ cyZ cyO H.size h_th h_marks v_th_keys (.int bits) v_th_size v_th_keyCount v_th_splits v_th_joins markCount marks m4 u_11 hc_12) (cwV 1 hts gX0_beginnings_X0_markAt rfl rfl rfl (by decide +kernel) ⟨Nat.le_of_ble_eq_true rfl, Nat.le_of_ble_eq_true rfl⟩) (GpreV hP hD hK hN [0, 1] rfl (by decide) 0 0 rfl rfl rfl) rfl rfl hl.1 rfl (lv_room (Nat.le_of_ble_eq_true rfl)) dX0_beginnings_20 ⟨Nat.zero_le _, Nat.zero_le _⟩) hP hD hS hA [0, 1] [] rfl rfl (by decide) (by decide) (fun H locs hP hD hS => ?_)
        have hP : va_P (dC, dI) vwCl [(h_th, .inr (0, [v_th_keys, .ref h_marks, .int bits, v_th_size, v_th_keyCount, .int markCount, v_th_splits, v_th_joins])), (h_marks, .inl (cyI, 48, .inl marks))] H := hP
        have hD : va_D A [(h_th, .inr (0, [v_th_keys, .ref h_marks, .int bits, v_th_size, v_th_keyCount, .int markCount, v_th_splits, v_th_joins])), (h_marks, .inl (cyI, 48, .inl marks))] := hD
        refine lv_iload_n hx hb dX0_beginnings_23 rfl (lv_at hl 1 rfl) ?_
        obtain ⟨u_13, hc_14, h⟩ := obd_e h
        refine Gci (wr := [(h_marks, .inl (cyI, 48, .inl marks))]) (va_runV (As := [.int u_11, .int x0]) (rest := []) ⟨hx, hb, hml, hown, hts⟩ (tX0_beginningOf l dC dI cyI cyJ cyZ cyO H.size h_th v_th_keys (.ref h_marks) v_th_size v_th_keyCount (.int markCount) v_th_splits v_th_joins bits u_11 x0 u_13 hc_14) (cwV 2 hts gX0_beginnings_X0_beginningOf rfl rfl rfl (by decide +kernel) ⟨Nat.le_of_ble_eq_true rfl, Nat.le_of_ble_eq_true rfl⟩) (GpreV hP hD hK hN [0] rfl (by decide) 0 0 rfl rfl rfl) rfl rfl hl.1 rfl (lv_room (Nat.le_of_ble_eq_true rfl)) dX0_beginnings_24 ⟨Nat.zero_le _, Nat.zero_le _⟩) hP hD hS hA [0] [1] rfl rfl (by decide) (by decide) (fun H locs hP hD hS => ?_)
        have hP : va_P (dC, dI) vwCl [(h_marks, .inl (cyI, 48, .inl marks)), (h_th, .inr (0, [v_th_keys, .ref h_marks, .int bits, v_th_size, v_th_keyCount, .int markCount, v_th_splits, v_th_joins]))] H := hP
        have hD : va_D A [(h_marks, .inl (cyI, 48, .inl marks)), (h_th, .inr (0, [v_th_keys, .ref h_marks, .int bits, v_th_size, v_th_keyCount, .int markCount, v_th_splits, v_th_joins]))] := hD
        refine lv_istore (lv' := [(5, .int u_13), (0, .ref h_th), (1, .int x0), (2, .int m2), (3, .int m3), (4, .int m4)]) hx hb dX0_beginnings_27 hl (by decide) rfl (fun ls hl => ?_)
        refine lv_iload hx hb dX0_beginnings_29 (lv_at hl 0 rfl) ?_
        refine lv_iload_n hx hb dX0_beginnings_31 rfl (lv_at hl 4 rfl) ?_
        obtain ⟨y_16, ey_16, h⟩ := olet_e h
        obtain ⟨y_17, ey_17, h⟩ := olet_e h
        have J : ∀ (H : Heap) (locs : List Loc) (ls : Array Slot), va_P (dC, dI) vwCl [(h_marks, .inl (cyI, 48, .inl marks)), (h_th, .inr (0, [v_th_keys, .ref h_marks, .int bits, v_th_size, v_th_keyCount, .int markCount, v_th_splits, v_th_joins]))] H → va_D A [(h_marks, .inl (cyI, 48, .inl marks)), (h_th, .inr (0, [v_th_keys, .ref h_marks, .int bits, v_th_size, v_th_keyCount, .int markCount, v_th_splits, v_th_joins]))] → va_S A s.heap H locs → lv_has ls 6 [(0, .ref h_th), (1, .int x0), (2, .int y_16), (3, .int y_17), (4, .int m4)] → W p l e ({ frames := 1, cells := 0, slots := 0, locals := 22 }) s m args below meth c H locs 0 0 Q (F0 m 41 ls []) := by
          intro H locs ls hP hD hS hl
          refine lv_iinc (v := m4 + (1 : Int32)) (lv' := [(4, .int (m4 + (1 : Int32))), (0, .ref h_th), (1, .int x0), (2, .int y_16), (3, .int y_17)]) hx hb dX0_beginnings_41 hl (k := 4) rfl rfl (by decide) rfl (fun ls hl => ?_)
          refine lv_goto (tgt := 7) hx hb dX0_beginnings_44 (by decide) ?_
          have hP := hP.sub (ws' := [(h_th, .inr (0, [v_th_keys, .ref h_marks, .int bits, v_th_size, v_th_keyCount, .int markCount, v_th_splits, v_th_joins])), (h_marks, .inl (cyI, 48, .inl marks))]) [1, 0] rfl
          have hD := hD.sub (ws' := [(h_th, .inr (0, [v_th_keys, .ref h_marks, .int bits, v_th_size, v_th_keyCount, .int markCount, v_th_splits, v_th_joins])), (h_marks, .inl (cyI, 48, .inl marks))]) [1, 0] (by decide) rfl
          exact ih y_16 y_17 (m4 + (1 : Int32)) _ _ _ h hP hD hS (lv_sub hl [1, 2, 3, 4, 0] rfl)
        clear h
        refine lv_icmp_eq (tgt := 41) hx hb dX0_beginnings_32 (by decide) (fun c_15 => ?_) (fun c_15 => ?_)
        · rw [if_pos c_15] at ey_16
          rw [if_pos c_15] at ey_17
          subst ey_16
          subst ey_17
          exact J H locs _ hP hD hS (lv_sub hl [1, 2, 3, 4, 5] rfl)
        · refine lv_iinc (v := m2 + (1 : Int32)) (lv' := [(2, .int (m2 + (1 : Int32))), (5, .int u_13), (0, .ref h_th), (1, .int x0), (3, .int m3), (4, .int m4)]) hx hb dX0_beginnings_35 hl (k := 3) rfl rfl (by decide) rfl (fun ls hl => ?_)
          refine lv_iload hx hb dX0_beginnings_38 (lv_at hl 1 rfl) ?_
          refine lv_istore_n (lv' := [(3, .int u_13), (2, .int (m2 + (1 : Int32))), (5, .int u_13), (0, .ref h_th), (1, .int x0), (4, .int m4)]) hx hb dX0_beginnings_40 rfl hl (by decide) rfl (fun ls hl => ?_)
          rw [if_neg c_15] at ey_16
          rw [if_neg c_15] at ey_17
          subst ey_16
          subst ey_17
          exact J H locs _ hP hD hS (lv_sub hl [3, 4, 1, 0, 5] rfl)
  exact LL _ (0 : Int32) (-1 : Int32) (0 : Int32) _ _ _ hw_19 hP hD hS (lv_sub hl [3, 4, 2, 1, 0] rfl)

def lpX0_allBeginnings_4 (bits : Int32) (markCount : Int32) (marks : (Nat → Int32)) : Nat → Int32 → Int32 → Option (Int32 × Int32)
  | 0, _, _ => none
  | n + 1, m1, m2 => if bits < m2 then (some (m1, m2)) else (obd (fX0_beginnings bits markCount marks m2) fun u_3 => lpX0_allBeginnings_4 bits markCount marks n (m1 + u_3) (m2 + (1 : Int32)))

def fX0_allBeginnings (bits : Int32) (markCount : Int32) (marks : (Nat → Int32)) : Option (Int32) := obd (lpX0_allBeginnings_4 bits markCount marks 100000 (0 : Int32) (0 : Int32)) fun w_8 => some w_8.1

set_option maxHeartbeats 4000000 in
set_option maxRecDepth 100000 in
theorem tX0_allBeginnings (l : Launch) (dC : Nat → ClassId) (dI : Nat → Nat → Nat) (cyI cyJ cyZ cyO : ClassId) (sz : Nat) (h_th h_marks : Nat) (v_th_keys : Value) (v_th_size : Value) (v_th_keyCount : Value) (v_th_splits : Value) (v_th_joins : Value) (bits : Int32) (markCount : Int32) (marks : (Nat → Int32)) (u : Int32) (hf : fX0_allBeginnings bits markCount marks = some u) : Met l yX0_allBeginnings wsX0_allBeginnings ({ frames := 2, cells := 0, slots := 0, locals := 47 }) (va_Pc [.ref h_th] (GP (dC, dI) (T4 cyI cyJ cyZ cyO) sz [(h_th, .inr (0, [v_th_keys, .ref h_marks, .int bits, v_th_size, v_th_keyCount, .int markCount, v_th_splits, v_th_joins])), (h_marks, .inl (cyI, 48, .inl marks))])) (va_Qi (fun (r : Int32) (_ : Unit) => r = u) (GB (dC, dI) [(h_th, .inr (0, [v_th_keys, .ref h_marks, .int bits, v_th_size, v_th_keyCount, .int markCount, v_th_splits, v_th_joins])), (h_marks, .inl (cyI, 48, .inl marks))] (va_A [(h_th, .inr (0, [v_th_keys, .ref h_marks, .int bits, v_th_size, v_th_keyCount, .int markCount, v_th_splits, v_th_joins])), (h_marks, .inl (cyI, 48, .inl marks))] sz)) (va_A [(h_th, .inr (0, [v_th_keys, .ref h_marks, .int bits, v_th_size, v_th_keyCount, .int markCount, v_th_splits, v_th_joins])), (h_marks, .inl (cyI, 48, .inl marks))] sz)) 0 0 (va_A [(h_th, .inr (0, [v_th_keys, .ref h_marks, .int bits, v_th_size, v_th_keyCount, .int markCount, v_th_splits, v_th_joins])), (h_marks, .inl (cyI, 48, .inl marks))] sz) := by
  refine GMetI (by decide) rfl (Nat.le_of_ble_eq_true rfl) ?_
  intro p e s m args below meth c A Q ls hx hb hml hts hown hN hK hA hret hP hD hS hl
  have h := hf
  clear hf
  unfold fX0_allBeginnings at h
  have hown : s.vm.findClass RX0 = some m.cls := hown
  have hl : lv_has ls 3 [(0, .ref h_th)] := hl
  refine lv_iconst (v := 0) hx hb dX0_allBeginnings_0 (by decide) ?_
  refine lv_istore_n (lv' := [(1, .int (0 : Int32)), (0, .ref h_th)]) hx hb dX0_allBeginnings_1 rfl hl (by decide) rfl (fun ls hl => ?_)
  refine lv_iconst (v := 0) hx hb dX0_allBeginnings_2 (by decide) ?_
  refine lv_istore_n (lv' := [(2, .int (0 : Int32)), (1, .int (0 : Int32)), (0, .ref h_th)]) hx hb dX0_allBeginnings_3 rfl hl (by decide) rfl (fun ls hl => ?_)
  obtain ⟨w_8, hw_9, h⟩ := obd_e h
  have J : ∀ (H : Heap) (locs : List Loc) (ls : Array Slot), va_P (dC, dI) vwCl [(h_th, .inr (0, [v_th_keys, .ref h_marks, .int bits, v_th_size, v_th_keyCount, .int markCount, v_th_splits, v_th_joins])), (h_marks, .inl (cyI, 48, .inl marks))] H → va_D A [(h_th, .inr (0, [v_th_keys, .ref h_marks, .int bits, v_th_size, v_th_keyCount, .int markCount, v_th_splits, v_th_joins])), (h_marks, .inl (cyI, 48, .inl marks))] → va_S A s.heap H locs → lv_has ls 3 [(1, .int w_8.1)] → W p l e ({ frames := 2, cells := 0, slots := 0, locals := 47 }) s m args below meth c H locs 0 0 Q (F0 m 26 ls []) := by
    intro H locs ls hP hD hS hl
    refine lv_iload_n hx hb dX0_allBeginnings_26 rfl (lv_at hl 0 rfl) ?_
    obtain rfl := Option.some.inj h
    exact hret _ _ _ _ dX0_allBeginnings_27 hP hD hS
  have LL : ∀ (n : Nat) (m1 : Int32) (m2 : Int32) (H : Heap) (locs : List Loc) (ls : Array Slot), lpX0_allBeginnings_4 bits markCount marks n m1 m2 = some w_8 → va_P (dC, dI) vwCl [(h_th, .inr (0, [v_th_keys, .ref h_marks, .int bits, v_th_size, v_th_keyCount, .int markCount, v_th_splits, v_th_joins])), (h_marks, .inl (cyI, 48, .inl marks))] H → va_D A [(h_th, .inr (0, [v_th_keys, .ref h_marks, .int bits, v_th_size, v_th_keyCount, .int markCount, v_th_splits, v_th_joins])), (h_marks, .inl (cyI, 48, .inl marks))] → va_S A s.heap H locs → lv_has ls 3 [(0, .ref h_th), (1, .int m1), (2, .int m2)] → W p l e ({ frames := 2, cells := 0, slots := 0, locals := 47 }) s m args below meth c H locs 0 0 Q (F0 m 4 ls []) := by
    intro n
    induction n with
    | zero =>
      intro m1 m2 H locs ls h
      exact absurd h (by rw [lpX0_allBeginnings_4]; exact fun q => by cases q)
    | succ n ih =>
      intro m1 m2 H locs ls h hP hD hS hl
      rw [lpX0_allBeginnings_4] at h
      refine lv_iload_n hx hb dX0_allBeginnings_4 rfl (lv_at hl 2 rfl) ?_
      refine lv_aload_n hx hb dX0_allBeginnings_5 rfl (lv_at hl 0 rfl) ?_
      refine va_get (D := (dC, dI)) (ci := 0) (v := .int bits) (C := RX0) (T := TX0) (N := 8) hx hb hts (fun _ hw => List.mem_cons_of_mem _ (List.mem_append_right _ hw)) hown hK hP 0 rfl rfl 2 (by decide) (hts (.fieldLink RX0 22 "PrefixIndex$Buckets" "bits" "I") (List.mem_of_getElem? (i := 1) rfl)) (fun _ h9 => h9) rfl dX0_allBeginnings_6 ?_
      refine lv_icmp_gt (tgt := 26) hx hb dX0_allBeginnings_9 (by decide) (fun c_5 => ?_) (fun c_5 => ?_)
      · have h := og_ite_t c_5 h
        obtain rfl := Option.some.inj h
        exact J _ _ _ hP hD hS (lv_sub hl [1] rfl)
      · have h := og_ite_f c_5 h
        refine lv_iload_n hx hb dX0_allBeginnings_12 rfl (lv_at hl 1 rfl) ?_
        refine lv_aload_n hx hb dX0_allBeginnings_13 rfl (lv_at hl 0 rfl) ?_
        refine lv_iload_n hx hb dX0_allBeginnings_14 rfl (lv_at hl 2 rfl) ?_
        obtain ⟨u_6, hc_7, h⟩ := obd_e h
        refine Gci (wr := []) (va_runV (As := [.int m2]) (rest := [.int m1]) ⟨hx, hb, hml, hown, hts⟩ (tX0_beginnings l dC dI cyI cyJ cyZ cyO H.size h_th h_marks v_th_keys v_th_size v_th_keyCount v_th_splits v_th_joins bits markCount marks m2 u_6 hc_7) (cwV 1 hts gX0_allBeginnings_X0_beginnings rfl rfl rfl (by decide +kernel) ⟨Nat.le_of_ble_eq_true rfl, Nat.le_of_ble_eq_true rfl⟩) (GpreV hP hD hK hN [0, 1] rfl (by decide) 0 0 rfl rfl rfl) rfl rfl hl.1 rfl (lv_room (Nat.le_of_ble_eq_true rfl)) dX0_allBeginnings_15 ⟨Nat.zero_le _, Nat.zero_le _⟩) hP hD hS hA [0, 1] [] rfl rfl (by decide) (by decide) (fun H locs hP hD hS => ?_)
        have hP : va_P (dC, dI) vwCl [(h_th, .inr (0, [v_th_keys, .ref h_marks, .int bits, v_th_size, v_th_keyCount, .int markCount, v_th_splits, v_th_joins])), (h_marks, .inl (cyI, 48, .inl marks))] H := hP
        have hD : va_D A [(h_th, .inr (0, [v_th_keys, .ref h_marks, .int bits, v_th_size, v_th_keyCount, .int markCount, v_th_splits, v_th_joins])), (h_marks, .inl (cyI, 48, .inl marks))] := hD
        refine lv_iadd hx hb dX0_allBeginnings_18 ?_
        refine lv_istore_n (lv' := [(1, .int (m1 + u_6)), (0, .ref h_th), (2, .int m2)]) hx hb dX0_allBeginnings_19 rfl hl (by decide) rfl (fun ls hl => ?_)
        refine lv_iinc (v := m2 + (1 : Int32)) (lv' := [(2, .int (m2 + (1 : Int32))), (1, .int (m1 + u_6)), (0, .ref h_th)]) hx hb dX0_allBeginnings_20 hl (k := 2) rfl rfl (by decide) rfl (fun ls hl => ?_)
        refine lv_goto (tgt := 4) hx hb dX0_allBeginnings_23 (by decide) ?_
        exact ih (m1 + u_6) (m2 + (1 : Int32)) _ _ _ h hP hD hS (lv_sub hl [2, 1, 0] rfl)
  exact LL _ (0 : Int32) (0 : Int32) _ _ _ hw_9 hP hD hS (lv_sub hl [2, 1, 0] rfl)

def fX0_numbersOfLength (bits : Int32) (markCount : Int32) (marks : (Nat → Int32)) (x0 : Int32) : Option (Int32) := obd (fX0_beginnings bits markCount marks x0) fun u_1 => if x0 < bits then (obd (fX0_beginnings bits markCount marks (x0 + (1 : Int32))) fun u_4 => some ((u_1 <<< ((bits - x0) &&& 31)) - (u_4 <<< (((bits - x0) - (1 : Int32)) &&& 31)))) else (some (u_1 <<< ((bits - x0) &&& 31)))

set_option maxHeartbeats 4000000 in
set_option maxRecDepth 100000 in
theorem tX0_numbersOfLength (l : Launch) (dC : Nat → ClassId) (dI : Nat → Nat → Nat) (cyI cyJ cyZ cyO : ClassId) (sz : Nat) (h_th h_marks : Nat) (v_th_keys : Value) (v_th_size : Value) (v_th_keyCount : Value) (v_th_splits : Value) (v_th_joins : Value) (bits : Int32) (markCount : Int32) (marks : (Nat → Int32)) (x0 : Int32) (u : Int32) (hf : fX0_numbersOfLength bits markCount marks x0 = some u) : Met l yX0_numbersOfLength wsX0_numbersOfLength ({ frames := 2, cells := 0, slots := 0, locals := 47 }) (va_Pc [.ref h_th, .int x0] (GP (dC, dI) (T4 cyI cyJ cyZ cyO) sz [(h_th, .inr (0, [v_th_keys, .ref h_marks, .int bits, v_th_size, v_th_keyCount, .int markCount, v_th_splits, v_th_joins])), (h_marks, .inl (cyI, 48, .inl marks))])) (va_Qi (fun (r : Int32) (_ : Unit) => r = u) (GB (dC, dI) [(h_th, .inr (0, [v_th_keys, .ref h_marks, .int bits, v_th_size, v_th_keyCount, .int markCount, v_th_splits, v_th_joins])), (h_marks, .inl (cyI, 48, .inl marks))] (va_A [(h_th, .inr (0, [v_th_keys, .ref h_marks, .int bits, v_th_size, v_th_keyCount, .int markCount, v_th_splits, v_th_joins])), (h_marks, .inl (cyI, 48, .inl marks))] sz)) (va_A [(h_th, .inr (0, [v_th_keys, .ref h_marks, .int bits, v_th_size, v_th_keyCount, .int markCount, v_th_splits, v_th_joins])), (h_marks, .inl (cyI, 48, .inl marks))] sz)) 0 0 (va_A [(h_th, .inr (0, [v_th_keys, .ref h_marks, .int bits, v_th_size, v_th_keyCount, .int markCount, v_th_splits, v_th_joins])), (h_marks, .inl (cyI, 48, .inl marks))] sz) := by
  refine GMetI (by decide) rfl (Nat.le_of_ble_eq_true rfl) ?_
  intro p e s m args below meth c A Q ls hx hb hml hts hown hN hK hA hret hP hD hS hl
  have h := hf
  clear hf
  unfold fX0_numbersOfLength at h
  have hown : s.vm.findClass RX0 = some m.cls := hown
  have hl : lv_has ls 3 [(0, .ref h_th), (1, .int x0)] := hl
  refine lv_aload_n hx hb dX0_numbersOfLength_0 rfl (lv_at hl 0 rfl) ?_
  refine lv_iload_n hx hb dX0_numbersOfLength_1 rfl (lv_at hl 1 rfl) ?_
  obtain ⟨u_1, hc_2, h⟩ := obd_e h
  refine Gci (wr := []) (va_runV (As := [.int x0]) (rest := []) ⟨hx, hb, hml, hown, hts⟩ (tX0_beginnings l dC dI cyI cyJ cyZ cyO s.heap.size h_th h_marks v_th_keys v_th_size v_th_keyCount v_th_splits v_th_joins bits markCount marks x0 u_1 hc_2) (cwV 1 hts gX0_numbersOfLength_X0_beginnings rfl rfl rfl (by decide +kernel) ⟨Nat.le_of_ble_eq_true rfl, Nat.le_of_ble_eq_true rfl⟩) (GpreV hP hD hK hN [0, 1] rfl (by decide) 0 0 rfl rfl rfl) rfl rfl hl.1 rfl (lv_room (Nat.le_of_ble_eq_true rfl)) dX0_numbersOfLength_2 ⟨Nat.zero_le _, Nat.zero_le _⟩) hP hD hS hA [0, 1] [] rfl rfl (by decide) (by decide) (fun H locs hP hD hS => ?_)
  have hP : va_P (dC, dI) vwCl [(h_th, .inr (0, [v_th_keys, .ref h_marks, .int bits, v_th_size, v_th_keyCount, .int markCount, v_th_splits, v_th_joins])), (h_marks, .inl (cyI, 48, .inl marks))] H := hP
  have hD : va_D A [(h_th, .inr (0, [v_th_keys, .ref h_marks, .int bits, v_th_size, v_th_keyCount, .int markCount, v_th_splits, v_th_joins])), (h_marks, .inl (cyI, 48, .inl marks))] := hD
  refine lv_aload_n hx hb dX0_numbersOfLength_5 rfl (lv_at hl 0 rfl) ?_
  refine va_get (D := (dC, dI)) (ci := 0) (v := .int bits) (C := RX0) (T := TX0) (N := 8) hx hb hts (fun _ hw => List.mem_cons_of_mem _ (List.mem_append_right _ hw)) hown hK hP 0 rfl rfl 2 (by decide) (hts (.fieldLink RX0 22 "PrefixIndex$Buckets" "bits" "I") (List.mem_of_getElem? (i := 1) rfl)) (fun _ h9 => h9) rfl dX0_numbersOfLength_6 ?_
  refine lv_iload_n hx hb dX0_numbersOfLength_9 rfl (lv_at hl 1 rfl) ?_
  refine lv_isub hx hb dX0_numbersOfLength_10 ?_
  refine lv_ishl hx hb dX0_numbersOfLength_11 ?_
  refine lv_istore_n (lv' := [(2, .int (u_1 <<< ((bits - x0) &&& 31))), (0, .ref h_th), (1, .int x0)]) hx hb dX0_numbersOfLength_12 rfl hl (by decide) rfl (fun ls hl => ?_)
  refine lv_iload_n hx hb dX0_numbersOfLength_13 rfl (lv_at hl 2 rfl) ?_
  refine lv_aload_n hx hb dX0_numbersOfLength_14 rfl (lv_at hl 1 rfl) ?_
  refine va_get (D := (dC, dI)) (ci := 0) (v := .int bits) (C := RX0) (T := TX0) (N := 8) hx hb hts (fun _ hw => List.mem_cons_of_mem _ (List.mem_append_right _ hw)) hown hK hP 0 rfl rfl 2 (by decide) (hts (.fieldLink RX0 22 "PrefixIndex$Buckets" "bits" "I") (List.mem_of_getElem? (i := 1) rfl)) (fun _ h9 => h9) rfl dX0_numbersOfLength_15 ?_
  refine lv_icmp_lt (tgt := 23) hx hb dX0_numbersOfLength_18 (by decide) (fun c_3 => ?_) (fun c_3 => ?_)
  · have h := og_ite_t c_3 h
    refine lv_iload_n hx hb dX0_numbersOfLength_23 rfl (lv_at hl 0 rfl) ?_
    refine lv_aload_n hx hb dX0_numbersOfLength_24 rfl (lv_at hl 1 rfl) ?_
    refine lv_iload_n hx hb dX0_numbersOfLength_25 rfl (lv_at hl 2 rfl) ?_
    refine lv_iconst (v := 1) hx hb dX0_numbersOfLength_26 (by decide) ?_
    refine lv_iadd hx hb dX0_numbersOfLength_27 ?_
    obtain ⟨u_4, hc_5, h⟩ := obd_e h
    refine Gci (wr := []) (va_runV (As := [.int (x0 + (1 : Int32))]) (rest := [.int (u_1 <<< ((bits - x0) &&& 31))]) ⟨hx, hb, hml, hown, hts⟩ (tX0_beginnings l dC dI cyI cyJ cyZ cyO H.size h_th h_marks v_th_keys v_th_size v_th_keyCount v_th_splits v_th_joins bits markCount marks (x0 + (1 : Int32)) u_4 hc_5) (cwV 1 hts gX0_numbersOfLength_X0_beginnings rfl rfl rfl (by decide +kernel) ⟨Nat.le_of_ble_eq_true rfl, Nat.le_of_ble_eq_true rfl⟩) (GpreV hP hD hK hN [0, 1] rfl (by decide) 0 0 rfl rfl rfl) rfl rfl hl.1 rfl (lv_room (Nat.le_of_ble_eq_true rfl)) dX0_numbersOfLength_28 ⟨Nat.zero_le _, Nat.zero_le _⟩) hP hD hS hA [0, 1] [] rfl rfl (by decide) (by decide) (fun H locs hP hD hS => ?_)
    have hP : va_P (dC, dI) vwCl [(h_th, .inr (0, [v_th_keys, .ref h_marks, .int bits, v_th_size, v_th_keyCount, .int markCount, v_th_splits, v_th_joins])), (h_marks, .inl (cyI, 48, .inl marks))] H := hP
    have hD : va_D A [(h_th, .inr (0, [v_th_keys, .ref h_marks, .int bits, v_th_size, v_th_keyCount, .int markCount, v_th_splits, v_th_joins])), (h_marks, .inl (cyI, 48, .inl marks))] := hD
    refine lv_aload_n hx hb dX0_numbersOfLength_31 rfl (lv_at hl 1 rfl) ?_
    refine va_get (D := (dC, dI)) (ci := 0) (v := .int bits) (C := RX0) (T := TX0) (N := 8) hx hb hts (fun _ hw => List.mem_cons_of_mem _ (List.mem_append_right _ hw)) hown hK hP 0 rfl rfl 2 (by decide) (hts (.fieldLink RX0 22 "PrefixIndex$Buckets" "bits" "I") (List.mem_of_getElem? (i := 1) rfl)) (fun _ h9 => h9) rfl dX0_numbersOfLength_32 ?_
    refine lv_iload_n hx hb dX0_numbersOfLength_35 rfl (lv_at hl 2 rfl) ?_
    refine lv_isub hx hb dX0_numbersOfLength_36 ?_
    refine lv_iconst (v := 1) hx hb dX0_numbersOfLength_37 (by decide) ?_
    refine lv_isub hx hb dX0_numbersOfLength_38 ?_
    refine lv_ishl hx hb dX0_numbersOfLength_39 ?_
    refine lv_isub hx hb dX0_numbersOfLength_40 ?_
    obtain rfl := Option.some.inj h
    exact hret _ _ _ _ dX0_numbersOfLength_41 hP hD hS
  · have h := og_ite_f c_3 h
    refine lv_iload_n hx hb dX0_numbersOfLength_21 rfl (lv_at hl 0 rfl) ?_
    obtain rfl := Option.some.inj h
    exact hret _ _ _ _ dX0_numbersOfLength_22 hP hD hS

def lpX0_greatestOfLength_26 (q1 : Int32) (bits : Int32) (markCount : Int32) (marks : (Nat → Int32)) : Nat → Int32 → Option ((Int32) ⊕ (Int32))
  | 0, _ => none
  | n + 1, m2 => if m2 < 0 then (some (.inl m2)) else (obd (fX0_markAt markCount marks m2) fun u_4 => obd (fX0_beginningOf bits u_4 q1) fun u_6 => obd (fX0_isBeginning bits markCount marks (q1 + (1 : Int32)) (((2 : Int32) * u_6) + (1 : Int32))) fun u_8 => if u_8 = 0 then (some (.inr (((((2 : Int32) * u_6) + (2 : Int32)) <<< (((bits - q1) - (1 : Int32)) &&& 31)) - (1 : Int32)))) else (obd (fX0_isBeginning bits markCount marks (q1 + (1 : Int32)) ((2 : Int32) * u_6)) fun u_11 => if u_11 = 0 then (some (.inr (((((2 : Int32) * u_6) + (1 : Int32)) <<< (((bits - q1) - (1 : Int32)) &&& 31)) - (1 : Int32)))) else (lpX0_greatestOfLength_26 q1 bits markCount marks n (m2 + (-1 : Int32)))))

def fX0_greatestOfLength (bits : Int32) (markCount : Int32) (marks : (Nat → Int32)) (x0 : Int32) : Option (Int32) := if x0 < bits then (obe (lpX0_greatestOfLength_26 x0 bits markCount marks 100000 (markCount - (1 : Int32))) fun u_w_25 => some (-1 : Int32)) else (obd (fX0_markAt markCount marks (markCount - (1 : Int32))) fun u_27 => some u_27)

set_option maxHeartbeats 4000000 in
set_option maxRecDepth 100000 in
theorem tX0_greatestOfLength (l : Launch) (dC : Nat → ClassId) (dI : Nat → Nat → Nat) (cyI cyJ cyZ cyO : ClassId) (sz : Nat) (h_th h_marks : Nat) (v_th_keys : Value) (v_th_size : Value) (v_th_keyCount : Value) (v_th_splits : Value) (v_th_joins : Value) (bits : Int32) (markCount : Int32) (marks : (Nat → Int32)) (x0 : Int32) (u : Int32) (hf : fX0_greatestOfLength bits markCount marks x0 = some u) : Met l yX0_greatestOfLength wsX0_greatestOfLength ({ frames := 3, cells := 0, slots := 0, locals := 70 }) (va_Pc [.ref h_th, .int x0] (GP (dC, dI) (T4 cyI cyJ cyZ cyO) sz [(h_th, .inr (0, [v_th_keys, .ref h_marks, .int bits, v_th_size, v_th_keyCount, .int markCount, v_th_splits, v_th_joins])), (h_marks, .inl (cyI, 48, .inl marks))])) (va_Qi (fun (r : Int32) (_ : Unit) => r = u) (GB (dC, dI) [(h_th, .inr (0, [v_th_keys, .ref h_marks, .int bits, v_th_size, v_th_keyCount, .int markCount, v_th_splits, v_th_joins])), (h_marks, .inl (cyI, 48, .inl marks))] (va_A [(h_th, .inr (0, [v_th_keys, .ref h_marks, .int bits, v_th_size, v_th_keyCount, .int markCount, v_th_splits, v_th_joins])), (h_marks, .inl (cyI, 48, .inl marks))] sz)) (va_A [(h_th, .inr (0, [v_th_keys, .ref h_marks, .int bits, v_th_size, v_th_keyCount, .int markCount, v_th_splits, v_th_joins])), (h_marks, .inl (cyI, 48, .inl marks))] sz)) 0 0 (va_A [(h_th, .inr (0, [v_th_keys, .ref h_marks, .int bits, v_th_size, v_th_keyCount, .int markCount, v_th_splits, v_th_joins])), (h_marks, .inl (cyI, 48, .inl marks))] sz) := by
  refine GMetI (by decide) rfl (Nat.le_of_ble_eq_true rfl) ?_
  intro p e s m args below meth c A Q ls hx hb hml hts hown hN hK hA hret hP hD hS hl
  have h := hf
  clear hf
  unfold fX0_greatestOfLength at h
  have hown : s.vm.findClass RX0 = some m.cls := hown
  have hl : lv_has ls 5 [(0, .ref h_th), (1, .int x0)] := hl
  refine lv_iload_n hx hb dX0_greatestOfLength_0 rfl (lv_at hl 1 rfl) ?_
  refine lv_aload_n hx hb dX0_greatestOfLength_1 rfl (lv_at hl 0 rfl) ?_
  refine va_get (D := (dC, dI)) (ci := 0) (v := .int bits) (C := RX0) (T := TX0) (N := 8) hx hb hts (fun _ hw => List.mem_cons_of_mem _ (List.mem_append_right _ hw)) hown hK hP 0 rfl rfl 2 (by decide) (hts (.fieldLink RX0 22 "PrefixIndex$Buckets" "bits" "I") (List.mem_of_getElem? (i := 1) rfl)) (fun _ h9 => h9) rfl dX0_greatestOfLength_2 ?_
  refine lv_icmp_lt (tgt := 19) hx hb dX0_greatestOfLength_5 (by decide) (fun c_1 => ?_) (fun c_1 => ?_)
  · have h := og_ite_t c_1 h
    refine lv_aload_n hx hb dX0_greatestOfLength_19 rfl (lv_at hl 0 rfl) ?_
    refine va_get (D := (dC, dI)) (ci := 0) (v := .int markCount) (C := RX0) (T := TX0) (N := 8) hx hb hts (fun _ hw => List.mem_cons_of_mem _ (List.mem_append_right _ hw)) hown hK hP 0 rfl rfl 5 (by decide) (hts (.fieldLink RX0 32 "PrefixIndex$Buckets" "markCount" "I") (List.mem_of_getElem? (i := 2) rfl)) (fun _ h9 => h9) rfl dX0_greatestOfLength_20 ?_
    refine lv_iconst (v := 1) hx hb dX0_greatestOfLength_23 (by decide) ?_
    refine lv_isub hx hb dX0_greatestOfLength_24 ?_
    refine lv_istore_n (lv' := [(2, .int (markCount - (1 : Int32))), (0, .ref h_th), (1, .int x0)]) hx hb dX0_greatestOfLength_25 rfl hl (by decide) rfl (fun ls hl => ?_)
    obtain ⟨w_25, hw_26, hk_w_25, hr_2⟩ := obe_e h
    have J : ∀ u_w_25, w_25 = .inl u_w_25 → ∀ (H : Heap) (locs : List Loc) (ls : Array Slot), va_P (dC, dI) vwCl [(h_th, .inr (0, [v_th_keys, .ref h_marks, .int bits, v_th_size, v_th_keyCount, .int markCount, v_th_splits, v_th_joins])), (h_marks, .inl (cyI, 48, .inl marks))] H → va_D A [(h_th, .inr (0, [v_th_keys, .ref h_marks, .int bits, v_th_size, v_th_keyCount, .int markCount, v_th_splits, v_th_joins])), (h_marks, .inl (cyI, 48, .inl marks))] → va_S A s.heap H locs → lv_has ls 5 [] → W p l e ({ frames := 3, cells := 0, slots := 0, locals := 70 }) s m args below meth c H locs 0 0 Q (F0 m 101 ls []) := by
      intro u_w_25 ew H locs ls hP hD hS hl
      have h := hk_w_25 _ ew
      refine lv_iconst (v := (-1)) hx hb dX0_greatestOfLength_101 (by decide) ?_
      obtain rfl := Option.some.inj h
      exact hret _ _ _ _ dX0_greatestOfLength_102 hP hD hS
    have LL : ∀ (n : Nat) (m2 : Int32) (H : Heap) (locs : List Loc) (ls : Array Slot), lpX0_greatestOfLength_26 x0 bits markCount marks n m2 = some w_25 → va_P (dC, dI) vwCl [(h_th, .inr (0, [v_th_keys, .ref h_marks, .int bits, v_th_size, v_th_keyCount, .int markCount, v_th_splits, v_th_joins])), (h_marks, .inl (cyI, 48, .inl marks))] H → va_D A [(h_th, .inr (0, [v_th_keys, .ref h_marks, .int bits, v_th_size, v_th_keyCount, .int markCount, v_th_splits, v_th_joins])), (h_marks, .inl (cyI, 48, .inl marks))] → va_S A s.heap H locs → lv_has ls 5 [(0, .ref h_th), (1, .int x0), (2, .int m2)] → W p l e ({ frames := 3, cells := 0, slots := 0, locals := 70 }) s m args below meth c H locs 0 0 Q (F0 m 26 ls []) := by
      intro n
      induction n with
      | zero =>
        intro m2 H locs ls h
        exact absurd h (by rw [lpX0_greatestOfLength_26]; exact fun q => by cases q)
      | succ n ih =>
        intro m2 H locs ls h hP hD hS hl
        rw [lpX0_greatestOfLength_26] at h
        refine lv_iload_n hx hb dX0_greatestOfLength_26 rfl (lv_at hl 2 rfl) ?_
        refine lv_if_lt (tgt := 101) hx hb dX0_greatestOfLength_27 (by decide) (fun c_14 => ?_) (fun c_14 => ?_)
        · have h := og_ite_t c_14 h
          obtain rfl := Option.some.inj h
          exact J _ rfl _ _ _ hP hD hS (lv_sub hl [] rfl)
        · have h := og_ite_f c_14 h
          refine lv_iconst (v := 2) hx hb dX0_greatestOfLength_30 (by decide) ?_
          refine lv_aload_n hx hb dX0_greatestOfLength_31 rfl (lv_at hl 0 rfl) ?_
          refine lv_aload_n hx hb dX0_greatestOfLength_32 rfl (lv_at hl 0 rfl) ?_
          refine lv_iload_n hx hb dX0_greatestOfLength_33 rfl (lv_at hl 2 rfl) ?_
          obtain ⟨u_15, hc_16, h⟩ := obd_e h
          refine Gci (wr := []) (va_runV (As := [.int m2]) (rest := [.ref h_th, .int (2 : Int32)]) ⟨hx, hb, hml, hown, hts⟩ (tX0_markAt l dC dI cyI cyJ cyZ cyO H.size h_th h_marks v_th_keys (.int bits) v_th_size v_th_keyCount v_th_splits v_th_joins markCount marks m2 u_15 hc_16) (cwV 1 hts gX0_greatestOfLength_X0_markAt rfl rfl rfl (by decide +kernel) ⟨Nat.le_of_ble_eq_true rfl, Nat.le_of_ble_eq_true rfl⟩) (GpreV hP hD hK hN [0, 1] rfl (by decide) 0 0 rfl rfl rfl) rfl rfl hl.1 rfl (lv_room (Nat.le_of_ble_eq_true rfl)) dX0_greatestOfLength_34 ⟨Nat.zero_le _, Nat.zero_le _⟩) hP hD hS hA [0, 1] [] rfl rfl (by decide) (by decide) (fun H locs hP hD hS => ?_)
          have hP : va_P (dC, dI) vwCl [(h_th, .inr (0, [v_th_keys, .ref h_marks, .int bits, v_th_size, v_th_keyCount, .int markCount, v_th_splits, v_th_joins])), (h_marks, .inl (cyI, 48, .inl marks))] H := hP
          have hD : va_D A [(h_th, .inr (0, [v_th_keys, .ref h_marks, .int bits, v_th_size, v_th_keyCount, .int markCount, v_th_splits, v_th_joins])), (h_marks, .inl (cyI, 48, .inl marks))] := hD
          refine lv_iload_n hx hb dX0_greatestOfLength_37 rfl (lv_at hl 1 rfl) ?_
          obtain ⟨u_17, hc_18, h⟩ := obd_e h
          refine Gci (wr := [(h_marks, .inl (cyI, 48, .inl marks))]) (va_runV (As := [.int u_15, .int x0]) (rest := [.int (2 : Int32)]) ⟨hx, hb, hml, hown, hts⟩ (tX0_beginningOf l dC dI cyI cyJ cyZ cyO H.size h_th v_th_keys (.ref h_marks) v_th_size v_th_keyCount (.int markCount) v_th_splits v_th_joins bits u_15 x0 u_17 hc_18) (cwV 2 hts gX0_greatestOfLength_X0_beginningOf rfl rfl rfl (by decide +kernel) ⟨Nat.le_of_ble_eq_true rfl, Nat.le_of_ble_eq_true rfl⟩) (GpreV hP hD hK hN [0] rfl (by decide) 0 0 rfl rfl rfl) rfl rfl hl.1 rfl (lv_room (Nat.le_of_ble_eq_true rfl)) dX0_greatestOfLength_38 ⟨Nat.zero_le _, Nat.zero_le _⟩) hP hD hS hA [0] [1] rfl rfl (by decide) (by decide) (fun H locs hP hD hS => ?_)
          have hP : va_P (dC, dI) vwCl [(h_marks, .inl (cyI, 48, .inl marks)), (h_th, .inr (0, [v_th_keys, .ref h_marks, .int bits, v_th_size, v_th_keyCount, .int markCount, v_th_splits, v_th_joins]))] H := hP
          have hD : va_D A [(h_marks, .inl (cyI, 48, .inl marks)), (h_th, .inr (0, [v_th_keys, .ref h_marks, .int bits, v_th_size, v_th_keyCount, .int markCount, v_th_splits, v_th_joins]))] := hD
          refine lv_imul hx hb dX0_greatestOfLength_41 ?_
          refine lv_istore_n (lv' := [(3, .int ((2 : Int32) * u_17)), (0, .ref h_th), (1, .int x0), (2, .int m2)]) hx hb dX0_greatestOfLength_42 rfl hl (by decide) rfl (fun ls hl => ?_)
          refine lv_aload_n hx hb dX0_greatestOfLength_43 rfl (lv_at hl 1 rfl) ?_
          refine va_get (D := (dC, dI)) (ci := 0) (v := .int bits) (C := RX0) (T := TX0) (N := 8) hx hb hts (fun _ hw => List.mem_cons_of_mem _ (List.mem_append_right _ hw)) hown hK hP 1 rfl rfl 2 (by decide) (hts (.fieldLink RX0 22 "PrefixIndex$Buckets" "bits" "I") (List.mem_of_getElem? (i := 1) rfl)) (fun _ h9 => h9) rfl dX0_greatestOfLength_44 ?_
          refine lv_iload_n hx hb dX0_greatestOfLength_47 rfl (lv_at hl 2 rfl) ?_
          refine lv_isub hx hb dX0_greatestOfLength_48 ?_
          refine lv_iconst (v := 1) hx hb dX0_greatestOfLength_49 (by decide) ?_
          refine lv_isub hx hb dX0_greatestOfLength_50 ?_
          refine lv_istore (lv' := [(4, .int ((bits - x0) - (1 : Int32))), (3, .int ((2 : Int32) * u_17)), (0, .ref h_th), (1, .int x0), (2, .int m2)]) hx hb dX0_greatestOfLength_51 hl (by decide) rfl (fun ls hl => ?_)
          refine lv_aload_n hx hb dX0_greatestOfLength_53 rfl (lv_at hl 2 rfl) ?_
          refine lv_iload_n hx hb dX0_greatestOfLength_54 rfl (lv_at hl 3 rfl) ?_
          refine lv_iconst (v := 1) hx hb dX0_greatestOfLength_55 (by decide) ?_
          refine lv_iadd hx hb dX0_greatestOfLength_56 ?_
          refine lv_iload_n hx hb dX0_greatestOfLength_57 rfl (lv_at hl 1 rfl) ?_
          refine lv_iconst (v := 1) hx hb dX0_greatestOfLength_58 (by decide) ?_
          refine lv_iadd hx hb dX0_greatestOfLength_59 ?_
          obtain ⟨u_19, hc_20, h⟩ := obd_e h
          refine Gci (wr := []) (va_runV (As := [.int (x0 + (1 : Int32)), .int (((2 : Int32) * u_17) + (1 : Int32))]) (rest := []) ⟨hx, hb, hml, hown, hts⟩ (tX0_isBeginning l dC dI cyI cyJ cyZ cyO H.size h_th h_marks v_th_keys v_th_size v_th_keyCount v_th_splits v_th_joins bits markCount marks (x0 + (1 : Int32)) (((2 : Int32) * u_17) + (1 : Int32)) u_19 hc_20) (cwV 2 hts gX0_greatestOfLength_X0_isBeginning rfl rfl rfl (by decide +kernel) ⟨Nat.le_of_ble_eq_true rfl, Nat.le_of_ble_eq_true rfl⟩) (GpreV hP hD hK hN [1, 0] rfl (by decide) 0 0 rfl rfl rfl) rfl rfl hl.1 rfl (lv_room (Nat.le_of_ble_eq_true rfl)) dX0_greatestOfLength_60 ⟨Nat.zero_le _, Nat.zero_le _⟩) hP hD hS hA [1, 0] [] rfl rfl (by decide) (by decide) (fun H locs hP hD hS => ?_)
          have hP : va_P (dC, dI) vwCl [(h_th, .inr (0, [v_th_keys, .ref h_marks, .int bits, v_th_size, v_th_keyCount, .int markCount, v_th_splits, v_th_joins])), (h_marks, .inl (cyI, 48, .inl marks))] H := hP
          have hD : va_D A [(h_th, .inr (0, [v_th_keys, .ref h_marks, .int bits, v_th_size, v_th_keyCount, .int markCount, v_th_splits, v_th_joins])), (h_marks, .inl (cyI, 48, .inl marks))] := hD
          refine lv_if_ne (tgt := 75) hx hb dX0_greatestOfLength_63 (by decide) (fun c_21 => ?_) (fun c_21 => ?_)
          · have h := og_ite_f c_21 h
            refine lv_aload_n hx hb dX0_greatestOfLength_75 rfl (lv_at hl 2 rfl) ?_
            refine lv_iload_n hx hb dX0_greatestOfLength_76 rfl (lv_at hl 3 rfl) ?_
            refine lv_iconst (v := 1) hx hb dX0_greatestOfLength_77 (by decide) ?_
            refine lv_iadd hx hb dX0_greatestOfLength_78 ?_
            refine lv_iload_n hx hb dX0_greatestOfLength_79 rfl (lv_at hl 1 rfl) ?_
            obtain ⟨u_22, hc_23, h⟩ := obd_e h
            refine Gci (wr := []) (va_runV (As := [.int (x0 + (1 : Int32)), .int ((2 : Int32) * u_17)]) (rest := []) ⟨hx, hb, hml, hown, hts⟩ (tX0_isBeginning l dC dI cyI cyJ cyZ cyO H.size h_th h_marks v_th_keys v_th_size v_th_keyCount v_th_splits v_th_joins bits markCount marks (x0 + (1 : Int32)) ((2 : Int32) * u_17) u_22 hc_23) (cwV 2 hts gX0_greatestOfLength_X0_isBeginning rfl rfl rfl (by decide +kernel) ⟨Nat.le_of_ble_eq_true rfl, Nat.le_of_ble_eq_true rfl⟩) (GpreV hP hD hK hN [0, 1] rfl (by decide) 0 0 rfl rfl rfl) rfl rfl hl.1 rfl (lv_room (Nat.le_of_ble_eq_true rfl)) dX0_greatestOfLength_80 ⟨Nat.zero_le _, Nat.zero_le _⟩) hP hD hS hA [0, 1] [] rfl rfl (by decide) (by decide) (fun H locs hP hD hS => ?_)
            have hP : va_P (dC, dI) vwCl [(h_th, .inr (0, [v_th_keys, .ref h_marks, .int bits, v_th_size, v_th_keyCount, .int markCount, v_th_splits, v_th_joins])), (h_marks, .inl (cyI, 48, .inl marks))] H := hP
            have hD : va_D A [(h_th, .inr (0, [v_th_keys, .ref h_marks, .int bits, v_th_size, v_th_keyCount, .int markCount, v_th_splits, v_th_joins])), (h_marks, .inl (cyI, 48, .inl marks))] := hD
            refine lv_if_ne (tgt := 95) hx hb dX0_greatestOfLength_83 (by decide) (fun c_24 => ?_) (fun c_24 => ?_)
            · have h := og_ite_f c_24 h
              refine lv_iinc (v := m2 + (-1 : Int32)) (lv' := [(2, .int (m2 + (-1 : Int32))), (4, .int ((bits - x0) - (1 : Int32))), (3, .int ((2 : Int32) * u_17)), (0, .ref h_th), (1, .int x0)]) hx hb dX0_greatestOfLength_95 hl (k := 4) rfl rfl (by decide) rfl (fun ls hl => ?_)
              refine lv_goto (tgt := 26) hx hb dX0_greatestOfLength_98 (by decide) ?_
              exact ih (m2 + (-1 : Int32)) _ _ _ h hP hD hS (lv_sub hl [3, 4, 0] rfl)
            · have h := og_ite_t c_24 h
              refine lv_iload_n hx hb dX0_greatestOfLength_86 rfl (lv_at hl 1 rfl) ?_
              refine lv_iconst (v := 1) hx hb dX0_greatestOfLength_87 (by decide) ?_
              refine lv_iadd hx hb dX0_greatestOfLength_88 ?_
              refine lv_iload hx hb dX0_greatestOfLength_89 (lv_at hl 0 rfl) ?_
              refine lv_ishl hx hb dX0_greatestOfLength_91 ?_
              refine lv_iconst (v := 1) hx hb dX0_greatestOfLength_92 (by decide) ?_
              refine lv_isub hx hb dX0_greatestOfLength_93 ?_
              obtain rfl := hr_2 _ (Option.some.inj h).symm
              exact hret _ _ _ _ dX0_greatestOfLength_94 hP hD hS
          · have h := og_ite_t c_21 h
            refine lv_iload_n hx hb dX0_greatestOfLength_66 rfl (lv_at hl 1 rfl) ?_
            refine lv_iconst (v := 2) hx hb dX0_greatestOfLength_67 (by decide) ?_
            refine lv_iadd hx hb dX0_greatestOfLength_68 ?_
            refine lv_iload hx hb dX0_greatestOfLength_69 (lv_at hl 0 rfl) ?_
            refine lv_ishl hx hb dX0_greatestOfLength_71 ?_
            refine lv_iconst (v := 1) hx hb dX0_greatestOfLength_72 (by decide) ?_
            refine lv_isub hx hb dX0_greatestOfLength_73 ?_
            obtain rfl := hr_2 _ (Option.some.inj h).symm
            exact hret _ _ _ _ dX0_greatestOfLength_74 hP hD hS
    exact LL _ (markCount - (1 : Int32)) _ _ _ hw_26 hP hD hS (lv_sub hl [1, 2, 0] rfl)
  · have h := og_ite_f c_1 h
    refine lv_aload_n hx hb dX0_greatestOfLength_8 rfl (lv_at hl 0 rfl) ?_
    refine lv_aload_n hx hb dX0_greatestOfLength_9 rfl (lv_at hl 0 rfl) ?_
    refine va_get (D := (dC, dI)) (ci := 0) (v := .int markCount) (C := RX0) (T := TX0) (N := 8) hx hb hts (fun _ hw => List.mem_cons_of_mem _ (List.mem_append_right _ hw)) hown hK hP 0 rfl rfl 5 (by decide) (hts (.fieldLink RX0 32 "PrefixIndex$Buckets" "markCount" "I") (List.mem_of_getElem? (i := 2) rfl)) (fun _ h9 => h9) rfl dX0_greatestOfLength_10 ?_
    refine lv_iconst (v := 1) hx hb dX0_greatestOfLength_13 (by decide) ?_
    refine lv_isub hx hb dX0_greatestOfLength_14 ?_
    obtain ⟨u_27, hc_28, h⟩ := obd_e h
    refine Gci (wr := []) (va_runV (As := [.int (markCount - (1 : Int32))]) (rest := []) ⟨hx, hb, hml, hown, hts⟩ (tX0_markAt l dC dI cyI cyJ cyZ cyO s.heap.size h_th h_marks v_th_keys (.int bits) v_th_size v_th_keyCount v_th_splits v_th_joins markCount marks (markCount - (1 : Int32)) u_27 hc_28) (cwV 1 hts gX0_greatestOfLength_X0_markAt rfl rfl rfl (by decide +kernel) ⟨Nat.le_of_ble_eq_true rfl, Nat.le_of_ble_eq_true rfl⟩) (GpreV hP hD hK hN [0, 1] rfl (by decide) 0 0 rfl rfl rfl) rfl rfl hl.1 rfl (lv_room (Nat.le_of_ble_eq_true rfl)) dX0_greatestOfLength_15 ⟨Nat.zero_le _, Nat.zero_le _⟩) hP hD hS hA [0, 1] [] rfl rfl (by decide) (by decide) (fun H locs hP hD hS => ?_)
    have hP : va_P (dC, dI) vwCl [(h_th, .inr (0, [v_th_keys, .ref h_marks, .int bits, v_th_size, v_th_keyCount, .int markCount, v_th_splits, v_th_joins])), (h_marks, .inl (cyI, 48, .inl marks))] H := hP
    have hD : va_D A [(h_th, .inr (0, [v_th_keys, .ref h_marks, .int bits, v_th_size, v_th_keyCount, .int markCount, v_th_splits, v_th_joins])), (h_marks, .inl (cyI, 48, .inl marks))] := hD
    obtain rfl := Option.some.inj h
    exact hret _ _ _ _ dX0_greatestOfLength_18 hP hD hS
