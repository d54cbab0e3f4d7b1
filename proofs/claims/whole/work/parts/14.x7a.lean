def lpX7_plan_3 (q1 : Int32) (q2 : Int32) (q3 : Int32) : Nat → Int32 → (Nat → Int32) → Option (Int32 × (Nat → Int32))
  | 0, _, _ => none
  | n + 1, m4, zrow => if (152 : Int32) ≤ m4 then (some (m4, zrow)) else (oin (q1 + m4) 1824 (lpX7_plan_3 q1 q2 q3 n (m4 + (1 : Int32)) (upd zrow (q1 + m4).toNatClampNeg (0 : Int32))))

def fX7_plan (row : (Nat → Int32)) (x0 : Int32) (x1 : Int32) (x2 : Int32) : Option ((Nat → Int32)) := obd (lpX7_plan_3 x0 x1 x2 100000 (0 : Int32) row) fun w_6 => oin (x0 + (0 : Int32)) 1824 (oin (x0 + (1 : Int32)) 1824 (oin (x0 + (3 : Int32)) 1824 (oin (x0 + (102 : Int32)) 1824 (some (upd (upd (upd (upd w_6.2 (x0 + (0 : Int32)).toNatClampNeg x1) (x0 + (1 : Int32)).toNatClampNeg x2) (x0 + (3 : Int32)).toNatClampNeg (1 : Int32)) (x0 + (102 : Int32)).toNatClampNeg (((1 : Int32) <<< (x1 &&& 31)) - (1 : Int32)))))))

set_option maxHeartbeats 4000000 in
set_option maxRecDepth 100000 in
theorem tX7_plan (l : Launch) (dC : Nat → ClassId) (dI : Nat → Nat → Nat) (cyI cyJ cyZ cyO : ClassId) (sz : Nat) (h_th h_row : Nat) (v_th_undos : Value) (v_th_isKept : Value) (v_th_text : Value) (v_th_length : Value) (v_th_sizes : Value) (v_th_values : Value) (v_th_asked : Value) (v_th_first : Value) (v_th_behind : Value) (v_th_readBits : Value) (v_th_clauses : Value) (v_th_doing : Value) (v_th_numbers : Value) (v_th_planWord : Value) (v_th_addWord : Value) (v_th_delWord : Value) (v_th_fillWord : Value) (v_th_probes : Value) (v_th_links : Value) (v_th_looks : Value) (v_th_found : Value) (v_th_isOver : Value) (row : (Nat → Int32)) (x0 : Int32) (x1 : Int32) (x2 : Int32) (u : (Nat → Int32)) (hf : fX7_plan row x0 x1 x2 = some u) : Met l yX7_plan wsX7_plan ({ frames := 0, cells := 0, slots := 0, locals := 0 }) (va_Pc [.ref h_th, .int x0, .int x1, .int x2] (GP (dC, dI) (T4 cyI cyJ cyZ cyO) sz [(h_th, .inr (7, [.ref h_row, v_th_undos, v_th_isKept, v_th_text, v_th_length, v_th_sizes, v_th_values, v_th_asked, v_th_first, v_th_behind, v_th_readBits, v_th_clauses, v_th_doing, v_th_numbers, v_th_planWord, v_th_addWord, v_th_delWord, v_th_fillWord, v_th_probes, v_th_links, v_th_looks, v_th_found, v_th_isOver])), (h_row, .inl (cyI, 1824, .inl row))])) (va_Qv (fun (_ : Unit) => True) (GB (dC, dI) [(h_th, .inr (7, [.ref h_row, v_th_undos, v_th_isKept, v_th_text, v_th_length, v_th_sizes, v_th_values, v_th_asked, v_th_first, v_th_behind, v_th_readBits, v_th_clauses, v_th_doing, v_th_numbers, v_th_planWord, v_th_addWord, v_th_delWord, v_th_fillWord, v_th_probes, v_th_links, v_th_looks, v_th_found, v_th_isOver])), (h_row, .inl (cyI, 1824, .inl u))] (va_A [(h_th, .inr (7, [.ref h_row, v_th_undos, v_th_isKept, v_th_text, v_th_length, v_th_sizes, v_th_values, v_th_asked, v_th_first, v_th_behind, v_th_readBits, v_th_clauses, v_th_doing, v_th_numbers, v_th_planWord, v_th_addWord, v_th_delWord, v_th_fillWord, v_th_probes, v_th_links, v_th_looks, v_th_found, v_th_isOver])), (h_row, .inl (cyI, 1824, .inl row))] sz)) (va_A [(h_th, .inr (7, [.ref h_row, v_th_undos, v_th_isKept, v_th_text, v_th_length, v_th_sizes, v_th_values, v_th_asked, v_th_first, v_th_behind, v_th_readBits, v_th_clauses, v_th_doing, v_th_numbers, v_th_planWord, v_th_addWord, v_th_delWord, v_th_fillWord, v_th_probes, v_th_links, v_th_looks, v_th_found, v_th_isOver])), (h_row, .inl (cyI, 1824, .inl row))] sz)) 0 0 (va_A [(h_th, .inr (7, [.ref h_row, v_th_undos, v_th_isKept, v_th_text, v_th_length, v_th_sizes, v_th_values, v_th_asked, v_th_first, v_th_behind, v_th_readBits, v_th_clauses, v_th_doing, v_th_numbers, v_th_planWord, v_th_addWord, v_th_delWord, v_th_fillWord, v_th_probes, v_th_links, v_th_looks, v_th_found, v_th_isOver])), (h_row, .inl (cyI, 1824, .inl row))] sz) := by
  refine GMetV (by decide) rfl (Nat.le_of_ble_eq_true rfl) ?_
  intro p e s m args below meth c A Q ls hx hb hml hts hown hN hK hA hret hP hD hS hl
  have h := hf
  clear hf
  unfold fX7_plan at h
  have hown : s.vm.findClass RX7 = some m.cls := hown
  have hl : lv_has ls 5 [(0, .ref h_th), (1, .int x0), (2, .int x1), (3, .int x2)] := hl
  refine lv_iconst (v := 0) hx hb dX7_plan_0 (by decide) ?_
  refine lv_istore (lv' := [(4, .int (0 : Int32)), (0, .ref h_th), (1, .int x0), (2, .int x1), (3, .int x2)]) hx hb dX7_plan_1 hl (by decide) rfl (fun ls hl => ?_)
  obtain ⟨w_6, hw_7, h⟩ := obd_e h
  have J : ∀ (H : Heap) (locs : List Loc) (ls : Array Slot), va_P (dC, dI) vwCl [(h_th, .inr (7, [.ref h_row, v_th_undos, v_th_isKept, v_th_text, v_th_length, v_th_sizes, v_th_values, v_th_asked, v_th_first, v_th_behind, v_th_readBits, v_th_clauses, v_th_doing, v_th_numbers, v_th_planWord, v_th_addWord, v_th_delWord, v_th_fillWord, v_th_probes, v_th_links, v_th_looks, v_th_found, v_th_isOver])), (h_row, .inl (cyI, 1824, .inl w_6.2))] H → va_D A [(h_th, .inr (7, [.ref h_row, v_th_undos, v_th_isKept, v_th_text, v_th_length, v_th_sizes, v_th_values, v_th_asked, v_th_first, v_th_behind, v_th_readBits, v_th_clauses, v_th_doing, v_th_numbers, v_th_planWord, v_th_addWord, v_th_delWord, v_th_fillWord, v_th_probes, v_th_links, v_th_looks, v_th_found, v_th_isOver])), (h_row, .inl (cyI, 1824, .inl w_6.2))] → va_S A s.heap H locs → lv_has ls 5 [(0, .ref h_th), (1, .int x0), (2, .int x1), (3, .int x2)] → W p l e ({ frames := 0, cells := 0, slots := 0, locals := 0 }) s m args below meth c H locs 0 0 Q (F0 m 27 ls []) := by
    intro H locs ls hP hD hS hl
    refine lv_aload_n hx hb dX7_plan_27 rfl (lv_at hl 0 rfl) ?_
    refine va_get (D := (dC, dI)) (ci := 7) (v := .ref h_row) (C := RX7) (T := TX7) (N := 23) hx hb hts (fun _ hw => List.mem_cons_of_mem _ (List.mem_append_right _ hw)) hown hK hP 0 rfl rfl 0 (by decide) (hts (.fieldLink RX7 7 "PrefixIndexModel" "row" "[I") (List.mem_of_getElem? (i := 1) rfl)) (fun _ h9 => h9) rfl dX7_plan_28 ?_
    refine lv_iload_n hx hb dX7_plan_31 rfl (lv_at hl 1 rfl) ?_
    refine lv_iconst (v := 0) hx hb dX7_plan_32 (by decide) ?_
    refine lv_iadd hx hb dX7_plan_33 ?_
    refine lv_iload_n hx hb dX7_plan_34 rfl (lv_at hl 2 rfl) ?_
    obtain ⟨hi_8, h⟩ := oin_e h
    refine va_iast hx hb hK hP hD hS 1 0 rfl rfl hi_8 dX7_plan_35 (fun H locs hP hD hS => ?_)
    have hP : va_P (dC, dI) vwCl [(h_th, .inr (7, [.ref h_row, v_th_undos, v_th_isKept, v_th_text, v_th_length, v_th_sizes, v_th_values, v_th_asked, v_th_first, v_th_behind, v_th_readBits, v_th_clauses, v_th_doing, v_th_numbers, v_th_planWord, v_th_addWord, v_th_delWord, v_th_fillWord, v_th_probes, v_th_links, v_th_looks, v_th_found, v_th_isOver])), (h_row, .inl (cyI, 1824, .inl (upd w_6.2 (x0 + (0 : Int32)).toNatClampNeg x1)))] H := hP
    have hD : va_D A [(h_th, .inr (7, [.ref h_row, v_th_undos, v_th_isKept, v_th_text, v_th_length, v_th_sizes, v_th_values, v_th_asked, v_th_first, v_th_behind, v_th_readBits, v_th_clauses, v_th_doing, v_th_numbers, v_th_planWord, v_th_addWord, v_th_delWord, v_th_fillWord, v_th_probes, v_th_links, v_th_looks, v_th_found, v_th_isOver])), (h_row, .inl (cyI, 1824, .inl (upd w_6.2 (x0 + (0 : Int32)).toNatClampNeg x1)))] := hD
    refine lv_aload_n hx hb dX7_plan_36 rfl (lv_at hl 0 rfl) ?_
    refine va_get (D := (dC, dI)) (ci := 7) (v := .ref h_row) (C := RX7) (T := TX7) (N := 23) hx hb hts (fun _ hw => List.mem_cons_of_mem _ (List.mem_append_right _ hw)) hown hK hP 0 rfl rfl 0 (by decide) (hts (.fieldLink RX7 7 "PrefixIndexModel" "row" "[I") (List.mem_of_getElem? (i := 1) rfl)) (fun _ h9 => h9) rfl dX7_plan_37 ?_
    refine lv_iload_n hx hb dX7_plan_40 rfl (lv_at hl 1 rfl) ?_
    refine lv_iconst (v := 1) hx hb dX7_plan_41 (by decide) ?_
    refine lv_iadd hx hb dX7_plan_42 ?_
    refine lv_iload_n hx hb dX7_plan_43 rfl (lv_at hl 3 rfl) ?_
    obtain ⟨hi_9, h⟩ := oin_e h
    refine va_iast hx hb hK hP hD hS 1 0 rfl rfl hi_9 dX7_plan_44 (fun H locs hP hD hS => ?_)
    have hP : va_P (dC, dI) vwCl [(h_th, .inr (7, [.ref h_row, v_th_undos, v_th_isKept, v_th_text, v_th_length, v_th_sizes, v_th_values, v_th_asked, v_th_first, v_th_behind, v_th_readBits, v_th_clauses, v_th_doing, v_th_numbers, v_th_planWord, v_th_addWord, v_th_delWord, v_th_fillWord, v_th_probes, v_th_links, v_th_looks, v_th_found, v_th_isOver])), (h_row, .inl (cyI, 1824, .inl (upd (upd w_6.2 (x0 + (0 : Int32)).toNatClampNeg x1) (x0 + (1 : Int32)).toNatClampNeg x2)))] H := hP
    have hD : va_D A [(h_th, .inr (7, [.ref h_row, v_th_undos, v_th_isKept, v_th_text, v_th_length, v_th_sizes, v_th_values, v_th_asked, v_th_first, v_th_behind, v_th_readBits, v_th_clauses, v_th_doing, v_th_numbers, v_th_planWord, v_th_addWord, v_th_delWord, v_th_fillWord, v_th_probes, v_th_links, v_th_looks, v_th_found, v_th_isOver])), (h_row, .inl (cyI, 1824, .inl (upd (upd w_6.2 (x0 + (0 : Int32)).toNatClampNeg x1) (x0 + (1 : Int32)).toNatClampNeg x2)))] := hD
    refine lv_aload_n hx hb dX7_plan_45 rfl (lv_at hl 0 rfl) ?_
    refine va_get (D := (dC, dI)) (ci := 7) (v := .ref h_row) (C := RX7) (T := TX7) (N := 23) hx hb hts (fun _ hw => List.mem_cons_of_mem _ (List.mem_append_right _ hw)) hown hK hP 0 rfl rfl 0 (by decide) (hts (.fieldLink RX7 7 "PrefixIndexModel" "row" "[I") (List.mem_of_getElem? (i := 1) rfl)) (fun _ h9 => h9) rfl dX7_plan_46 ?_
    refine lv_iload_n hx hb dX7_plan_49 rfl (lv_at hl 1 rfl) ?_
    refine lv_iconst (v := 3) hx hb dX7_plan_50 (by decide) ?_
    refine lv_iadd hx hb dX7_plan_51 ?_
    refine lv_iconst (v := 1) hx hb dX7_plan_52 (by decide) ?_
    obtain ⟨hi_10, h⟩ := oin_e h
    refine va_iast hx hb hK hP hD hS 1 0 rfl rfl hi_10 dX7_plan_53 (fun H locs hP hD hS => ?_)
    have hP : va_P (dC, dI) vwCl [(h_th, .inr (7, [.ref h_row, v_th_undos, v_th_isKept, v_th_text, v_th_length, v_th_sizes, v_th_values, v_th_asked, v_th_first, v_th_behind, v_th_readBits, v_th_clauses, v_th_doing, v_th_numbers, v_th_planWord, v_th_addWord, v_th_delWord, v_th_fillWord, v_th_probes, v_th_links, v_th_looks, v_th_found, v_th_isOver])), (h_row, .inl (cyI, 1824, .inl (upd (upd (upd w_6.2 (x0 + (0 : Int32)).toNatClampNeg x1) (x0 + (1 : Int32)).toNatClampNeg x2) (x0 + (3 : Int32)).toNatClampNeg (1 : Int32))))] H := hP
    have hD : va_D A [(h_th, .inr (7, [.ref h_row, v_th_undos, v_th_isKept, v_th_text, v_th_length, v_th_sizes, v_th_values, v_th_asked, v_th_first, v_th_behind, v_th_readBits, v_th_clauses, v_th_doing, v_th_numbers, v_th_planWord, v_th_addWord, v_th_delWord, v_th_fillWord, v_th_probes, v_th_links, v_th_looks, v_th_found, v_th_isOver])), (h_row, .inl (cyI, 1824, .inl (upd (upd (upd w_6.2 (x0 + (0 : Int32)).toNatClampNeg x1) (x0 + (1 : Int32)).toNatClampNeg x2) (x0 + (3 : Int32)).toNatClampNeg (1 : Int32))))] := hD
    refine lv_aload_n hx hb dX7_plan_54 rfl (lv_at hl 0 rfl) ?_
    refine va_get (D := (dC, dI)) (ci := 7) (v := .ref h_row) (C := RX7) (T := TX7) (N := 23) hx hb hts (fun _ hw => List.mem_cons_of_mem _ (List.mem_append_right _ hw)) hown hK hP 0 rfl rfl 0 (by decide) (hts (.fieldLink RX7 7 "PrefixIndexModel" "row" "[I") (List.mem_of_getElem? (i := 1) rfl)) (fun _ h9 => h9) rfl dX7_plan_55 ?_
    refine lv_iload_n hx hb dX7_plan_58 rfl (lv_at hl 1 rfl) ?_
    refine lv_bipush (v := 102) hx hb dX7_plan_59 (by decide) ?_
    refine lv_iadd hx hb dX7_plan_61 ?_
    refine lv_iconst (v := 1) hx hb dX7_plan_62 (by decide) ?_
    refine lv_iload_n hx hb dX7_plan_63 rfl (lv_at hl 2 rfl) ?_
    refine lv_ishl hx hb dX7_plan_64 ?_
    refine lv_iconst (v := 1) hx hb dX7_plan_65 (by decide) ?_
    refine lv_isub hx hb dX7_plan_66 ?_
    obtain ⟨hi_11, h⟩ := oin_e h
    refine va_iast hx hb hK hP hD hS 1 0 rfl rfl hi_11 dX7_plan_67 (fun H locs hP hD hS => ?_)
    have hP : va_P (dC, dI) vwCl [(h_th, .inr (7, [.ref h_row, v_th_undos, v_th_isKept, v_th_text, v_th_length, v_th_sizes, v_th_values, v_th_asked, v_th_first, v_th_behind, v_th_readBits, v_th_clauses, v_th_doing, v_th_numbers, v_th_planWord, v_th_addWord, v_th_delWord, v_th_fillWord, v_th_probes, v_th_links, v_th_looks, v_th_found, v_th_isOver])), (h_row, .inl (cyI, 1824, .inl (upd (upd (upd (upd w_6.2 (x0 + (0 : Int32)).toNatClampNeg x1) (x0 + (1 : Int32)).toNatClampNeg x2) (x0 + (3 : Int32)).toNatClampNeg (1 : Int32)) (x0 + (102 : Int32)).toNatClampNeg (((1 : Int32) <<< (x1 &&& 31)) - (1 : Int32)))))] H := hP
    have hD : va_D A [(h_th, .inr (7, [.ref h_row, v_th_undos, v_th_isKept, v_th_text, v_th_length, v_th_sizes, v_th_values, v_th_asked, v_th_first, v_th_behind, v_th_readBits, v_th_clauses, v_th_doing, v_th_numbers, v_th_planWord, v_th_addWord, v_th_delWord, v_th_fillWord, v_th_probes, v_th_links, v_th_looks, v_th_found, v_th_isOver])), (h_row, .inl (cyI, 1824, .inl (upd (upd (upd (upd w_6.2 (x0 + (0 : Int32)).toNatClampNeg x1) (x0 + (1 : Int32)).toNatClampNeg x2) (x0 + (3 : Int32)).toNatClampNeg (1 : Int32)) (x0 + (102 : Int32)).toNatClampNeg (((1 : Int32) <<< (x1 &&& 31)) - (1 : Int32)))))] := hD
    obtain rfl := Option.some.inj h
    exact hret _ _ _ _ dX7_plan_68 hP hD hS
  have LL : ∀ (n : Nat) (m4 : Int32) (zrow : (Nat → Int32)) (H : Heap) (locs : List Loc) (ls : Array Slot), lpX7_plan_3 x0 x1 x2 n m4 zrow = some w_6 → va_P (dC, dI) vwCl [(h_th, .inr (7, [.ref h_row, v_th_undos, v_th_isKept, v_th_text, v_th_length, v_th_sizes, v_th_values, v_th_asked, v_th_first, v_th_behind, v_th_readBits, v_th_clauses, v_th_doing, v_th_numbers, v_th_planWord, v_th_addWord, v_th_delWord, v_th_fillWord, v_th_probes, v_th_links, v_th_looks, v_th_found, v_th_isOver])), (h_row, .inl (cyI, 1824, .inl zrow))] H → va_D A [(h_th, .inr (7, [.ref h_row, v_th_undos, v_th_isKept, v_th_text, v_th_length, v_th_sizes, v_th_values, v_th_asked, v_th_first, v_th_behind, v_th_readBits, v_th_clauses, v_th_doing, v_th_numbers, v_th_planWord, v_th_addWord, v_th_delWord, v_th_fillWord, v_th_probes, v_th_links, v_th_looks, v_th_found, v_th_isOver])), (h_row, .inl (cyI, 1824, .inl zrow))] → va_S A s.heap H locs → lv_has ls 5 [(0, .ref h_th), (1, .int x0), (2, .int x1), (3, .int x2), (4, .int m4)] → W p l e ({ frames := 0, cells := 0, slots := 0, locals := 0 }) s m args below meth c H locs 0 0 Q (F0 m 3 ls []) := by
    intro n
    induction n with
    | zero =>
      intro m4 zrow H locs ls h
      exact absurd h (by rw [lpX7_plan_3]; exact fun q => by cases q)
    | succ n ih =>
      intro m4 zrow H locs ls h hP hD hS hl
      rw [lpX7_plan_3] at h
      refine lv_iload hx hb dX7_plan_3 (lv_at hl 4 rfl) ?_
      refine lv_sipush (v := 152) hx hb dX7_plan_5 (by decide) ?_
      refine lv_icmp_ge (tgt := 27) hx hb dX7_plan_8 (by decide) (fun c_4 => ?_) (fun c_4 => ?_)
      · have h := og_ite_t c_4 h
        obtain rfl := Option.some.inj h
        exact J _ _ _ hP hD hS (lv_sub hl [0, 1, 2, 3] rfl)
      · have h := og_ite_f c_4 h
        refine lv_aload_n hx hb dX7_plan_11 rfl (lv_at hl 0 rfl) ?_
        refine va_get (D := (dC, dI)) (ci := 7) (v := .ref h_row) (C := RX7) (T := TX7) (N := 23) hx hb hts (fun _ hw => List.mem_cons_of_mem _ (List.mem_append_right _ hw)) hown hK hP 0 rfl rfl 0 (by decide) (hts (.fieldLink RX7 7 "PrefixIndexModel" "row" "[I") (List.mem_of_getElem? (i := 1) rfl)) (fun _ h9 => h9) rfl dX7_plan_12 ?_
        refine lv_iload_n hx hb dX7_plan_15 rfl (lv_at hl 1 rfl) ?_
        refine lv_iload hx hb dX7_plan_16 (lv_at hl 4 rfl) ?_
        refine lv_iadd hx hb dX7_plan_18 ?_
        refine lv_iconst (v := 0) hx hb dX7_plan_19 (by decide) ?_
        obtain ⟨hi_5, h⟩ := oin_e h
        refine va_iast hx hb hK hP hD hS 1 0 rfl rfl hi_5 dX7_plan_20 (fun H locs hP hD hS => ?_)
        have hP : va_P (dC, dI) vwCl [(h_th, .inr (7, [.ref h_row, v_th_undos, v_th_isKept, v_th_text, v_th_length, v_th_sizes, v_th_values, v_th_asked, v_th_first, v_th_behind, v_th_readBits, v_th_clauses, v_th_doing, v_th_numbers, v_th_planWord, v_th_addWord, v_th_delWord, v_th_fillWord, v_th_probes, v_th_links, v_th_looks, v_th_found, v_th_isOver])), (h_row, .inl (cyI, 1824, .inl (upd zrow (x0 + m4).toNatClampNeg (0 : Int32))))] H := hP
        have hD : va_D A [(h_th, .inr (7, [.ref h_row, v_th_undos, v_th_isKept, v_th_text, v_th_length, v_th_sizes, v_th_values, v_th_asked, v_th_first, v_th_behind, v_th_readBits, v_th_clauses, v_th_doing, v_th_numbers, v_th_planWord, v_th_addWord, v_th_delWord, v_th_fillWord, v_th_probes, v_th_links, v_th_looks, v_th_found, v_th_isOver])), (h_row, .inl (cyI, 1824, .inl (upd zrow (x0 + m4).toNatClampNeg (0 : Int32))))] := hD
        refine lv_iinc (v := m4 + (1 : Int32)) (lv' := [(4, .int (m4 + (1 : Int32))), (0, .ref h_th), (1, .int x0), (2, .int x1), (3, .int x2)]) hx hb dX7_plan_21 hl (k := 4) rfl rfl (by decide) rfl (fun ls hl => ?_)
        refine lv_goto (tgt := 3) hx hb dX7_plan_24 (by decide) ?_
        exact ih (m4 + (1 : Int32)) (upd zrow (x0 + m4).toNatClampNeg (0 : Int32)) _ _ _ h hP hD hS (lv_sub hl [1, 2, 3, 4, 0] rfl)
  exact LL _ (0 : Int32) row _ _ _ hw_7 hP hD hS (lv_sub hl [1, 2, 3, 4, 0] rfl)

def fX7_in (x0 : Int64) (x1 : Int64) (x2 : Int64) : Option (Int32) := olet (if (lg_cmp x0 x1) < 0 then ((0 : Int32)) else (if 0 < (lg_cmp x0 x2) then ((0 : Int32)) else ((1 : Int32)))) fun y_2 => obl y_2 (some y_2)

set_option maxHeartbeats 4000000 in
set_option maxRecDepth 100000 in
theorem tX7_in (l : Launch) (dC : Nat → ClassId) (dI : Nat → Nat → Nat) (cyI cyJ cyZ cyO : ClassId) (sz : Nat) (x0 : Int64) (x1 : Int64) (x2 : Int64) (u : Int32) (hf : fX7_in x0 x1 x2 = some u) : Met l yX7_in wsX7_in ({ frames := 0, cells := 0, slots := 0, locals := 0 }) (va_Pc [.long x0, .long x1, .long x2] (GP (dC, dI) (T4 cyI cyJ cyZ cyO) sz [])) (va_Qi (fun (r : Int32) (_ : Unit) => r = u) (GB (dC, dI) [] (va_A [] sz)) (va_A [] sz)) 0 0 (va_A [] sz) := by
  refine GMetZ (by decide) rfl (Nat.le_of_ble_eq_true rfl) ?_
  intro p e s m args below meth c A Q ls hx hb hml hts hown hN hK hA hret hP hD hS hl
  have h := hf
  clear hf
  unfold fX7_in at h
  have hown : s.vm.findClass RX7 = some m.cls := hown
  have hl : lv_has ls 6 [(0, .long x0), (2, .long x1), (4, .long x2)] := hl
  refine lv_lload_n hx hb dX7_in_0 rfl (lv_at hl 0 rfl) ?_
  refine lv_lload_n hx hb dX7_in_1 rfl (lv_at hl 1 rfl) ?_
  refine W.lcmp hx hb dX7_in_2 ?_
  obtain ⟨y_2, ey_2, h⟩ := olet_e h
  have J : ∀ (H : Heap) (locs : List Loc) (ls : Array Slot), va_P (dC, dI) vwCl [] H → va_D A [] → va_S A s.heap H locs → lv_has ls 6 [] → W p l e ({ frames := 0, cells := 0, slots := 0, locals := 0 }) s m args below meth c H locs 0 0 Q (F0 m 18 ls [.int y_2]) := by
    intro H locs ls hP hD hS hl
    obtain ⟨hz, h⟩ := obl_e h
    obtain rfl := Option.some.inj h
    exact hret _ _ _ _ dX7_in_18 hz hP hD hS
  clear h
  refine lv_if_lt (tgt := 17) hx hb dX7_in_3 (by decide) (fun c_1 => ?_) (fun c_1 => ?_)
  · refine lv_iconst (v := 0) hx hb dX7_in_17 (by decide) ?_
    rw [if_pos c_1] at ey_2
    subst ey_2
    exact J _ _ _ hP hD hS (lv_sub hl [] rfl)
  · refine lv_lload_n hx hb dX7_in_6 rfl (lv_at hl 0 rfl) ?_
    refine lv_lload hx hb dX7_in_7 (lv_at hl 2 rfl) ?_
    refine W.lcmp hx hb dX7_in_9 ?_
    refine lv_if_gt (tgt := 17) hx hb dX7_in_10 (by decide) (fun c_3 => ?_) (fun c_3 => ?_)
    · refine lv_iconst (v := 0) hx hb dX7_in_17 (by decide) ?_
      rw [if_neg c_1, if_pos c_3] at ey_2
      subst ey_2
      exact J _ _ _ hP hD hS (lv_sub hl [] rfl)
    · refine lv_iconst (v := 1) hx hb dX7_in_13 (by decide) ?_
      refine lv_goto (tgt := 18) hx hb dX7_in_14 (by decide) ?_
      rw [if_neg c_1, if_neg c_3] at ey_2
      subst ey_2
      exact J _ _ _ hP hD hS (lv_sub hl [] rfl)

def fX7_top (row : (Nat → Int32)) : Option (Int32) := oin (0 : Int32) 1824 (some (((1 : Int32) <<< ((row (0 : Int32).toNatClampNeg) &&& 31)) - (1 : Int32)))

set_option maxHeartbeats 4000000 in
set_option maxRecDepth 100000 in
theorem tX7_top (l : Launch) (dC : Nat → ClassId) (dI : Nat → Nat → Nat) (cyI cyJ cyZ cyO : ClassId) (sz : Nat) (h_th h_row : Nat) (v_th_undos : Value) (v_th_isKept : Value) (v_th_text : Value) (v_th_length : Value) (v_th_sizes : Value) (v_th_values : Value) (v_th_asked : Value) (v_th_first : Value) (v_th_behind : Value) (v_th_readBits : Value) (v_th_clauses : Value) (v_th_doing : Value) (v_th_numbers : Value) (v_th_planWord : Value) (v_th_addWord : Value) (v_th_delWord : Value) (v_th_fillWord : Value) (v_th_probes : Value) (v_th_links : Value) (v_th_looks : Value) (v_th_found : Value) (v_th_isOver : Value) (row : (Nat → Int32)) (u : Int32) (hf : fX7_top row = some u) : Met l yX7_top wsX7_top ({ frames := 0, cells := 0, slots := 0, locals := 0 }) (va_Pc [.ref h_th] (GP (dC, dI) (T4 cyI cyJ cyZ cyO) sz [(h_th, .inr (7, [.ref h_row, v_th_undos, v_th_isKept, v_th_text, v_th_length, v_th_sizes, v_th_values, v_th_asked, v_th_first, v_th_behind, v_th_readBits, v_th_clauses, v_th_doing, v_th_numbers, v_th_planWord, v_th_addWord, v_th_delWord, v_th_fillWord, v_th_probes, v_th_links, v_th_looks, v_th_found, v_th_isOver])), (h_row, .inl (cyI, 1824, .inl row))])) (va_Qi (fun (r : Int32) (_ : Unit) => r = u) (GB (dC, dI) [(h_th, .inr (7, [.ref h_row, v_th_undos, v_th_isKept, v_th_text, v_th_length, v_th_sizes, v_th_values, v_th_asked, v_th_first, v_th_behind, v_th_readBits, v_th_clauses, v_th_doing, v_th_numbers, v_th_planWord, v_th_addWord, v_th_delWord, v_th_fillWord, v_th_probes, v_th_links, v_th_looks, v_th_found, v_th_isOver])), (h_row, .inl (cyI, 1824, .inl row))] (va_A [(h_th, .inr (7, [.ref h_row, v_th_undos, v_th_isKept, v_th_text, v_th_length, v_th_sizes, v_th_values, v_th_asked, v_th_first, v_th_behind, v_th_readBits, v_th_clauses, v_th_doing, v_th_numbers, v_th_planWord, v_th_addWord, v_th_delWord, v_th_fillWord, v_th_probes, v_th_links, v_th_looks, v_th_found, v_th_isOver])), (h_row, .inl (cyI, 1824, .inl row))] sz)) (va_A [(h_th, .inr (7, [.ref h_row, v_th_undos, v_th_isKept, v_th_text, v_th_length, v_th_sizes, v_th_values, v_th_asked, v_th_first, v_th_behind, v_th_readBits, v_th_clauses, v_th_doing, v_th_numbers, v_th_planWord, v_th_addWord, v_th_delWord, v_th_fillWord, v_th_probes, v_th_links, v_th_looks, v_th_found, v_th_isOver])), (h_row, .inl (cyI, 1824, .inl row))] sz)) 0 0 (va_A [(h_th, .inr (7, [.ref h_row, v_th_undos, v_th_isKept, v_th_text, v_th_length, v_th_sizes, v_th_values, v_th_asked, v_th_first, v_th_behind, v_th_readBits, v_th_clauses, v_th_doing, v_th_numbers, v_th_planWord, v_th_addWord, v_th_delWord, v_th_fillWord, v_th_probes, v_th_links, v_th_looks, v_th_found, v_th_isOver])), (h_row, .inl (cyI, 1824, .inl row))] sz) := by
  refine GMetI (by decide) rfl (Nat.le_of_ble_eq_true rfl) ?_
  intro p e s m args below meth c A Q ls hx hb hml hts hown hN hK hA hret hP hD hS hl
  have h := hf
  clear hf
  unfold fX7_top at h
  have hown : s.vm.findClass RX7 = some m.cls := hown
  have hl : lv_has ls 1 [(0, .ref h_th)] := hl
  refine lv_iconst (v := 1) hx hb dX7_top_0 (by decide) ?_
  refine lv_aload_n hx hb dX7_top_1 rfl (lv_at hl 0 rfl) ?_
  refine va_get (D := (dC, dI)) (ci := 7) (v := .ref h_row) (C := RX7) (T := TX7) (N := 23) hx hb hts (fun _ hw => List.mem_cons_of_mem _ (List.mem_append_right _ hw)) hown hK hP 0 rfl rfl 0 (by decide) (hts (.fieldLink RX7 7 "PrefixIndexModel" "row" "[I") (List.mem_of_getElem? (i := 1) rfl)) (fun _ h9 => h9) rfl dX7_top_2 ?_
  refine lv_iconst (v := 0) hx hb dX7_top_5 (by decide) ?_
  obtain ⟨hi_1, h⟩ := oin_e h
  refine va_iald hx hb hK hP 1 0 rfl rfl hi_1 dX7_top_6 ?_
  refine lv_ishl hx hb dX7_top_7 ?_
  refine lv_iconst (v := 1) hx hb dX7_top_8 (by decide) ?_
  refine lv_isub hx hb dX7_top_9 ?_
  obtain rfl := Option.some.inj h
  exact hret _ _ _ _ dX7_top_10 hP hD hS

def lpX7_below_2 (q1 : Int32) (q2 : Int32) (row : (Nat → Int32)) : Nat → Int32 → Option (Int32)
  | 0, _ => none
  | n + 1, m3 => oin (q1 + (2 : Int32)) 1824 (if (row (q1 + (2 : Int32)).toNatClampNeg) ≤ m3 then (some m3) else (oin ((q1 + (6 : Int32)) + m3) 1824 (if q2 ≤ (row ((q1 + (6 : Int32)) + m3).toNatClampNeg) then (some m3) else (lpX7_below_2 q1 q2 row n (m3 + (1 : Int32))))))

def fX7_below (row : (Nat → Int32)) (x0 : Int32) (x1 : Int32) : Option (Int32) := obd (lpX7_below_2 x0 x1 row 100000 (0 : Int32)) fun w_10 => some w_10

set_option maxHeartbeats 4000000 in
set_option maxRecDepth 100000 in
theorem tX7_below (l : Launch) (dC : Nat → ClassId) (dI : Nat → Nat → Nat) (cyI cyJ cyZ cyO : ClassId) (sz : Nat) (h_th h_row : Nat) (v_th_undos : Value) (v_th_isKept : Value) (v_th_text : Value) (v_th_length : Value) (v_th_sizes : Value) (v_th_values : Value) (v_th_asked : Value) (v_th_first : Value) (v_th_behind : Value) (v_th_readBits : Value) (v_th_clauses : Value) (v_th_doing : Value) (v_th_numbers : Value) (v_th_planWord : Value) (v_th_addWord : Value) (v_th_delWord : Value) (v_th_fillWord : Value) (v_th_probes : Value) (v_th_links : Value) (v_th_looks : Value) (v_th_found : Value) (v_th_isOver : Value) (row : (Nat → Int32)) (x0 : Int32) (x1 : Int32) (u : Int32) (hf : fX7_below row x0 x1 = some u) : Met l yX7_below wsX7_below ({ frames := 0, cells := 0, slots := 0, locals := 0 }) (va_Pc [.ref h_th, .int x0, .int x1] (GP (dC, dI) (T4 cyI cyJ cyZ cyO) sz [(h_th, .inr (7, [.ref h_row, v_th_undos, v_th_isKept, v_th_text, v_th_length, v_th_sizes, v_th_values, v_th_asked, v_th_first, v_th_behind, v_th_readBits, v_th_clauses, v_th_doing, v_th_numbers, v_th_planWord, v_th_addWord, v_th_delWord, v_th_fillWord, v_th_probes, v_th_links, v_th_looks, v_th_found, v_th_isOver])), (h_row, .inl (cyI, 1824, .inl row))])) (va_Qi (fun (r : Int32) (_ : Unit) => r = u) (GB (dC, dI) [(h_th, .inr (7, [.ref h_row, v_th_undos, v_th_isKept, v_th_text, v_th_length, v_th_sizes, v_th_values, v_th_asked, v_th_first, v_th_behind, v_th_readBits, v_th_clauses, v_th_doing, v_th_numbers, v_th_planWord, v_th_addWord, v_th_delWord, v_th_fillWord, v_th_probes, v_th_links, v_th_looks, v_th_found, v_th_isOver])), (h_row, .inl (cyI, 1824, .inl row))] (va_A [(h_th, .inr (7, [.ref h_row, v_th_undos, v_th_isKept, v_th_text, v_th_length, v_th_sizes, v_th_values, v_th_asked, v_th_first, v_th_behind, v_th_readBits, v_th_clauses, v_th_doing, v_th_numbers, v_th_planWord, v_th_addWord, v_th_delWord, v_th_fillWord, v_th_probes, v_th_links, v_th_looks, v_th_found, v_th_isOver])), (h_row, .inl (cyI, 1824, .inl row))] sz)) (va_A [(h_th, .inr (7, [.ref h_row, v_th_undos, v_th_isKept, v_th_text, v_th_length, v_th_sizes, v_th_values, v_th_asked, v_th_first, v_th_behind, v_th_readBits, v_th_clauses, v_th_doing, v_th_numbers, v_th_planWord, v_th_addWord, v_th_delWord, v_th_fillWord, v_th_probes, v_th_links, v_th_looks, v_th_found, v_th_isOver])), (h_row, .inl (cyI, 1824, .inl row))] sz)) 0 0 (va_A [(h_th, .inr (7, [.ref h_row, v_th_undos, v_th_isKept, v_th_text, v_th_length, v_th_sizes, v_th_values, v_th_asked, v_th_first, v_th_behind, v_th_readBits, v_th_clauses, v_th_doing, v_th_numbers, v_th_planWord, v_th_addWord, v_th_delWord, v_th_fillWord, v_th_probes, v_th_links, v_th_looks, v_th_found, v_th_isOver])), (h_row, .inl (cyI, 1824, .inl row))] sz) := by
  refine GMetI (by decide) rfl (Nat.le_of_ble_eq_true rfl) ?_
  intro p e s m args below meth c A Q ls hx hb hml hts hown hN hK hA hret hP hD hS hl
  have h := hf
  clear hf
  unfold fX7_below at h
  have hown : s.vm.findClass RX7 = some m.cls := hown
  have hl : lv_has ls 4 [(0, .ref h_th), (1, .int x0), (2, .int x1)] := hl
  refine lv_iconst (v := 0) hx hb dX7_below_0 (by decide) ?_
  refine lv_istore_n (lv' := [(3, .int (0 : Int32)), (0, .ref h_th), (1, .int x0), (2, .int x1)]) hx hb dX7_below_1 rfl hl (by decide) rfl (fun ls hl => ?_)
  obtain ⟨w_10, hw_11, h⟩ := obd_e h
  have J : ∀ (H : Heap) (locs : List Loc) (ls : Array Slot), va_P (dC, dI) vwCl [(h_th, .inr (7, [.ref h_row, v_th_undos, v_th_isKept, v_th_text, v_th_length, v_th_sizes, v_th_values, v_th_asked, v_th_first, v_th_behind, v_th_readBits, v_th_clauses, v_th_doing, v_th_numbers, v_th_planWord, v_th_addWord, v_th_delWord, v_th_fillWord, v_th_probes, v_th_links, v_th_looks, v_th_found, v_th_isOver])), (h_row, .inl (cyI, 1824, .inl row))] H → va_D A [(h_th, .inr (7, [.ref h_row, v_th_undos, v_th_isKept, v_th_text, v_th_length, v_th_sizes, v_th_values, v_th_asked, v_th_first, v_th_behind, v_th_readBits, v_th_clauses, v_th_doing, v_th_numbers, v_th_planWord, v_th_addWord, v_th_delWord, v_th_fillWord, v_th_probes, v_th_links, v_th_looks, v_th_found, v_th_isOver])), (h_row, .inl (cyI, 1824, .inl row))] → va_S A s.heap H locs → lv_has ls 4 [(3, .int w_10)] → W p l e ({ frames := 0, cells := 0, slots := 0, locals := 0 }) s m args below meth c H locs 0 0 Q (F0 m 35 ls []) := by
    intro H locs ls hP hD hS hl
    refine lv_iload_n hx hb dX7_below_35 rfl (lv_at hl 0 rfl) ?_
    obtain rfl := Option.some.inj h
    exact hret _ _ _ _ dX7_below_36 hP hD hS
  have LL : ∀ (n : Nat) (m3 : Int32) (H : Heap) (locs : List Loc) (ls : Array Slot), lpX7_below_2 x0 x1 row n m3 = some w_10 → va_P (dC, dI) vwCl [(h_th, .inr (7, [.ref h_row, v_th_undos, v_th_isKept, v_th_text, v_th_length, v_th_sizes, v_th_values, v_th_asked, v_th_first, v_th_behind, v_th_readBits, v_th_clauses, v_th_doing, v_th_numbers, v_th_planWord, v_th_addWord, v_th_delWord, v_th_fillWord, v_th_probes, v_th_links, v_th_looks, v_th_found, v_th_isOver])), (h_row, .inl (cyI, 1824, .inl row))] H → va_D A [(h_th, .inr (7, [.ref h_row, v_th_undos, v_th_isKept, v_th_text, v_th_length, v_th_sizes, v_th_values, v_th_asked, v_th_first, v_th_behind, v_th_readBits, v_th_clauses, v_th_doing, v_th_numbers, v_th_planWord, v_th_addWord, v_th_delWord, v_th_fillWord, v_th_probes, v_th_links, v_th_looks, v_th_found, v_th_isOver])), (h_row, .inl (cyI, 1824, .inl row))] → va_S A s.heap H locs → lv_has ls 4 [(0, .ref h_th), (1, .int x0), (2, .int x1), (3, .int m3)] → W p l e ({ frames := 0, cells := 0, slots := 0, locals := 0 }) s m args below meth c H locs 0 0 Q (F0 m 2 ls []) := by
    intro n
    induction n with
    | zero =>
      intro m3 H locs ls h
      exact absurd h (by rw [lpX7_below_2]; exact fun q => by cases q)
    | succ n ih =>
      intro m3 H locs ls h hP hD hS hl
      rw [lpX7_below_2] at h
      refine lv_iload_n hx hb dX7_below_2 rfl (lv_at hl 3 rfl) ?_
      refine lv_aload_n hx hb dX7_below_3 rfl (lv_at hl 0 rfl) ?_
      refine va_get (D := (dC, dI)) (ci := 7) (v := .ref h_row) (C := RX7) (T := TX7) (N := 23) hx hb hts (fun _ hw => List.mem_cons_of_mem _ (List.mem_append_right _ hw)) hown hK hP 0 rfl rfl 0 (by decide) (hts (.fieldLink RX7 7 "PrefixIndexModel" "row" "[I") (List.mem_of_getElem? (i := 1) rfl)) (fun _ h9 => h9) rfl dX7_below_4 ?_
      refine lv_iload_n hx hb dX7_below_7 rfl (lv_at hl 1 rfl) ?_
      refine lv_iconst (v := 2) hx hb dX7_below_8 (by decide) ?_
      refine lv_iadd hx hb dX7_below_9 ?_
      obtain ⟨hi_6, h⟩ := oin_e h
      refine va_iald hx hb hK hP 1 0 rfl rfl hi_6 dX7_below_10 ?_
      refine lv_icmp_ge (tgt := 35) hx hb dX7_below_11 (by decide) (fun c_7 => ?_) (fun c_7 => ?_)
      · have h := og_ite_t c_7 h
        obtain rfl := Option.some.inj h
        exact J _ _ _ hP hD hS (lv_sub hl [3] rfl)
      · have h := og_ite_f c_7 h
        refine lv_aload_n hx hb dX7_below_14 rfl (lv_at hl 0 rfl) ?_
        refine va_get (D := (dC, dI)) (ci := 7) (v := .ref h_row) (C := RX7) (T := TX7) (N := 23) hx hb hts (fun _ hw => List.mem_cons_of_mem _ (List.mem_append_right _ hw)) hown hK hP 0 rfl rfl 0 (by decide) (hts (.fieldLink RX7 7 "PrefixIndexModel" "row" "[I") (List.mem_of_getElem? (i := 1) rfl)) (fun _ h9 => h9) rfl dX7_below_15 ?_
        refine lv_iload_n hx hb dX7_below_18 rfl (lv_at hl 1 rfl) ?_
        refine lv_bipush (v := 6) hx hb dX7_below_19 (by decide) ?_
        refine lv_iadd hx hb dX7_below_21 ?_
        refine lv_iload_n hx hb dX7_below_22 rfl (lv_at hl 3 rfl) ?_
        refine lv_iadd hx hb dX7_below_23 ?_
        obtain ⟨hi_8, h⟩ := oin_e h
        refine va_iald hx hb hK hP 1 0 rfl rfl hi_8 dX7_below_24 ?_
        refine lv_iload_n hx hb dX7_below_25 rfl (lv_at hl 2 rfl) ?_
        refine lv_icmp_ge (tgt := 35) hx hb dX7_below_26 (by decide) (fun c_9 => ?_) (fun c_9 => ?_)
        · have h := og_ite_t c_9 h
          obtain rfl := Option.some.inj h
          exact J _ _ _ hP hD hS (lv_sub hl [3] rfl)
        · have h := og_ite_f c_9 h
          refine lv_iinc (v := m3 + (1 : Int32)) (lv' := [(3, .int (m3 + (1 : Int32))), (0, .ref h_th), (1, .int x0), (2, .int x1)]) hx hb dX7_below_29 hl (k := 3) rfl rfl (by decide) rfl (fun ls hl => ?_)
          refine lv_goto (tgt := 2) hx hb dX7_below_32 (by decide) ?_
          exact ih (m3 + (1 : Int32)) _ _ _ h hP hD hS (lv_sub hl [1, 2, 3, 0] rfl)
  exact LL _ (0 : Int32) _ _ _ hw_11 hP hD hS (lv_sub hl [1, 2, 3, 0] rfl)

def fX7_isKey (row : (Nat → Int32)) (x0 : Int32) (x1 : Int32) : Option (Int32) := obd (fX7_below row x0 x1) fun u_1 => oin (x0 + (2 : Int32)) 1824 (obd (if (row (x0 + (2 : Int32)).toNatClampNeg) ≤ u_1 then (some (0 : Int32)) else (oin ((x0 + (6 : Int32)) + u_1) 1824 (if (row ((x0 + (6 : Int32)) + u_1).toNatClampNeg) = x1 then (some (1 : Int32)) else (some (0 : Int32))))) fun w_5 => obl w_5 (some w_5))

set_option maxHeartbeats 4000000 in
set_option maxRecDepth 100000 in
theorem tX7_isKey (l : Launch) (dC : Nat → ClassId) (dI : Nat → Nat → Nat) (cyI cyJ cyZ cyO : ClassId) (sz : Nat) (h_th h_row : Nat) (v_th_undos : Value) (v_th_isKept : Value) (v_th_text : Value) (v_th_length : Value) (v_th_sizes : Value) (v_th_values : Value) (v_th_asked : Value) (v_th_first : Value) (v_th_behind : Value) (v_th_readBits : Value) (v_th_clauses : Value) (v_th_doing : Value) (v_th_numbers : Value) (v_th_planWord : Value) (v_th_addWord : Value) (v_th_delWord : Value) (v_th_fillWord : Value) (v_th_probes : Value) (v_th_links : Value) (v_th_looks : Value) (v_th_found : Value) (v_th_isOver : Value) (row : (Nat → Int32)) (x0 : Int32) (x1 : Int32) (u : Int32) (hf : fX7_isKey row x0 x1 = some u) : Met l yX7_isKey wsX7_isKey ({ frames := 1, cells := 0, slots := 0, locals := 23 }) (va_Pc [.ref h_th, .int x0, .int x1] (GP (dC, dI) (T4 cyI cyJ cyZ cyO) sz [(h_th, .inr (7, [.ref h_row, v_th_undos, v_th_isKept, v_th_text, v_th_length, v_th_sizes, v_th_values, v_th_asked, v_th_first, v_th_behind, v_th_readBits, v_th_clauses, v_th_doing, v_th_numbers, v_th_planWord, v_th_addWord, v_th_delWord, v_th_fillWord, v_th_probes, v_th_links, v_th_looks, v_th_found, v_th_isOver])), (h_row, .inl (cyI, 1824, .inl row))])) (va_Qi (fun (r : Int32) (_ : Unit) => r = u) (GB (dC, dI) [(h_th, .inr (7, [.ref h_row, v_th_undos, v_th_isKept, v_th_text, v_th_length, v_th_sizes, v_th_values, v_th_asked, v_th_first, v_th_behind, v_th_readBits, v_th_clauses, v_th_doing, v_th_numbers, v_th_planWord, v_th_addWord, v_th_delWord, v_th_fillWord, v_th_probes, v_th_links, v_th_looks, v_th_found, v_th_isOver])), (h_row, .inl (cyI, 1824, .inl row))] (va_A [(h_th, .inr (7, [.ref h_row, v_th_undos, v_th_isKept, v_th_text, v_th_length, v_th_sizes, v_th_values, v_th_asked, v_th_first, v_th_behind, v_th_readBits, v_th_clauses, v_th_doing, v_th_numbers, v_th_planWord, v_th_addWord, v_th_delWord, v_th_fillWord, v_th_probes, v_th_links, v_th_looks, v_th_found, v_th_isOver])), (h_row, .inl (cyI, 1824, .inl row))] sz)) (va_A [(h_th, .inr (7, [.ref h_row, v_th_undos, v_th_isKept, v_th_text, v_th_length, v_th_sizes, v_th_values, v_th_asked, v_th_first, v_th_behind, v_th_readBits, v_th_clauses, v_th_doing, v_th_numbers, v_th_planWord, v_th_addWord, v_th_delWord, v_th_fillWord, v_th_probes, v_th_links, v_th_looks, v_th_found, v_th_isOver])), (h_row, .inl (cyI, 1824, .inl row))] sz)) 0 0 (va_A [(h_th, .inr (7, [.ref h_row, v_th_undos, v_th_isKept, v_th_text, v_th_length, v_th_sizes, v_th_values, v_th_asked, v_th_first, v_th_behind, v_th_readBits, v_th_clauses, v_th_doing, v_th_numbers, v_th_planWord, v_th_addWord, v_th_delWord, v_th_fillWord, v_th_probes, v_th_links, v_th_looks, v_th_found, v_th_isOver])), (h_row, .inl (cyI, 1824, .inl row))] sz) := by
  refine GMetZ (by decide) rfl (Nat.le_of_ble_eq_true rfl) ?_
  intro p e s m args below meth c A Q ls hx hb hml hts hown hN hK hA hret hP hD hS hl
  have h := hf
  clear hf
  unfold fX7_isKey at h
  have hown : s.vm.findClass RX7 = some m.cls := hown
  have hl : lv_has ls 4 [(0, .ref h_th), (1, .int x0), (2, .int x1)] := hl
  refine lv_aload_n hx hb dX7_isKey_0 rfl (lv_at hl 0 rfl) ?_
  refine lv_iload_n hx hb dX7_isKey_1 rfl (lv_at hl 1 rfl) ?_
  refine lv_iload_n hx hb dX7_isKey_2 rfl (lv_at hl 2 rfl) ?_
  obtain ⟨u_1, hc_2, h⟩ := obd_e h
  refine Gci (wr := []) (va_runV (As := [.int x0, .int x1]) (rest := []) ⟨hx, hb, hml, hown, hts⟩ (tX7_below l dC dI cyI cyJ cyZ cyO s.heap.size h_th h_row v_th_undos v_th_isKept v_th_text v_th_length v_th_sizes v_th_values v_th_asked v_th_first v_th_behind v_th_readBits v_th_clauses v_th_doing v_th_numbers v_th_planWord v_th_addWord v_th_delWord v_th_fillWord v_th_probes v_th_links v_th_looks v_th_found v_th_isOver row x0 x1 u_1 hc_2) (cwV 2 hts gX7_isKey_X7_below rfl rfl rfl (by decide +kernel) ⟨Nat.le_of_ble_eq_true rfl, Nat.le_of_ble_eq_true rfl⟩) (GpreV hP hD hK hN [0, 1] rfl (by decide) 7 0 rfl rfl rfl) rfl rfl hl.1 rfl (lv_room (Nat.le_of_ble_eq_true rfl)) dX7_isKey_3 ⟨Nat.zero_le _, Nat.zero_le _⟩) hP hD hS hA [0, 1] [] rfl rfl (by decide) (by decide) (fun H locs hP hD hS => ?_)
  have hP : va_P (dC, dI) vwCl [(h_th, .inr (7, [.ref h_row, v_th_undos, v_th_isKept, v_th_text, v_th_length, v_th_sizes, v_th_values, v_th_asked, v_th_first, v_th_behind, v_th_readBits, v_th_clauses, v_th_doing, v_th_numbers, v_th_planWord, v_th_addWord, v_th_delWord, v_th_fillWord, v_th_probes, v_th_links, v_th_looks, v_th_found, v_th_isOver])), (h_row, .inl (cyI, 1824, .inl row))] H := hP
  have hD : va_D A [(h_th, .inr (7, [.ref h_row, v_th_undos, v_th_isKept, v_th_text, v_th_length, v_th_sizes, v_th_values, v_th_asked, v_th_first, v_th_behind, v_th_readBits, v_th_clauses, v_th_doing, v_th_numbers, v_th_planWord, v_th_addWord, v_th_delWord, v_th_fillWord, v_th_probes, v_th_links, v_th_looks, v_th_found, v_th_isOver])), (h_row, .inl (cyI, 1824, .inl row))] := hD
  refine lv_istore_n (lv' := [(3, .int u_1), (0, .ref h_th), (1, .int x0), (2, .int x1)]) hx hb dX7_isKey_6 rfl hl (by decide) rfl (fun ls hl => ?_)
  refine lv_iload_n hx hb dX7_isKey_7 rfl (lv_at hl 0 rfl) ?_
  refine lv_aload_n hx hb dX7_isKey_8 rfl (lv_at hl 1 rfl) ?_
  refine va_get (D := (dC, dI)) (ci := 7) (v := .ref h_row) (C := RX7) (T := TX7) (N := 23) hx hb hts (fun _ hw => List.mem_cons_of_mem _ (List.mem_append_right _ hw)) hown hK hP 0 rfl rfl 0 (by decide) (hts (.fieldLink RX7 7 "PrefixIndexModel" "row" "[I") (List.mem_of_getElem? (i := 1) rfl)) (fun _ h9 => h9) rfl dX7_isKey_9 ?_
  refine lv_iload_n hx hb dX7_isKey_12 rfl (lv_at hl 2 rfl) ?_
  refine lv_iconst (v := 2) hx hb dX7_isKey_13 (by decide) ?_
  refine lv_iadd hx hb dX7_isKey_14 ?_
  obtain ⟨hi_3, h⟩ := oin_e h
  refine va_iald hx hb hK hP 1 0 rfl rfl hi_3 dX7_isKey_15 ?_
  obtain ⟨w_5, hm_8, h⟩ := obd_e h
  have J : ∀ (H : Heap) (locs : List Loc) (ls : Array Slot), va_P (dC, dI) vwCl [(h_th, .inr (7, [.ref h_row, v_th_undos, v_th_isKept, v_th_text, v_th_length, v_th_sizes, v_th_values, v_th_asked, v_th_first, v_th_behind, v_th_readBits, v_th_clauses, v_th_doing, v_th_numbers, v_th_planWord, v_th_addWord, v_th_delWord, v_th_fillWord, v_th_probes, v_th_links, v_th_looks, v_th_found, v_th_isOver])), (h_row, .inl (cyI, 1824, .inl row))] H → va_D A [(h_th, .inr (7, [.ref h_row, v_th_undos, v_th_isKept, v_th_text, v_th_length, v_th_sizes, v_th_values, v_th_asked, v_th_first, v_th_behind, v_th_readBits, v_th_clauses, v_th_doing, v_th_numbers, v_th_planWord, v_th_addWord, v_th_delWord, v_th_fillWord, v_th_probes, v_th_links, v_th_looks, v_th_found, v_th_isOver])), (h_row, .inl (cyI, 1824, .inl row))] → va_S A s.heap H locs → lv_has ls 4 [] → W p l e ({ frames := 1, cells := 0, slots := 0, locals := 23 }) s m args below meth c H locs 0 0 Q (F0 m 39 ls [.int w_5]) := by
    intro H locs ls hP hD hS hl
    obtain ⟨hz, h⟩ := obl_e h
    obtain rfl := Option.some.inj h
    exact hret _ _ _ _ dX7_isKey_39 hz hP hD hS
  replace h := hm_8
  refine lv_icmp_ge (tgt := 38) hx hb dX7_isKey_16 (by decide) (fun c_4 => ?_) (fun c_4 => ?_)
  · have h := og_ite_t c_4 h
    refine lv_iconst (v := 0) hx hb dX7_isKey_38 (by decide) ?_
    obtain rfl := Option.some.inj h
    exact J _ _ _ hP hD hS (lv_sub hl [] rfl)
  · have h := og_ite_f c_4 h
    refine lv_aload_n hx hb dX7_isKey_19 rfl (lv_at hl 1 rfl) ?_
    refine va_get (D := (dC, dI)) (ci := 7) (v := .ref h_row) (C := RX7) (T := TX7) (N := 23) hx hb hts (fun _ hw => List.mem_cons_of_mem _ (List.mem_append_right _ hw)) hown hK hP 0 rfl rfl 0 (by decide) (hts (.fieldLink RX7 7 "PrefixIndexModel" "row" "[I") (List.mem_of_getElem? (i := 1) rfl)) (fun _ h9 => h9) rfl dX7_isKey_20 ?_
    refine lv_iload_n hx hb dX7_isKey_23 rfl (lv_at hl 2 rfl) ?_
    refine lv_bipush (v := 6) hx hb dX7_isKey_24 (by decide) ?_
    refine lv_iadd hx hb dX7_isKey_26 ?_
    refine lv_iload_n hx hb dX7_isKey_27 rfl (lv_at hl 0 rfl) ?_
    refine lv_iadd hx hb dX7_isKey_28 ?_
    obtain ⟨hi_6, h⟩ := oin_e h
    refine va_iald hx hb hK hP 1 0 rfl rfl hi_6 dX7_isKey_29 ?_
    refine lv_iload_n hx hb dX7_isKey_30 rfl (lv_at hl 3 rfl) ?_
    refine lv_icmp_ne (tgt := 38) hx hb dX7_isKey_31 (by decide) (fun c_7 => ?_) (fun c_7 => ?_)
    · have h := og_ite_f c_7 h
      refine lv_iconst (v := 0) hx hb dX7_isKey_38 (by decide) ?_
      obtain rfl := Option.some.inj h
      exact J _ _ _ hP hD hS (lv_sub hl [] rfl)
    · have h := og_ite_t c_7 h
      refine lv_iconst (v := 1) hx hb dX7_isKey_34 (by decide) ?_
      refine lv_goto (tgt := 39) hx hb dX7_isKey_35 (by decide) ?_
      obtain rfl := Option.some.inj h
      exact J _ _ _ hP hD hS (lv_sub hl [] rfl)

def lpX7_bucketOf_2 (q1 : Int32) (q2 : Int32) (row : (Nat → Int32)) : Nat → Int32 → Option (Int32)
  | 0, _ => none
  | n + 1, m3 => oin ((q1 + (102 : Int32)) + m3) 1824 (if q2 ≤ (row ((q1 + (102 : Int32)) + m3).toNatClampNeg) then (some m3) else (lpX7_bucketOf_2 q1 q2 row n (m3 + (1 : Int32))))

def fX7_bucketOf (row : (Nat → Int32)) (x0 : Int32) (x1 : Int32) : Option (Int32) := obd (lpX7_bucketOf_2 x0 x1 row 100000 (0 : Int32)) fun w_6 => some w_6

set_option maxHeartbeats 4000000 in
set_option maxRecDepth 100000 in
theorem tX7_bucketOf (l : Launch) (dC : Nat → ClassId) (dI : Nat → Nat → Nat) (cyI cyJ cyZ cyO : ClassId) (sz : Nat) (h_th h_row : Nat) (v_th_undos : Value) (v_th_isKept : Value) (v_th_text : Value) (v_th_length : Value) (v_th_sizes : Value) (v_th_values : Value) (v_th_asked : Value) (v_th_first : Value) (v_th_behind : Value) (v_th_readBits : Value) (v_th_clauses : Value) (v_th_doing : Value) (v_th_numbers : Value) (v_th_planWord : Value) (v_th_addWord : Value) (v_th_delWord : Value) (v_th_fillWord : Value) (v_th_probes : Value) (v_th_links : Value) (v_th_looks : Value) (v_th_found : Value) (v_th_isOver : Value) (row : (Nat → Int32)) (x0 : Int32) (x1 : Int32) (u : Int32) (hf : fX7_bucketOf row x0 x1 = some u) : Met l yX7_bucketOf wsX7_bucketOf ({ frames := 0, cells := 0, slots := 0, locals := 0 }) (va_Pc [.ref h_th, .int x0, .int x1] (GP (dC, dI) (T4 cyI cyJ cyZ cyO) sz [(h_th, .inr (7, [.ref h_row, v_th_undos, v_th_isKept, v_th_text, v_th_length, v_th_sizes, v_th_values, v_th_asked, v_th_first, v_th_behind, v_th_readBits, v_th_clauses, v_th_doing, v_th_numbers, v_th_planWord, v_th_addWord, v_th_delWord, v_th_fillWord, v_th_probes, v_th_links, v_th_looks, v_th_found, v_th_isOver])), (h_row, .inl (cyI, 1824, .inl row))])) (va_Qi (fun (r : Int32) (_ : Unit) => r = u) (GB (dC, dI) [(h_th, .inr (7, [.ref h_row, v_th_undos, v_th_isKept, v_th_text, v_th_length, v_th_sizes, v_th_values, v_th_asked, v_th_first, v_th_behind, v_th_readBits, v_th_clauses, v_th_doing, v_th_numbers, v_th_planWord, v_th_addWord, v_th_delWord, v_th_fillWord, v_th_probes, v_th_links, v_th_looks, v_th_found, v_th_isOver])), (h_row, .inl (cyI, 1824, .inl row))] (va_A [(h_th, .inr (7, [.ref h_row, v_th_undos, v_th_isKept, v_th_text, v_th_length, v_th_sizes, v_th_values, v_th_asked, v_th_first, v_th_behind, v_th_readBits, v_th_clauses, v_th_doing, v_th_numbers, v_th_planWord, v_th_addWord, v_th_delWord, v_th_fillWord, v_th_probes, v_th_links, v_th_looks, v_th_found, v_th_isOver])), (h_row, .inl (cyI, 1824, .inl row))] sz)) (va_A [(h_th, .inr (7, [.ref h_row, v_th_undos, v_th_isKept, v_th_text, v_th_length, v_th_sizes, v_th_values, v_th_asked, v_th_first, v_th_behind, v_th_readBits, v_th_clauses, v_th_doing, v_th_numbers, v_th_planWord, v_th_addWord, v_th_delWord, v_th_fillWord, v_th_probes, v_th_links, v_th_looks, v_th_found, v_th_isOver])), (h_row, .inl (cyI, 1824, .inl row))] sz)) 0 0 (va_A [(h_th, .inr (7, [.ref h_row, v_th_undos, v_th_isKept, v_th_text, v_th_length, v_th_sizes, v_th_values, v_th_asked, v_th_first, v_th_behind, v_th_readBits, v_th_clauses, v_th_doing, v_th_numbers, v_th_planWord, v_th_addWord, v_th_delWord, v_th_fillWord, v_th_probes, v_th_links, v_th_looks, v_th_found, v_th_isOver])), (h_row, .inl (cyI, 1824, .inl row))] sz) := by
  refine GMetI (by decide) rfl (Nat.le_of_ble_eq_true rfl) ?_
  intro p e s m args below meth c A Q ls hx hb hml hts hown hN hK hA hret hP hD hS hl
  have h := hf
  clear hf
  unfold fX7_bucketOf at h
  have hown : s.vm.findClass RX7 = some m.cls := hown
  have hl : lv_has ls 4 [(0, .ref h_th), (1, .int x0), (2, .int x1)] := hl
  refine lv_iconst (v := 0) hx hb dX7_bucketOf_0 (by decide) ?_
  refine lv_istore_n (lv' := [(3, .int (0 : Int32)), (0, .ref h_th), (1, .int x0), (2, .int x1)]) hx hb dX7_bucketOf_1 rfl hl (by decide) rfl (fun ls hl => ?_)
  obtain ⟨w_6, hw_7, h⟩ := obd_e h
  have J : ∀ (H : Heap) (locs : List Loc) (ls : Array Slot), va_P (dC, dI) vwCl [(h_th, .inr (7, [.ref h_row, v_th_undos, v_th_isKept, v_th_text, v_th_length, v_th_sizes, v_th_values, v_th_asked, v_th_first, v_th_behind, v_th_readBits, v_th_clauses, v_th_doing, v_th_numbers, v_th_planWord, v_th_addWord, v_th_delWord, v_th_fillWord, v_th_probes, v_th_links, v_th_looks, v_th_found, v_th_isOver])), (h_row, .inl (cyI, 1824, .inl row))] H → va_D A [(h_th, .inr (7, [.ref h_row, v_th_undos, v_th_isKept, v_th_text, v_th_length, v_th_sizes, v_th_values, v_th_asked, v_th_first, v_th_behind, v_th_readBits, v_th_clauses, v_th_doing, v_th_numbers, v_th_planWord, v_th_addWord, v_th_delWord, v_th_fillWord, v_th_probes, v_th_links, v_th_looks, v_th_found, v_th_isOver])), (h_row, .inl (cyI, 1824, .inl row))] → va_S A s.heap H locs → lv_has ls 4 [(3, .int w_6)] → W p l e ({ frames := 0, cells := 0, slots := 0, locals := 0 }) s m args below meth c H locs 0 0 Q (F0 m 23 ls []) := by
    intro H locs ls hP hD hS hl
    refine lv_iload_n hx hb dX7_bucketOf_23 rfl (lv_at hl 0 rfl) ?_
    obtain rfl := Option.some.inj h
    exact hret _ _ _ _ dX7_bucketOf_24 hP hD hS
  have LL : ∀ (n : Nat) (m3 : Int32) (H : Heap) (locs : List Loc) (ls : Array Slot), lpX7_bucketOf_2 x0 x1 row n m3 = some w_6 → va_P (dC, dI) vwCl [(h_th, .inr (7, [.ref h_row, v_th_undos, v_th_isKept, v_th_text, v_th_length, v_th_sizes, v_th_values, v_th_asked, v_th_first, v_th_behind, v_th_readBits, v_th_clauses, v_th_doing, v_th_numbers, v_th_planWord, v_th_addWord, v_th_delWord, v_th_fillWord, v_th_probes, v_th_links, v_th_looks, v_th_found, v_th_isOver])), (h_row, .inl (cyI, 1824, .inl row))] H → va_D A [(h_th, .inr (7, [.ref h_row, v_th_undos, v_th_isKept, v_th_text, v_th_length, v_th_sizes, v_th_values, v_th_asked, v_th_first, v_th_behind, v_th_readBits, v_th_clauses, v_th_doing, v_th_numbers, v_th_planWord, v_th_addWord, v_th_delWord, v_th_fillWord, v_th_probes, v_th_links, v_th_looks, v_th_found, v_th_isOver])), (h_row, .inl (cyI, 1824, .inl row))] → va_S A s.heap H locs → lv_has ls 4 [(0, .ref h_th), (1, .int x0), (2, .int x1), (3, .int m3)] → W p l e ({ frames := 0, cells := 0, slots := 0, locals := 0 }) s m args below meth c H locs 0 0 Q (F0 m 2 ls []) := by
    intro n
    induction n with
    | zero =>
      intro m3 H locs ls h
      exact absurd h (by rw [lpX7_bucketOf_2]; exact fun q => by cases q)
    | succ n ih =>
      intro m3 H locs ls h hP hD hS hl
      rw [lpX7_bucketOf_2] at h
      refine lv_aload_n hx hb dX7_bucketOf_2 rfl (lv_at hl 0 rfl) ?_
      refine va_get (D := (dC, dI)) (ci := 7) (v := .ref h_row) (C := RX7) (T := TX7) (N := 23) hx hb hts (fun _ hw => List.mem_cons_of_mem _ (List.mem_append_right _ hw)) hown hK hP 0 rfl rfl 0 (by decide) (hts (.fieldLink RX7 7 "PrefixIndexModel" "row" "[I") (List.mem_of_getElem? (i := 1) rfl)) (fun _ h9 => h9) rfl dX7_bucketOf_3 ?_
      refine lv_iload_n hx hb dX7_bucketOf_6 rfl (lv_at hl 1 rfl) ?_
      refine lv_bipush (v := 102) hx hb dX7_bucketOf_7 (by decide) ?_
      refine lv_iadd hx hb dX7_bucketOf_9 ?_
      refine lv_iload_n hx hb dX7_bucketOf_10 rfl (lv_at hl 3 rfl) ?_
      refine lv_iadd hx hb dX7_bucketOf_11 ?_
      obtain ⟨hi_4, h⟩ := oin_e h
      refine va_iald hx hb hK hP 1 0 rfl rfl hi_4 dX7_bucketOf_12 ?_
      refine lv_iload_n hx hb dX7_bucketOf_13 rfl (lv_at hl 2 rfl) ?_
      refine lv_icmp_ge (tgt := 23) hx hb dX7_bucketOf_14 (by decide) (fun c_5 => ?_) (fun c_5 => ?_)
      · have h := og_ite_t c_5 h
        obtain rfl := Option.some.inj h
        exact J _ _ _ hP hD hS (lv_sub hl [3] rfl)
      · have h := og_ite_f c_5 h
        refine lv_iinc (v := m3 + (1 : Int32)) (lv' := [(3, .int (m3 + (1 : Int32))), (0, .ref h_th), (1, .int x0), (2, .int x1)]) hx hb dX7_bucketOf_17 hl (k := 3) rfl rfl (by decide) rfl (fun ls hl => ?_)
        refine lv_goto (tgt := 2) hx hb dX7_bucketOf_20 (by decide) ?_
        exact ih (m3 + (1 : Int32)) _ _ _ h hP hD hS (lv_sub hl [1, 2, 3, 0] rfl)
  exact LL _ (0 : Int32) _ _ _ hw_7 hP hD hS (lv_sub hl [1, 2, 3, 0] rfl)

def fX7_aheadOf (row : (Nat → Int32)) (x0 : Int32) (x1 : Int32) : Option (Int32) := obd (if x1 = 0 then (some (0 : Int32)) else (oin (((x0 + (102 : Int32)) + x1) - (1 : Int32)) 1824 (obd (fX7_below row x0 ((row (((x0 + (102 : Int32)) + x1) - (1 : Int32)).toNatClampNeg) + (1 : Int32))) fun u_4 => some u_4))) fun w_2 => some w_2

set_option maxHeartbeats 4000000 in
set_option maxRecDepth 100000 in
theorem tX7_aheadOf (l : Launch) (dC : Nat → ClassId) (dI : Nat → Nat → Nat) (cyI cyJ cyZ cyO : ClassId) (sz : Nat) (h_th h_row : Nat) (v_th_undos : Value) (v_th_isKept : Value) (v_th_text : Value) (v_th_length : Value) (v_th_sizes : Value) (v_th_values : Value) (v_th_asked : Value) (v_th_first : Value) (v_th_behind : Value) (v_th_readBits : Value) (v_th_clauses : Value) (v_th_doing : Value) (v_th_numbers : Value) (v_th_planWord : Value) (v_th_addWord : Value) (v_th_delWord : Value) (v_th_fillWord : Value) (v_th_probes : Value) (v_th_links : Value) (v_th_looks : Value) (v_th_found : Value) (v_th_isOver : Value) (row : (Nat → Int32)) (x0 : Int32) (x1 : Int32) (u : Int32) (hf : fX7_aheadOf row x0 x1 = some u) : Met l yX7_aheadOf wsX7_aheadOf ({ frames := 1, cells := 0, slots := 0, locals := 23 }) (va_Pc [.ref h_th, .int x0, .int x1] (GP (dC, dI) (T4 cyI cyJ cyZ cyO) sz [(h_th, .inr (7, [.ref h_row, v_th_undos, v_th_isKept, v_th_text, v_th_length, v_th_sizes, v_th_values, v_th_asked, v_th_first, v_th_behind, v_th_readBits, v_th_clauses, v_th_doing, v_th_numbers, v_th_planWord, v_th_addWord, v_th_delWord, v_th_fillWord, v_th_probes, v_th_links, v_th_looks, v_th_found, v_th_isOver])), (h_row, .inl (cyI, 1824, .inl row))])) (va_Qi (fun (r : Int32) (_ : Unit) => r = u) (GB (dC, dI) [(h_th, .inr (7, [.ref h_row, v_th_undos, v_th_isKept, v_th_text, v_th_length, v_th_sizes, v_th_values, v_th_asked, v_th_first, v_th_behind, v_th_readBits, v_th_clauses, v_th_doing, v_th_numbers, v_th_planWord, v_th_addWord, v_th_delWord, v_th_fillWord, v_th_probes, v_th_links, v_th_looks, v_th_found, v_th_isOver])), (h_row, .inl (cyI, 1824, .inl row))] (va_A [(h_th, .inr (7, [.ref h_row, v_th_undos, v_th_isKept, v_th_text, v_th_length, v_th_sizes, v_th_values, v_th_asked, v_th_first, v_th_behind, v_th_readBits, v_th_clauses, v_th_doing, v_th_numbers, v_th_planWord, v_th_addWord, v_th_delWord, v_th_fillWord, v_th_probes, v_th_links, v_th_looks, v_th_found, v_th_isOver])), (h_row, .inl (cyI, 1824, .inl row))] sz)) (va_A [(h_th, .inr (7, [.ref h_row, v_th_undos, v_th_isKept, v_th_text, v_th_length, v_th_sizes, v_th_values, v_th_asked, v_th_first, v_th_behind, v_th_readBits, v_th_clauses, v_th_doing, v_th_numbers, v_th_planWord, v_th_addWord, v_th_delWord, v_th_fillWord, v_th_probes, v_th_links, v_th_looks, v_th_found, v_th_isOver])), (h_row, .inl (cyI, 1824, .inl row))] sz)) 0 0 (va_A [(h_th, .inr (7, [.ref h_row, v_th_undos, v_th_isKept, v_th_text, v_th_length, v_th_sizes, v_th_values, v_th_asked, v_th_first, v_th_behind, v_th_readBits, v_th_clauses, v_th_doing, v_th_numbers, v_th_planWord, v_th_addWord, v_th_delWord, v_th_fillWord, v_th_probes, v_th_links, v_th_looks, v_th_found, v_th_isOver])), (h_row, .inl (cyI, 1824, .inl row))] sz) := by
  refine GMetI (by decide) rfl (Nat.le_of_ble_eq_true rfl) ?_
  intro p e s m args below meth c A Q ls hx hb hml hts hown hN hK hA hret hP hD hS hl
  have h := hf
  clear hf
  unfold fX7_aheadOf at h
  have hown : s.vm.findClass RX7 = some m.cls := hown
  have hl : lv_has ls 3 [(0, .ref h_th), (1, .int x0), (2, .int x1)] := hl
  refine lv_iload_n hx hb dX7_aheadOf_0 rfl (lv_at hl 2 rfl) ?_
  obtain ⟨w_2, hm_6, h⟩ := obd_e h
  have J : ∀ (H : Heap) (locs : List Loc) (ls : Array Slot), va_P (dC, dI) vwCl [(h_th, .inr (7, [.ref h_row, v_th_undos, v_th_isKept, v_th_text, v_th_length, v_th_sizes, v_th_values, v_th_asked, v_th_first, v_th_behind, v_th_readBits, v_th_clauses, v_th_doing, v_th_numbers, v_th_planWord, v_th_addWord, v_th_delWord, v_th_fillWord, v_th_probes, v_th_links, v_th_looks, v_th_found, v_th_isOver])), (h_row, .inl (cyI, 1824, .inl row))] H → va_D A [(h_th, .inr (7, [.ref h_row, v_th_undos, v_th_isKept, v_th_text, v_th_length, v_th_sizes, v_th_values, v_th_asked, v_th_first, v_th_behind, v_th_readBits, v_th_clauses, v_th_doing, v_th_numbers, v_th_planWord, v_th_addWord, v_th_delWord, v_th_fillWord, v_th_probes, v_th_links, v_th_looks, v_th_found, v_th_isOver])), (h_row, .inl (cyI, 1824, .inl row))] → va_S A s.heap H locs → lv_has ls 3 [] → W p l e ({ frames := 1, cells := 0, slots := 0, locals := 23 }) s m args below meth c H locs 0 0 Q (F0 m 28 ls [.int w_2]) := by
    intro H locs ls hP hD hS hl
    obtain rfl := Option.some.inj h
    exact hret _ _ _ _ dX7_aheadOf_28 hP hD hS
  replace h := hm_6
  refine lv_if_ne (tgt := 8) hx hb dX7_aheadOf_1 (by decide) (fun c_1 => ?_) (fun c_1 => ?_)
  · have h := og_ite_f c_1 h
    refine lv_aload_n hx hb dX7_aheadOf_8 rfl (lv_at hl 0 rfl) ?_
    refine lv_iload_n hx hb dX7_aheadOf_9 rfl (lv_at hl 1 rfl) ?_
    refine lv_aload_n hx hb dX7_aheadOf_10 rfl (lv_at hl 0 rfl) ?_
    refine va_get (D := (dC, dI)) (ci := 7) (v := .ref h_row) (C := RX7) (T := TX7) (N := 23) hx hb hts (fun _ hw => List.mem_cons_of_mem _ (List.mem_append_right _ hw)) hown hK hP 0 rfl rfl 0 (by decide) (hts (.fieldLink RX7 7 "PrefixIndexModel" "row" "[I") (List.mem_of_getElem? (i := 1) rfl)) (fun _ h9 => h9) rfl dX7_aheadOf_11 ?_
    refine lv_iload_n hx hb dX7_aheadOf_14 rfl (lv_at hl 1 rfl) ?_
    refine lv_bipush (v := 102) hx hb dX7_aheadOf_15 (by decide) ?_
    refine lv_iadd hx hb dX7_aheadOf_17 ?_
    refine lv_iload_n hx hb dX7_aheadOf_18 rfl (lv_at hl 2 rfl) ?_
    refine lv_iadd hx hb dX7_aheadOf_19 ?_
    refine lv_iconst (v := 1) hx hb dX7_aheadOf_20 (by decide) ?_
    refine lv_isub hx hb dX7_aheadOf_21 ?_
    obtain ⟨hi_3, h⟩ := oin_e h
    refine va_iald hx hb hK hP 1 0 rfl rfl hi_3 dX7_aheadOf_22 ?_
    refine lv_iconst (v := 1) hx hb dX7_aheadOf_23 (by decide) ?_
    refine lv_iadd hx hb dX7_aheadOf_24 ?_
    obtain ⟨u_4, hc_5, h⟩ := obd_e h
    refine Gci (wr := []) (va_runV (As := [.int x0, .int ((row (((x0 + (102 : Int32)) + x1) - (1 : Int32)).toNatClampNeg) + (1 : Int32))]) (rest := []) ⟨hx, hb, hml, hown, hts⟩ (tX7_below l dC dI cyI cyJ cyZ cyO s.heap.size h_th h_row v_th_undos v_th_isKept v_th_text v_th_length v_th_sizes v_th_values v_th_asked v_th_first v_th_behind v_th_readBits v_th_clauses v_th_doing v_th_numbers v_th_planWord v_th_addWord v_th_delWord v_th_fillWord v_th_probes v_th_links v_th_looks v_th_found v_th_isOver row x0 ((row (((x0 + (102 : Int32)) + x1) - (1 : Int32)).toNatClampNeg) + (1 : Int32)) u_4 hc_5) (cwV 2 hts gX7_aheadOf_X7_below rfl rfl rfl (by decide +kernel) ⟨Nat.le_of_ble_eq_true rfl, Nat.le_of_ble_eq_true rfl⟩) (GpreV hP hD hK hN [0, 1] rfl (by decide) 7 0 rfl rfl rfl) rfl rfl hl.1 rfl (lv_room (Nat.le_of_ble_eq_true rfl)) dX7_aheadOf_25 ⟨Nat.zero_le _, Nat.zero_le _⟩) hP hD hS hA [0, 1] [] rfl rfl (by decide) (by decide) (fun H locs hP hD hS => ?_)
    have hP : va_P (dC, dI) vwCl [(h_th, .inr (7, [.ref h_row, v_th_undos, v_th_isKept, v_th_text, v_th_length, v_th_sizes, v_th_values, v_th_asked, v_th_first, v_th_behind, v_th_readBits, v_th_clauses, v_th_doing, v_th_numbers, v_th_planWord, v_th_addWord, v_th_delWord, v_th_fillWord, v_th_probes, v_th_links, v_th_looks, v_th_found, v_th_isOver])), (h_row, .inl (cyI, 1824, .inl row))] H := hP
    have hD : va_D A [(h_th, .inr (7, [.ref h_row, v_th_undos, v_th_isKept, v_th_text, v_th_length, v_th_sizes, v_th_values, v_th_asked, v_th_first, v_th_behind, v_th_readBits, v_th_clauses, v_th_doing, v_th_numbers, v_th_planWord, v_th_addWord, v_th_delWord, v_th_fillWord, v_th_probes, v_th_links, v_th_looks, v_th_found, v_th_isOver])), (h_row, .inl (cyI, 1824, .inl row))] := hD
    obtain rfl := Option.some.inj h
    exact J _ _ _ hP hD hS (lv_sub hl [] rfl)
  · have h := og_ite_t c_1 h
    refine lv_iconst (v := 0) hx hb dX7_aheadOf_4 (by decide) ?_
    refine lv_goto (tgt := 28) hx hb dX7_aheadOf_5 (by decide) ?_
    obtain rfl := Option.some.inj h
    exact J _ _ _ hP hD hS (lv_sub hl [] rfl)

def fX7_keysIn (row : (Nat → Int32)) (x0 : Int32) (x1 : Int32) : Option (Int32) := oin ((x0 + (102 : Int32)) + x1) 1824 (obd (fX7_below row x0 ((row ((x0 + (102 : Int32)) + x1).toNatClampNeg) + (1 : Int32))) fun u_2 => obd (fX7_aheadOf row x0 x1) fun u_4 => some (u_2 - u_4))

set_option maxHeartbeats 4000000 in
set_option maxRecDepth 100000 in
theorem tX7_keysIn (l : Launch) (dC : Nat → ClassId) (dI : Nat → Nat → Nat) (cyI cyJ cyZ cyO : ClassId) (sz : Nat) (h_th h_row : Nat) (v_th_undos : Value) (v_th_isKept : Value) (v_th_text : Value) (v_th_length : Value) (v_th_sizes : Value) (v_th_values : Value) (v_th_asked : Value) (v_th_first : Value) (v_th_behind : Value) (v_th_readBits : Value) (v_th_clauses : Value) (v_th_doing : Value) (v_th_numbers : Value) (v_th_planWord : Value) (v_th_addWord : Value) (v_th_delWord : Value) (v_th_fillWord : Value) (v_th_probes : Value) (v_th_links : Value) (v_th_looks : Value) (v_th_found : Value) (v_th_isOver : Value) (row : (Nat → Int32)) (x0 : Int32) (x1 : Int32) (u : Int32) (hf : fX7_keysIn row x0 x1 = some u) : Met l yX7_keysIn wsX7_keysIn ({ frames := 2, cells := 0, slots := 0, locals := 45 }) (va_Pc [.ref h_th, .int x0, .int x1] (GP (dC, dI) (T4 cyI cyJ cyZ cyO) sz [(h_th, .inr (7, [.ref h_row, v_th_undos, v_th_isKept, v_th_text, v_th_length, v_th_sizes, v_th_values, v_th_asked, v_th_first, v_th_behind, v_th_readBits, v_th_clauses, v_th_doing, v_th_numbers, v_th_planWord, v_th_addWord, v_th_delWord, v_th_fillWord, v_th_probes, v_th_links, v_th_looks, v_th_found, v_th_isOver])), (h_row, .inl (cyI, 1824, .inl row))])) (va_Qi (fun (r : Int32) (_ : Unit) => r = u) (GB (dC, dI) [(h_th, .inr (7, [.ref h_row, v_th_undos, v_th_isKept, v_th_text, v_th_length, v_th_sizes, v_th_values, v_th_asked, v_th_first, v_th_behind, v_th_readBits, v_th_clauses, v_th_doing, v_th_numbers, v_th_planWord, v_th_addWord, v_th_delWord, v_th_fillWord, v_th_probes, v_th_links, v_th_looks, v_th_found, v_th_isOver])), (h_row, .inl (cyI, 1824, .inl row))] (va_A [(h_th, .inr (7, [.ref h_row, v_th_undos, v_th_isKept, v_th_text, v_th_length, v_th_sizes, v_th_values, v_th_asked, v_th_first, v_th_behind, v_th_readBits, v_th_clauses, v_th_doing, v_th_numbers, v_th_planWord, v_th_addWord, v_th_delWord, v_th_fillWord, v_th_probes, v_th_links, v_th_looks, v_th_found, v_th_isOver])), (h_row, .inl (cyI, 1824, .inl row))] sz)) (va_A [(h_th, .inr (7, [.ref h_row, v_th_undos, v_th_isKept, v_th_text, v_th_length, v_th_sizes, v_th_values, v_th_asked, v_th_first, v_th_behind, v_th_readBits, v_th_clauses, v_th_doing, v_th_numbers, v_th_planWord, v_th_addWord, v_th_delWord, v_th_fillWord, v_th_probes, v_th_links, v_th_looks, v_th_found, v_th_isOver])), (h_row, .inl (cyI, 1824, .inl row))] sz)) 0 0 (va_A [(h_th, .inr (7, [.ref h_row, v_th_undos, v_th_isKept, v_th_text, v_th_length, v_th_sizes, v_th_values, v_th_asked, v_th_first, v_th_behind, v_th_readBits, v_th_clauses, v_th_doing, v_th_numbers, v_th_planWord, v_th_addWord, v_th_delWord, v_th_fillWord, v_th_probes, v_th_links, v_th_looks, v_th_found, v_th_isOver])), (h_row, .inl (cyI, 1824, .inl row))] sz) := by
  refine GMetI (by decide) rfl (Nat.le_of_ble_eq_true rfl) ?_
  intro p e s m args below meth c A Q ls hx hb hml hts hown hN hK hA hret hP hD hS hl
  have h := hf
  clear hf
  unfold fX7_keysIn at h
  have hown : s.vm.findClass RX7 = some m.cls := hown
  have hl : lv_has ls 3 [(0, .ref h_th), (1, .int x0), (2, .int x1)] := hl
  refine lv_aload_n hx hb dX7_keysIn_0 rfl (lv_at hl 0 rfl) ?_
  refine lv_iload_n hx hb dX7_keysIn_1 rfl (lv_at hl 1 rfl) ?_
  refine lv_aload_n hx hb dX7_keysIn_2 rfl (lv_at hl 0 rfl) ?_
  refine va_get (D := (dC, dI)) (ci := 7) (v := .ref h_row) (C := RX7) (T := TX7) (N := 23) hx hb hts (fun _ hw => List.mem_cons_of_mem _ (List.mem_append_right _ hw)) hown hK hP 0 rfl rfl 0 (by decide) (hts (.fieldLink RX7 7 "PrefixIndexModel" "row" "[I") (List.mem_of_getElem? (i := 1) rfl)) (fun _ h9 => h9) rfl dX7_keysIn_3 ?_
  refine lv_iload_n hx hb dX7_keysIn_6 rfl (lv_at hl 1 rfl) ?_
  refine lv_bipush (v := 102) hx hb dX7_keysIn_7 (by decide) ?_
  refine lv_iadd hx hb dX7_keysIn_9 ?_
  refine lv_iload_n hx hb dX7_keysIn_10 rfl (lv_at hl 2 rfl) ?_
  refine lv_iadd hx hb dX7_keysIn_11 ?_
  obtain ⟨hi_1, h⟩ := oin_e h
  refine va_iald hx hb hK hP 1 0 rfl rfl hi_1 dX7_keysIn_12 ?_
  refine lv_iconst (v := 1) hx hb dX7_keysIn_13 (by decide) ?_
  refine lv_iadd hx hb dX7_keysIn_14 ?_
  obtain ⟨u_2, hc_3, h⟩ := obd_e h
  refine Gci (wr := []) (va_runV (As := [.int x0, .int ((row ((x0 + (102 : Int32)) + x1).toNatClampNeg) + (1 : Int32))]) (rest := []) ⟨hx, hb, hml, hown, hts⟩ (tX7_below l dC dI cyI cyJ cyZ cyO s.heap.size h_th h_row v_th_undos v_th_isKept v_th_text v_th_length v_th_sizes v_th_values v_th_asked v_th_first v_th_behind v_th_readBits v_th_clauses v_th_doing v_th_numbers v_th_planWord v_th_addWord v_th_delWord v_th_fillWord v_th_probes v_th_links v_th_looks v_th_found v_th_isOver row x0 ((row ((x0 + (102 : Int32)) + x1).toNatClampNeg) + (1 : Int32)) u_2 hc_3) (cwV 2 hts gX7_keysIn_X7_below rfl rfl rfl (by decide +kernel) ⟨Nat.le_of_ble_eq_true rfl, Nat.le_of_ble_eq_true rfl⟩) (GpreV hP hD hK hN [0, 1] rfl (by decide) 7 0 rfl rfl rfl) rfl rfl hl.1 rfl (lv_room (Nat.le_of_ble_eq_true rfl)) dX7_keysIn_15 ⟨Nat.zero_le _, Nat.zero_le _⟩) hP hD hS hA [0, 1] [] rfl rfl (by decide) (by decide) (fun H locs hP hD hS => ?_)
  have hP : va_P (dC, dI) vwCl [(h_th, .inr (7, [.ref h_row, v_th_undos, v_th_isKept, v_th_text, v_th_length, v_th_sizes, v_th_values, v_th_asked, v_th_first, v_th_behind, v_th_readBits, v_th_clauses, v_th_doing, v_th_numbers, v_th_planWord, v_th_addWord, v_th_delWord, v_th_fillWord, v_th_probes, v_th_links, v_th_looks, v_th_found, v_th_isOver])), (h_row, .inl (cyI, 1824, .inl row))] H := hP
  have hD : va_D A [(h_th, .inr (7, [.ref h_row, v_th_undos, v_th_isKept, v_th_text, v_th_length, v_th_sizes, v_th_values, v_th_asked, v_th_first, v_th_behind, v_th_readBits, v_th_clauses, v_th_doing, v_th_numbers, v_th_planWord, v_th_addWord, v_th_delWord, v_th_fillWord, v_th_probes, v_th_links, v_th_looks, v_th_found, v_th_isOver])), (h_row, .inl (cyI, 1824, .inl row))] := hD
  refine lv_aload_n hx hb dX7_keysIn_18 rfl (lv_at hl 0 rfl) ?_
  refine lv_iload_n hx hb dX7_keysIn_19 rfl (lv_at hl 1 rfl) ?_
  refine lv_iload_n hx hb dX7_keysIn_20 rfl (lv_at hl 2 rfl) ?_
  obtain ⟨u_4, hc_5, h⟩ := obd_e h
  refine Gci (wr := []) (va_runV (As := [.int x0, .int x1]) (rest := [.int u_2]) ⟨hx, hb, hml, hown, hts⟩ (tX7_aheadOf l dC dI cyI cyJ cyZ cyO H.size h_th h_row v_th_undos v_th_isKept v_th_text v_th_length v_th_sizes v_th_values v_th_asked v_th_first v_th_behind v_th_readBits v_th_clauses v_th_doing v_th_numbers v_th_planWord v_th_addWord v_th_delWord v_th_fillWord v_th_probes v_th_links v_th_looks v_th_found v_th_isOver row x0 x1 u_4 hc_5) (cwV 2 hts gX7_keysIn_X7_aheadOf rfl rfl rfl (by decide +kernel) ⟨Nat.le_of_ble_eq_true rfl, Nat.le_of_ble_eq_true rfl⟩) (GpreV hP hD hK hN [0, 1] rfl (by decide) 7 0 rfl rfl rfl) rfl rfl hl.1 rfl (lv_room (Nat.le_of_ble_eq_true rfl)) dX7_keysIn_21 ⟨Nat.zero_le _, Nat.zero_le _⟩) hP hD hS hA [0, 1] [] rfl rfl (by decide) (by decide) (fun H locs hP hD hS => ?_)
  have hP : va_P (dC, dI) vwCl [(h_th, .inr (7, [.ref h_row, v_th_undos, v_th_isKept, v_th_text, v_th_length, v_th_sizes, v_th_values, v_th_asked, v_th_first, v_th_behind, v_th_readBits, v_th_clauses, v_th_doing, v_th_numbers, v_th_planWord, v_th_addWord, v_th_delWord, v_th_fillWord, v_th_probes, v_th_links, v_th_looks, v_th_found, v_th_isOver])), (h_row, .inl (cyI, 1824, .inl row))] H := hP
  have hD : va_D A [(h_th, .inr (7, [.ref h_row, v_th_undos, v_th_isKept, v_th_text, v_th_length, v_th_sizes, v_th_values, v_th_asked, v_th_first, v_th_behind, v_th_readBits, v_th_clauses, v_th_doing, v_th_numbers, v_th_planWord, v_th_addWord, v_th_delWord, v_th_fillWord, v_th_probes, v_th_links, v_th_looks, v_th_found, v_th_isOver])), (h_row, .inl (cyI, 1824, .inl row))] := hD
  refine lv_isub hx hb dX7_keysIn_24 ?_
  obtain rfl := Option.some.inj h
  exact hret _ _ _ _ dX7_keysIn_25 hP hD hS

def lpX7_split_38 (q1 : Int32) (q2 : Int32) (q3 : Int32) : Nat → Int32 → (Nat → Int32) → Option (Int32 × (Nat → Int32))
  | 0, _, _ => none
  | n + 1, m4, zrow => if m4 ≤ q2 then (some (m4, zrow)) else (oin (((q1 + (102 : Int32)) + m4) - (1 : Int32)) 1824 (oin ((q1 + (102 : Int32)) + m4) 1824 (lpX7_split_38 q1 q2 q3 n (m4 + (-1 : Int32)) (upd zrow ((q1 + (102 : Int32)) + m4).toNatClampNeg (zrow (((q1 + (102 : Int32)) + m4) - (1 : Int32)).toNatClampNeg)))))

def fX7_split (row : (Nat → Int32)) (x0 : Int32) (x1 : Int32) : Option ((Nat → Int32)) := obd (fX7_aheadOf row x0 x1) fun u_1 => obd (fX7_keysIn row x0 x1) fun u_3 => oin ((((x0 + (6 : Int32)) + u_1) + (u_3 / (2 : Int32))) - (1 : Int32)) 1824 (oin (x0 + (3 : Int32)) 1824 (obd (lpX7_split_38 x0 x1 (row ((((x0 + (6 : Int32)) + u_1) + (u_3 / (2 : Int32))) - (1 : Int32)).toNatClampNeg) 100000 (row (x0 + (3 : Int32)).toNatClampNeg) row) fun w_15 => oin ((x0 + (102 : Int32)) + x1) 1824 (oin (x0 + (3 : Int32)) 1824 (oin (x0 + (3 : Int32)) 1824 (oin (x0 + (4 : Int32)) 1824 (oin (x0 + (4 : Int32)) 1824 (some (upd (upd (upd w_15.2 ((x0 + (102 : Int32)) + x1).toNatClampNeg (row ((((x0 + (6 : Int32)) + u_1) + (u_3 / (2 : Int32))) - (1 : Int32)).toNatClampNeg)) (x0 + (3 : Int32)).toNatClampNeg (((upd w_15.2 ((x0 + (102 : Int32)) + x1).toNatClampNeg (row ((((x0 + (6 : Int32)) + u_1) + (u_3 / (2 : Int32))) - (1 : Int32)).toNatClampNeg)) (x0 + (3 : Int32)).toNatClampNeg) + (1 : Int32))) (x0 + (4 : Int32)).toNatClampNeg (((upd (upd w_15.2 ((x0 + (102 : Int32)) + x1).toNatClampNeg (row ((((x0 + (6 : Int32)) + u_1) + (u_3 / (2 : Int32))) - (1 : Int32)).toNatClampNeg)) (x0 + (3 : Int32)).toNatClampNeg (((upd w_15.2 ((x0 + (102 : Int32)) + x1).toNatClampNeg (row ((((x0 + (6 : Int32)) + u_1) + (u_3 / (2 : Int32))) - (1 : Int32)).toNatClampNeg)) (x0 + (3 : Int32)).toNatClampNeg) + (1 : Int32))) (x0 + (4 : Int32)).toNatClampNeg) + (1 : Int32))))))))))

set_option maxHeartbeats 4000000 in
set_option maxRecDepth 100000 in
theorem tX7_split (l : Launch) (dC : Nat → ClassId) (dI : Nat → Nat → Nat) (cyI cyJ cyZ cyO : ClassId) (sz : Nat) (h_th h_row : Nat) (v_th_undos : Value) (v_th_isKept : Value) (v_th_text : Value) (v_th_length : Value) (v_th_sizes : Value) (v_th_values : Value) (v_th_asked : Value) (v_th_first : Value) (v_th_behind : Value) (v_th_readBits : Value) (v_th_clauses : Value) (v_th_doing : Value) (v_th_numbers : Value) (v_th_planWord : Value) (v_th_addWord : Value) (v_th_delWord : Value) (v_th_fillWord : Value) (v_th_probes : Value) (v_th_links : Value) (v_th_looks : Value) (v_th_found : Value) (v_th_isOver : Value) (row : (Nat → Int32)) (x0 : Int32) (x1 : Int32) (u : (Nat → Int32)) (hf : fX7_split row x0 x1 = some u) : Met l yX7_split wsX7_split ({ frames := 3, cells := 0, slots := 0, locals := 67 }) (va_Pc [.ref h_th, .int x0, .int x1] (GP (dC, dI) (T4 cyI cyJ cyZ cyO) sz [(h_th, .inr (7, [.ref h_row, v_th_undos, v_th_isKept, v_th_text, v_th_length, v_th_sizes, v_th_values, v_th_asked, v_th_first, v_th_behind, v_th_readBits, v_th_clauses, v_th_doing, v_th_numbers, v_th_planWord, v_th_addWord, v_th_delWord, v_th_fillWord, v_th_probes, v_th_links, v_th_looks, v_th_found, v_th_isOver])), (h_row, .inl (cyI, 1824, .inl row))])) (va_Qv (fun (_ : Unit) => True) (GB (dC, dI) [(h_th, .inr (7, [.ref h_row, v_th_undos, v_th_isKept, v_th_text, v_th_length, v_th_sizes, v_th_values, v_th_asked, v_th_first, v_th_behind, v_th_readBits, v_th_clauses, v_th_doing, v_th_numbers, v_th_planWord, v_th_addWord, v_th_delWord, v_th_fillWord, v_th_probes, v_th_links, v_th_looks, v_th_found, v_th_isOver])), (h_row, .inl (cyI, 1824, .inl u))] (va_A [(h_th, .inr (7, [.ref h_row, v_th_undos, v_th_isKept, v_th_text, v_th_length, v_th_sizes, v_th_values, v_th_asked, v_th_first, v_th_behind, v_th_readBits, v_th_clauses, v_th_doing, v_th_numbers, v_th_planWord, v_th_addWord, v_th_delWord, v_th_fillWord, v_th_probes, v_th_links, v_th_looks, v_th_found, v_th_isOver])), (h_row, .inl (cyI, 1824, .inl row))] sz)) (va_A [(h_th, .inr (7, [.ref h_row, v_th_undos, v_th_isKept, v_th_text, v_th_length, v_th_sizes, v_th_values, v_th_asked, v_th_first, v_th_behind, v_th_readBits, v_th_clauses, v_th_doing, v_th_numbers, v_th_planWord, v_th_addWord, v_th_delWord, v_th_fillWord, v_th_probes, v_th_links, v_th_looks, v_th_found, v_th_isOver])), (h_row, .inl (cyI, 1824, .inl row))] sz)) 0 0 (va_A [(h_th, .inr (7, [.ref h_row, v_th_undos, v_th_isKept, v_th_text, v_th_length, v_th_sizes, v_th_values, v_th_asked, v_th_first, v_th_behind, v_th_readBits, v_th_clauses, v_th_doing, v_th_numbers, v_th_planWord, v_th_addWord, v_th_delWord, v_th_fillWord, v_th_probes, v_th_links, v_th_looks, v_th_found, v_th_isOver])), (h_row, .inl (cyI, 1824, .inl row))] sz) := by
  refine GMetV (by decide) rfl (Nat.le_of_ble_eq_true rfl) ?_
  intro p e s m args below meth c A Q ls hx hb hml hts hown hN hK hA hret hP hD hS hl
  have h := hf
  clear hf
  unfold fX7_split at h
  have hown : s.vm.findClass RX7 = some m.cls := hown
  have hl : lv_has ls 5 [(0, .ref h_th), (1, .int x0), (2, .int x1)] := hl
  refine lv_aload_n hx hb dX7_split_0 rfl (lv_at hl 0 rfl) ?_
  refine va_get (D := (dC, dI)) (ci := 7) (v := .ref h_row) (C := RX7) (T := TX7) (N := 23) hx hb hts (fun _ hw => List.mem_cons_of_mem _ (List.mem_append_right _ hw)) hown hK hP 0 rfl rfl 0 (by decide) (hts (.fieldLink RX7 7 "PrefixIndexModel" "row" "[I") (List.mem_of_getElem? (i := 1) rfl)) (fun _ h9 => h9) rfl dX7_split_1 ?_
  refine lv_iload_n hx hb dX7_split_4 rfl (lv_at hl 1 rfl) ?_
  refine lv_bipush (v := 6) hx hb dX7_split_5 (by decide) ?_
  refine lv_iadd hx hb dX7_split_7 ?_
  refine lv_aload_n hx hb dX7_split_8 rfl (lv_at hl 0 rfl) ?_
  refine lv_iload_n hx hb dX7_split_9 rfl (lv_at hl 1 rfl) ?_
  refine lv_iload_n hx hb dX7_split_10 rfl (lv_at hl 2 rfl) ?_
  obtain ⟨u_1, hc_2, h⟩ := obd_e h
  refine Gci (wr := []) (va_runV (As := [.int x0, .int x1]) (rest := [.int (x0 + (6 : Int32)), .ref h_row]) ⟨hx, hb, hml, hown, hts⟩ (tX7_aheadOf l dC dI cyI cyJ cyZ cyO s.heap.size h_th h_row v_th_undos v_th_isKept v_th_text v_th_length v_th_sizes v_th_values v_th_asked v_th_first v_th_behind v_th_readBits v_th_clauses v_th_doing v_th_numbers v_th_planWord v_th_addWord v_th_delWord v_th_fillWord v_th_probes v_th_links v_th_looks v_th_found v_th_isOver row x0 x1 u_1 hc_2) (cwV 2 hts gX7_split_X7_aheadOf rfl rfl rfl (by decide +kernel) ⟨Nat.le_of_ble_eq_true rfl, Nat.le_of_ble_eq_true rfl⟩) (GpreV hP hD hK hN [0, 1] rfl (by decide) 7 0 rfl rfl rfl) rfl rfl hl.1 rfl (lv_room (Nat.le_of_ble_eq_true rfl)) dX7_split_11 ⟨Nat.zero_le _, Nat.zero_le _⟩) hP hD hS hA [0, 1] [] rfl rfl (by decide) (by decide) (fun H locs hP hD hS => ?_)
  have hP : va_P (dC, dI) vwCl [(h_th, .inr (7, [.ref h_row, v_th_undos, v_th_isKept, v_th_text, v_th_length, v_th_sizes, v_th_values, v_th_asked, v_th_first, v_th_behind, v_th_readBits, v_th_clauses, v_th_doing, v_th_numbers, v_th_planWord, v_th_addWord, v_th_delWord, v_th_fillWord, v_th_probes, v_th_links, v_th_looks, v_th_found, v_th_isOver])), (h_row, .inl (cyI, 1824, .inl row))] H := hP
  have hD : va_D A [(h_th, .inr (7, [.ref h_row, v_th_undos, v_th_isKept, v_th_text, v_th_length, v_th_sizes, v_th_values, v_th_asked, v_th_first, v_th_behind, v_th_readBits, v_th_clauses, v_th_doing, v_th_numbers, v_th_planWord, v_th_addWord, v_th_delWord, v_th_fillWord, v_th_probes, v_th_links, v_th_looks, v_th_found, v_th_isOver])), (h_row, .inl (cyI, 1824, .inl row))] := hD
  refine lv_iadd hx hb dX7_split_14 ?_
  refine lv_aload_n hx hb dX7_split_15 rfl (lv_at hl 0 rfl) ?_
  refine lv_iload_n hx hb dX7_split_16 rfl (lv_at hl 1 rfl) ?_
  refine lv_iload_n hx hb dX7_split_17 rfl (lv_at hl 2 rfl) ?_
  obtain ⟨u_3, hc_4, h⟩ := obd_e h
  refine Gci (wr := []) (va_runV (As := [.int x0, .int x1]) (rest := [.int ((x0 + (6 : Int32)) + u_1), .ref h_row]) ⟨hx, hb, hml, hown, hts⟩ (tX7_keysIn l dC dI cyI cyJ cyZ cyO H.size h_th h_row v_th_undos v_th_isKept v_th_text v_th_length v_th_sizes v_th_values v_th_asked v_th_first v_th_behind v_th_readBits v_th_clauses v_th_doing v_th_numbers v_th_planWord v_th_addWord v_th_delWord v_th_fillWord v_th_probes v_th_links v_th_looks v_th_found v_th_isOver row x0 x1 u_3 hc_4) (cwV 2 hts gX7_split_X7_keysIn rfl rfl rfl (by decide +kernel) ⟨Nat.le_of_ble_eq_true rfl, Nat.le_of_ble_eq_true rfl⟩) (GpreV hP hD hK hN [0, 1] rfl (by decide) 7 0 rfl rfl rfl) rfl rfl hl.1 rfl (lv_room (Nat.le_of_ble_eq_true rfl)) dX7_split_18 ⟨Nat.zero_le _, Nat.zero_le _⟩) hP hD hS hA [0, 1] [] rfl rfl (by decide) (by decide) (fun H locs hP hD hS => ?_)
  have hP : va_P (dC, dI) vwCl [(h_th, .inr (7, [.ref h_row, v_th_undos, v_th_isKept, v_th_text, v_th_length, v_th_sizes, v_th_values, v_th_asked, v_th_first, v_th_behind, v_th_readBits, v_th_clauses, v_th_doing, v_th_numbers, v_th_planWord, v_th_addWord, v_th_delWord, v_th_fillWord, v_th_probes, v_th_links, v_th_looks, v_th_found, v_th_isOver])), (h_row, .inl (cyI, 1824, .inl row))] H := hP
  have hD : va_D A [(h_th, .inr (7, [.ref h_row, v_th_undos, v_th_isKept, v_th_text, v_th_length, v_th_sizes, v_th_values, v_th_asked, v_th_first, v_th_behind, v_th_readBits, v_th_clauses, v_th_doing, v_th_numbers, v_th_planWord, v_th_addWord, v_th_delWord, v_th_fillWord, v_th_probes, v_th_links, v_th_looks, v_th_found, v_th_isOver])), (h_row, .inl (cyI, 1824, .inl row))] := hD
  refine lv_iconst (v := 2) hx hb dX7_split_21 (by decide) ?_
  refine lv_idiv hx hb dX7_split_22 (by decide) ?_
  refine lv_iadd hx hb dX7_split_23 ?_
  refine lv_iconst (v := 1) hx hb dX7_split_24 (by decide) ?_
  refine lv_isub hx hb dX7_split_25 ?_
  obtain ⟨hi_6, h⟩ := oin_e h
  refine va_iald hx hb hK hP 1 0 rfl rfl hi_6 dX7_split_26 ?_
  refine lv_istore_n (lv' := [(3, .int (row ((((x0 + (6 : Int32)) + u_1) + (u_3 / (2 : Int32))) - (1 : Int32)).toNatClampNeg)), (0, .ref h_th), (1, .int x0), (2, .int x1)]) hx hb dX7_split_27 rfl hl (by decide) rfl (fun ls hl => ?_)
  refine lv_aload_n hx hb dX7_split_28 rfl (lv_at hl 1 rfl) ?_
  refine va_get (D := (dC, dI)) (ci := 7) (v := .ref h_row) (C := RX7) (T := TX7) (N := 23) hx hb hts (fun _ hw => List.mem_cons_of_mem _ (List.mem_append_right _ hw)) hown hK hP 0 rfl rfl 0 (by decide) (hts (.fieldLink RX7 7 "PrefixIndexModel" "row" "[I") (List.mem_of_getElem? (i := 1) rfl)) (fun _ h9 => h9) rfl dX7_split_29 ?_
  refine lv_iload_n hx hb dX7_split_32 rfl (lv_at hl 2 rfl) ?_
  refine lv_iconst (v := 3) hx hb dX7_split_33 (by decide) ?_
  refine lv_iadd hx hb dX7_split_34 ?_
  obtain ⟨hi_7, h⟩ := oin_e h
  refine va_iald hx hb hK hP 1 0 rfl rfl hi_7 dX7_split_35 ?_
  refine lv_istore (lv' := [(4, .int (row (x0 + (3 : Int32)).toNatClampNeg)), (3, .int (row ((((x0 + (6 : Int32)) + u_1) + (u_3 / (2 : Int32))) - (1 : Int32)).toNatClampNeg)), (0, .ref h_th), (1, .int x0), (2, .int x1)]) hx hb dX7_split_36 hl (by decide) rfl (fun ls hl => ?_)
  obtain ⟨w_15, hw_16, h⟩ := obd_e h
  have J : ∀ (H : Heap) (locs : List Loc) (ls : Array Slot), va_P (dC, dI) vwCl [(h_th, .inr (7, [.ref h_row, v_th_undos, v_th_isKept, v_th_text, v_th_length, v_th_sizes, v_th_values, v_th_asked, v_th_first, v_th_behind, v_th_readBits, v_th_clauses, v_th_doing, v_th_numbers, v_th_planWord, v_th_addWord, v_th_delWord, v_th_fillWord, v_th_probes, v_th_links, v_th_looks, v_th_found, v_th_isOver])), (h_row, .inl (cyI, 1824, .inl w_15.2))] H → va_D A [(h_th, .inr (7, [.ref h_row, v_th_undos, v_th_isKept, v_th_text, v_th_length, v_th_sizes, v_th_values, v_th_asked, v_th_first, v_th_behind, v_th_readBits, v_th_clauses, v_th_doing, v_th_numbers, v_th_planWord, v_th_addWord, v_th_delWord, v_th_fillWord, v_th_probes, v_th_links, v_th_looks, v_th_found, v_th_isOver])), (h_row, .inl (cyI, 1824, .inl w_15.2))] → va_S A s.heap H locs → lv_has ls 5 [(0, .ref h_th), (1, .int x0), (2, .int x1), (3, .int (row ((((x0 + (6 : Int32)) + u_1) + (u_3 / (2 : Int32))) - (1 : Int32)).toNatClampNeg))] → W p l e ({ frames := 3, cells := 0, slots := 0, locals := 67 }) s m args below meth c H locs 0 0 Q (F0 m 76 ls []) := by
    intro H locs ls hP hD hS hl
    refine lv_aload_n hx hb dX7_split_76 rfl (lv_at hl 0 rfl) ?_
    refine va_get (D := (dC, dI)) (ci := 7) (v := .ref h_row) (C := RX7) (T := TX7) (N := 23) hx hb hts (fun _ hw => List.mem_cons_of_mem _ (List.mem_append_right _ hw)) hown hK hP 0 rfl rfl 0 (by decide) (hts (.fieldLink RX7 7 "PrefixIndexModel" "row" "[I") (List.mem_of_getElem? (i := 1) rfl)) (fun _ h9 => h9) rfl dX7_split_77 ?_
    refine lv_iload_n hx hb dX7_split_80 rfl (lv_at hl 1 rfl) ?_
    refine lv_bipush (v := 102) hx hb dX7_split_81 (by decide) ?_
    refine lv_iadd hx hb dX7_split_83 ?_
    refine lv_iload_n hx hb dX7_split_84 rfl (lv_at hl 2 rfl) ?_
    refine lv_iadd hx hb dX7_split_85 ?_
    refine lv_iload_n hx hb dX7_split_86 rfl (lv_at hl 3 rfl) ?_
    obtain ⟨hi_17, h⟩ := oin_e h
    refine va_iast hx hb hK hP hD hS 1 0 rfl rfl hi_17 dX7_split_87 (fun H locs hP hD hS => ?_)
    have hP : va_P (dC, dI) vwCl [(h_th, .inr (7, [.ref h_row, v_th_undos, v_th_isKept, v_th_text, v_th_length, v_th_sizes, v_th_values, v_th_asked, v_th_first, v_th_behind, v_th_readBits, v_th_clauses, v_th_doing, v_th_numbers, v_th_planWord, v_th_addWord, v_th_delWord, v_th_fillWord, v_th_probes, v_th_links, v_th_looks, v_th_found, v_th_isOver])), (h_row, .inl (cyI, 1824, .inl (upd w_15.2 ((x0 + (102 : Int32)) + x1).toNatClampNeg (row ((((x0 + (6 : Int32)) + u_1) + (u_3 / (2 : Int32))) - (1 : Int32)).toNatClampNeg))))] H := hP
    have hD : va_D A [(h_th, .inr (7, [.ref h_row, v_th_undos, v_th_isKept, v_th_text, v_th_length, v_th_sizes, v_th_values, v_th_asked, v_th_first, v_th_behind, v_th_readBits, v_th_clauses, v_th_doing, v_th_numbers, v_th_planWord, v_th_addWord, v_th_delWord, v_th_fillWord, v_th_probes, v_th_links, v_th_looks, v_th_found, v_th_isOver])), (h_row, .inl (cyI, 1824, .inl (upd w_15.2 ((x0 + (102 : Int32)) + x1).toNatClampNeg (row ((((x0 + (6 : Int32)) + u_1) + (u_3 / (2 : Int32))) - (1 : Int32)).toNatClampNeg))))] := hD
    refine lv_aload_n hx hb dX7_split_88 rfl (lv_at hl 0 rfl) ?_
    refine va_get (D := (dC, dI)) (ci := 7) (v := .ref h_row) (C := RX7) (T := TX7) (N := 23) hx hb hts (fun _ hw => List.mem_cons_of_mem _ (List.mem_append_right _ hw)) hown hK hP 0 rfl rfl 0 (by decide) (hts (.fieldLink RX7 7 "PrefixIndexModel" "row" "[I") (List.mem_of_getElem? (i := 1) rfl)) (fun _ h9 => h9) rfl dX7_split_89 ?_
    refine lv_iload_n hx hb dX7_split_92 rfl (lv_at hl 1 rfl) ?_
    refine lv_iconst (v := 3) hx hb dX7_split_93 (by decide) ?_
    refine lv_iadd hx hb dX7_split_94 ?_
    refine lv_dup2_11 hx hb dX7_split_95 rfl rfl ?_
    obtain ⟨hi_18, h⟩ := oin_e h
    refine va_iald hx hb hK hP 1 0 rfl rfl hi_18 dX7_split_96 ?_
    refine lv_iconst (v := 1) hx hb dX7_split_97 (by decide) ?_
    refine lv_iadd hx hb dX7_split_98 ?_
    obtain ⟨hi_19, h⟩ := oin_e h
    refine va_iast hx hb hK hP hD hS 1 0 rfl rfl hi_19 dX7_split_99 (fun H locs hP hD hS => ?_)
    have hP : va_P (dC, dI) vwCl [(h_th, .inr (7, [.ref h_row, v_th_undos, v_th_isKept, v_th_text, v_th_length, v_th_sizes, v_th_values, v_th_asked, v_th_first, v_th_behind, v_th_readBits, v_th_clauses, v_th_doing, v_th_numbers, v_th_planWord, v_th_addWord, v_th_delWord, v_th_fillWord, v_th_probes, v_th_links, v_th_looks, v_th_found, v_th_isOver])), (h_row, .inl (cyI, 1824, .inl (upd (upd w_15.2 ((x0 + (102 : Int32)) + x1).toNatClampNeg (row ((((x0 + (6 : Int32)) + u_1) + (u_3 / (2 : Int32))) - (1 : Int32)).toNatClampNeg)) (x0 + (3 : Int32)).toNatClampNeg (((upd w_15.2 ((x0 + (102 : Int32)) + x1).toNatClampNeg (row ((((x0 + (6 : Int32)) + u_1) + (u_3 / (2 : Int32))) - (1 : Int32)).toNatClampNeg)) (x0 + (3 : Int32)).toNatClampNeg) + (1 : Int32)))))] H := hP
    have hD : va_D A [(h_th, .inr (7, [.ref h_row, v_th_undos, v_th_isKept, v_th_text, v_th_length, v_th_sizes, v_th_values, v_th_asked, v_th_first, v_th_behind, v_th_readBits, v_th_clauses, v_th_doing, v_th_numbers, v_th_planWord, v_th_addWord, v_th_delWord, v_th_fillWord, v_th_probes, v_th_links, v_th_looks, v_th_found, v_th_isOver])), (h_row, .inl (cyI, 1824, .inl (upd (upd w_15.2 ((x0 + (102 : Int32)) + x1).toNatClampNeg (row ((((x0 + (6 : Int32)) + u_1) + (u_3 / (2 : Int32))) - (1 : Int32)).toNatClampNeg)) (x0 + (3 : Int32)).toNatClampNeg (((upd w_15.2 ((x0 + (102 : Int32)) + x1).toNatClampNeg (row ((((x0 + (6 : Int32)) + u_1) + (u_3 / (2 : Int32))) - (1 : Int32)).toNatClampNeg)) (x0 + (3 : Int32)).toNatClampNeg) + (1 : Int32)))))] := hD
    refine lv_aload_n hx hb dX7_split_100 rfl (lv_at hl 0 rfl) ?_
    refine va_get (D := (dC, dI)) (ci := 7) (v := .ref h_row) (C := RX7) (T := TX7) (N := 23) hx hb hts (fun _ hw => List.mem_cons_of_mem _ (List.mem_append_right _ hw)) hown hK hP 0 rfl rfl 0 (by decide) (hts (.fieldLink RX7 7 "PrefixIndexModel" "row" "[I") (List.mem_of_getElem? (i := 1) rfl)) (fun _ h9 => h9) rfl dX7_split_101 ?_
    refine lv_iload_n hx hb dX7_split_104 rfl (lv_at hl 1 rfl) ?_
    refine lv_iconst (v := 4) hx hb dX7_split_105 (by decide) ?_
    refine lv_iadd hx hb dX7_split_106 ?_
    refine lv_dup2_11 hx hb dX7_split_107 rfl rfl ?_
    obtain ⟨hi_20, h⟩ := oin_e h
    refine va_iald hx hb hK hP 1 0 rfl rfl hi_20 dX7_split_108 ?_
    refine lv_iconst (v := 1) hx hb dX7_split_109 (by decide) ?_
    refine lv_iadd hx hb dX7_split_110 ?_
    obtain ⟨hi_21, h⟩ := oin_e h
    refine va_iast hx hb hK hP hD hS 1 0 rfl rfl hi_21 dX7_split_111 (fun H locs hP hD hS => ?_)
    have hP : va_P (dC, dI) vwCl [(h_th, .inr (7, [.ref h_row, v_th_undos, v_th_isKept, v_th_text, v_th_length, v_th_sizes, v_th_values, v_th_asked, v_th_first, v_th_behind, v_th_readBits, v_th_clauses, v_th_doing, v_th_numbers, v_th_planWord, v_th_addWord, v_th_delWord, v_th_fillWord, v_th_probes, v_th_links, v_th_looks, v_th_found, v_th_isOver])), (h_row, .inl (cyI, 1824, .inl (upd (upd (upd w_15.2 ((x0 + (102 : Int32)) + x1).toNatClampNeg (row ((((x0 + (6 : Int32)) + u_1) + (u_3 / (2 : Int32))) - (1 : Int32)).toNatClampNeg)) (x0 + (3 : Int32)).toNatClampNeg (((upd w_15.2 ((x0 + (102 : Int32)) + x1).toNatClampNeg (row ((((x0 + (6 : Int32)) + u_1) + (u_3 / (2 : Int32))) - (1 : Int32)).toNatClampNeg)) (x0 + (3 : Int32)).toNatClampNeg) + (1 : Int32))) (x0 + (4 : Int32)).toNatClampNeg (((upd (upd w_15.2 ((x0 + (102 : Int32)) + x1).toNatClampNeg (row ((((x0 + (6 : Int32)) + u_1) + (u_3 / (2 : Int32))) - (1 : Int32)).toNatClampNeg)) (x0 + (3 : Int32)).toNatClampNeg (((upd w_15.2 ((x0 + (102 : Int32)) + x1).toNatClampNeg (row ((((x0 + (6 : Int32)) + u_1) + (u_3 / (2 : Int32))) - (1 : Int32)).toNatClampNeg)) (x0 + (3 : Int32)).toNatClampNeg) + (1 : Int32))) (x0 + (4 : Int32)).toNatClampNeg) + (1 : Int32)))))] H := hP
    have hD : va_D A [(h_th, .inr (7, [.ref h_row, v_th_undos, v_th_isKept, v_th_text, v_th_length, v_th_sizes, v_th_values, v_th_asked, v_th_first, v_th_behind, v_th_readBits, v_th_clauses, v_th_doing, v_th_numbers, v_th_planWord, v_th_addWord, v_th_delWord, v_th_fillWord, v_th_probes, v_th_links, v_th_looks, v_th_found, v_th_isOver])), (h_row, .inl (cyI, 1824, .inl (upd (upd (upd w_15.2 ((x0 + (102 : Int32)) + x1).toNatClampNeg (row ((((x0 + (6 : Int32)) + u_1) + (u_3 / (2 : Int32))) - (1 : Int32)).toNatClampNeg)) (x0 + (3 : Int32)).toNatClampNeg (((upd w_15.2 ((x0 + (102 : Int32)) + x1).toNatClampNeg (row ((((x0 + (6 : Int32)) + u_1) + (u_3 / (2 : Int32))) - (1 : Int32)).toNatClampNeg)) (x0 + (3 : Int32)).toNatClampNeg) + (1 : Int32))) (x0 + (4 : Int32)).toNatClampNeg (((upd (upd w_15.2 ((x0 + (102 : Int32)) + x1).toNatClampNeg (row ((((x0 + (6 : Int32)) + u_1) + (u_3 / (2 : Int32))) - (1 : Int32)).toNatClampNeg)) (x0 + (3 : Int32)).toNatClampNeg (((upd w_15.2 ((x0 + (102 : Int32)) + x1).toNatClampNeg (row ((((x0 + (6 : Int32)) + u_1) + (u_3 / (2 : Int32))) - (1 : Int32)).toNatClampNeg)) (x0 + (3 : Int32)).toNatClampNeg) + (1 : Int32))) (x0 + (4 : Int32)).toNatClampNeg) + (1 : Int32)))))] := hD
    obtain rfl := Option.some.inj h
    exact hret _ _ _ _ dX7_split_112 hP hD hS
  have LL : ∀ (n : Nat) (m4 : Int32) (zrow : (Nat → Int32)) (H : Heap) (locs : List Loc) (ls : Array Slot), lpX7_split_38 x0 x1 (row ((((x0 + (6 : Int32)) + u_1) + (u_3 / (2 : Int32))) - (1 : Int32)).toNatClampNeg) n m4 zrow = some w_15 → va_P (dC, dI) vwCl [(h_th, .inr (7, [.ref h_row, v_th_undos, v_th_isKept, v_th_text, v_th_length, v_th_sizes, v_th_values, v_th_asked, v_th_first, v_th_behind, v_th_readBits, v_th_clauses, v_th_doing, v_th_numbers, v_th_planWord, v_th_addWord, v_th_delWord, v_th_fillWord, v_th_probes, v_th_links, v_th_looks, v_th_found, v_th_isOver])), (h_row, .inl (cyI, 1824, .inl zrow))] H → va_D A [(h_th, .inr (7, [.ref h_row, v_th_undos, v_th_isKept, v_th_text, v_th_length, v_th_sizes, v_th_values, v_th_asked, v_th_first, v_th_behind, v_th_readBits, v_th_clauses, v_th_doing, v_th_numbers, v_th_planWord, v_th_addWord, v_th_delWord, v_th_fillWord, v_th_probes, v_th_links, v_th_looks, v_th_found, v_th_isOver])), (h_row, .inl (cyI, 1824, .inl zrow))] → va_S A s.heap H locs → lv_has ls 5 [(0, .ref h_th), (1, .int x0), (2, .int x1), (3, .int (row ((((x0 + (6 : Int32)) + u_1) + (u_3 / (2 : Int32))) - (1 : Int32)).toNatClampNeg)), (4, .int m4)] → W p l e ({ frames := 3, cells := 0, slots := 0, locals := 67 }) s m args below meth c H locs 0 0 Q (F0 m 38 ls []) := by
    intro n
    induction n with
    | zero =>
      intro m4 zrow H locs ls h
      exact absurd h (by rw [lpX7_split_38]; exact fun q => by cases q)
    | succ n ih =>
      intro m4 zrow H locs ls h hP hD hS hl
      rw [lpX7_split_38] at h
      refine lv_iload hx hb dX7_split_38 (lv_at hl 4 rfl) ?_
      refine lv_iload_n hx hb dX7_split_40 rfl (lv_at hl 2 rfl) ?_
      refine lv_icmp_le (tgt := 76) hx hb dX7_split_41 (by decide) (fun c_12 => ?_) (fun c_12 => ?_)
      · have h := og_ite_t c_12 h
        obtain rfl := Option.some.inj h
        exact J _ _ _ hP hD hS (lv_sub hl [0, 1, 2, 3] rfl)
      · have h := og_ite_f c_12 h
        refine lv_aload_n hx hb dX7_split_44 rfl (lv_at hl 0 rfl) ?_
        refine va_get (D := (dC, dI)) (ci := 7) (v := .ref h_row) (C := RX7) (T := TX7) (N := 23) hx hb hts (fun _ hw => List.mem_cons_of_mem _ (List.mem_append_right _ hw)) hown hK hP 0 rfl rfl 0 (by decide) (hts (.fieldLink RX7 7 "PrefixIndexModel" "row" "[I") (List.mem_of_getElem? (i := 1) rfl)) (fun _ h9 => h9) rfl dX7_split_45 ?_
        refine lv_iload_n hx hb dX7_split_48 rfl (lv_at hl 1 rfl) ?_
        refine lv_bipush (v := 102) hx hb dX7_split_49 (by decide) ?_
        refine lv_iadd hx hb dX7_split_51 ?_
        refine lv_iload hx hb dX7_split_52 (lv_at hl 4 rfl) ?_
        refine lv_iadd hx hb dX7_split_54 ?_
        refine lv_aload_n hx hb dX7_split_55 rfl (lv_at hl 0 rfl) ?_
        refine va_get (D := (dC, dI)) (ci := 7) (v := .ref h_row) (C := RX7) (T := TX7) (N := 23) hx hb hts (fun _ hw => List.mem_cons_of_mem _ (List.mem_append_right _ hw)) hown hK hP 0 rfl rfl 0 (by decide) (hts (.fieldLink RX7 7 "PrefixIndexModel" "row" "[I") (List.mem_of_getElem? (i := 1) rfl)) (fun _ h9 => h9) rfl dX7_split_56 ?_
        refine lv_iload_n hx hb dX7_split_59 rfl (lv_at hl 1 rfl) ?_
        refine lv_bipush (v := 102) hx hb dX7_split_60 (by decide) ?_
        refine lv_iadd hx hb dX7_split_62 ?_
        refine lv_iload hx hb dX7_split_63 (lv_at hl 4 rfl) ?_
        refine lv_iadd hx hb dX7_split_65 ?_
        refine lv_iconst (v := 1) hx hb dX7_split_66 (by decide) ?_
        refine lv_isub hx hb dX7_split_67 ?_
        obtain ⟨hi_13, h⟩ := oin_e h
        refine va_iald hx hb hK hP 1 0 rfl rfl hi_13 dX7_split_68 ?_
        obtain ⟨hi_14, h⟩ := oin_e h
        refine va_iast hx hb hK hP hD hS 1 0 rfl rfl hi_14 dX7_split_69 (fun H locs hP hD hS => ?_)
        have hP : va_P (dC, dI) vwCl [(h_th, .inr (7, [.ref h_row, v_th_undos, v_th_isKept, v_th_text, v_th_length, v_th_sizes, v_th_values, v_th_asked, v_th_first, v_th_behind, v_th_readBits, v_th_clauses, v_th_doing, v_th_numbers, v_th_planWord, v_th_addWord, v_th_delWord, v_th_fillWord, v_th_probes, v_th_links, v_th_looks, v_th_found, v_th_isOver])), (h_row, .inl (cyI, 1824, .inl (upd zrow ((x0 + (102 : Int32)) + m4).toNatClampNeg (zrow (((x0 + (102 : Int32)) + m4) - (1 : Int32)).toNatClampNeg))))] H := hP
        have hD : va_D A [(h_th, .inr (7, [.ref h_row, v_th_undos, v_th_isKept, v_th_text, v_th_length, v_th_sizes, v_th_values, v_th_asked, v_th_first, v_th_behind, v_th_readBits, v_th_clauses, v_th_doing, v_th_numbers, v_th_planWord, v_th_addWord, v_th_delWord, v_th_fillWord, v_th_probes, v_th_links, v_th_looks, v_th_found, v_th_isOver])), (h_row, .inl (cyI, 1824, .inl (upd zrow ((x0 + (102 : Int32)) + m4).toNatClampNeg (zrow (((x0 + (102 : Int32)) + m4) - (1 : Int32)).toNatClampNeg))))] := hD
        refine lv_iinc (v := m4 + (-1 : Int32)) (lv' := [(4, .int (m4 + (-1 : Int32))), (0, .ref h_th), (1, .int x0), (2, .int x1), (3, .int (row ((((x0 + (6 : Int32)) + u_1) + (u_3 / (2 : Int32))) - (1 : Int32)).toNatClampNeg))]) hx hb dX7_split_70 hl (k := 4) rfl rfl (by decide) rfl (fun ls hl => ?_)
        refine lv_goto (tgt := 38) hx hb dX7_split_73 (by decide) ?_
        exact ih (m4 + (-1 : Int32)) (upd zrow ((x0 + (102 : Int32)) + m4).toNatClampNeg (zrow (((x0 + (102 : Int32)) + m4) - (1 : Int32)).toNatClampNeg)) _ _ _ h hP hD hS (lv_sub hl [1, 2, 3, 4, 0] rfl)
  exact LL _ (row (x0 + (3 : Int32)).toNatClampNeg) row _ _ _ hw_16 hP hD hS (lv_sub hl [2, 3, 4, 1, 0] rfl)

def lpX7_putIn_17 (q1 : Int32) (q2 : Int32) (q3 : Int32) : Nat → Int32 → (Nat → Int32) → Option (Int32 × (Nat → Int32))
  | 0, _, _ => none
  | n + 1, m4, zrow => if m4 ≤ q3 then (some (m4, zrow)) else (oin (((q1 + (6 : Int32)) + m4) - (1 : Int32)) 1824 (oin ((q1 + (6 : Int32)) + m4) 1824 (lpX7_putIn_17 q1 q2 q3 n (m4 + (-1 : Int32)) (upd zrow ((q1 + (6 : Int32)) + m4).toNatClampNeg (zrow (((q1 + (6 : Int32)) + m4) - (1 : Int32)).toNatClampNeg)))))

def fX7_putIn (row : (Nat → Int32)) (x0 : Int32) (x1 : Int32) : Option ((Nat → Int32)) := obd (fX7_below row x0 x1) fun u_1 => oin (x0 + (2 : Int32)) 1824 (obd (lpX7_putIn_17 x0 x1 u_1 100000 (row (x0 + (2 : Int32)).toNatClampNeg) row) fun w_11 => oin ((x0 + (6 : Int32)) + u_1) 1824 (oin (x0 + (2 : Int32)) 1824 (oin (x0 + (2 : Int32)) 1824 (obd (fX7_bucketOf (upd (upd w_11.2 ((x0 + (6 : Int32)) + u_1).toNatClampNeg x1) (x0 + (2 : Int32)).toNatClampNeg (((upd w_11.2 ((x0 + (6 : Int32)) + u_1).toNatClampNeg x1) (x0 + (2 : Int32)).toNatClampNeg) + (1 : Int32))) x0 x1) fun u_16 => obd (fX7_keysIn (upd (upd w_11.2 ((x0 + (6 : Int32)) + u_1).toNatClampNeg x1) (x0 + (2 : Int32)).toNatClampNeg (((upd w_11.2 ((x0 + (6 : Int32)) + u_1).toNatClampNeg x1) (x0 + (2 : Int32)).toNatClampNeg) + (1 : Int32))) x0 u_16) fun u_18 => oin (x0 + (1 : Int32)) 1824 (obd (if u_18 ≤ ((4 : Int32) * ((upd (upd w_11.2 ((x0 + (6 : Int32)) + u_1).toNatClampNeg x1) (x0 + (2 : Int32)).toNatClampNeg (((upd w_11.2 ((x0 + (6 : Int32)) + u_1).toNatClampNeg x1) (x0 + (2 : Int32)).toNatClampNeg) + (1 : Int32))) (x0 + (1 : Int32)).toNatClampNeg)) then (some (upd (upd w_11.2 ((x0 + (6 : Int32)) + u_1).toNatClampNeg x1) (x0 + (2 : Int32)).toNatClampNeg (((upd w_11.2 ((x0 + (6 : Int32)) + u_1).toNatClampNeg x1) (x0 + (2 : Int32)).toNatClampNeg) + (1 : Int32)))) else (obd (fX7_split (upd (upd w_11.2 ((x0 + (6 : Int32)) + u_1).toNatClampNeg x1) (x0 + (2 : Int32)).toNatClampNeg (((upd w_11.2 ((x0 + (6 : Int32)) + u_1).toNatClampNeg x1) (x0 + (2 : Int32)).toNatClampNeg) + (1 : Int32))) x0 u_16) fun u_23 => some u_23)) fun w_22 => some w_22)))))

set_option maxHeartbeats 4000000 in
set_option maxRecDepth 100000 in
theorem tX7_putIn (l : Launch) (dC : Nat → ClassId) (dI : Nat → Nat → Nat) (cyI cyJ cyZ cyO : ClassId) (sz : Nat) (h_th h_row : Nat) (v_th_undos : Value) (v_th_isKept : Value) (v_th_text : Value) (v_th_length : Value) (v_th_sizes : Value) (v_th_values : Value) (v_th_asked : Value) (v_th_first : Value) (v_th_behind : Value) (v_th_readBits : Value) (v_th_clauses : Value) (v_th_doing : Value) (v_th_numbers : Value) (v_th_planWord : Value) (v_th_addWord : Value) (v_th_delWord : Value) (v_th_fillWord : Value) (v_th_probes : Value) (v_th_links : Value) (v_th_looks : Value) (v_th_found : Value) (v_th_isOver : Value) (row : (Nat → Int32)) (x0 : Int32) (x1 : Int32) (u : (Nat → Int32)) (hf : fX7_putIn row x0 x1 = some u) : Met l yX7_putIn wsX7_putIn ({ frames := 4, cells := 0, slots := 0, locals := 91 }) (va_Pc [.ref h_th, .int x0, .int x1] (GP (dC, dI) (T4 cyI cyJ cyZ cyO) sz [(h_th, .inr (7, [.ref h_row, v_th_undos, v_th_isKept, v_th_text, v_th_length, v_th_sizes, v_th_values, v_th_asked, v_th_first, v_th_behind, v_th_readBits, v_th_clauses, v_th_doing, v_th_numbers, v_th_planWord, v_th_addWord, v_th_delWord, v_th_fillWord, v_th_probes, v_th_links, v_th_looks, v_th_found, v_th_isOver])), (h_row, .inl (cyI, 1824, .inl row))])) (va_Qv (fun (_ : Unit) => True) (GB (dC, dI) [(h_th, .inr (7, [.ref h_row, v_th_undos, v_th_isKept, v_th_text, v_th_length, v_th_sizes, v_th_values, v_th_asked, v_th_first, v_th_behind, v_th_readBits, v_th_clauses, v_th_doing, v_th_numbers, v_th_planWord, v_th_addWord, v_th_delWord, v_th_fillWord, v_th_probes, v_th_links, v_th_looks, v_th_found, v_th_isOver])), (h_row, .inl (cyI, 1824, .inl u))] (va_A [(h_th, .inr (7, [.ref h_row, v_th_undos, v_th_isKept, v_th_text, v_th_length, v_th_sizes, v_th_values, v_th_asked, v_th_first, v_th_behind, v_th_readBits, v_th_clauses, v_th_doing, v_th_numbers, v_th_planWord, v_th_addWord, v_th_delWord, v_th_fillWord, v_th_probes, v_th_links, v_th_looks, v_th_found, v_th_isOver])), (h_row, .inl (cyI, 1824, .inl row))] sz)) (va_A [(h_th, .inr (7, [.ref h_row, v_th_undos, v_th_isKept, v_th_text, v_th_length, v_th_sizes, v_th_values, v_th_asked, v_th_first, v_th_behind, v_th_readBits, v_th_clauses, v_th_doing, v_th_numbers, v_th_planWord, v_th_addWord, v_th_delWord, v_th_fillWord, v_th_probes, v_th_links, v_th_looks, v_th_found, v_th_isOver])), (h_row, .inl (cyI, 1824, .inl row))] sz)) 0 0 (va_A [(h_th, .inr (7, [.ref h_row, v_th_undos, v_th_isKept, v_th_text, v_th_length, v_th_sizes, v_th_values, v_th_asked, v_th_first, v_th_behind, v_th_readBits, v_th_clauses, v_th_doing, v_th_numbers, v_th_planWord, v_th_addWord, v_th_delWord, v_th_fillWord, v_th_probes, v_th_links, v_th_looks, v_th_found, v_th_isOver])), (h_row, .inl (cyI, 1824, .inl row))] sz) := by
  refine GMetV (by decide) rfl (Nat.le_of_ble_eq_true rfl) ?_
  intro p e s m args below meth c A Q ls hx hb hml hts hown hN hK hA hret hP hD hS hl
  have h := hf
  clear hf
  unfold fX7_putIn at h
  have hown : s.vm.findClass RX7 = some m.cls := hown
  have hl : lv_has ls 5 [(0, .ref h_th), (1, .int x0), (2, .int x1)] := hl
  refine lv_aload_n hx hb dX7_putIn_0 rfl (lv_at hl 0 rfl) ?_
  refine lv_iload_n hx hb dX7_putIn_1 rfl (lv_at hl 1 rfl) ?_
  refine lv_iload_n hx hb dX7_putIn_2 rfl (lv_at hl 2 rfl) ?_
  obtain ⟨u_1, hc_2, h⟩ := obd_e h
  refine Gci (wr := []) (va_runV (As := [.int x0, .int x1]) (rest := []) ⟨hx, hb, hml, hown, hts⟩ (tX7_below l dC dI cyI cyJ cyZ cyO s.heap.size h_th h_row v_th_undos v_th_isKept v_th_text v_th_length v_th_sizes v_th_values v_th_asked v_th_first v_th_behind v_th_readBits v_th_clauses v_th_doing v_th_numbers v_th_planWord v_th_addWord v_th_delWord v_th_fillWord v_th_probes v_th_links v_th_looks v_th_found v_th_isOver row x0 x1 u_1 hc_2) (cwV 2 hts gX7_putIn_X7_below rfl rfl rfl (by decide +kernel) ⟨Nat.le_of_ble_eq_true rfl, Nat.le_of_ble_eq_true rfl⟩) (GpreV hP hD hK hN [0, 1] rfl (by decide) 7 0 rfl rfl rfl) rfl rfl hl.1 rfl (lv_room (Nat.le_of_ble_eq_true rfl)) dX7_putIn_3 ⟨Nat.zero_le _, Nat.zero_le _⟩) hP hD hS hA [0, 1] [] rfl rfl (by decide) (by decide) (fun H locs hP hD hS => ?_)
  have hP : va_P (dC, dI) vwCl [(h_th, .inr (7, [.ref h_row, v_th_undos, v_th_isKept, v_th_text, v_th_length, v_th_sizes, v_th_values, v_th_asked, v_th_first, v_th_behind, v_th_readBits, v_th_clauses, v_th_doing, v_th_numbers, v_th_planWord, v_th_addWord, v_th_delWord, v_th_fillWord, v_th_probes, v_th_links, v_th_looks, v_th_found, v_th_isOver])), (h_row, .inl (cyI, 1824, .inl row))] H := hP
  have hD : va_D A [(h_th, .inr (7, [.ref h_row, v_th_undos, v_th_isKept, v_th_text, v_th_length, v_th_sizes, v_th_values, v_th_asked, v_th_first, v_th_behind, v_th_readBits, v_th_clauses, v_th_doing, v_th_numbers, v_th_planWord, v_th_addWord, v_th_delWord, v_th_fillWord, v_th_probes, v_th_links, v_th_looks, v_th_found, v_th_isOver])), (h_row, .inl (cyI, 1824, .inl row))] := hD
  refine lv_istore_n (lv' := [(3, .int u_1), (0, .ref h_th), (1, .int x0), (2, .int x1)]) hx hb dX7_putIn_6 rfl hl (by decide) rfl (fun ls hl => ?_)
  refine lv_aload_n hx hb dX7_putIn_7 rfl (lv_at hl 1 rfl) ?_
  refine va_get (D := (dC, dI)) (ci := 7) (v := .ref h_row) (C := RX7) (T := TX7) (N := 23) hx hb hts (fun _ hw => List.mem_cons_of_mem _ (List.mem_append_right _ hw)) hown hK hP 0 rfl rfl 0 (by decide) (hts (.fieldLink RX7 7 "PrefixIndexModel" "row" "[I") (List.mem_of_getElem? (i := 1) rfl)) (fun _ h9 => h9) rfl dX7_putIn_8 ?_
  refine lv_iload_n hx hb dX7_putIn_11 rfl (lv_at hl 2 rfl) ?_
  refine lv_iconst (v := 2) hx hb dX7_putIn_12 (by decide) ?_
  refine lv_iadd hx hb dX7_putIn_13 ?_
  obtain ⟨hi_3, h⟩ := oin_e h
  refine va_iald hx hb hK hP 1 0 rfl rfl hi_3 dX7_putIn_14 ?_
  refine lv_istore (lv' := [(4, .int (row (x0 + (2 : Int32)).toNatClampNeg)), (3, .int u_1), (0, .ref h_th), (1, .int x0), (2, .int x1)]) hx hb dX7_putIn_15 hl (by decide) rfl (fun ls hl => ?_)
  obtain ⟨w_11, hw_12, h⟩ := obd_e h
  have J : ∀ (H : Heap) (locs : List Loc) (ls : Array Slot), va_P (dC, dI) vwCl [(h_th, .inr (7, [.ref h_row, v_th_undos, v_th_isKept, v_th_text, v_th_length, v_th_sizes, v_th_values, v_th_asked, v_th_first, v_th_behind, v_th_readBits, v_th_clauses, v_th_doing, v_th_numbers, v_th_planWord, v_th_addWord, v_th_delWord, v_th_fillWord, v_th_probes, v_th_links, v_th_looks, v_th_found, v_th_isOver])), (h_row, .inl (cyI, 1824, .inl w_11.2))] H → va_D A [(h_th, .inr (7, [.ref h_row, v_th_undos, v_th_isKept, v_th_text, v_th_length, v_th_sizes, v_th_values, v_th_asked, v_th_first, v_th_behind, v_th_readBits, v_th_clauses, v_th_doing, v_th_numbers, v_th_planWord, v_th_addWord, v_th_delWord, v_th_fillWord, v_th_probes, v_th_links, v_th_looks, v_th_found, v_th_isOver])), (h_row, .inl (cyI, 1824, .inl w_11.2))] → va_S A s.heap H locs → lv_has ls 5 [(0, .ref h_th), (1, .int x0), (2, .int x1), (3, .int u_1)] → W p l e ({ frames := 4, cells := 0, slots := 0, locals := 91 }) s m args below meth c H locs 0 0 Q (F0 m 55 ls []) := by
    intro H locs ls hP hD hS hl
    refine lv_aload_n hx hb dX7_putIn_55 rfl (lv_at hl 0 rfl) ?_
    refine va_get (D := (dC, dI)) (ci := 7) (v := .ref h_row) (C := RX7) (T := TX7) (N := 23) hx hb hts (fun _ hw => List.mem_cons_of_mem _ (List.mem_append_right _ hw)) hown hK hP 0 rfl rfl 0 (by decide) (hts (.fieldLink RX7 7 "PrefixIndexModel" "row" "[I") (List.mem_of_getElem? (i := 1) rfl)) (fun _ h9 => h9) rfl dX7_putIn_56 ?_
    refine lv_iload_n hx hb dX7_putIn_59 rfl (lv_at hl 1 rfl) ?_
    refine lv_bipush (v := 6) hx hb dX7_putIn_60 (by decide) ?_
    refine lv_iadd hx hb dX7_putIn_62 ?_
    refine lv_iload_n hx hb dX7_putIn_63 rfl (lv_at hl 3 rfl) ?_
    refine lv_iadd hx hb dX7_putIn_64 ?_
    refine lv_iload_n hx hb dX7_putIn_65 rfl (lv_at hl 2 rfl) ?_
    obtain ⟨hi_13, h⟩ := oin_e h
    refine va_iast hx hb hK hP hD hS 1 0 rfl rfl hi_13 dX7_putIn_66 (fun H locs hP hD hS => ?_)
    have hP : va_P (dC, dI) vwCl [(h_th, .inr (7, [.ref h_row, v_th_undos, v_th_isKept, v_th_text, v_th_length, v_th_sizes, v_th_values, v_th_asked, v_th_first, v_th_behind, v_th_readBits, v_th_clauses, v_th_doing, v_th_numbers, v_th_planWord, v_th_addWord, v_th_delWord, v_th_fillWord, v_th_probes, v_th_links, v_th_looks, v_th_found, v_th_isOver])), (h_row, .inl (cyI, 1824, .inl (upd w_11.2 ((x0 + (6 : Int32)) + u_1).toNatClampNeg x1)))] H := hP
    have hD : va_D A [(h_th, .inr (7, [.ref h_row, v_th_undos, v_th_isKept, v_th_text, v_th_length, v_th_sizes, v_th_values, v_th_asked, v_th_first, v_th_behind, v_th_readBits, v_th_clauses, v_th_doing, v_th_numbers, v_th_planWord, v_th_addWord, v_th_delWord, v_th_fillWord, v_th_probes, v_th_links, v_th_looks, v_th_found, v_th_isOver])), (h_row, .inl (cyI, 1824, .inl (upd w_11.2 ((x0 + (6 : Int32)) + u_1).toNatClampNeg x1)))] := hD
    refine lv_aload_n hx hb dX7_putIn_67 rfl (lv_at hl 0 rfl) ?_
    refine va_get (D := (dC, dI)) (ci := 7) (v := .ref h_row) (C := RX7) (T := TX7) (N := 23) hx hb hts (fun _ hw => List.mem_cons_of_mem _ (List.mem_append_right _ hw)) hown hK hP 0 rfl rfl 0 (by decide) (hts (.fieldLink RX7 7 "PrefixIndexModel" "row" "[I") (List.mem_of_getElem? (i := 1) rfl)) (fun _ h9 => h9) rfl dX7_putIn_68 ?_
    refine lv_iload_n hx hb dX7_putIn_71 rfl (lv_at hl 1 rfl) ?_
    refine lv_iconst (v := 2) hx hb dX7_putIn_72 (by decide) ?_
    refine lv_iadd hx hb dX7_putIn_73 ?_
    refine lv_dup2_11 hx hb dX7_putIn_74 rfl rfl ?_
    obtain ⟨hi_14, h⟩ := oin_e h
    refine va_iald hx hb hK hP 1 0 rfl rfl hi_14 dX7_putIn_75 ?_
    refine lv_iconst (v := 1) hx hb dX7_putIn_76 (by decide) ?_
    refine lv_iadd hx hb dX7_putIn_77 ?_
    obtain ⟨hi_15, h⟩ := oin_e h
    refine va_iast hx hb hK hP hD hS 1 0 rfl rfl hi_15 dX7_putIn_78 (fun H locs hP hD hS => ?_)
    have hP : va_P (dC, dI) vwCl [(h_th, .inr (7, [.ref h_row, v_th_undos, v_th_isKept, v_th_text, v_th_length, v_th_sizes, v_th_values, v_th_asked, v_th_first, v_th_behind, v_th_readBits, v_th_clauses, v_th_doing, v_th_numbers, v_th_planWord, v_th_addWord, v_th_delWord, v_th_fillWord, v_th_probes, v_th_links, v_th_looks, v_th_found, v_th_isOver])), (h_row, .inl (cyI, 1824, .inl (upd (upd w_11.2 ((x0 + (6 : Int32)) + u_1).toNatClampNeg x1) (x0 + (2 : Int32)).toNatClampNeg (((upd w_11.2 ((x0 + (6 : Int32)) + u_1).toNatClampNeg x1) (x0 + (2 : Int32)).toNatClampNeg) + (1 : Int32)))))] H := hP
    have hD : va_D A [(h_th, .inr (7, [.ref h_row, v_th_undos, v_th_isKept, v_th_text, v_th_length, v_th_sizes, v_th_values, v_th_asked, v_th_first, v_th_behind, v_th_readBits, v_th_clauses, v_th_doing, v_th_numbers, v_th_planWord, v_th_addWord, v_th_delWord, v_th_fillWord, v_th_probes, v_th_links, v_th_looks, v_th_found, v_th_isOver])), (h_row, .inl (cyI, 1824, .inl (upd (upd w_11.2 ((x0 + (6 : Int32)) + u_1).toNatClampNeg x1) (x0 + (2 : Int32)).toNatClampNeg (((upd w_11.2 ((x0 + (6 : Int32)) + u_1).toNatClampNeg x1) (x0 + (2 : Int32)).toNatClampNeg) + (1 : Int32)))))] := hD
    refine lv_aload_n hx hb dX7_putIn_79 rfl (lv_at hl 0 rfl) ?_
    refine lv_iload_n hx hb dX7_putIn_80 rfl (lv_at hl 1 rfl) ?_
    refine lv_iload_n hx hb dX7_putIn_81 rfl (lv_at hl 2 rfl) ?_
    obtain ⟨u_16, hc_17, h⟩ := obd_e h
    refine Gci (wr := []) (va_runV (As := [.int x0, .int x1]) (rest := []) ⟨hx, hb, hml, hown, hts⟩ (tX7_bucketOf l dC dI cyI cyJ cyZ cyO H.size h_th h_row v_th_undos v_th_isKept v_th_text v_th_length v_th_sizes v_th_values v_th_asked v_th_first v_th_behind v_th_readBits v_th_clauses v_th_doing v_th_numbers v_th_planWord v_th_addWord v_th_delWord v_th_fillWord v_th_probes v_th_links v_th_looks v_th_found v_th_isOver (upd (upd w_11.2 ((x0 + (6 : Int32)) + u_1).toNatClampNeg x1) (x0 + (2 : Int32)).toNatClampNeg (((upd w_11.2 ((x0 + (6 : Int32)) + u_1).toNatClampNeg x1) (x0 + (2 : Int32)).toNatClampNeg) + (1 : Int32))) x0 x1 u_16 hc_17) (cwV 2 hts gX7_putIn_X7_bucketOf rfl rfl rfl (by decide +kernel) ⟨Nat.le_of_ble_eq_true rfl, Nat.le_of_ble_eq_true rfl⟩) (GpreV hP hD hK hN [0, 1] rfl (by decide) 7 0 rfl rfl rfl) rfl rfl hl.1 rfl (lv_room (Nat.le_of_ble_eq_true rfl)) dX7_putIn_82 ⟨Nat.zero_le _, Nat.zero_le _⟩) hP hD hS hA [0, 1] [] rfl rfl (by decide) (by decide) (fun H locs hP hD hS => ?_)
    have hP : va_P (dC, dI) vwCl [(h_th, .inr (7, [.ref h_row, v_th_undos, v_th_isKept, v_th_text, v_th_length, v_th_sizes, v_th_values, v_th_asked, v_th_first, v_th_behind, v_th_readBits, v_th_clauses, v_th_doing, v_th_numbers, v_th_planWord, v_th_addWord, v_th_delWord, v_th_fillWord, v_th_probes, v_th_links, v_th_looks, v_th_found, v_th_isOver])), (h_row, .inl (cyI, 1824, .inl (upd (upd w_11.2 ((x0 + (6 : Int32)) + u_1).toNatClampNeg x1) (x0 + (2 : Int32)).toNatClampNeg (((upd w_11.2 ((x0 + (6 : Int32)) + u_1).toNatClampNeg x1) (x0 + (2 : Int32)).toNatClampNeg) + (1 : Int32)))))] H := hP
    have hD : va_D A [(h_th, .inr (7, [.ref h_row, v_th_undos, v_th_isKept, v_th_text, v_th_length, v_th_sizes, v_th_values, v_th_asked, v_th_first, v_th_behind, v_th_readBits, v_th_clauses, v_th_doing, v_th_numbers, v_th_planWord, v_th_addWord, v_th_delWord, v_th_fillWord, v_th_probes, v_th_links, v_th_looks, v_th_found, v_th_isOver])), (h_row, .inl (cyI, 1824, .inl (upd (upd w_11.2 ((x0 + (6 : Int32)) + u_1).toNatClampNeg x1) (x0 + (2 : Int32)).toNatClampNeg (((upd w_11.2 ((x0 + (6 : Int32)) + u_1).toNatClampNeg x1) (x0 + (2 : Int32)).toNatClampNeg) + (1 : Int32)))))] := hD
    refine lv_istore (lv' := [(4, .int u_16), (0, .ref h_th), (1, .int x0), (2, .int x1), (3, .int u_1)]) hx hb dX7_putIn_85 hl (by decide) rfl (fun ls hl => ?_)
    refine lv_aload_n hx hb dX7_putIn_87 rfl (lv_at hl 1 rfl) ?_
    refine lv_iload_n hx hb dX7_putIn_88 rfl (lv_at hl 2 rfl) ?_
    refine lv_iload hx hb dX7_putIn_89 (lv_at hl 0 rfl) ?_
    obtain ⟨u_18, hc_19, h⟩ := obd_e h
    refine Gci (wr := []) (va_runV (As := [.int x0, .int u_16]) (rest := []) ⟨hx, hb, hml, hown, hts⟩ (tX7_keysIn l dC dI cyI cyJ cyZ cyO H.size h_th h_row v_th_undos v_th_isKept v_th_text v_th_length v_th_sizes v_th_values v_th_asked v_th_first v_th_behind v_th_readBits v_th_clauses v_th_doing v_th_numbers v_th_planWord v_th_addWord v_th_delWord v_th_fillWord v_th_probes v_th_links v_th_looks v_th_found v_th_isOver (upd (upd w_11.2 ((x0 + (6 : Int32)) + u_1).toNatClampNeg x1) (x0 + (2 : Int32)).toNatClampNeg (((upd w_11.2 ((x0 + (6 : Int32)) + u_1).toNatClampNeg x1) (x0 + (2 : Int32)).toNatClampNeg) + (1 : Int32))) x0 u_16 u_18 hc_19) (cwV 2 hts gX7_putIn_X7_keysIn rfl rfl rfl (by decide +kernel) ⟨Nat.le_of_ble_eq_true rfl, Nat.le_of_ble_eq_true rfl⟩) (GpreV hP hD hK hN [0, 1] rfl (by decide) 7 0 rfl rfl rfl) rfl rfl hl.1 rfl (lv_room (Nat.le_of_ble_eq_true rfl)) dX7_putIn_91 ⟨Nat.zero_le _, Nat.zero_le _⟩) hP hD hS hA [0, 1] [] rfl rfl (by decide) (by decide) (fun H locs hP hD hS => ?_)
    have hP : va_P (dC, dI) vwCl [(h_th, .inr (7, [.ref h_row, v_th_undos, v_th_isKept, v_th_text, v_th_length, v_th_sizes, v_th_values, v_th_asked, v_th_first, v_th_behind, v_th_readBits, v_th_clauses, v_th_doing, v_th_numbers, v_th_planWord, v_th_addWord, v_th_delWord, v_th_fillWord, v_th_probes, v_th_links, v_th_looks, v_th_found, v_th_isOver])), (h_row, .inl (cyI, 1824, .inl (upd (upd w_11.2 ((x0 + (6 : Int32)) + u_1).toNatClampNeg x1) (x0 + (2 : Int32)).toNatClampNeg (((upd w_11.2 ((x0 + (6 : Int32)) + u_1).toNatClampNeg x1) (x0 + (2 : Int32)).toNatClampNeg) + (1 : Int32)))))] H := hP
    have hD : va_D A [(h_th, .inr (7, [.ref h_row, v_th_undos, v_th_isKept, v_th_text, v_th_length, v_th_sizes, v_th_values, v_th_asked, v_th_first, v_th_behind, v_th_readBits, v_th_clauses, v_th_doing, v_th_numbers, v_th_planWord, v_th_addWord, v_th_delWord, v_th_fillWord, v_th_probes, v_th_links, v_th_looks, v_th_found, v_th_isOver])), (h_row, .inl (cyI, 1824, .inl (upd (upd w_11.2 ((x0 + (6 : Int32)) + u_1).toNatClampNeg x1) (x0 + (2 : Int32)).toNatClampNeg (((upd w_11.2 ((x0 + (6 : Int32)) + u_1).toNatClampNeg x1) (x0 + (2 : Int32)).toNatClampNeg) + (1 : Int32)))))] := hD
    refine lv_iconst (v := 4) hx hb dX7_putIn_94 (by decide) ?_
    refine lv_aload_n hx hb dX7_putIn_95 rfl (lv_at hl 1 rfl) ?_
    refine va_get (D := (dC, dI)) (ci := 7) (v := .ref h_row) (C := RX7) (T := TX7) (N := 23) hx hb hts (fun _ hw => List.mem_cons_of_mem _ (List.mem_append_right _ hw)) hown hK hP 0 rfl rfl 0 (by decide) (hts (.fieldLink RX7 7 "PrefixIndexModel" "row" "[I") (List.mem_of_getElem? (i := 1) rfl)) (fun _ h9 => h9) rfl dX7_putIn_96 ?_
    refine lv_iload_n hx hb dX7_putIn_99 rfl (lv_at hl 2 rfl) ?_
    refine lv_iconst (v := 1) hx hb dX7_putIn_100 (by decide) ?_
    refine lv_iadd hx hb dX7_putIn_101 ?_
    obtain ⟨hi_20, h⟩ := oin_e h
    refine va_iald hx hb hK hP 1 0 rfl rfl hi_20 dX7_putIn_102 ?_
    refine lv_imul hx hb dX7_putIn_103 ?_
    obtain ⟨w_22, hm_25, h⟩ := obd_e h
    have J : ∀ (H : Heap) (locs : List Loc) (ls : Array Slot), va_P (dC, dI) vwCl [(h_th, .inr (7, [.ref h_row, v_th_undos, v_th_isKept, v_th_text, v_th_length, v_th_sizes, v_th_values, v_th_asked, v_th_first, v_th_behind, v_th_readBits, v_th_clauses, v_th_doing, v_th_numbers, v_th_planWord, v_th_addWord, v_th_delWord, v_th_fillWord, v_th_probes, v_th_links, v_th_looks, v_th_found, v_th_isOver])), (h_row, .inl (cyI, 1824, .inl w_22))] H → va_D A [(h_th, .inr (7, [.ref h_row, v_th_undos, v_th_isKept, v_th_text, v_th_length, v_th_sizes, v_th_values, v_th_asked, v_th_first, v_th_behind, v_th_readBits, v_th_clauses, v_th_doing, v_th_numbers, v_th_planWord, v_th_addWord, v_th_delWord, v_th_fillWord, v_th_probes, v_th_links, v_th_looks, v_th_found, v_th_isOver])), (h_row, .inl (cyI, 1824, .inl w_22))] → va_S A s.heap H locs → lv_has ls 5 [] → W p l e ({ frames := 4, cells := 0, slots := 0, locals := 91 }) s m args below meth c H locs 0 0 Q (F0 m 114 ls []) := by
      intro H locs ls hP hD hS hl
      obtain rfl := Option.some.inj h
      exact hret _ _ _ _ dX7_putIn_114 hP hD hS
    replace h := hm_25
    refine lv_icmp_le (tgt := 114) hx hb dX7_putIn_104 (by decide) (fun c_21 => ?_) (fun c_21 => ?_)
    · have h := og_ite_t c_21 h
      obtain rfl := Option.some.inj h
      exact J _ _ _ hP hD hS (lv_sub hl [] rfl)
    · have h := og_ite_f c_21 h
      refine lv_aload_n hx hb dX7_putIn_107 rfl (lv_at hl 1 rfl) ?_
      refine lv_iload_n hx hb dX7_putIn_108 rfl (lv_at hl 2 rfl) ?_
      refine lv_iload hx hb dX7_putIn_109 (lv_at hl 0 rfl) ?_
      obtain ⟨u_23, hc_24, h⟩ := obd_e h
      refine Gcv (wr := []) (va_runV (As := [.int x0, .int u_16]) (rest := []) ⟨hx, hb, hml, hown, hts⟩ (tX7_split l dC dI cyI cyJ cyZ cyO H.size h_th h_row v_th_undos v_th_isKept v_th_text v_th_length v_th_sizes v_th_values v_th_asked v_th_first v_th_behind v_th_readBits v_th_clauses v_th_doing v_th_numbers v_th_planWord v_th_addWord v_th_delWord v_th_fillWord v_th_probes v_th_links v_th_looks v_th_found v_th_isOver (upd (upd w_11.2 ((x0 + (6 : Int32)) + u_1).toNatClampNeg x1) (x0 + (2 : Int32)).toNatClampNeg (((upd w_11.2 ((x0 + (6 : Int32)) + u_1).toNatClampNeg x1) (x0 + (2 : Int32)).toNatClampNeg) + (1 : Int32))) x0 u_16 u_23 hc_24) (cwV 2 hts gX7_putIn_X7_split rfl rfl rfl (by decide +kernel) ⟨Nat.le_of_ble_eq_true rfl, Nat.le_of_ble_eq_true rfl⟩) (GpreV hP hD hK hN [0, 1] rfl (by decide) 7 0 rfl rfl rfl) rfl rfl hl.1 rfl (lv_room (Nat.le_of_ble_eq_true rfl)) dX7_putIn_111 ⟨Nat.zero_le _, Nat.zero_le _⟩) hP hD hS hA [0, 1] [] rfl rfl (by decide) (by decide) (fun H locs hP hD hS => ?_)
      have hP : va_P (dC, dI) vwCl [(h_th, .inr (7, [.ref h_row, v_th_undos, v_th_isKept, v_th_text, v_th_length, v_th_sizes, v_th_values, v_th_asked, v_th_first, v_th_behind, v_th_readBits, v_th_clauses, v_th_doing, v_th_numbers, v_th_planWord, v_th_addWord, v_th_delWord, v_th_fillWord, v_th_probes, v_th_links, v_th_looks, v_th_found, v_th_isOver])), (h_row, .inl (cyI, 1824, .inl u_23))] H := hP
      have hD : va_D A [(h_th, .inr (7, [.ref h_row, v_th_undos, v_th_isKept, v_th_text, v_th_length, v_th_sizes, v_th_values, v_th_asked, v_th_first, v_th_behind, v_th_readBits, v_th_clauses, v_th_doing, v_th_numbers, v_th_planWord, v_th_addWord, v_th_delWord, v_th_fillWord, v_th_probes, v_th_links, v_th_looks, v_th_found, v_th_isOver])), (h_row, .inl (cyI, 1824, .inl u_23))] := hD
      obtain rfl := Option.some.inj h
      exact J _ _ _ hP hD hS (lv_sub hl [] rfl)
  have LL : ∀ (n : Nat) (m4 : Int32) (zrow : (Nat → Int32)) (H : Heap) (locs : List Loc) (ls : Array Slot), lpX7_putIn_17 x0 x1 u_1 n m4 zrow = some w_11 → va_P (dC, dI) vwCl [(h_th, .inr (7, [.ref h_row, v_th_undos, v_th_isKept, v_th_text, v_th_length, v_th_sizes, v_th_values, v_th_asked, v_th_first, v_th_behind, v_th_readBits, v_th_clauses, v_th_doing, v_th_numbers, v_th_planWord, v_th_addWord, v_th_delWord, v_th_fillWord, v_th_probes, v_th_links, v_th_looks, v_th_found, v_th_isOver])), (h_row, .inl (cyI, 1824, .inl zrow))] H → va_D A [(h_th, .inr (7, [.ref h_row, v_th_undos, v_th_isKept, v_th_text, v_th_length, v_th_sizes, v_th_values, v_th_asked, v_th_first, v_th_behind, v_th_readBits, v_th_clauses, v_th_doing, v_th_numbers, v_th_planWord, v_th_addWord, v_th_delWord, v_th_fillWord, v_th_probes, v_th_links, v_th_looks, v_th_found, v_th_isOver])), (h_row, .inl (cyI, 1824, .inl zrow))] → va_S A s.heap H locs → lv_has ls 5 [(0, .ref h_th), (1, .int x0), (2, .int x1), (3, .int u_1), (4, .int m4)] → W p l e ({ frames := 4, cells := 0, slots := 0, locals := 91 }) s m args below meth c H locs 0 0 Q (F0 m 17 ls []) := by
    intro n
    induction n with
    | zero =>
      intro m4 zrow H locs ls h
      exact absurd h (by rw [lpX7_putIn_17]; exact fun q => by cases q)
    | succ n ih =>
      intro m4 zrow H locs ls h hP hD hS hl
      rw [lpX7_putIn_17] at h
      refine lv_iload hx hb dX7_putIn_17 (lv_at hl 4 rfl) ?_
      refine lv_iload_n hx hb dX7_putIn_19 rfl (lv_at hl 3 rfl) ?_
      refine lv_icmp_le (tgt := 55) hx hb dX7_putIn_20 (by decide) (fun c_8 => ?_) (fun c_8 => ?_)
      · have h := og_ite_t c_8 h
        obtain rfl := Option.some.inj h
        exact J _ _ _ hP hD hS (lv_sub hl [0, 1, 2, 3] rfl)
      · have h := og_ite_f c_8 h
        refine lv_aload_n hx hb dX7_putIn_23 rfl (lv_at hl 0 rfl) ?_
        refine va_get (D := (dC, dI)) (ci := 7) (v := .ref h_row) (C := RX7) (T := TX7) (N := 23) hx hb hts (fun _ hw => List.mem_cons_of_mem _ (List.mem_append_right _ hw)) hown hK hP 0 rfl rfl 0 (by decide) (hts (.fieldLink RX7 7 "PrefixIndexModel" "row" "[I") (List.mem_of_getElem? (i := 1) rfl)) (fun _ h9 => h9) rfl dX7_putIn_24 ?_
        refine lv_iload_n hx hb dX7_putIn_27 rfl (lv_at hl 1 rfl) ?_
        refine lv_bipush (v := 6) hx hb dX7_putIn_28 (by decide) ?_
        refine lv_iadd hx hb dX7_putIn_30 ?_
        refine lv_iload hx hb dX7_putIn_31 (lv_at hl 4 rfl) ?_
        refine lv_iadd hx hb dX7_putIn_33 ?_
        refine lv_aload_n hx hb dX7_putIn_34 rfl (lv_at hl 0 rfl) ?_
        refine va_get (D := (dC, dI)) (ci := 7) (v := .ref h_row) (C := RX7) (T := TX7) (N := 23) hx hb hts (fun _ hw => List.mem_cons_of_mem _ (List.mem_append_right _ hw)) hown hK hP 0 rfl rfl 0 (by decide) (hts (.fieldLink RX7 7 "PrefixIndexModel" "row" "[I") (List.mem_of_getElem? (i := 1) rfl)) (fun _ h9 => h9) rfl dX7_putIn_35 ?_
        refine lv_iload_n hx hb dX7_putIn_38 rfl (lv_at hl 1 rfl) ?_
        refine lv_bipush (v := 6) hx hb dX7_putIn_39 (by decide) ?_
        refine lv_iadd hx hb dX7_putIn_41 ?_
        refine lv_iload hx hb dX7_putIn_42 (lv_at hl 4 rfl) ?_
        refine lv_iadd hx hb dX7_putIn_44 ?_
        refine lv_iconst (v := 1) hx hb dX7_putIn_45 (by decide) ?_
        refine lv_isub hx hb dX7_putIn_46 ?_
        obtain ⟨hi_9, h⟩ := oin_e h
        refine va_iald hx hb hK hP 1 0 rfl rfl hi_9 dX7_putIn_47 ?_
        obtain ⟨hi_10, h⟩ := oin_e h
        refine va_iast hx hb hK hP hD hS 1 0 rfl rfl hi_10 dX7_putIn_48 (fun H locs hP hD hS => ?_)
        have hP : va_P (dC, dI) vwCl [(h_th, .inr (7, [.ref h_row, v_th_undos, v_th_isKept, v_th_text, v_th_length, v_th_sizes, v_th_values, v_th_asked, v_th_first, v_th_behind, v_th_readBits, v_th_clauses, v_th_doing, v_th_numbers, v_th_planWord, v_th_addWord, v_th_delWord, v_th_fillWord, v_th_probes, v_th_links, v_th_looks, v_th_found, v_th_isOver])), (h_row, .inl (cyI, 1824, .inl (upd zrow ((x0 + (6 : Int32)) + m4).toNatClampNeg (zrow (((x0 + (6 : Int32)) + m4) - (1 : Int32)).toNatClampNeg))))] H := hP
        have hD : va_D A [(h_th, .inr (7, [.ref h_row, v_th_undos, v_th_isKept, v_th_text, v_th_length, v_th_sizes, v_th_values, v_th_asked, v_th_first, v_th_behind, v_th_readBits, v_th_clauses, v_th_doing, v_th_numbers, v_th_planWord, v_th_addWord, v_th_delWord, v_th_fillWord, v_th_probes, v_th_links, v_th_looks, v_th_found, v_th_isOver])), (h_row, .inl (cyI, 1824, .inl (upd zrow ((x0 + (6 : Int32)) + m4).toNatClampNeg (zrow (((x0 + (6 : Int32)) + m4) - (1 : Int32)).toNatClampNeg))))] := hD
        refine lv_iinc (v := m4 + (-1 : Int32)) (lv' := [(4, .int (m4 + (-1 : Int32))), (0, .ref h_th), (1, .int x0), (2, .int x1), (3, .int u_1)]) hx hb dX7_putIn_49 hl (k := 4) rfl rfl (by decide) rfl (fun ls hl => ?_)
        refine lv_goto (tgt := 17) hx hb dX7_putIn_52 (by decide) ?_
        exact ih (m4 + (-1 : Int32)) (upd zrow ((x0 + (6 : Int32)) + m4).toNatClampNeg (zrow (((x0 + (6 : Int32)) + m4) - (1 : Int32)).toNatClampNeg)) _ _ _ h hP hD hS (lv_sub hl [1, 2, 3, 4, 0] rfl)
  exact LL _ (row (x0 + (2 : Int32)).toNatClampNeg) row _ _ _ hw_12 hP hD hS (lv_sub hl [2, 3, 4, 1, 0] rfl)

def lpX7_takeOut_27 (q1 : Int32) (q3 : Int32) : Nat → Int32 → (Nat → Int32) → Option (Int32 × (Nat → Int32))
  | 0, _, _ => none
  | n + 1, m4, zrow => oin (q1 + (2 : Int32)) 1824 (if (zrow (q1 + (2 : Int32)).toNatClampNeg) ≤ m4 then (some (m4, zrow)) else (oin (((q1 + (6 : Int32)) + m4) + (1 : Int32)) 1824 (oin ((q1 + (6 : Int32)) + m4) 1824 (lpX7_takeOut_27 q1 q3 n (m4 + (1 : Int32)) (upd zrow ((q1 + (6 : Int32)) + m4).toNatClampNeg (zrow (((q1 + (6 : Int32)) + m4) + (1 : Int32)).toNatClampNeg))))))

def lpX7_takeOut_152 (q1 : Int32) (q4 : Int32) : Nat → Int32 → (Nat → Int32) → Option (Int32 × (Nat → Int32))
  | 0, _, _ => none
  | n + 1, m5, zrow => oin (q1 + (3 : Int32)) 1824 (if (zrow (q1 + (3 : Int32)).toNatClampNeg) ≤ m5 then (some (m5, zrow)) else (oin (((q1 + (102 : Int32)) + m5) + (1 : Int32)) 1824 (oin ((q1 + (102 : Int32)) + m5) 1824 (lpX7_takeOut_152 q1 q4 n (m5 + (1 : Int32)) (upd zrow ((q1 + (102 : Int32)) + m5).toNatClampNeg (zrow (((q1 + (102 : Int32)) + m5) + (1 : Int32)).toNatClampNeg))))))

def fX7_takeOut (row : (Nat → Int32)) (x0 : Int32) (x1 : Int32) : Option ((Nat → Int32)) := obd (fX7_bucketOf row x0 x1) fun u_1 => oin (x0 + (2 : Int32)) 1824 (oin (x0 + (2 : Int32)) 1824 (obd (fX7_below (upd row (x0 + (2 : Int32)).toNatClampNeg ((row (x0 + (2 : Int32)).toNatClampNeg) - (1 : Int32))) x0 x1) fun u_5 => obd (lpX7_takeOut_27 x0 u_1 100000 u_5 (upd row (x0 + (2 : Int32)).toNatClampNeg ((row (x0 + (2 : Int32)).toNatClampNeg) - (1 : Int32)))) fun w_16 => obd (fX7_keysIn w_16.2 x0 u_1) fun u_18 => oin (x0 + (1 : Int32)) 1824 (obd (if (w_16.2 (x0 + (1 : Int32)).toNatClampNeg) ≤ u_18 then (some w_16.2) else (oin (x0 + (3 : Int32)) 1824 (if (w_16.2 (x0 + (3 : Int32)).toNatClampNeg) ≤ (1 : Int32) then (some w_16.2) else (oin (x0 + (3 : Int32)) 1824 (olet (if u_1 = ((w_16.2 (x0 + (3 : Int32)).toNatClampNeg) - (1 : Int32)) then ((u_1 - (1 : Int32))) else (u_1)) fun y_27 => oin (x0 + (3 : Int32)) 1824 (oin (x0 + (3 : Int32)) 1824 (oin (x0 + (5 : Int32)) 1824 (oin (x0 + (5 : Int32)) 1824 (obd (lpX7_takeOut_152 x0 y_27 100000 y_27 (upd (upd w_16.2 (x0 + (3 : Int32)).toNatClampNeg ((w_16.2 (x0 + (3 : Int32)).toNatClampNeg) - (1 : Int32))) (x0 + (5 : Int32)).toNatClampNeg (((upd w_16.2 (x0 + (3 : Int32)).toNatClampNeg ((w_16.2 (x0 + (3 : Int32)).toNatClampNeg) - (1 : Int32))) (x0 + (5 : Int32)).toNatClampNeg) + (1 : Int32)))) fun w_41 => obd (fX7_keysIn w_41.2 x0 y_27) fun u_43 => oin (x0 + (1 : Int32)) 1824 (if u_43 ≤ ((3 : Int32) * (w_41.2 (x0 + (1 : Int32)).toNatClampNeg)) then (some w_41.2) else (obd (fX7_split w_41.2 x0 y_27) fun u_47 => some u_47))))))))))) fun w_22 => some w_22)))

set_option maxHeartbeats 4000000 in
set_option maxRecDepth 100000 in
theorem tX7_takeOut (l : Launch) (dC : Nat → ClassId) (dI : Nat → Nat → Nat) (cyI cyJ cyZ cyO : ClassId) (sz : Nat) (h_th h_row : Nat) (v_th_undos : Value) (v_th_isKept : Value) (v_th_text : Value) (v_th_length : Value) (v_th_sizes : Value) (v_th_values : Value) (v_th_asked : Value) (v_th_first : Value) (v_th_behind : Value) (v_th_readBits : Value) (v_th_clauses : Value) (v_th_doing : Value) (v_th_numbers : Value) (v_th_planWord : Value) (v_th_addWord : Value) (v_th_delWord : Value) (v_th_fillWord : Value) (v_th_probes : Value) (v_th_links : Value) (v_th_looks : Value) (v_th_found : Value) (v_th_isOver : Value) (row : (Nat → Int32)) (x0 : Int32) (x1 : Int32) (u : (Nat → Int32)) (hf : fX7_takeOut row x0 x1 = some u) : Met l yX7_takeOut wsX7_takeOut ({ frames := 4, cells := 0, slots := 0, locals := 91 }) (va_Pc [.ref h_th, .int x0, .int x1] (GP (dC, dI) (T4 cyI cyJ cyZ cyO) sz [(h_th, .inr (7, [.ref h_row, v_th_undos, v_th_isKept, v_th_text, v_th_length, v_th_sizes, v_th_values, v_th_asked, v_th_first, v_th_behind, v_th_readBits, v_th_clauses, v_th_doing, v_th_numbers, v_th_planWord, v_th_addWord, v_th_delWord, v_th_fillWord, v_th_probes, v_th_links, v_th_looks, v_th_found, v_th_isOver])), (h_row, .inl (cyI, 1824, .inl row))])) (va_Qv (fun (_ : Unit) => True) (GB (dC, dI) [(h_th, .inr (7, [.ref h_row, v_th_undos, v_th_isKept, v_th_text, v_th_length, v_th_sizes, v_th_values, v_th_asked, v_th_first, v_th_behind, v_th_readBits, v_th_clauses, v_th_doing, v_th_numbers, v_th_planWord, v_th_addWord, v_th_delWord, v_th_fillWord, v_th_probes, v_th_links, v_th_looks, v_th_found, v_th_isOver])), (h_row, .inl (cyI, 1824, .inl u))] (va_A [(h_th, .inr (7, [.ref h_row, v_th_undos, v_th_isKept, v_th_text, v_th_length, v_th_sizes, v_th_values, v_th_asked, v_th_first, v_th_behind, v_th_readBits, v_th_clauses, v_th_doing, v_th_numbers, v_th_planWord, v_th_addWord, v_th_delWord, v_th_fillWord, v_th_probes, v_th_links, v_th_looks, v_th_found, v_th_isOver])), (h_row, .inl (cyI, 1824, .inl row))] sz)) (va_A [(h_th, .inr (7, [.ref h_row, v_th_undos, v_th_isKept, v_th_text, v_th_length, v_th_sizes, v_th_values, v_th_asked, v_th_first, v_th_behind, v_th_readBits, v_th_clauses, v_th_doing, v_th_numbers, v_th_planWord, v_th_addWord, v_th_delWord, v_th_fillWord, v_th_probes, v_th_links, v_th_looks, v_th_found, v_th_isOver])), (h_row, .inl (cyI, 1824, .inl row))] sz)) 0 0 (va_A [(h_th, .inr (7, [.ref h_row, v_th_undos, v_th_isKept, v_th_text, v_th_length, v_th_sizes, v_th_values, v_th_asked, v_th_first, v_th_behind, v_th_readBits, v_th_clauses, v_th_doing, v_th_numbers, v_th_planWord, v_th_addWord, v_th_delWord, v_th_fillWord, v_th_probes, v_th_links, v_th_looks, v_th_found, v_th_isOver])), (h_row, .inl (cyI, 1824, .inl row))] sz) := by
  refine GMetV (by decide) rfl (Nat.le_of_ble_eq_true rfl) ?_
  intro p e s m args below meth c A Q ls hx hb hml hts hown hN hK hA hret hP hD hS hl
  have h := hf
  clear hf
  unfold fX7_takeOut at h
  have hown : s.vm.findClass RX7 = some m.cls := hown
  have hl : lv_has ls 6 [(0, .ref h_th), (1, .int x0), (2, .int x1)] := hl
  refine lv_aload_n hx hb dX7_takeOut_0 rfl (lv_at hl 0 rfl) ?_
  refine lv_iload_n hx hb dX7_takeOut_1 rfl (lv_at hl 1 rfl) ?_
  refine lv_iload_n hx hb dX7_takeOut_2 rfl (lv_at hl 2 rfl) ?_
  obtain ⟨u_1, hc_2, h⟩ := obd_e h
  refine Gci (wr := []) (va_runV (As := [.int x0, .int x1]) (rest := []) ⟨hx, hb, hml, hown, hts⟩ (tX7_bucketOf l dC dI cyI cyJ cyZ cyO s.heap.size h_th h_row v_th_undos v_th_isKept v_th_text v_th_length v_th_sizes v_th_values v_th_asked v_th_first v_th_behind v_th_readBits v_th_clauses v_th_doing v_th_numbers v_th_planWord v_th_addWord v_th_delWord v_th_fillWord v_th_probes v_th_links v_th_looks v_th_found v_th_isOver row x0 x1 u_1 hc_2) (cwV 2 hts gX7_takeOut_X7_bucketOf rfl rfl rfl (by decide +kernel) ⟨Nat.le_of_ble_eq_true rfl, Nat.le_of_ble_eq_true rfl⟩) (GpreV hP hD hK hN [0, 1] rfl (by decide) 7 0 rfl rfl rfl) rfl rfl hl.1 rfl (lv_room (Nat.le_of_ble_eq_true rfl)) dX7_takeOut_3 ⟨Nat.zero_le _, Nat.zero_le _⟩) hP hD hS hA [0, 1] [] rfl rfl (by decide) (by decide) (fun H locs hP hD hS => ?_)
  have hP : va_P (dC, dI) vwCl [(h_th, .inr (7, [.ref h_row, v_th_undos, v_th_isKept, v_th_text, v_th_length, v_th_sizes, v_th_values, v_th_asked, v_th_first, v_th_behind, v_th_readBits, v_th_clauses, v_th_doing, v_th_numbers, v_th_planWord, v_th_addWord, v_th_delWord, v_th_fillWord, v_th_probes, v_th_links, v_th_looks, v_th_found, v_th_isOver])), (h_row, .inl (cyI, 1824, .inl row))] H := hP
  have hD : va_D A [(h_th, .inr (7, [.ref h_row, v_th_undos, v_th_isKept, v_th_text, v_th_length, v_th_sizes, v_th_values, v_th_asked, v_th_first, v_th_behind, v_th_readBits, v_th_clauses, v_th_doing, v_th_numbers, v_th_planWord, v_th_addWord, v_th_delWord, v_th_fillWord, v_th_probes, v_th_links, v_th_looks, v_th_found, v_th_isOver])), (h_row, .inl (cyI, 1824, .inl row))] := hD
  refine lv_istore_n (lv' := [(3, .int u_1), (0, .ref h_th), (1, .int x0), (2, .int x1)]) hx hb dX7_takeOut_6 rfl hl (by decide) rfl (fun ls hl => ?_)
  refine lv_aload_n hx hb dX7_takeOut_7 rfl (lv_at hl 1 rfl) ?_
  refine va_get (D := (dC, dI)) (ci := 7) (v := .ref h_row) (C := RX7) (T := TX7) (N := 23) hx hb hts (fun _ hw => List.mem_cons_of_mem _ (List.mem_append_right _ hw)) hown hK hP 0 rfl rfl 0 (by decide) (hts (.fieldLink RX7 7 "PrefixIndexModel" "row" "[I") (List.mem_of_getElem? (i := 1) rfl)) (fun _ h9 => h9) rfl dX7_takeOut_8 ?_
  refine lv_iload_n hx hb dX7_takeOut_11 rfl (lv_at hl 2 rfl) ?_
  refine lv_iconst (v := 2) hx hb dX7_takeOut_12 (by decide) ?_
  refine lv_iadd hx hb dX7_takeOut_13 ?_
  refine lv_dup2_11 hx hb dX7_takeOut_14 rfl rfl ?_
  obtain ⟨hi_3, h⟩ := oin_e h
  refine va_iald hx hb hK hP 1 0 rfl rfl hi_3 dX7_takeOut_15 ?_
  refine lv_iconst (v := 1) hx hb dX7_takeOut_16 (by decide) ?_
  refine lv_isub hx hb dX7_takeOut_17 ?_
  obtain ⟨hi_4, h⟩ := oin_e h
  refine va_iast hx hb hK hP hD hS 1 0 rfl rfl hi_4 dX7_takeOut_18 (fun H locs hP hD hS => ?_)
  have hP : va_P (dC, dI) vwCl [(h_th, .inr (7, [.ref h_row, v_th_undos, v_th_isKept, v_th_text, v_th_length, v_th_sizes, v_th_values, v_th_asked, v_th_first, v_th_behind, v_th_readBits, v_th_clauses, v_th_doing, v_th_numbers, v_th_planWord, v_th_addWord, v_th_delWord, v_th_fillWord, v_th_probes, v_th_links, v_th_looks, v_th_found, v_th_isOver])), (h_row, .inl (cyI, 1824, .inl (upd row (x0 + (2 : Int32)).toNatClampNeg ((row (x0 + (2 : Int32)).toNatClampNeg) - (1 : Int32)))))] H := hP
  have hD : va_D A [(h_th, .inr (7, [.ref h_row, v_th_undos, v_th_isKept, v_th_text, v_th_length, v_th_sizes, v_th_values, v_th_asked, v_th_first, v_th_behind, v_th_readBits, v_th_clauses, v_th_doing, v_th_numbers, v_th_planWord, v_th_addWord, v_th_delWord, v_th_fillWord, v_th_probes, v_th_links, v_th_looks, v_th_found, v_th_isOver])), (h_row, .inl (cyI, 1824, .inl (upd row (x0 + (2 : Int32)).toNatClampNeg ((row (x0 + (2 : Int32)).toNatClampNeg) - (1 : Int32)))))] := hD
  refine lv_aload_n hx hb dX7_takeOut_19 rfl (lv_at hl 1 rfl) ?_
  refine lv_iload_n hx hb dX7_takeOut_20 rfl (lv_at hl 2 rfl) ?_
  refine lv_iload_n hx hb dX7_takeOut_21 rfl (lv_at hl 3 rfl) ?_
  obtain ⟨u_5, hc_6, h⟩ := obd_e h
  refine Gci (wr := []) (va_runV (As := [.int x0, .int x1]) (rest := []) ⟨hx, hb, hml, hown, hts⟩ (tX7_below l dC dI cyI cyJ cyZ cyO H.size h_th h_row v_th_undos v_th_isKept v_th_text v_th_length v_th_sizes v_th_values v_th_asked v_th_first v_th_behind v_th_readBits v_th_clauses v_th_doing v_th_numbers v_th_planWord v_th_addWord v_th_delWord v_th_fillWord v_th_probes v_th_links v_th_looks v_th_found v_th_isOver (upd row (x0 + (2 : Int32)).toNatClampNeg ((row (x0 + (2 : Int32)).toNatClampNeg) - (1 : Int32))) x0 x1 u_5 hc_6) (cwV 2 hts gX7_takeOut_X7_below rfl rfl rfl (by decide +kernel) ⟨Nat.le_of_ble_eq_true rfl, Nat.le_of_ble_eq_true rfl⟩) (GpreV hP hD hK hN [0, 1] rfl (by decide) 7 0 rfl rfl rfl) rfl rfl hl.1 rfl (lv_room (Nat.le_of_ble_eq_true rfl)) dX7_takeOut_22 ⟨Nat.zero_le _, Nat.zero_le _⟩) hP hD hS hA [0, 1] [] rfl rfl (by decide) (by decide) (fun H locs hP hD hS => ?_)
  have hP : va_P (dC, dI) vwCl [(h_th, .inr (7, [.ref h_row, v_th_undos, v_th_isKept, v_th_text, v_th_length, v_th_sizes, v_th_values, v_th_asked, v_th_first, v_th_behind, v_th_readBits, v_th_clauses, v_th_doing, v_th_numbers, v_th_planWord, v_th_addWord, v_th_delWord, v_th_fillWord, v_th_probes, v_th_links, v_th_looks, v_th_found, v_th_isOver])), (h_row, .inl (cyI, 1824, .inl (upd row (x0 + (2 : Int32)).toNatClampNeg ((row (x0 + (2 : Int32)).toNatClampNeg) - (1 : Int32)))))] H := hP
  have hD : va_D A [(h_th, .inr (7, [.ref h_row, v_th_undos, v_th_isKept, v_th_text, v_th_length, v_th_sizes, v_th_values, v_th_asked, v_th_first, v_th_behind, v_th_readBits, v_th_clauses, v_th_doing, v_th_numbers, v_th_planWord, v_th_addWord, v_th_delWord, v_th_fillWord, v_th_probes, v_th_links, v_th_looks, v_th_found, v_th_isOver])), (h_row, .inl (cyI, 1824, .inl (upd row (x0 + (2 : Int32)).toNatClampNeg ((row (x0 + (2 : Int32)).toNatClampNeg) - (1 : Int32)))))] := hD
  refine lv_istore (lv' := [(4, .int u_5), (3, .int u_1), (0, .ref h_th), (1, .int x0), (2, .int x1)]) hx hb dX7_takeOut_25 hl (by decide) rfl (fun ls hl => ?_)
  obtain ⟨w_16, hw_17, h⟩ := obd_e h
  have J : ∀ (H : Heap) (locs : List Loc) (ls : Array Slot), va_P (dC, dI) vwCl [(h_th, .inr (7, [.ref h_row, v_th_undos, v_th_isKept, v_th_text, v_th_length, v_th_sizes, v_th_values, v_th_asked, v_th_first, v_th_behind, v_th_readBits, v_th_clauses, v_th_doing, v_th_numbers, v_th_planWord, v_th_addWord, v_th_delWord, v_th_fillWord, v_th_probes, v_th_links, v_th_looks, v_th_found, v_th_isOver])), (h_row, .inl (cyI, 1824, .inl w_16.2))] H → va_D A [(h_th, .inr (7, [.ref h_row, v_th_undos, v_th_isKept, v_th_text, v_th_length, v_th_sizes, v_th_values, v_th_asked, v_th_first, v_th_behind, v_th_readBits, v_th_clauses, v_th_doing, v_th_numbers, v_th_planWord, v_th_addWord, v_th_delWord, v_th_fillWord, v_th_probes, v_th_links, v_th_looks, v_th_found, v_th_isOver])), (h_row, .inl (cyI, 1824, .inl w_16.2))] → va_S A s.heap H locs → lv_has ls 6 [(0, .ref h_th), (1, .int x0), (3, .int u_1)] → W p l e ({ frames := 4, cells := 0, slots := 0, locals := 91 }) s m args below meth c H locs 0 0 Q (F0 m 72 ls []) := by
    intro H locs ls hP hD hS hl
    refine lv_aload_n hx hb dX7_takeOut_72 rfl (lv_at hl 0 rfl) ?_
    refine lv_iload_n hx hb dX7_takeOut_73 rfl (lv_at hl 1 rfl) ?_
    refine lv_iload_n hx hb dX7_takeOut_74 rfl (lv_at hl 2 rfl) ?_
    obtain ⟨u_18, hc_19, h⟩ := obd_e h
    refine Gci (wr := []) (va_runV (As := [.int x0, .int u_1]) (rest := []) ⟨hx, hb, hml, hown, hts⟩ (tX7_keysIn l dC dI cyI cyJ cyZ cyO H.size h_th h_row v_th_undos v_th_isKept v_th_text v_th_length v_th_sizes v_th_values v_th_asked v_th_first v_th_behind v_th_readBits v_th_clauses v_th_doing v_th_numbers v_th_planWord v_th_addWord v_th_delWord v_th_fillWord v_th_probes v_th_links v_th_looks v_th_found v_th_isOver w_16.2 x0 u_1 u_18 hc_19) (cwV 2 hts gX7_takeOut_X7_keysIn rfl rfl rfl (by decide +kernel) ⟨Nat.le_of_ble_eq_true rfl, Nat.le_of_ble_eq_true rfl⟩) (GpreV hP hD hK hN [0, 1] rfl (by decide) 7 0 rfl rfl rfl) rfl rfl hl.1 rfl (lv_room (Nat.le_of_ble_eq_true rfl)) dX7_takeOut_75 ⟨Nat.zero_le _, Nat.zero_le _⟩) hP hD hS hA [0, 1] [] rfl rfl (by decide) (by decide) (fun H locs hP hD hS => ?_)
    have hP : va_P (dC, dI) vwCl [(h_th, .inr (7, [.ref h_row, v_th_undos, v_th_isKept, v_th_text, v_th_length, v_th_sizes, v_th_values, v_th_asked, v_th_first, v_th_behind, v_th_readBits, v_th_clauses, v_th_doing, v_th_numbers, v_th_planWord, v_th_addWord, v_th_delWord, v_th_fillWord, v_th_probes, v_th_links, v_th_looks, v_th_found, v_th_isOver])), (h_row, .inl (cyI, 1824, .inl w_16.2))] H := hP
    have hD : va_D A [(h_th, .inr (7, [.ref h_row, v_th_undos, v_th_isKept, v_th_text, v_th_length, v_th_sizes, v_th_values, v_th_asked, v_th_first, v_th_behind, v_th_readBits, v_th_clauses, v_th_doing, v_th_numbers, v_th_planWord, v_th_addWord, v_th_delWord, v_th_fillWord, v_th_probes, v_th_links, v_th_looks, v_th_found, v_th_isOver])), (h_row, .inl (cyI, 1824, .inl w_16.2))] := hD
    refine lv_aload_n hx hb dX7_takeOut_78 rfl (lv_at hl 0 rfl) ?_
    refine va_get (D := (dC, dI)) (ci := 7) (v := .ref h_row) (C := RX7) (T := TX7) (N := 23) hx hb hts (fun _ hw => List.mem_cons_of_mem _ (List.mem_append_right _ hw)) hown hK hP 0 rfl rfl 0 (by decide) (hts (.fieldLink RX7 7 "PrefixIndexModel" "row" "[I") (List.mem_of_getElem? (i := 1) rfl)) (fun _ h9 => h9) rfl dX7_takeOut_79 ?_
    refine lv_iload_n hx hb dX7_takeOut_82 rfl (lv_at hl 1 rfl) ?_
    refine lv_iconst (v := 1) hx hb dX7_takeOut_83 (by decide) ?_
    refine lv_iadd hx hb dX7_takeOut_84 ?_
    obtain ⟨hi_20, h⟩ := oin_e h
    refine va_iald hx hb hK hP 1 0 rfl rfl hi_20 dX7_takeOut_85 ?_
    obtain ⟨w_22, hm_49, h⟩ := obd_e h
    have J : ∀ (H : Heap) (locs : List Loc) (ls : Array Slot), va_P (dC, dI) vwCl [(h_th, .inr (7, [.ref h_row, v_th_undos, v_th_isKept, v_th_text, v_th_length, v_th_sizes, v_th_values, v_th_asked, v_th_first, v_th_behind, v_th_readBits, v_th_clauses, v_th_doing, v_th_numbers, v_th_planWord, v_th_addWord, v_th_delWord, v_th_fillWord, v_th_probes, v_th_links, v_th_looks, v_th_found, v_th_isOver])), (h_row, .inl (cyI, 1824, .inl w_22))] H → va_D A [(h_th, .inr (7, [.ref h_row, v_th_undos, v_th_isKept, v_th_text, v_th_length, v_th_sizes, v_th_values, v_th_asked, v_th_first, v_th_behind, v_th_readBits, v_th_clauses, v_th_doing, v_th_numbers, v_th_planWord, v_th_addWord, v_th_delWord, v_th_fillWord, v_th_probes, v_th_links, v_th_looks, v_th_found, v_th_isOver])), (h_row, .inl (cyI, 1824, .inl w_22))] → va_S A s.heap H locs → lv_has ls 6 [] → W p l e ({ frames := 4, cells := 0, slots := 0, locals := 91 }) s m args below meth c H locs 0 0 Q (F0 m 224 ls []) := by
      intro H locs ls hP hD hS hl
      obtain rfl := Option.some.inj h
      exact hret _ _ _ _ dX7_takeOut_224 hP hD hS
    replace h := hm_49
    refine lv_icmp_ge (tgt := 224) hx hb dX7_takeOut_86 (by decide) (fun c_21 => ?_) (fun c_21 => ?_)
    · have h := og_ite_t c_21 h
      obtain rfl := Option.some.inj h
      exact J _ _ _ hP hD hS (lv_sub hl [] rfl)
    · have h := og_ite_f c_21 h
      refine lv_aload_n hx hb dX7_takeOut_89 rfl (lv_at hl 0 rfl) ?_
      refine va_get (D := (dC, dI)) (ci := 7) (v := .ref h_row) (C := RX7) (T := TX7) (N := 23) hx hb hts (fun _ hw => List.mem_cons_of_mem _ (List.mem_append_right _ hw)) hown hK hP 0 rfl rfl 0 (by decide) (hts (.fieldLink RX7 7 "PrefixIndexModel" "row" "[I") (List.mem_of_getElem? (i := 1) rfl)) (fun _ h9 => h9) rfl dX7_takeOut_90 ?_
      refine lv_iload_n hx hb dX7_takeOut_93 rfl (lv_at hl 1 rfl) ?_
      refine lv_iconst (v := 3) hx hb dX7_takeOut_94 (by decide) ?_
      refine lv_iadd hx hb dX7_takeOut_95 ?_
      obtain ⟨hi_23, h⟩ := oin_e h
      refine va_iald hx hb hK hP 1 0 rfl rfl hi_23 dX7_takeOut_96 ?_
      refine lv_iconst (v := 1) hx hb dX7_takeOut_97 (by decide) ?_
      refine lv_icmp_le (tgt := 224) hx hb dX7_takeOut_98 (by decide) (fun c_24 => ?_) (fun c_24 => ?_)
      · have h := og_ite_t c_24 h
        obtain rfl := Option.some.inj h
        exact J _ _ _ hP hD hS (lv_sub hl [] rfl)
      · have h := og_ite_f c_24 h
        refine lv_iload_n hx hb dX7_takeOut_101 rfl (lv_at hl 2 rfl) ?_
        refine lv_aload_n hx hb dX7_takeOut_102 rfl (lv_at hl 0 rfl) ?_
        refine va_get (D := (dC, dI)) (ci := 7) (v := .ref h_row) (C := RX7) (T := TX7) (N := 23) hx hb hts (fun _ hw => List.mem_cons_of_mem _ (List.mem_append_right _ hw)) hown hK hP 0 rfl rfl 0 (by decide) (hts (.fieldLink RX7 7 "PrefixIndexModel" "row" "[I") (List.mem_of_getElem? (i := 1) rfl)) (fun _ h9 => h9) rfl dX7_takeOut_103 ?_
        refine lv_iload_n hx hb dX7_takeOut_106 rfl (lv_at hl 1 rfl) ?_
        refine lv_iconst (v := 3) hx hb dX7_takeOut_107 (by decide) ?_
        refine lv_iadd hx hb dX7_takeOut_108 ?_
        obtain ⟨hi_25, h⟩ := oin_e h
        refine va_iald hx hb hK hP 1 0 rfl rfl hi_25 dX7_takeOut_109 ?_
        refine lv_iconst (v := 1) hx hb dX7_takeOut_110 (by decide) ?_
        refine lv_isub hx hb dX7_takeOut_111 ?_
        obtain ⟨y_27, ey_27, h⟩ := olet_e h
        have J : ∀ (H : Heap) (locs : List Loc) (ls : Array Slot), va_P (dC, dI) vwCl [(h_th, .inr (7, [.ref h_row, v_th_undos, v_th_isKept, v_th_text, v_th_length, v_th_sizes, v_th_values, v_th_asked, v_th_first, v_th_behind, v_th_readBits, v_th_clauses, v_th_doing, v_th_numbers, v_th_planWord, v_th_addWord, v_th_delWord, v_th_fillWord, v_th_probes, v_th_links, v_th_looks, v_th_found, v_th_isOver])), (h_row, .inl (cyI, 1824, .inl w_16.2))] H → va_D A [(h_th, .inr (7, [.ref h_row, v_th_undos, v_th_isKept, v_th_text, v_th_length, v_th_sizes, v_th_values, v_th_asked, v_th_first, v_th_behind, v_th_readBits, v_th_clauses, v_th_doing, v_th_numbers, v_th_planWord, v_th_addWord, v_th_delWord, v_th_fillWord, v_th_probes, v_th_links, v_th_looks, v_th_found, v_th_isOver])), (h_row, .inl (cyI, 1824, .inl w_16.2))] → va_S A s.heap H locs → lv_has ls 6 [(0, .ref h_th), (1, .int x0)] → W p l e ({ frames := 4, cells := 0, slots := 0, locals := 91 }) s m args below meth c H locs 0 0 Q (F0 m 122 ls [.int y_27]) := by
          intro H locs ls hP hD hS hl
          refine lv_istore (lv' := [(4, .int y_27), (0, .ref h_th), (1, .int x0)]) hx hb dX7_takeOut_122 hl (by decide) rfl (fun ls hl => ?_)
          refine lv_aload_n hx hb dX7_takeOut_124 rfl (lv_at hl 1 rfl) ?_
          refine va_get (D := (dC, dI)) (ci := 7) (v := .ref h_row) (C := RX7) (T := TX7) (N := 23) hx hb hts (fun _ hw => List.mem_cons_of_mem _ (List.mem_append_right _ hw)) hown hK hP 0 rfl rfl 0 (by decide) (hts (.fieldLink RX7 7 "PrefixIndexModel" "row" "[I") (List.mem_of_getElem? (i := 1) rfl)) (fun _ h9 => h9) rfl dX7_takeOut_125 ?_
          refine lv_iload_n hx hb dX7_takeOut_128 rfl (lv_at hl 2 rfl) ?_
          refine lv_iconst (v := 3) hx hb dX7_takeOut_129 (by decide) ?_
          refine lv_iadd hx hb dX7_takeOut_130 ?_
          refine lv_dup2_11 hx hb dX7_takeOut_131 rfl rfl ?_
          obtain ⟨hi_28, h⟩ := oin_e h
          refine va_iald hx hb hK hP 1 0 rfl rfl hi_28 dX7_takeOut_132 ?_
          refine lv_iconst (v := 1) hx hb dX7_takeOut_133 (by decide) ?_
          refine lv_isub hx hb dX7_takeOut_134 ?_
          obtain ⟨hi_29, h⟩ := oin_e h
          refine va_iast hx hb hK hP hD hS 1 0 rfl rfl hi_29 dX7_takeOut_135 (fun H locs hP hD hS => ?_)
          have hP : va_P (dC, dI) vwCl [(h_th, .inr (7, [.ref h_row, v_th_undos, v_th_isKept, v_th_text, v_th_length, v_th_sizes, v_th_values, v_th_asked, v_th_first, v_th_behind, v_th_readBits, v_th_clauses, v_th_doing, v_th_numbers, v_th_planWord, v_th_addWord, v_th_delWord, v_th_fillWord, v_th_probes, v_th_links, v_th_looks, v_th_found, v_th_isOver])), (h_row, .inl (cyI, 1824, .inl (upd w_16.2 (x0 + (3 : Int32)).toNatClampNeg ((w_16.2 (x0 + (3 : Int32)).toNatClampNeg) - (1 : Int32)))))] H := hP
          have hD : va_D A [(h_th, .inr (7, [.ref h_row, v_th_undos, v_th_isKept, v_th_text, v_th_length, v_th_sizes, v_th_values, v_th_asked, v_th_first, v_th_behind, v_th_readBits, v_th_clauses, v_th_doing, v_th_numbers, v_th_planWord, v_th_addWord, v_th_delWord, v_th_fillWord, v_th_probes, v_th_links, v_th_looks, v_th_found, v_th_isOver])), (h_row, .inl (cyI, 1824, .inl (upd w_16.2 (x0 + (3 : Int32)).toNatClampNeg ((w_16.2 (x0 + (3 : Int32)).toNatClampNeg) - (1 : Int32)))))] := hD
          refine lv_aload_n hx hb dX7_takeOut_136 rfl (lv_at hl 1 rfl) ?_
          refine va_get (D := (dC, dI)) (ci := 7) (v := .ref h_row) (C := RX7) (T := TX7) (N := 23) hx hb hts (fun _ hw => List.mem_cons_of_mem _ (List.mem_append_right _ hw)) hown hK hP 0 rfl rfl 0 (by decide) (hts (.fieldLink RX7 7 "PrefixIndexModel" "row" "[I") (List.mem_of_getElem? (i := 1) rfl)) (fun _ h9 => h9) rfl dX7_takeOut_137 ?_
          refine lv_iload_n hx hb dX7_takeOut_140 rfl (lv_at hl 2 rfl) ?_
          refine lv_iconst (v := 5) hx hb dX7_takeOut_141 (by decide) ?_
          refine lv_iadd hx hb dX7_takeOut_142 ?_
          refine lv_dup2_11 hx hb dX7_takeOut_143 rfl rfl ?_
          obtain ⟨hi_30, h⟩ := oin_e h
          refine va_iald hx hb hK hP 1 0 rfl rfl hi_30 dX7_takeOut_144 ?_
          refine lv_iconst (v := 1) hx hb dX7_takeOut_145 (by decide) ?_
          refine lv_iadd hx hb dX7_takeOut_146 ?_
          obtain ⟨hi_31, h⟩ := oin_e h
          refine va_iast hx hb hK hP hD hS 1 0 rfl rfl hi_31 dX7_takeOut_147 (fun H locs hP hD hS => ?_)
          have hP : va_P (dC, dI) vwCl [(h_th, .inr (7, [.ref h_row, v_th_undos, v_th_isKept, v_th_text, v_th_length, v_th_sizes, v_th_values, v_th_asked, v_th_first, v_th_behind, v_th_readBits, v_th_clauses, v_th_doing, v_th_numbers, v_th_planWord, v_th_addWord, v_th_delWord, v_th_fillWord, v_th_probes, v_th_links, v_th_looks, v_th_found, v_th_isOver])), (h_row, .inl (cyI, 1824, .inl (upd (upd w_16.2 (x0 + (3 : Int32)).toNatClampNeg ((w_16.2 (x0 + (3 : Int32)).toNatClampNeg) - (1 : Int32))) (x0 + (5 : Int32)).toNatClampNeg (((upd w_16.2 (x0 + (3 : Int32)).toNatClampNeg ((w_16.2 (x0 + (3 : Int32)).toNatClampNeg) - (1 : Int32))) (x0 + (5 : Int32)).toNatClampNeg) + (1 : Int32)))))] H := hP
          have hD : va_D A [(h_th, .inr (7, [.ref h_row, v_th_undos, v_th_isKept, v_th_text, v_th_length, v_th_sizes, v_th_values, v_th_asked, v_th_first, v_th_behind, v_th_readBits, v_th_clauses, v_th_doing, v_th_numbers, v_th_planWord, v_th_addWord, v_th_delWord, v_th_fillWord, v_th_probes, v_th_links, v_th_looks, v_th_found, v_th_isOver])), (h_row, .inl (cyI, 1824, .inl (upd (upd w_16.2 (x0 + (3 : Int32)).toNatClampNeg ((w_16.2 (x0 + (3 : Int32)).toNatClampNeg) - (1 : Int32))) (x0 + (5 : Int32)).toNatClampNeg (((upd w_16.2 (x0 + (3 : Int32)).toNatClampNeg ((w_16.2 (x0 + (3 : Int32)).toNatClampNeg) - (1 : Int32))) (x0 + (5 : Int32)).toNatClampNeg) + (1 : Int32)))))] := hD
          refine lv_iload hx hb dX7_takeOut_148 (lv_at hl 0 rfl) ?_
          refine lv_istore (lv' := [(5, .int y_27), (4, .int y_27), (0, .ref h_th), (1, .int x0)]) hx hb dX7_takeOut_150 hl (by decide) rfl (fun ls hl => ?_)
          obtain ⟨w_41, hw_42, h⟩ := obd_e h
          have J : ∀ (H : Heap) (locs : List Loc) (ls : Array Slot), va_P (dC, dI) vwCl [(h_th, .inr (7, [.ref h_row, v_th_undos, v_th_isKept, v_th_text, v_th_length, v_th_sizes, v_th_values, v_th_asked, v_th_first, v_th_behind, v_th_readBits, v_th_clauses, v_th_doing, v_th_numbers, v_th_planWord, v_th_addWord, v_th_delWord, v_th_fillWord, v_th_probes, v_th_links, v_th_looks, v_th_found, v_th_isOver])), (h_row, .inl (cyI, 1824, .inl w_41.2))] H → va_D A [(h_th, .inr (7, [.ref h_row, v_th_undos, v_th_isKept, v_th_text, v_th_length, v_th_sizes, v_th_values, v_th_asked, v_th_first, v_th_behind, v_th_readBits, v_th_clauses, v_th_doing, v_th_numbers, v_th_planWord, v_th_addWord, v_th_delWord, v_th_fillWord, v_th_probes, v_th_links, v_th_looks, v_th_found, v_th_isOver])), (h_row, .inl (cyI, 1824, .inl w_41.2))] → va_S A s.heap H locs → lv_has ls 6 [(0, .ref h_th), (1, .int x0), (4, .int y_27)] → W p l e ({ frames := 4, cells := 0, slots := 0, locals := 91 }) s m args below meth c H locs 0 0 Q (F0 m 197 ls []) := by
            intro H locs ls hP hD hS hl
            refine lv_aload_n hx hb dX7_takeOut_197 rfl (lv_at hl 0 rfl) ?_
            refine lv_iload_n hx hb dX7_takeOut_198 rfl (lv_at hl 1 rfl) ?_
            refine lv_iload hx hb dX7_takeOut_199 (lv_at hl 2 rfl) ?_
            obtain ⟨u_43, hc_44, h⟩ := obd_e h
            refine Gci (wr := []) (va_runV (As := [.int x0, .int y_27]) (rest := []) ⟨hx, hb, hml, hown, hts⟩ (tX7_keysIn l dC dI cyI cyJ cyZ cyO H.size h_th h_row v_th_undos v_th_isKept v_th_text v_th_length v_th_sizes v_th_values v_th_asked v_th_first v_th_behind v_th_readBits v_th_clauses v_th_doing v_th_numbers v_th_planWord v_th_addWord v_th_delWord v_th_fillWord v_th_probes v_th_links v_th_looks v_th_found v_th_isOver w_41.2 x0 y_27 u_43 hc_44) (cwV 2 hts gX7_takeOut_X7_keysIn rfl rfl rfl (by decide +kernel) ⟨Nat.le_of_ble_eq_true rfl, Nat.le_of_ble_eq_true rfl⟩) (GpreV hP hD hK hN [0, 1] rfl (by decide) 7 0 rfl rfl rfl) rfl rfl hl.1 rfl (lv_room (Nat.le_of_ble_eq_true rfl)) dX7_takeOut_201 ⟨Nat.zero_le _, Nat.zero_le _⟩) hP hD hS hA [0, 1] [] rfl rfl (by decide) (by decide) (fun H locs hP hD hS => ?_)
            have hP : va_P (dC, dI) vwCl [(h_th, .inr (7, [.ref h_row, v_th_undos, v_th_isKept, v_th_text, v_th_length, v_th_sizes, v_th_values, v_th_asked, v_th_first, v_th_behind, v_th_readBits, v_th_clauses, v_th_doing, v_th_numbers, v_th_planWord, v_th_addWord, v_th_delWord, v_th_fillWord, v_th_probes, v_th_links, v_th_looks, v_th_found, v_th_isOver])), (h_row, .inl (cyI, 1824, .inl w_41.2))] H := hP
            have hD : va_D A [(h_th, .inr (7, [.ref h_row, v_th_undos, v_th_isKept, v_th_text, v_th_length, v_th_sizes, v_th_values, v_th_asked, v_th_first, v_th_behind, v_th_readBits, v_th_clauses, v_th_doing, v_th_numbers, v_th_planWord, v_th_addWord, v_th_delWord, v_th_fillWord, v_th_probes, v_th_links, v_th_looks, v_th_found, v_th_isOver])), (h_row, .inl (cyI, 1824, .inl w_41.2))] := hD
            refine lv_iconst (v := 3) hx hb dX7_takeOut_204 (by decide) ?_
            refine lv_aload_n hx hb dX7_takeOut_205 rfl (lv_at hl 0 rfl) ?_
            refine va_get (D := (dC, dI)) (ci := 7) (v := .ref h_row) (C := RX7) (T := TX7) (N := 23) hx hb hts (fun _ hw => List.mem_cons_of_mem _ (List.mem_append_right _ hw)) hown hK hP 0 rfl rfl 0 (by decide) (hts (.fieldLink RX7 7 "PrefixIndexModel" "row" "[I") (List.mem_of_getElem? (i := 1) rfl)) (fun _ h9 => h9) rfl dX7_takeOut_206 ?_
            refine lv_iload_n hx hb dX7_takeOut_209 rfl (lv_at hl 1 rfl) ?_
            refine lv_iconst (v := 1) hx hb dX7_takeOut_210 (by decide) ?_
            refine lv_iadd hx hb dX7_takeOut_211 ?_
            obtain ⟨hi_45, h⟩ := oin_e h
            refine va_iald hx hb hK hP 1 0 rfl rfl hi_45 dX7_takeOut_212 ?_
            refine lv_imul hx hb dX7_takeOut_213 ?_
            refine lv_icmp_le (tgt := 224) hx hb dX7_takeOut_214 (by decide) (fun c_46 => ?_) (fun c_46 => ?_)
            · have h := og_ite_t c_46 h
              obtain rfl := Option.some.inj h
              exact J _ _ _ hP hD hS (lv_sub hl [] rfl)
            · have h := og_ite_f c_46 h
              refine lv_aload_n hx hb dX7_takeOut_217 rfl (lv_at hl 0 rfl) ?_
              refine lv_iload_n hx hb dX7_takeOut_218 rfl (lv_at hl 1 rfl) ?_
              refine lv_iload hx hb dX7_takeOut_219 (lv_at hl 2 rfl) ?_
              obtain ⟨u_47, hc_48, h⟩ := obd_e h
              refine Gcv (wr := []) (va_runV (As := [.int x0, .int y_27]) (rest := []) ⟨hx, hb, hml, hown, hts⟩ (tX7_split l dC dI cyI cyJ cyZ cyO H.size h_th h_row v_th_undos v_th_isKept v_th_text v_th_length v_th_sizes v_th_values v_th_asked v_th_first v_th_behind v_th_readBits v_th_clauses v_th_doing v_th_numbers v_th_planWord v_th_addWord v_th_delWord v_th_fillWord v_th_probes v_th_links v_th_looks v_th_found v_th_isOver w_41.2 x0 y_27 u_47 hc_48) (cwV 2 hts gX7_takeOut_X7_split rfl rfl rfl (by decide +kernel) ⟨Nat.le_of_ble_eq_true rfl, Nat.le_of_ble_eq_true rfl⟩) (GpreV hP hD hK hN [0, 1] rfl (by decide) 7 0 rfl rfl rfl) rfl rfl hl.1 rfl (lv_room (Nat.le_of_ble_eq_true rfl)) dX7_takeOut_221 ⟨Nat.zero_le _, Nat.zero_le _⟩) hP hD hS hA [0, 1] [] rfl rfl (by decide) (by decide) (fun H locs hP hD hS => ?_)
              have hP : va_P (dC, dI) vwCl [(h_th, .inr (7, [.ref h_row, v_th_undos, v_th_isKept, v_th_text, v_th_length, v_th_sizes, v_th_values, v_th_asked, v_th_first, v_th_behind, v_th_readBits, v_th_clauses, v_th_doing, v_th_numbers, v_th_planWord, v_th_addWord, v_th_delWord, v_th_fillWord, v_th_probes, v_th_links, v_th_looks, v_th_found, v_th_isOver])), (h_row, .inl (cyI, 1824, .inl u_47))] H := hP
              have hD : va_D A [(h_th, .inr (7, [.ref h_row, v_th_undos, v_th_isKept, v_th_text, v_th_length, v_th_sizes, v_th_values, v_th_asked, v_th_first, v_th_behind, v_th_readBits, v_th_clauses, v_th_doing, v_th_numbers, v_th_planWord, v_th_addWord, v_th_delWord, v_th_fillWord, v_th_probes, v_th_links, v_th_looks, v_th_found, v_th_isOver])), (h_row, .inl (cyI, 1824, .inl u_47))] := hD
              obtain rfl := Option.some.inj h
              exact J _ _ _ hP hD hS (lv_sub hl [] rfl)
          have LL : ∀ (n : Nat) (m5 : Int32) (zrow : (Nat → Int32)) (H : Heap) (locs : List Loc) (ls : Array Slot), lpX7_takeOut_152 x0 y_27 n m5 zrow = some w_41 → va_P (dC, dI) vwCl [(h_th, .inr (7, [.ref h_row, v_th_undos, v_th_isKept, v_th_text, v_th_length, v_th_sizes, v_th_values, v_th_asked, v_th_first, v_th_behind, v_th_readBits, v_th_clauses, v_th_doing, v_th_numbers, v_th_planWord, v_th_addWord, v_th_delWord, v_th_fillWord, v_th_probes, v_th_links, v_th_looks, v_th_found, v_th_isOver])), (h_row, .inl (cyI, 1824, .inl zrow))] H → va_D A [(h_th, .inr (7, [.ref h_row, v_th_undos, v_th_isKept, v_th_text, v_th_length, v_th_sizes, v_th_values, v_th_asked, v_th_first, v_th_behind, v_th_readBits, v_th_clauses, v_th_doing, v_th_numbers, v_th_planWord, v_th_addWord, v_th_delWord, v_th_fillWord, v_th_probes, v_th_links, v_th_looks, v_th_found, v_th_isOver])), (h_row, .inl (cyI, 1824, .inl zrow))] → va_S A s.heap H locs → lv_has ls 6 [(0, .ref h_th), (1, .int x0), (4, .int y_27), (5, .int m5)] → W p l e ({ frames := 4, cells := 0, slots := 0, locals := 91 }) s m args below meth c H locs 0 0 Q (F0 m 152 ls []) := by
            intro n
            induction n with
            | zero =>
              intro m5 zrow H locs ls h
              exact absurd h (by rw [lpX7_takeOut_152]; exact fun q => by cases q)
            | succ n ih =>
              intro m5 zrow H locs ls h hP hD hS hl
              rw [lpX7_takeOut_152] at h
              refine lv_iload hx hb dX7_takeOut_152 (lv_at hl 3 rfl) ?_
              refine lv_aload_n hx hb dX7_takeOut_154 rfl (lv_at hl 0 rfl) ?_
              refine va_get (D := (dC, dI)) (ci := 7) (v := .ref h_row) (C := RX7) (T := TX7) (N := 23) hx hb hts (fun _ hw => List.mem_cons_of_mem _ (List.mem_append_right _ hw)) hown hK hP 0 rfl rfl 0 (by decide) (hts (.fieldLink RX7 7 "PrefixIndexModel" "row" "[I") (List.mem_of_getElem? (i := 1) rfl)) (fun _ h9 => h9) rfl dX7_takeOut_155 ?_
              refine lv_iload_n hx hb dX7_takeOut_158 rfl (lv_at hl 1 rfl) ?_
              refine lv_iconst (v := 3) hx hb dX7_takeOut_159 (by decide) ?_
              refine lv_iadd hx hb dX7_takeOut_160 ?_
              obtain ⟨hi_37, h⟩ := oin_e h
              refine va_iald hx hb hK hP 1 0 rfl rfl hi_37 dX7_takeOut_161 ?_
              refine lv_icmp_ge (tgt := 197) hx hb dX7_takeOut_162 (by decide) (fun c_38 => ?_) (fun c_38 => ?_)
              · have h := og_ite_t c_38 h
                obtain rfl := Option.some.inj h
                exact J _ _ _ hP hD hS (lv_sub hl [0, 1, 2] rfl)
              · have h := og_ite_f c_38 h
                refine lv_aload_n hx hb dX7_takeOut_165 rfl (lv_at hl 0 rfl) ?_
                refine va_get (D := (dC, dI)) (ci := 7) (v := .ref h_row) (C := RX7) (T := TX7) (N := 23) hx hb hts (fun _ hw => List.mem_cons_of_mem _ (List.mem_append_right _ hw)) hown hK hP 0 rfl rfl 0 (by decide) (hts (.fieldLink RX7 7 "PrefixIndexModel" "row" "[I") (List.mem_of_getElem? (i := 1) rfl)) (fun _ h9 => h9) rfl dX7_takeOut_166 ?_
                refine lv_iload_n hx hb dX7_takeOut_169 rfl (lv_at hl 1 rfl) ?_
                refine lv_bipush (v := 102) hx hb dX7_takeOut_170 (by decide) ?_
                refine lv_iadd hx hb dX7_takeOut_172 ?_
                refine lv_iload hx hb dX7_takeOut_173 (lv_at hl 3 rfl) ?_
                refine lv_iadd hx hb dX7_takeOut_175 ?_
                refine lv_aload_n hx hb dX7_takeOut_176 rfl (lv_at hl 0 rfl) ?_
                refine va_get (D := (dC, dI)) (ci := 7) (v := .ref h_row) (C := RX7) (T := TX7) (N := 23) hx hb hts (fun _ hw => List.mem_cons_of_mem _ (List.mem_append_right _ hw)) hown hK hP 0 rfl rfl 0 (by decide) (hts (.fieldLink RX7 7 "PrefixIndexModel" "row" "[I") (List.mem_of_getElem? (i := 1) rfl)) (fun _ h9 => h9) rfl dX7_takeOut_177 ?_
                refine lv_iload_n hx hb dX7_takeOut_180 rfl (lv_at hl 1 rfl) ?_
                refine lv_bipush (v := 102) hx hb dX7_takeOut_181 (by decide) ?_
                refine lv_iadd hx hb dX7_takeOut_183 ?_
                refine lv_iload hx hb dX7_takeOut_184 (lv_at hl 3 rfl) ?_
                refine lv_iadd hx hb dX7_takeOut_186 ?_
                refine lv_iconst (v := 1) hx hb dX7_takeOut_187 (by decide) ?_
                refine lv_iadd hx hb dX7_takeOut_188 ?_
                obtain ⟨hi_39, h⟩ := oin_e h
                refine va_iald hx hb hK hP 1 0 rfl rfl hi_39 dX7_takeOut_189 ?_
                obtain ⟨hi_40, h⟩ := oin_e h
                refine va_iast hx hb hK hP hD hS 1 0 rfl rfl hi_40 dX7_takeOut_190 (fun H locs hP hD hS => ?_)
                have hP : va_P (dC, dI) vwCl [(h_th, .inr (7, [.ref h_row, v_th_undos, v_th_isKept, v_th_text, v_th_length, v_th_sizes, v_th_values, v_th_asked, v_th_first, v_th_behind, v_th_readBits, v_th_clauses, v_th_doing, v_th_numbers, v_th_planWord, v_th_addWord, v_th_delWord, v_th_fillWord, v_th_probes, v_th_links, v_th_looks, v_th_found, v_th_isOver])), (h_row, .inl (cyI, 1824, .inl (upd zrow ((x0 + (102 : Int32)) + m5).toNatClampNeg (zrow (((x0 + (102 : Int32)) + m5) + (1 : Int32)).toNatClampNeg))))] H := hP
                have hD : va_D A [(h_th, .inr (7, [.ref h_row, v_th_undos, v_th_isKept, v_th_text, v_th_length, v_th_sizes, v_th_values, v_th_asked, v_th_first, v_th_behind, v_th_readBits, v_th_clauses, v_th_doing, v_th_numbers, v_th_planWord, v_th_addWord, v_th_delWord, v_th_fillWord, v_th_probes, v_th_links, v_th_looks, v_th_found, v_th_isOver])), (h_row, .inl (cyI, 1824, .inl (upd zrow ((x0 + (102 : Int32)) + m5).toNatClampNeg (zrow (((x0 + (102 : Int32)) + m5) + (1 : Int32)).toNatClampNeg))))] := hD
                refine lv_iinc (v := m5 + (1 : Int32)) (lv' := [(5, .int (m5 + (1 : Int32))), (0, .ref h_th), (1, .int x0), (4, .int y_27)]) hx hb dX7_takeOut_191 hl (k := 3) rfl rfl (by decide) rfl (fun ls hl => ?_)
                refine lv_goto (tgt := 152) hx hb dX7_takeOut_194 (by decide) ?_
                exact ih (m5 + (1 : Int32)) (upd zrow ((x0 + (102 : Int32)) + m5).toNatClampNeg (zrow (((x0 + (102 : Int32)) + m5) + (1 : Int32)).toNatClampNeg)) _ _ _ h hP hD hS (lv_sub hl [1, 2, 3, 0] rfl)
          exact LL _ y_27 (upd (upd w_16.2 (x0 + (3 : Int32)).toNatClampNeg ((w_16.2 (x0 + (3 : Int32)).toNatClampNeg) - (1 : Int32))) (x0 + (5 : Int32)).toNatClampNeg (((upd w_16.2 (x0 + (3 : Int32)).toNatClampNeg ((w_16.2 (x0 + (3 : Int32)).toNatClampNeg) - (1 : Int32))) (x0 + (5 : Int32)).toNatClampNeg) + (1 : Int32))) _ _ _ hw_42 hP hD hS (lv_sub hl [2, 3, 1, 0] rfl)
        clear h
        refine lv_icmp_ne (tgt := 121) hx hb dX7_takeOut_112 (by decide) (fun c_26 => ?_) (fun c_26 => ?_)
        · refine lv_iload_n hx hb dX7_takeOut_121 rfl (lv_at hl 2 rfl) ?_
          rw [if_neg c_26] at ey_27
          subst ey_27
          exact J H locs _ hP hD hS (lv_sub hl [0, 1] rfl)
        · refine lv_iload_n hx hb dX7_takeOut_115 rfl (lv_at hl 2 rfl) ?_
          refine lv_iconst (v := 1) hx hb dX7_takeOut_116 (by decide) ?_
          refine lv_isub hx hb dX7_takeOut_117 ?_
          refine lv_goto (tgt := 122) hx hb dX7_takeOut_118 (by decide) ?_
          rw [if_pos c_26] at ey_27
          subst ey_27
          exact J H locs _ hP hD hS (lv_sub hl [0, 1] rfl)
  have LL : ∀ (n : Nat) (m4 : Int32) (zrow : (Nat → Int32)) (H : Heap) (locs : List Loc) (ls : Array Slot), lpX7_takeOut_27 x0 u_1 n m4 zrow = some w_16 → va_P (dC, dI) vwCl [(h_th, .inr (7, [.ref h_row, v_th_undos, v_th_isKept, v_th_text, v_th_length, v_th_sizes, v_th_values, v_th_asked, v_th_first, v_th_behind, v_th_readBits, v_th_clauses, v_th_doing, v_th_numbers, v_th_planWord, v_th_addWord, v_th_delWord, v_th_fillWord, v_th_probes, v_th_links, v_th_looks, v_th_found, v_th_isOver])), (h_row, .inl (cyI, 1824, .inl zrow))] H → va_D A [(h_th, .inr (7, [.ref h_row, v_th_undos, v_th_isKept, v_th_text, v_th_length, v_th_sizes, v_th_values, v_th_asked, v_th_first, v_th_behind, v_th_readBits, v_th_clauses, v_th_doing, v_th_numbers, v_th_planWord, v_th_addWord, v_th_delWord, v_th_fillWord, v_th_probes, v_th_links, v_th_looks, v_th_found, v_th_isOver])), (h_row, .inl (cyI, 1824, .inl zrow))] → va_S A s.heap H locs → lv_has ls 6 [(0, .ref h_th), (1, .int x0), (3, .int u_1), (4, .int m4)] → W p l e ({ frames := 4, cells := 0, slots := 0, locals := 91 }) s m args below meth c H locs 0 0 Q (F0 m 27 ls []) := by
    intro n
    induction n with
    | zero =>
      intro m4 zrow H locs ls h
      exact absurd h (by rw [lpX7_takeOut_27]; exact fun q => by cases q)
    | succ n ih =>
      intro m4 zrow H locs ls h hP hD hS hl
      rw [lpX7_takeOut_27] at h
      refine lv_iload hx hb dX7_takeOut_27 (lv_at hl 3 rfl) ?_
      refine lv_aload_n hx hb dX7_takeOut_29 rfl (lv_at hl 0 rfl) ?_
      refine va_get (D := (dC, dI)) (ci := 7) (v := .ref h_row) (C := RX7) (T := TX7) (N := 23) hx hb hts (fun _ hw => List.mem_cons_of_mem _ (List.mem_append_right _ hw)) hown hK hP 0 rfl rfl 0 (by decide) (hts (.fieldLink RX7 7 "PrefixIndexModel" "row" "[I") (List.mem_of_getElem? (i := 1) rfl)) (fun _ h9 => h9) rfl dX7_takeOut_30 ?_
      refine lv_iload_n hx hb dX7_takeOut_33 rfl (lv_at hl 1 rfl) ?_
      refine lv_iconst (v := 2) hx hb dX7_takeOut_34 (by decide) ?_
      refine lv_iadd hx hb dX7_takeOut_35 ?_
      obtain ⟨hi_12, h⟩ := oin_e h
      refine va_iald hx hb hK hP 1 0 rfl rfl hi_12 dX7_takeOut_36 ?_
      refine lv_icmp_ge (tgt := 72) hx hb dX7_takeOut_37 (by decide) (fun c_13 => ?_) (fun c_13 => ?_)
      · have h := og_ite_t c_13 h
        obtain rfl := Option.some.inj h
        exact J _ _ _ hP hD hS (lv_sub hl [0, 1, 2] rfl)
      · have h := og_ite_f c_13 h
        refine lv_aload_n hx hb dX7_takeOut_40 rfl (lv_at hl 0 rfl) ?_
        refine va_get (D := (dC, dI)) (ci := 7) (v := .ref h_row) (C := RX7) (T := TX7) (N := 23) hx hb hts (fun _ hw => List.mem_cons_of_mem _ (List.mem_append_right _ hw)) hown hK hP 0 rfl rfl 0 (by decide) (hts (.fieldLink RX7 7 "PrefixIndexModel" "row" "[I") (List.mem_of_getElem? (i := 1) rfl)) (fun _ h9 => h9) rfl dX7_takeOut_41 ?_
        refine lv_iload_n hx hb dX7_takeOut_44 rfl (lv_at hl 1 rfl) ?_
        refine lv_bipush (v := 6) hx hb dX7_takeOut_45 (by decide) ?_
        refine lv_iadd hx hb dX7_takeOut_47 ?_
        refine lv_iload hx hb dX7_takeOut_48 (lv_at hl 3 rfl) ?_
        refine lv_iadd hx hb dX7_takeOut_50 ?_
        refine lv_aload_n hx hb dX7_takeOut_51 rfl (lv_at hl 0 rfl) ?_
        refine va_get (D := (dC, dI)) (ci := 7) (v := .ref h_row) (C := RX7) (T := TX7) (N := 23) hx hb hts (fun _ hw => List.mem_cons_of_mem _ (List.mem_append_right _ hw)) hown hK hP 0 rfl rfl 0 (by decide) (hts (.fieldLink RX7 7 "PrefixIndexModel" "row" "[I") (List.mem_of_getElem? (i := 1) rfl)) (fun _ h9 => h9) rfl dX7_takeOut_52 ?_
        refine lv_iload_n hx hb dX7_takeOut_55 rfl (lv_at hl 1 rfl) ?_
        refine lv_bipush (v := 6) hx hb dX7_takeOut_56 (by decide) ?_
        refine lv_iadd hx hb dX7_takeOut_58 ?_
        refine lv_iload hx hb dX7_takeOut_59 (lv_at hl 3 rfl) ?_
        refine lv_iadd hx hb dX7_takeOut_61 ?_
        refine lv_iconst (v := 1) hx hb dX7_takeOut_62 (by decide) ?_
        refine lv_iadd hx hb dX7_takeOut_63 ?_
        obtain ⟨hi_14, h⟩ := oin_e h
        refine va_iald hx hb hK hP 1 0 rfl rfl hi_14 dX7_takeOut_64 ?_
        obtain ⟨hi_15, h⟩ := oin_e h
        refine va_iast hx hb hK hP hD hS 1 0 rfl rfl hi_15 dX7_takeOut_65 (fun H locs hP hD hS => ?_)
        have hP : va_P (dC, dI) vwCl [(h_th, .inr (7, [.ref h_row, v_th_undos, v_th_isKept, v_th_text, v_th_length, v_th_sizes, v_th_values, v_th_asked, v_th_first, v_th_behind, v_th_readBits, v_th_clauses, v_th_doing, v_th_numbers, v_th_planWord, v_th_addWord, v_th_delWord, v_th_fillWord, v_th_probes, v_th_links, v_th_looks, v_th_found, v_th_isOver])), (h_row, .inl (cyI, 1824, .inl (upd zrow ((x0 + (6 : Int32)) + m4).toNatClampNeg (zrow (((x0 + (6 : Int32)) + m4) + (1 : Int32)).toNatClampNeg))))] H := hP
        have hD : va_D A [(h_th, .inr (7, [.ref h_row, v_th_undos, v_th_isKept, v_th_text, v_th_length, v_th_sizes, v_th_values, v_th_asked, v_th_first, v_th_behind, v_th_readBits, v_th_clauses, v_th_doing, v_th_numbers, v_th_planWord, v_th_addWord, v_th_delWord, v_th_fillWord, v_th_probes, v_th_links, v_th_looks, v_th_found, v_th_isOver])), (h_row, .inl (cyI, 1824, .inl (upd zrow ((x0 + (6 : Int32)) + m4).toNatClampNeg (zrow (((x0 + (6 : Int32)) + m4) + (1 : Int32)).toNatClampNeg))))] := hD
        refine lv_iinc (v := m4 + (1 : Int32)) (lv' := [(4, .int (m4 + (1 : Int32))), (0, .ref h_th), (1, .int x0), (3, .int u_1)]) hx hb dX7_takeOut_66 hl (k := 3) rfl rfl (by decide) rfl (fun ls hl => ?_)
        refine lv_goto (tgt := 27) hx hb dX7_takeOut_69 (by decide) ?_
        exact ih (m4 + (1 : Int32)) (upd zrow ((x0 + (6 : Int32)) + m4).toNatClampNeg (zrow (((x0 + (6 : Int32)) + m4) + (1 : Int32)).toNatClampNeg)) _ _ _ h hP hD hS (lv_sub hl [1, 2, 3, 0] rfl)
  exact LL _ u_5 (upd row (x0 + (2 : Int32)).toNatClampNeg ((row (x0 + (2 : Int32)).toNatClampNeg) - (1 : Int32))) _ _ _ hw_17 hP hD hS (lv_sub hl [2, 3, 1, 0] rfl)

def fX7_addAt (row : (Nat → Int32)) (x0 : Int32) (x1 : Int32) : Option ((Nat → Int32)) := oin (x0 + (2 : Int32)) 1824 (obd (if (96 : Int32) ≤ (row (x0 + (2 : Int32)).toNatClampNeg) then (some row) else (obd (fX7_isKey row x0 x1) fun u_4 => if u_4 = 0 then (obd (fX7_putIn row x0 x1) fun u_7 => some u_7) else (some row))) fun w_3 => some w_3)

set_option maxHeartbeats 4000000 in
set_option maxRecDepth 100000 in
theorem tX7_addAt (l : Launch) (dC : Nat → ClassId) (dI : Nat → Nat → Nat) (cyI cyJ cyZ cyO : ClassId) (sz : Nat) (h_th h_row : Nat) (v_th_undos : Value) (v_th_isKept : Value) (v_th_text : Value) (v_th_length : Value) (v_th_sizes : Value) (v_th_values : Value) (v_th_asked : Value) (v_th_first : Value) (v_th_behind : Value) (v_th_readBits : Value) (v_th_clauses : Value) (v_th_doing : Value) (v_th_numbers : Value) (v_th_planWord : Value) (v_th_addWord : Value) (v_th_delWord : Value) (v_th_fillWord : Value) (v_th_probes : Value) (v_th_links : Value) (v_th_looks : Value) (v_th_found : Value) (v_th_isOver : Value) (row : (Nat → Int32)) (x0 : Int32) (x1 : Int32) (u : (Nat → Int32)) (hf : fX7_addAt row x0 x1 = some u) : Met l yX7_addAt wsX7_addAt ({ frames := 5, cells := 0, slots := 0, locals := 115 }) (va_Pc [.ref h_th, .int x0, .int x1] (GP (dC, dI) (T4 cyI cyJ cyZ cyO) sz [(h_th, .inr (7, [.ref h_row, v_th_undos, v_th_isKept, v_th_text, v_th_length, v_th_sizes, v_th_values, v_th_asked, v_th_first, v_th_behind, v_th_readBits, v_th_clauses, v_th_doing, v_th_numbers, v_th_planWord, v_th_addWord, v_th_delWord, v_th_fillWord, v_th_probes, v_th_links, v_th_looks, v_th_found, v_th_isOver])), (h_row, .inl (cyI, 1824, .inl row))])) (va_Qv (fun (_ : Unit) => True) (GB (dC, dI) [(h_th, .inr (7, [.ref h_row, v_th_undos, v_th_isKept, v_th_text, v_th_length, v_th_sizes, v_th_values, v_th_asked, v_th_first, v_th_behind, v_th_readBits, v_th_clauses, v_th_doing, v_th_numbers, v_th_planWord, v_th_addWord, v_th_delWord, v_th_fillWord, v_th_probes, v_th_links, v_th_looks, v_th_found, v_th_isOver])), (h_row, .inl (cyI, 1824, .inl u))] (va_A [(h_th, .inr (7, [.ref h_row, v_th_undos, v_th_isKept, v_th_text, v_th_length, v_th_sizes, v_th_values, v_th_asked, v_th_first, v_th_behind, v_th_readBits, v_th_clauses, v_th_doing, v_th_numbers, v_th_planWord, v_th_addWord, v_th_delWord, v_th_fillWord, v_th_probes, v_th_links, v_th_looks, v_th_found, v_th_isOver])), (h_row, .inl (cyI, 1824, .inl row))] sz)) (va_A [(h_th, .inr (7, [.ref h_row, v_th_undos, v_th_isKept, v_th_text, v_th_length, v_th_sizes, v_th_values, v_th_asked, v_th_first, v_th_behind, v_th_readBits, v_th_clauses, v_th_doing, v_th_numbers, v_th_planWord, v_th_addWord, v_th_delWord, v_th_fillWord, v_th_probes, v_th_links, v_th_looks, v_th_found, v_th_isOver])), (h_row, .inl (cyI, 1824, .inl row))] sz)) 0 0 (va_A [(h_th, .inr (7, [.ref h_row, v_th_undos, v_th_isKept, v_th_text, v_th_length, v_th_sizes, v_th_values, v_th_asked, v_th_first, v_th_behind, v_th_readBits, v_th_clauses, v_th_doing, v_th_numbers, v_th_planWord, v_th_addWord, v_th_delWord, v_th_fillWord, v_th_probes, v_th_links, v_th_looks, v_th_found, v_th_isOver])), (h_row, .inl (cyI, 1824, .inl row))] sz) := by
  refine GMetV (by decide) rfl (Nat.le_of_ble_eq_true rfl) ?_
  intro p e s m args below meth c A Q ls hx hb hml hts hown hN hK hA hret hP hD hS hl
  have h := hf
  clear hf
  unfold fX7_addAt at h
  have hown : s.vm.findClass RX7 = some m.cls := hown
  have hl : lv_has ls 3 [(0, .ref h_th), (1, .int x0), (2, .int x1)] := hl
  refine lv_aload_n hx hb dX7_addAt_0 rfl (lv_at hl 0 rfl) ?_
  refine va_get (D := (dC, dI)) (ci := 7) (v := .ref h_row) (C := RX7) (T := TX7) (N := 23) hx hb hts (fun _ hw => List.mem_cons_of_mem _ (List.mem_append_right _ hw)) hown hK hP 0 rfl rfl 0 (by decide) (hts (.fieldLink RX7 7 "PrefixIndexModel" "row" "[I") (List.mem_of_getElem? (i := 1) rfl)) (fun _ h9 => h9) rfl dX7_addAt_1 ?_
  refine lv_iload_n hx hb dX7_addAt_4 rfl (lv_at hl 1 rfl) ?_
  refine lv_iconst (v := 2) hx hb dX7_addAt_5 (by decide) ?_
  refine lv_iadd hx hb dX7_addAt_6 ?_
  obtain ⟨hi_1, h⟩ := oin_e h
  refine va_iald hx hb hK hP 1 0 rfl rfl hi_1 dX7_addAt_7 ?_
  refine lv_bipush (v := 96) hx hb dX7_addAt_8 (by decide) ?_
  obtain ⟨w_3, hm_9, h⟩ := obd_e h
  have J : ∀ (H : Heap) (locs : List Loc) (ls : Array Slot), va_P (dC, dI) vwCl [(h_th, .inr (7, [.ref h_row, v_th_undos, v_th_isKept, v_th_text, v_th_length, v_th_sizes, v_th_values, v_th_asked, v_th_first, v_th_behind, v_th_readBits, v_th_clauses, v_th_doing, v_th_numbers, v_th_planWord, v_th_addWord, v_th_delWord, v_th_fillWord, v_th_probes, v_th_links, v_th_looks, v_th_found, v_th_isOver])), (h_row, .inl (cyI, 1824, .inl w_3))] H → va_D A [(h_th, .inr (7, [.ref h_row, v_th_undos, v_th_isKept, v_th_text, v_th_length, v_th_sizes, v_th_values, v_th_asked, v_th_first, v_th_behind, v_th_readBits, v_th_clauses, v_th_doing, v_th_numbers, v_th_planWord, v_th_addWord, v_th_delWord, v_th_fillWord, v_th_probes, v_th_links, v_th_looks, v_th_found, v_th_isOver])), (h_row, .inl (cyI, 1824, .inl w_3))] → va_S A s.heap H locs → lv_has ls 3 [] → W p l e ({ frames := 5, cells := 0, slots := 0, locals := 115 }) s m args below meth c H locs 0 0 Q (F0 m 28 ls []) := by
    intro H locs ls hP hD hS hl
    obtain rfl := Option.some.inj h
    exact hret _ _ _ _ dX7_addAt_28 hP hD hS
  replace h := hm_9
  refine lv_icmp_ge (tgt := 28) hx hb dX7_addAt_10 (by decide) (fun c_2 => ?_) (fun c_2 => ?_)
  · have h := og_ite_t c_2 h
    obtain rfl := Option.some.inj h
    exact J _ _ _ hP hD hS (lv_sub hl [] rfl)
  · have h := og_ite_f c_2 h
    refine lv_aload_n hx hb dX7_addAt_13 rfl (lv_at hl 0 rfl) ?_
    refine lv_iload_n hx hb dX7_addAt_14 rfl (lv_at hl 1 rfl) ?_
    refine lv_iload_n hx hb dX7_addAt_15 rfl (lv_at hl 2 rfl) ?_
    obtain ⟨u_4, hc_5, h⟩ := obd_e h
    refine Gci (wr := []) (va_runV (As := [.int x0, .int x1]) (rest := []) ⟨hx, hb, hml, hown, hts⟩ (tX7_isKey l dC dI cyI cyJ cyZ cyO s.heap.size h_th h_row v_th_undos v_th_isKept v_th_text v_th_length v_th_sizes v_th_values v_th_asked v_th_first v_th_behind v_th_readBits v_th_clauses v_th_doing v_th_numbers v_th_planWord v_th_addWord v_th_delWord v_th_fillWord v_th_probes v_th_links v_th_looks v_th_found v_th_isOver row x0 x1 u_4 hc_5) (cwV 2 hts gX7_addAt_X7_isKey rfl rfl rfl (by decide +kernel) ⟨Nat.le_of_ble_eq_true rfl, Nat.le_of_ble_eq_true rfl⟩) (GpreV hP hD hK hN [0, 1] rfl (by decide) 7 0 rfl rfl rfl) rfl rfl hl.1 rfl (lv_room (Nat.le_of_ble_eq_true rfl)) dX7_addAt_16 ⟨Nat.zero_le _, Nat.zero_le _⟩) hP hD hS hA [0, 1] [] rfl rfl (by decide) (by decide) (fun H locs hP hD hS => ?_)
    have hP : va_P (dC, dI) vwCl [(h_th, .inr (7, [.ref h_row, v_th_undos, v_th_isKept, v_th_text, v_th_length, v_th_sizes, v_th_values, v_th_asked, v_th_first, v_th_behind, v_th_readBits, v_th_clauses, v_th_doing, v_th_numbers, v_th_planWord, v_th_addWord, v_th_delWord, v_th_fillWord, v_th_probes, v_th_links, v_th_looks, v_th_found, v_th_isOver])), (h_row, .inl (cyI, 1824, .inl row))] H := hP
    have hD : va_D A [(h_th, .inr (7, [.ref h_row, v_th_undos, v_th_isKept, v_th_text, v_th_length, v_th_sizes, v_th_values, v_th_asked, v_th_first, v_th_behind, v_th_readBits, v_th_clauses, v_th_doing, v_th_numbers, v_th_planWord, v_th_addWord, v_th_delWord, v_th_fillWord, v_th_probes, v_th_links, v_th_looks, v_th_found, v_th_isOver])), (h_row, .inl (cyI, 1824, .inl row))] := hD
    refine lv_if_ne (tgt := 28) hx hb dX7_addAt_19 (by decide) (fun c_6 => ?_) (fun c_6 => ?_)
    · have h := og_ite_f c_6 h
      obtain rfl := Option.some.inj h
      exact J _ _ _ hP hD hS (lv_sub hl [] rfl)
    · have h := og_ite_t c_6 h
      refine lv_aload_n hx hb dX7_addAt_22 rfl (lv_at hl 0 rfl) ?_
      refine lv_iload_n hx hb dX7_addAt_23 rfl (lv_at hl 1 rfl) ?_
      refine lv_iload_n hx hb dX7_addAt_24 rfl (lv_at hl 2 rfl) ?_
      obtain ⟨u_7, hc_8, h⟩ := obd_e h
      refine Gcv (wr := []) (va_runV (As := [.int x0, .int x1]) (rest := []) ⟨hx, hb, hml, hown, hts⟩ (tX7_putIn l dC dI cyI cyJ cyZ cyO H.size h_th h_row v_th_undos v_th_isKept v_th_text v_th_length v_th_sizes v_th_values v_th_asked v_th_first v_th_behind v_th_readBits v_th_clauses v_th_doing v_th_numbers v_th_planWord v_th_addWord v_th_delWord v_th_fillWord v_th_probes v_th_links v_th_looks v_th_found v_th_isOver row x0 x1 u_7 hc_8) (cwV 2 hts gX7_addAt_X7_putIn rfl rfl rfl (by decide +kernel) ⟨Nat.le_of_ble_eq_true rfl, Nat.le_of_ble_eq_true rfl⟩) (GpreV hP hD hK hN [0, 1] rfl (by decide) 7 0 rfl rfl rfl) rfl rfl hl.1 rfl (lv_room (Nat.le_of_ble_eq_true rfl)) dX7_addAt_25 ⟨Nat.zero_le _, Nat.zero_le _⟩) hP hD hS hA [0, 1] [] rfl rfl (by decide) (by decide) (fun H locs hP hD hS => ?_)
      have hP : va_P (dC, dI) vwCl [(h_th, .inr (7, [.ref h_row, v_th_undos, v_th_isKept, v_th_text, v_th_length, v_th_sizes, v_th_values, v_th_asked, v_th_first, v_th_behind, v_th_readBits, v_th_clauses, v_th_doing, v_th_numbers, v_th_planWord, v_th_addWord, v_th_delWord, v_th_fillWord, v_th_probes, v_th_links, v_th_looks, v_th_found, v_th_isOver])), (h_row, .inl (cyI, 1824, .inl u_7))] H := hP
      have hD : va_D A [(h_th, .inr (7, [.ref h_row, v_th_undos, v_th_isKept, v_th_text, v_th_length, v_th_sizes, v_th_values, v_th_asked, v_th_first, v_th_behind, v_th_readBits, v_th_clauses, v_th_doing, v_th_numbers, v_th_planWord, v_th_addWord, v_th_delWord, v_th_fillWord, v_th_probes, v_th_links, v_th_looks, v_th_found, v_th_isOver])), (h_row, .inl (cyI, 1824, .inl u_7))] := hD
      obtain rfl := Option.some.inj h
      exact J _ _ _ hP hD hS (lv_sub hl [] rfl)

def lpX7_fill_3 (q1 : Int32) (q2 : Int32) (q3 : Int32) (q4 : Int32) : Nat → Int32 → (Nat → Int32) → Option (Int32 × (Nat → Int32))
  | 0, _, _ => none
  | n + 1, m5, zrow => if q4 ≤ m5 then (some (m5, zrow)) else (oin (q1 + (0 : Int32)) 1824 (obd (if ((1 : Int32) <<< ((zrow (q1 + (0 : Int32)).toNatClampNeg) &&& 31)) ≤ (q2 + (m5 * q3)) then (some zrow) else (obd (fX7_addAt zrow q1 (q2 + (m5 * q3))) fun u_6 => some u_6)) fun w_5 => lpX7_fill_3 q1 q2 q3 q4 n (m5 + (1 : Int32)) w_5))

def fX7_fill (row : (Nat → Int32)) (x0 : Int32) (x1 : Int32) (x2 : Int32) (x3 : Int32) : Option ((Nat → Int32)) := obd (lpX7_fill_3 x0 x1 x2 x3 100000 (0 : Int32) row) fun w_16 => some w_16.2

set_option maxHeartbeats 4000000 in
set_option maxRecDepth 100000 in
theorem tX7_fill (l : Launch) (dC : Nat → ClassId) (dI : Nat → Nat → Nat) (cyI cyJ cyZ cyO : ClassId) (sz : Nat) (h_th h_row : Nat) (v_th_undos : Value) (v_th_isKept : Value) (v_th_text : Value) (v_th_length : Value) (v_th_sizes : Value) (v_th_values : Value) (v_th_asked : Value) (v_th_first : Value) (v_th_behind : Value) (v_th_readBits : Value) (v_th_clauses : Value) (v_th_doing : Value) (v_th_numbers : Value) (v_th_planWord : Value) (v_th_addWord : Value) (v_th_delWord : Value) (v_th_fillWord : Value) (v_th_probes : Value) (v_th_links : Value) (v_th_looks : Value) (v_th_found : Value) (v_th_isOver : Value) (row : (Nat → Int32)) (x0 : Int32) (x1 : Int32) (x2 : Int32) (x3 : Int32) (u : (Nat → Int32)) (hf : fX7_fill row x0 x1 x2 x3 = some u) : Met l yX7_fill wsX7_fill ({ frames := 6, cells := 0, slots := 0, locals := 137 }) (va_Pc [.ref h_th, .int x0, .int x1, .int x2, .int x3] (GP (dC, dI) (T4 cyI cyJ cyZ cyO) sz [(h_th, .inr (7, [.ref h_row, v_th_undos, v_th_isKept, v_th_text, v_th_length, v_th_sizes, v_th_values, v_th_asked, v_th_first, v_th_behind, v_th_readBits, v_th_clauses, v_th_doing, v_th_numbers, v_th_planWord, v_th_addWord, v_th_delWord, v_th_fillWord, v_th_probes, v_th_links, v_th_looks, v_th_found, v_th_isOver])), (h_row, .inl (cyI, 1824, .inl row))])) (va_Qv (fun (_ : Unit) => True) (GB (dC, dI) [(h_th, .inr (7, [.ref h_row, v_th_undos, v_th_isKept, v_th_text, v_th_length, v_th_sizes, v_th_values, v_th_asked, v_th_first, v_th_behind, v_th_readBits, v_th_clauses, v_th_doing, v_th_numbers, v_th_planWord, v_th_addWord, v_th_delWord, v_th_fillWord, v_th_probes, v_th_links, v_th_looks, v_th_found, v_th_isOver])), (h_row, .inl (cyI, 1824, .inl u))] (va_A [(h_th, .inr (7, [.ref h_row, v_th_undos, v_th_isKept, v_th_text, v_th_length, v_th_sizes, v_th_values, v_th_asked, v_th_first, v_th_behind, v_th_readBits, v_th_clauses, v_th_doing, v_th_numbers, v_th_planWord, v_th_addWord, v_th_delWord, v_th_fillWord, v_th_probes, v_th_links, v_th_looks, v_th_found, v_th_isOver])), (h_row, .inl (cyI, 1824, .inl row))] sz)) (va_A [(h_th, .inr (7, [.ref h_row, v_th_undos, v_th_isKept, v_th_text, v_th_length, v_th_sizes, v_th_values, v_th_asked, v_th_first, v_th_behind, v_th_readBits, v_th_clauses, v_th_doing, v_th_numbers, v_th_planWord, v_th_addWord, v_th_delWord, v_th_fillWord, v_th_probes, v_th_links, v_th_looks, v_th_found, v_th_isOver])), (h_row, .inl (cyI, 1824, .inl row))] sz)) 0 0 (va_A [(h_th, .inr (7, [.ref h_row, v_th_undos, v_th_isKept, v_th_text, v_th_length, v_th_sizes, v_th_values, v_th_asked, v_th_first, v_th_behind, v_th_readBits, v_th_clauses, v_th_doing, v_th_numbers, v_th_planWord, v_th_addWord, v_th_delWord, v_th_fillWord, v_th_probes, v_th_links, v_th_looks, v_th_found, v_th_isOver])), (h_row, .inl (cyI, 1824, .inl row))] sz) := by
  refine GMetV (by decide) rfl (Nat.le_of_ble_eq_true rfl) ?_
  intro p e s m args below meth c A Q ls hx hb hml hts hown hN hK hA hret hP hD hS hl
  have h := hf
  clear hf
  unfold fX7_fill at h
  have hown : s.vm.findClass RX7 = some m.cls := hown
  have hl : lv_has ls 6 [(0, .ref h_th), (1, .int x0), (2, .int x1), (3, .int x2), (4, .int x3)] := hl
  refine lv_iconst (v := 0) hx hb dX7_fill_0 (by decide) ?_
  refine lv_istore (lv' := [(5, .int (0 : Int32)), (0, .ref h_th), (1, .int x0), (2, .int x1), (3, .int x2), (4, .int x3)]) hx hb dX7_fill_1 hl (by decide) rfl (fun ls hl => ?_)
  obtain ⟨w_16, hw_17, h⟩ := obd_e h
  have J : ∀ (H : Heap) (locs : List Loc) (ls : Array Slot), va_P (dC, dI) vwCl [(h_th, .inr (7, [.ref h_row, v_th_undos, v_th_isKept, v_th_text, v_th_length, v_th_sizes, v_th_values, v_th_asked, v_th_first, v_th_behind, v_th_readBits, v_th_clauses, v_th_doing, v_th_numbers, v_th_planWord, v_th_addWord, v_th_delWord, v_th_fillWord, v_th_probes, v_th_links, v_th_looks, v_th_found, v_th_isOver])), (h_row, .inl (cyI, 1824, .inl w_16.2))] H → va_D A [(h_th, .inr (7, [.ref h_row, v_th_undos, v_th_isKept, v_th_text, v_th_length, v_th_sizes, v_th_values, v_th_asked, v_th_first, v_th_behind, v_th_readBits, v_th_clauses, v_th_doing, v_th_numbers, v_th_planWord, v_th_addWord, v_th_delWord, v_th_fillWord, v_th_probes, v_th_links, v_th_looks, v_th_found, v_th_isOver])), (h_row, .inl (cyI, 1824, .inl w_16.2))] → va_S A s.heap H locs → lv_has ls 6 [] → W p l e ({ frames := 6, cells := 0, slots := 0, locals := 137 }) s m args below meth c H locs 0 0 Q (F0 m 46 ls []) := by
    intro H locs ls hP hD hS hl
    obtain rfl := Option.some.inj h
    exact hret _ _ _ _ dX7_fill_46 hP hD hS
  have LL : ∀ (n : Nat) (m5 : Int32) (zrow : (Nat → Int32)) (H : Heap) (locs : List Loc) (ls : Array Slot), lpX7_fill_3 x0 x1 x2 x3 n m5 zrow = some w_16 → va_P (dC, dI) vwCl [(h_th, .inr (7, [.ref h_row, v_th_undos, v_th_isKept, v_th_text, v_th_length, v_th_sizes, v_th_values, v_th_asked, v_th_first, v_th_behind, v_th_readBits, v_th_clauses, v_th_doing, v_th_numbers, v_th_planWord, v_th_addWord, v_th_delWord, v_th_fillWord, v_th_probes, v_th_links, v_th_looks, v_th_found, v_th_isOver])), (h_row, .inl (cyI, 1824, .inl zrow))] H → va_D A [(h_th, .inr (7, [.ref h_row, v_th_undos, v_th_isKept, v_th_text, v_th_length, v_th_sizes, v_th_values, v_th_asked, v_th_first, v_th_behind, v_th_readBits, v_th_clauses, v_th_doing, v_th_numbers, v_th_planWord, v_th_addWord, v_th_delWord, v_th_fillWord, v_th_probes, v_th_links, v_th_looks, v_th_found, v_th_isOver])), (h_row, .inl (cyI, 1824, .inl zrow))] → va_S A s.heap H locs → lv_has ls 6 [(0, .ref h_th), (1, .int x0), (2, .int x1), (3, .int x2), (4, .int x3), (5, .int m5)] → W p l e ({ frames := 6, cells := 0, slots := 0, locals := 137 }) s m args below meth c H locs 0 0 Q (F0 m 3 ls []) := by
    intro n
    induction n with
    | zero =>
      intro m5 zrow H locs ls h
      exact absurd h (by rw [lpX7_fill_3]; exact fun q => by cases q)
    | succ n ih =>
      intro m5 zrow H locs ls h hP hD hS hl
      rw [lpX7_fill_3] at h
      refine lv_iload hx hb dX7_fill_3 (lv_at hl 5 rfl) ?_
      refine lv_iload hx hb dX7_fill_5 (lv_at hl 4 rfl) ?_
      refine lv_icmp_ge (tgt := 46) hx hb dX7_fill_7 (by decide) (fun c_9 => ?_) (fun c_9 => ?_)
      · have h := og_ite_t c_9 h
        obtain rfl := Option.some.inj h
        exact J _ _ _ hP hD hS (lv_sub hl [] rfl)
      · have h := og_ite_f c_9 h
        refine lv_iload_n hx hb dX7_fill_10 rfl (lv_at hl 2 rfl) ?_
        refine lv_iload hx hb dX7_fill_11 (lv_at hl 5 rfl) ?_
        refine lv_iload_n hx hb dX7_fill_13 rfl (lv_at hl 3 rfl) ?_
        refine lv_imul hx hb dX7_fill_14 ?_
        refine lv_iadd hx hb dX7_fill_15 ?_
        refine lv_iconst (v := 1) hx hb dX7_fill_16 (by decide) ?_
        refine lv_aload_n hx hb dX7_fill_17 rfl (lv_at hl 0 rfl) ?_
        refine va_get (D := (dC, dI)) (ci := 7) (v := .ref h_row) (C := RX7) (T := TX7) (N := 23) hx hb hts (fun _ hw => List.mem_cons_of_mem _ (List.mem_append_right _ hw)) hown hK hP 0 rfl rfl 0 (by decide) (hts (.fieldLink RX7 7 "PrefixIndexModel" "row" "[I") (List.mem_of_getElem? (i := 1) rfl)) (fun _ h9 => h9) rfl dX7_fill_18 ?_
        refine lv_iload_n hx hb dX7_fill_21 rfl (lv_at hl 1 rfl) ?_
        refine lv_iconst (v := 0) hx hb dX7_fill_22 (by decide) ?_
        refine lv_iadd hx hb dX7_fill_23 ?_
        obtain ⟨hi_10, h⟩ := oin_e h
        refine va_iald hx hb hK hP 1 0 rfl rfl hi_10 dX7_fill_24 ?_
        refine lv_ishl hx hb dX7_fill_25 ?_
        obtain ⟨w_12, hm_15, h⟩ := obd_e h
        have J : ∀ (H : Heap) (locs : List Loc) (ls : Array Slot), va_P (dC, dI) vwCl [(h_th, .inr (7, [.ref h_row, v_th_undos, v_th_isKept, v_th_text, v_th_length, v_th_sizes, v_th_values, v_th_asked, v_th_first, v_th_behind, v_th_readBits, v_th_clauses, v_th_doing, v_th_numbers, v_th_planWord, v_th_addWord, v_th_delWord, v_th_fillWord, v_th_probes, v_th_links, v_th_looks, v_th_found, v_th_isOver])), (h_row, .inl (cyI, 1824, .inl w_12))] H → va_D A [(h_th, .inr (7, [.ref h_row, v_th_undos, v_th_isKept, v_th_text, v_th_length, v_th_sizes, v_th_values, v_th_asked, v_th_first, v_th_behind, v_th_readBits, v_th_clauses, v_th_doing, v_th_numbers, v_th_planWord, v_th_addWord, v_th_delWord, v_th_fillWord, v_th_probes, v_th_links, v_th_looks, v_th_found, v_th_isOver])), (h_row, .inl (cyI, 1824, .inl w_12))] → va_S A s.heap H locs → lv_has ls 6 [(0, .ref h_th), (1, .int x0), (2, .int x1), (3, .int x2), (4, .int x3), (5, .int m5)] → W p l e ({ frames := 6, cells := 0, slots := 0, locals := 137 }) s m args below meth c H locs 0 0 Q (F0 m 40 ls []) := by
          intro H locs ls hP hD hS hl
          refine lv_iinc (v := m5 + (1 : Int32)) (lv' := [(5, .int (m5 + (1 : Int32))), (0, .ref h_th), (1, .int x0), (2, .int x1), (3, .int x2), (4, .int x3)]) hx hb dX7_fill_40 hl (k := 5) rfl rfl (by decide) rfl (fun ls hl => ?_)
          refine lv_goto (tgt := 3) hx hb dX7_fill_43 (by decide) ?_
          exact ih (m5 + (1 : Int32)) w_12 _ _ _ h hP hD hS (lv_sub hl [1, 2, 3, 4, 5, 0] rfl)
        replace h := hm_15
        refine lv_icmp_ge (tgt := 40) hx hb dX7_fill_26 (by decide) (fun c_11 => ?_) (fun c_11 => ?_)
        · have h := og_ite_t c_11 h
          obtain rfl := Option.some.inj h
          exact J _ _ _ hP hD hS hl
        · have h := og_ite_f c_11 h
          refine lv_aload_n hx hb dX7_fill_29 rfl (lv_at hl 0 rfl) ?_
          refine lv_iload_n hx hb dX7_fill_30 rfl (lv_at hl 1 rfl) ?_
          refine lv_iload_n hx hb dX7_fill_31 rfl (lv_at hl 2 rfl) ?_
          refine lv_iload hx hb dX7_fill_32 (lv_at hl 5 rfl) ?_
          refine lv_iload_n hx hb dX7_fill_34 rfl (lv_at hl 3 rfl) ?_
          refine lv_imul hx hb dX7_fill_35 ?_
          refine lv_iadd hx hb dX7_fill_36 ?_
          obtain ⟨u_13, hc_14, h⟩ := obd_e h
          refine Gcv (wr := []) (va_runV (As := [.int x0, .int (x1 + (m5 * x2))]) (rest := []) ⟨hx, hb, hml, hown, hts⟩ (tX7_addAt l dC dI cyI cyJ cyZ cyO H.size h_th h_row v_th_undos v_th_isKept v_th_text v_th_length v_th_sizes v_th_values v_th_asked v_th_first v_th_behind v_th_readBits v_th_clauses v_th_doing v_th_numbers v_th_planWord v_th_addWord v_th_delWord v_th_fillWord v_th_probes v_th_links v_th_looks v_th_found v_th_isOver zrow x0 (x1 + (m5 * x2)) u_13 hc_14) (cwV 2 hts gX7_fill_X7_addAt rfl rfl rfl (by decide +kernel) ⟨Nat.le_of_ble_eq_true rfl, Nat.le_of_ble_eq_true rfl⟩) (GpreV hP hD hK hN [0, 1] rfl (by decide) 7 0 rfl rfl rfl) rfl rfl hl.1 rfl (lv_room (Nat.le_of_ble_eq_true rfl)) dX7_fill_37 ⟨Nat.zero_le _, Nat.zero_le _⟩) hP hD hS hA [0, 1] [] rfl rfl (by decide) (by decide) (fun H locs hP hD hS => ?_)
          have hP : va_P (dC, dI) vwCl [(h_th, .inr (7, [.ref h_row, v_th_undos, v_th_isKept, v_th_text, v_th_length, v_th_sizes, v_th_values, v_th_asked, v_th_first, v_th_behind, v_th_readBits, v_th_clauses, v_th_doing, v_th_numbers, v_th_planWord, v_th_addWord, v_th_delWord, v_th_fillWord, v_th_probes, v_th_links, v_th_looks, v_th_found, v_th_isOver])), (h_row, .inl (cyI, 1824, .inl u_13))] H := hP
          have hD : va_D A [(h_th, .inr (7, [.ref h_row, v_th_undos, v_th_isKept, v_th_text, v_th_length, v_th_sizes, v_th_values, v_th_asked, v_th_first, v_th_behind, v_th_readBits, v_th_clauses, v_th_doing, v_th_numbers, v_th_planWord, v_th_addWord, v_th_delWord, v_th_fillWord, v_th_probes, v_th_links, v_th_looks, v_th_found, v_th_isOver])), (h_row, .inl (cyI, 1824, .inl u_13))] := hD
          obtain rfl := Option.some.inj h
          exact J _ _ _ hP hD hS hl
  exact LL _ (0 : Int32) row _ _ _ hw_17 hP hD hS (lv_sub hl [1, 2, 3, 4, 5, 0] rfl)

def lpX7_copyRow_2 (q1 : Int32) (q2 : Int32) : Nat → Int32 → (Nat → Int32) → Option (Int32 × (Nat → Int32))
  | 0, _, _ => none
  | n + 1, m3, zrow => if (152 : Int32) ≤ m3 then (some (m3, zrow)) else (oin (q1 + m3) 1824 (oin (q2 + m3) 1824 (lpX7_copyRow_2 q1 q2 n (m3 + (1 : Int32)) (upd zrow (q2 + m3).toNatClampNeg (zrow (q1 + m3).toNatClampNeg)))))

def fX7_copyRow (row : (Nat → Int32)) (x0 : Int32) (x1 : Int32) : Option ((Nat → Int32)) := obd (lpX7_copyRow_2 x0 x1 100000 (0 : Int32) row) fun w_8 => some w_8.2

set_option maxHeartbeats 4000000 in
set_option maxRecDepth 100000 in
theorem tX7_copyRow (l : Launch) (dC : Nat → ClassId) (dI : Nat → Nat → Nat) (cyI cyJ cyZ cyO : ClassId) (sz : Nat) (h_th h_row : Nat) (v_th_undos : Value) (v_th_isKept : Value) (v_th_text : Value) (v_th_length : Value) (v_th_sizes : Value) (v_th_values : Value) (v_th_asked : Value) (v_th_first : Value) (v_th_behind : Value) (v_th_readBits : Value) (v_th_clauses : Value) (v_th_doing : Value) (v_th_numbers : Value) (v_th_planWord : Value) (v_th_addWord : Value) (v_th_delWord : Value) (v_th_fillWord : Value) (v_th_probes : Value) (v_th_links : Value) (v_th_looks : Value) (v_th_found : Value) (v_th_isOver : Value) (row : (Nat → Int32)) (x0 : Int32) (x1 : Int32) (u : (Nat → Int32)) (hf : fX7_copyRow row x0 x1 = some u) : Met l yX7_copyRow wsX7_copyRow ({ frames := 0, cells := 0, slots := 0, locals := 0 }) (va_Pc [.ref h_th, .int x0, .int x1] (GP (dC, dI) (T4 cyI cyJ cyZ cyO) sz [(h_th, .inr (7, [.ref h_row, v_th_undos, v_th_isKept, v_th_text, v_th_length, v_th_sizes, v_th_values, v_th_asked, v_th_first, v_th_behind, v_th_readBits, v_th_clauses, v_th_doing, v_th_numbers, v_th_planWord, v_th_addWord, v_th_delWord, v_th_fillWord, v_th_probes, v_th_links, v_th_looks, v_th_found, v_th_isOver])), (h_row, .inl (cyI, 1824, .inl row))])) (va_Qv (fun (_ : Unit) => True) (GB (dC, dI) [(h_th, .inr (7, [.ref h_row, v_th_undos, v_th_isKept, v_th_text, v_th_length, v_th_sizes, v_th_values, v_th_asked, v_th_first, v_th_behind, v_th_readBits, v_th_clauses, v_th_doing, v_th_numbers, v_th_planWord, v_th_addWord, v_th_delWord, v_th_fillWord, v_th_probes, v_th_links, v_th_looks, v_th_found, v_th_isOver])), (h_row, .inl (cyI, 1824, .inl u))] (va_A [(h_th, .inr (7, [.ref h_row, v_th_undos, v_th_isKept, v_th_text, v_th_length, v_th_sizes, v_th_values, v_th_asked, v_th_first, v_th_behind, v_th_readBits, v_th_clauses, v_th_doing, v_th_numbers, v_th_planWord, v_th_addWord, v_th_delWord, v_th_fillWord, v_th_probes, v_th_links, v_th_looks, v_th_found, v_th_isOver])), (h_row, .inl (cyI, 1824, .inl row))] sz)) (va_A [(h_th, .inr (7, [.ref h_row, v_th_undos, v_th_isKept, v_th_text, v_th_length, v_th_sizes, v_th_values, v_th_asked, v_th_first, v_th_behind, v_th_readBits, v_th_clauses, v_th_doing, v_th_numbers, v_th_planWord, v_th_addWord, v_th_delWord, v_th_fillWord, v_th_probes, v_th_links, v_th_looks, v_th_found, v_th_isOver])), (h_row, .inl (cyI, 1824, .inl row))] sz)) 0 0 (va_A [(h_th, .inr (7, [.ref h_row, v_th_undos, v_th_isKept, v_th_text, v_th_length, v_th_sizes, v_th_values, v_th_asked, v_th_first, v_th_behind, v_th_readBits, v_th_clauses, v_th_doing, v_th_numbers, v_th_planWord, v_th_addWord, v_th_delWord, v_th_fillWord, v_th_probes, v_th_links, v_th_looks, v_th_found, v_th_isOver])), (h_row, .inl (cyI, 1824, .inl row))] sz) := by
  refine GMetV (by decide) rfl (Nat.le_of_ble_eq_true rfl) ?_
  intro p e s m args below meth c A Q ls hx hb hml hts hown hN hK hA hret hP hD hS hl
  have h := hf
  clear hf
  unfold fX7_copyRow at h
  have hown : s.vm.findClass RX7 = some m.cls := hown
  have hl : lv_has ls 4 [(0, .ref h_th), (1, .int x0), (2, .int x1)] := hl
  refine lv_iconst (v := 0) hx hb dX7_copyRow_0 (by decide) ?_
  refine lv_istore_n (lv' := [(3, .int (0 : Int32)), (0, .ref h_th), (1, .int x0), (2, .int x1)]) hx hb dX7_copyRow_1 rfl hl (by decide) rfl (fun ls hl => ?_)
  obtain ⟨w_8, hw_9, h⟩ := obd_e h
  have J : ∀ (H : Heap) (locs : List Loc) (ls : Array Slot), va_P (dC, dI) vwCl [(h_th, .inr (7, [.ref h_row, v_th_undos, v_th_isKept, v_th_text, v_th_length, v_th_sizes, v_th_values, v_th_asked, v_th_first, v_th_behind, v_th_readBits, v_th_clauses, v_th_doing, v_th_numbers, v_th_planWord, v_th_addWord, v_th_delWord, v_th_fillWord, v_th_probes, v_th_links, v_th_looks, v_th_found, v_th_isOver])), (h_row, .inl (cyI, 1824, .inl w_8.2))] H → va_D A [(h_th, .inr (7, [.ref h_row, v_th_undos, v_th_isKept, v_th_text, v_th_length, v_th_sizes, v_th_values, v_th_asked, v_th_first, v_th_behind, v_th_readBits, v_th_clauses, v_th_doing, v_th_numbers, v_th_planWord, v_th_addWord, v_th_delWord, v_th_fillWord, v_th_probes, v_th_links, v_th_looks, v_th_found, v_th_isOver])), (h_row, .inl (cyI, 1824, .inl w_8.2))] → va_S A s.heap H locs → lv_has ls 4 [] → W p l e ({ frames := 0, cells := 0, slots := 0, locals := 0 }) s m args below meth c H locs 0 0 Q (F0 m 31 ls []) := by
    intro H locs ls hP hD hS hl
    obtain rfl := Option.some.inj h
    exact hret _ _ _ _ dX7_copyRow_31 hP hD hS
  have LL : ∀ (n : Nat) (m3 : Int32) (zrow : (Nat → Int32)) (H : Heap) (locs : List Loc) (ls : Array Slot), lpX7_copyRow_2 x0 x1 n m3 zrow = some w_8 → va_P (dC, dI) vwCl [(h_th, .inr (7, [.ref h_row, v_th_undos, v_th_isKept, v_th_text, v_th_length, v_th_sizes, v_th_values, v_th_asked, v_th_first, v_th_behind, v_th_readBits, v_th_clauses, v_th_doing, v_th_numbers, v_th_planWord, v_th_addWord, v_th_delWord, v_th_fillWord, v_th_probes, v_th_links, v_th_looks, v_th_found, v_th_isOver])), (h_row, .inl (cyI, 1824, .inl zrow))] H → va_D A [(h_th, .inr (7, [.ref h_row, v_th_undos, v_th_isKept, v_th_text, v_th_length, v_th_sizes, v_th_values, v_th_asked, v_th_first, v_th_behind, v_th_readBits, v_th_clauses, v_th_doing, v_th_numbers, v_th_planWord, v_th_addWord, v_th_delWord, v_th_fillWord, v_th_probes, v_th_links, v_th_looks, v_th_found, v_th_isOver])), (h_row, .inl (cyI, 1824, .inl zrow))] → va_S A s.heap H locs → lv_has ls 4 [(0, .ref h_th), (1, .int x0), (2, .int x1), (3, .int m3)] → W p l e ({ frames := 0, cells := 0, slots := 0, locals := 0 }) s m args below meth c H locs 0 0 Q (F0 m 2 ls []) := by
    intro n
    induction n with
    | zero =>
      intro m3 zrow H locs ls h
      exact absurd h (by rw [lpX7_copyRow_2]; exact fun q => by cases q)
    | succ n ih =>
      intro m3 zrow H locs ls h hP hD hS hl
      rw [lpX7_copyRow_2] at h
      refine lv_iload_n hx hb dX7_copyRow_2 rfl (lv_at hl 3 rfl) ?_
      refine lv_sipush (v := 152) hx hb dX7_copyRow_3 (by decide) ?_
      refine lv_icmp_ge (tgt := 31) hx hb dX7_copyRow_6 (by decide) (fun c_5 => ?_) (fun c_5 => ?_)
      · have h := og_ite_t c_5 h
        obtain rfl := Option.some.inj h
        exact J _ _ _ hP hD hS (lv_sub hl [] rfl)
      · have h := og_ite_f c_5 h
        refine lv_aload_n hx hb dX7_copyRow_9 rfl (lv_at hl 0 rfl) ?_
        refine va_get (D := (dC, dI)) (ci := 7) (v := .ref h_row) (C := RX7) (T := TX7) (N := 23) hx hb hts (fun _ hw => List.mem_cons_of_mem _ (List.mem_append_right _ hw)) hown hK hP 0 rfl rfl 0 (by decide) (hts (.fieldLink RX7 7 "PrefixIndexModel" "row" "[I") (List.mem_of_getElem? (i := 1) rfl)) (fun _ h9 => h9) rfl dX7_copyRow_10 ?_
        refine lv_iload_n hx hb dX7_copyRow_13 rfl (lv_at hl 2 rfl) ?_
        refine lv_iload_n hx hb dX7_copyRow_14 rfl (lv_at hl 3 rfl) ?_
        refine lv_iadd hx hb dX7_copyRow_15 ?_
        refine lv_aload_n hx hb dX7_copyRow_16 rfl (lv_at hl 0 rfl) ?_
        refine va_get (D := (dC, dI)) (ci := 7) (v := .ref h_row) (C := RX7) (T := TX7) (N := 23) hx hb hts (fun _ hw => List.mem_cons_of_mem _ (List.mem_append_right _ hw)) hown hK hP 0 rfl rfl 0 (by decide) (hts (.fieldLink RX7 7 "PrefixIndexModel" "row" "[I") (List.mem_of_getElem? (i := 1) rfl)) (fun _ h9 => h9) rfl dX7_copyRow_17 ?_
        refine lv_iload_n hx hb dX7_copyRow_20 rfl (lv_at hl 1 rfl) ?_
        refine lv_iload_n hx hb dX7_copyRow_21 rfl (lv_at hl 3 rfl) ?_
        refine lv_iadd hx hb dX7_copyRow_22 ?_
        obtain ⟨hi_6, h⟩ := oin_e h
        refine va_iald hx hb hK hP 1 0 rfl rfl hi_6 dX7_copyRow_23 ?_
        obtain ⟨hi_7, h⟩ := oin_e h
        refine va_iast hx hb hK hP hD hS 1 0 rfl rfl hi_7 dX7_copyRow_24 (fun H locs hP hD hS => ?_)
        have hP : va_P (dC, dI) vwCl [(h_th, .inr (7, [.ref h_row, v_th_undos, v_th_isKept, v_th_text, v_th_length, v_th_sizes, v_th_values, v_th_asked, v_th_first, v_th_behind, v_th_readBits, v_th_clauses, v_th_doing, v_th_numbers, v_th_planWord, v_th_addWord, v_th_delWord, v_th_fillWord, v_th_probes, v_th_links, v_th_looks, v_th_found, v_th_isOver])), (h_row, .inl (cyI, 1824, .inl (upd zrow (x1 + m3).toNatClampNeg (zrow (x0 + m3).toNatClampNeg))))] H := hP
        have hD : va_D A [(h_th, .inr (7, [.ref h_row, v_th_undos, v_th_isKept, v_th_text, v_th_length, v_th_sizes, v_th_values, v_th_asked, v_th_first, v_th_behind, v_th_readBits, v_th_clauses, v_th_doing, v_th_numbers, v_th_planWord, v_th_addWord, v_th_delWord, v_th_fillWord, v_th_probes, v_th_links, v_th_looks, v_th_found, v_th_isOver])), (h_row, .inl (cyI, 1824, .inl (upd zrow (x1 + m3).toNatClampNeg (zrow (x0 + m3).toNatClampNeg))))] := hD
        refine lv_iinc (v := m3 + (1 : Int32)) (lv' := [(3, .int (m3 + (1 : Int32))), (0, .ref h_th), (1, .int x0), (2, .int x1)]) hx hb dX7_copyRow_25 hl (k := 3) rfl rfl (by decide) rfl (fun ls hl => ?_)
        refine lv_goto (tgt := 2) hx hb dX7_copyRow_28 (by decide) ?_
        exact ih (m3 + (1 : Int32)) (upd zrow (x1 + m3).toNatClampNeg (zrow (x0 + m3).toNatClampNeg)) _ _ _ h hP hD hS (lv_sub hl [1, 2, 3, 0] rfl)
  exact LL _ (0 : Int32) row _ _ _ hw_9 hP hD hS (lv_sub hl [1, 2, 3, 0] rfl)

def fX7_write (length : Int32) (text : (Nat → Int32)) (x0 : Int32) : Option (Int32 × Int32 × (Nat → Int32)) := obd (fX7_in x0.toInt64 (0 : Int64) (255 : Int64)) fun u_1 => if u_1 = 0 then (some ((-3 : Int32), length, text)) else (if length = (200 : Int32) then (some ((-5 : Int32), length, text)) else (oin length 200 (some ((length + (1 : Int32)), (length + (1 : Int32)), upd text length.toNatClampNeg x0))))

set_option maxHeartbeats 4000000 in
set_option maxRecDepth 100000 in
theorem tX7_write (l : Launch) (dC : Nat → ClassId) (dI : Nat → Nat → Nat) (cyI cyJ cyZ cyO : ClassId) (sz : Nat) (h_th h_text : Nat) (v_th_row : Value) (v_th_undos : Value) (v_th_isKept : Value) (v_th_sizes : Value) (v_th_values : Value) (v_th_asked : Value) (v_th_first : Value) (v_th_behind : Value) (v_th_readBits : Value) (v_th_clauses : Value) (v_th_doing : Value) (v_th_numbers : Value) (v_th_planWord : Value) (v_th_addWord : Value) (v_th_delWord : Value) (v_th_fillWord : Value) (v_th_probes : Value) (v_th_links : Value) (v_th_looks : Value) (v_th_found : Value) (v_th_isOver : Value) (length : Int32) (text : (Nat → Int32)) (x0 : Int32) (u : Int32 × Int32 × (Nat → Int32)) (hf : fX7_write length text x0 = some u) : Met l yX7_write wsX7_write ({ frames := 1, cells := 0, slots := 0, locals := 25 }) (va_Pc [.ref h_th, .int x0] (GP (dC, dI) (T4 cyI cyJ cyZ cyO) sz [(h_th, .inr (7, [v_th_row, v_th_undos, v_th_isKept, .ref h_text, .int length, v_th_sizes, v_th_values, v_th_asked, v_th_first, v_th_behind, v_th_readBits, v_th_clauses, v_th_doing, v_th_numbers, v_th_planWord, v_th_addWord, v_th_delWord, v_th_fillWord, v_th_probes, v_th_links, v_th_looks, v_th_found, v_th_isOver])), (h_text, .inl (cyI, 200, .inl text))])) (va_Qi (fun (r : Int32) (_ : Unit) => r = u.1) (GB (dC, dI) [(h_th, .inr (7, [v_th_row, v_th_undos, v_th_isKept, .ref h_text, .int u.2.1, v_th_sizes, v_th_values, v_th_asked, v_th_first, v_th_behind, v_th_readBits, v_th_clauses, v_th_doing, v_th_numbers, v_th_planWord, v_th_addWord, v_th_delWord, v_th_fillWord, v_th_probes, v_th_links, v_th_looks, v_th_found, v_th_isOver])), (h_text, .inl (cyI, 200, .inl u.2.2))] (va_A [(h_th, .inr (7, [v_th_row, v_th_undos, v_th_isKept, .ref h_text, .int length, v_th_sizes, v_th_values, v_th_asked, v_th_first, v_th_behind, v_th_readBits, v_th_clauses, v_th_doing, v_th_numbers, v_th_planWord, v_th_addWord, v_th_delWord, v_th_fillWord, v_th_probes, v_th_links, v_th_looks, v_th_found, v_th_isOver])), (h_text, .inl (cyI, 200, .inl text))] sz)) (va_A [(h_th, .inr (7, [v_th_row, v_th_undos, v_th_isKept, .ref h_text, .int length, v_th_sizes, v_th_values, v_th_asked, v_th_first, v_th_behind, v_th_readBits, v_th_clauses, v_th_doing, v_th_numbers, v_th_planWord, v_th_addWord, v_th_delWord, v_th_fillWord, v_th_probes, v_th_links, v_th_looks, v_th_found, v_th_isOver])), (h_text, .inl (cyI, 200, .inl text))] sz)) 0 0 (va_A [(h_th, .inr (7, [v_th_row, v_th_undos, v_th_isKept, .ref h_text, .int length, v_th_sizes, v_th_values, v_th_asked, v_th_first, v_th_behind, v_th_readBits, v_th_clauses, v_th_doing, v_th_numbers, v_th_planWord, v_th_addWord, v_th_delWord, v_th_fillWord, v_th_probes, v_th_links, v_th_looks, v_th_found, v_th_isOver])), (h_text, .inl (cyI, 200, .inl text))] sz) := by
  refine GMetI (by decide) rfl (Nat.le_of_ble_eq_true rfl) ?_
  intro p e s m args below meth c A Q ls hx hb hml hts hown hN hK hA hret hP hD hS hl
  have h := hf
  clear hf
  unfold fX7_write at h
  have hown : s.vm.findClass RX7 = some m.cls := hown
  have hl : lv_has ls 2 [(0, .ref h_th), (1, .int x0)] := hl
  refine lv_iload_n hx hb dX7_write_0 rfl (lv_at hl 1 rfl) ?_
  refine lv_i2l (v := x0.toInt64) hx hb dX7_write_1 rfl ?_
  refine lv_lconst (v := 0) hx hb dX7_write_2 (by decide) ?_
  refine lv_ldc2 hx hb hown (hts (.constantLong RX7 73 (255)) (List.mem_of_getElem? (i := 1) rfl)) dX7_write_3 ?_
  obtain ⟨u_1, hc_2, h⟩ := obd_e h
  refine Gci (wr := [(h_th, .inr (7, [v_th_row, v_th_undos, v_th_isKept, .ref h_text, .int length, v_th_sizes, v_th_values, v_th_asked, v_th_first, v_th_behind, v_th_readBits, v_th_clauses, v_th_doing, v_th_numbers, v_th_planWord, v_th_addWord, v_th_delWord, v_th_fillWord, v_th_probes, v_th_links, v_th_looks, v_th_found, v_th_isOver])), (h_text, .inl (cyI, 200, .inl text))]) (va_runS (As := [.long x0.toInt64, .long (0 : Int64), .long (255 : Int64)]) (rest := []) ⟨hx, hb, hml, hown, hts⟩ (tX7_in l dC dI cyI cyJ cyZ cyO s.heap.size x0.toInt64 (0 : Int64) (255 : Int64) u_1 hc_2) (cwS 3 hts gX7_write_X7_in rfl rfl rfl (by decide +kernel) ⟨Nat.le_of_ble_eq_true rfl, Nat.le_of_ble_eq_true rfl⟩) (GpreS hP hD hK hN [] rfl (by decide)) rfl rfl hl.1 rfl (lv_room (Nat.le_of_ble_eq_true rfl)) dX7_write_6 ⟨Nat.zero_le _, Nat.zero_le _⟩) hP hD hS hA [] [0, 1] rfl rfl (by decide) (by decide) (fun H locs hP hD hS => ?_)
  have hP : va_P (dC, dI) vwCl [(h_th, .inr (7, [v_th_row, v_th_undos, v_th_isKept, .ref h_text, .int length, v_th_sizes, v_th_values, v_th_asked, v_th_first, v_th_behind, v_th_readBits, v_th_clauses, v_th_doing, v_th_numbers, v_th_planWord, v_th_addWord, v_th_delWord, v_th_fillWord, v_th_probes, v_th_links, v_th_looks, v_th_found, v_th_isOver])), (h_text, .inl (cyI, 200, .inl text))] H := hP
  have hD : va_D A [(h_th, .inr (7, [v_th_row, v_th_undos, v_th_isKept, .ref h_text, .int length, v_th_sizes, v_th_values, v_th_asked, v_th_first, v_th_behind, v_th_readBits, v_th_clauses, v_th_doing, v_th_numbers, v_th_planWord, v_th_addWord, v_th_delWord, v_th_fillWord, v_th_probes, v_th_links, v_th_looks, v_th_found, v_th_isOver])), (h_text, .inl (cyI, 200, .inl text))] := hD
  refine lv_if_ne (tgt := 15) hx hb dX7_write_9 (by decide) (fun c_3 => ?_) (fun c_3 => ?_)
  · have h := og_ite_f c_3 h
    refine lv_aload_n hx hb dX7_write_15 rfl (lv_at hl 0 rfl) ?_
    refine va_get (D := (dC, dI)) (ci := 7) (v := .int length) (C := RX7) (T := TX7) (N := 23) hx hb hts (fun _ hw => List.mem_cons_of_mem _ (List.mem_append_right _ hw)) hown hK hP 0 rfl rfl 4 (by decide) (hts (.fieldLink RX7 79 "PrefixIndexModel" "length" "I") (List.mem_of_getElem? (i := 2) rfl)) (fun _ h9 => h9) rfl dX7_write_16 ?_
    refine lv_sipush (v := 200) hx hb dX7_write_19 (by decide) ?_
    refine lv_icmp_ne (tgt := 28) hx hb dX7_write_22 (by decide) (fun c_4 => ?_) (fun c_4 => ?_)
    · have h := og_ite_f c_4 h
      refine lv_aload_n hx hb dX7_write_28 rfl (lv_at hl 0 rfl) ?_
      refine va_get (D := (dC, dI)) (ci := 7) (v := .ref h_text) (C := RX7) (T := TX7) (N := 23) hx hb hts (fun _ hw => List.mem_cons_of_mem _ (List.mem_append_right _ hw)) hown hK hP 0 rfl rfl 3 (by decide) (hts (.fieldLink RX7 17 "PrefixIndexModel" "text" "[I") (List.mem_of_getElem? (i := 3) rfl)) (fun _ h9 => h9) rfl dX7_write_29 ?_
      refine lv_aload_n hx hb dX7_write_32 rfl (lv_at hl 0 rfl) ?_
      refine va_get (D := (dC, dI)) (ci := 7) (v := .int length) (C := RX7) (T := TX7) (N := 23) hx hb hts (fun _ hw => List.mem_cons_of_mem _ (List.mem_append_right _ hw)) hown hK hP 0 rfl rfl 4 (by decide) (hts (.fieldLink RX7 79 "PrefixIndexModel" "length" "I") (List.mem_of_getElem? (i := 2) rfl)) (fun _ h9 => h9) rfl dX7_write_33 ?_
      refine lv_iload_n hx hb dX7_write_36 rfl (lv_at hl 1 rfl) ?_
      obtain ⟨hi_5, h⟩ := oin_e h
      refine va_iast hx hb hK hP hD hS 1 0 rfl rfl hi_5 dX7_write_37 (fun H locs hP hD hS => ?_)
      have hP : va_P (dC, dI) vwCl [(h_th, .inr (7, [v_th_row, v_th_undos, v_th_isKept, .ref h_text, .int length, v_th_sizes, v_th_values, v_th_asked, v_th_first, v_th_behind, v_th_readBits, v_th_clauses, v_th_doing, v_th_numbers, v_th_planWord, v_th_addWord, v_th_delWord, v_th_fillWord, v_th_probes, v_th_links, v_th_looks, v_th_found, v_th_isOver])), (h_text, .inl (cyI, 200, .inl (upd text length.toNatClampNeg x0)))] H := hP
      have hD : va_D A [(h_th, .inr (7, [v_th_row, v_th_undos, v_th_isKept, .ref h_text, .int length, v_th_sizes, v_th_values, v_th_asked, v_th_first, v_th_behind, v_th_readBits, v_th_clauses, v_th_doing, v_th_numbers, v_th_planWord, v_th_addWord, v_th_delWord, v_th_fillWord, v_th_probes, v_th_links, v_th_looks, v_th_found, v_th_isOver])), (h_text, .inl (cyI, 200, .inl (upd text length.toNatClampNeg x0)))] := hD
      refine lv_aload_n hx hb dX7_write_38 rfl (lv_at hl 0 rfl) ?_
      refine lv_dup hx hb dX7_write_39 rfl ?_
      refine va_get (D := (dC, dI)) (ci := 7) (v := .int length) (C := RX7) (T := TX7) (N := 23) hx hb hts (fun _ hw => List.mem_cons_of_mem _ (List.mem_append_right _ hw)) hown hK hP 0 rfl rfl 4 (by decide) (hts (.fieldLink RX7 79 "PrefixIndexModel" "length" "I") (List.mem_of_getElem? (i := 2) rfl)) (fun _ h9 => h9) rfl dX7_write_40 ?_
      refine lv_iconst (v := 1) hx hb dX7_write_43 (by decide) ?_
      refine lv_iadd hx hb dX7_write_44 ?_
      refine va_put (D := (dC, dI)) (ci := 7) (v := .int (length + (1 : Int32))) (ty := .int) (C := RX7) (T := TX7) (N := 23) hx hb hts (fun _ hw => List.mem_cons_of_mem _ (List.mem_append_right _ hw)) tyX7 tyX7_ok nmX7 hown hK hP hD hS 0 rfl rfl 4 (by decide) (hts (.fieldLink RX7 79 "PrefixIndexModel" "length" "I") (List.mem_of_getElem? (i := 2) rfl)) (fun _ h9 => h9) rfl (by decide +kernel) rfl rfl (Nat.le_of_ble_eq_true rfl) dX7_write_45 (fun H locs hP hD hS => ?_)
      have hP : va_P (dC, dI) vwCl [(h_th, .inr (7, [v_th_row, v_th_undos, v_th_isKept, .ref h_text, .int (length + (1 : Int32)), v_th_sizes, v_th_values, v_th_asked, v_th_first, v_th_behind, v_th_readBits, v_th_clauses, v_th_doing, v_th_numbers, v_th_planWord, v_th_addWord, v_th_delWord, v_th_fillWord, v_th_probes, v_th_links, v_th_looks, v_th_found, v_th_isOver])), (h_text, .inl (cyI, 200, .inl (upd text length.toNatClampNeg x0)))] H := hP
      have hD : va_D A [(h_th, .inr (7, [v_th_row, v_th_undos, v_th_isKept, .ref h_text, .int (length + (1 : Int32)), v_th_sizes, v_th_values, v_th_asked, v_th_first, v_th_behind, v_th_readBits, v_th_clauses, v_th_doing, v_th_numbers, v_th_planWord, v_th_addWord, v_th_delWord, v_th_fillWord, v_th_probes, v_th_links, v_th_looks, v_th_found, v_th_isOver])), (h_text, .inl (cyI, 200, .inl (upd text length.toNatClampNeg x0)))] := hD
      refine lv_aload_n hx hb dX7_write_48 rfl (lv_at hl 0 rfl) ?_
      refine va_get (D := (dC, dI)) (ci := 7) (v := .int (length + (1 : Int32))) (C := RX7) (T := TX7) (N := 23) hx hb hts (fun _ hw => List.mem_cons_of_mem _ (List.mem_append_right _ hw)) hown hK hP 0 rfl rfl 4 (by decide) (hts (.fieldLink RX7 79 "PrefixIndexModel" "length" "I") (List.mem_of_getElem? (i := 2) rfl)) (fun _ h9 => h9) rfl dX7_write_49 ?_
      obtain rfl := Option.some.inj h
      exact hret _ _ _ _ dX7_write_52 hP hD hS
    · have h := og_ite_t c_4 h
      refine lv_bipush (v := (-5)) hx hb dX7_write_25 (by decide) ?_
      obtain rfl := Option.some.inj h
      exact hret _ _ _ _ dX7_write_27 hP hD hS
  · have h := og_ite_t c_3 h
    refine lv_bipush (v := (-3)) hx hb dX7_write_12 (by decide) ?_
    obtain rfl := Option.some.inj h
    exact hret _ _ _ _ dX7_write_14 hP hD hS

def fX7_erase (length : Int32) : Option (Int32 × Int32) := some (length, (0 : Int32))

set_option maxHeartbeats 4000000 in
set_option maxRecDepth 100000 in
theorem tX7_erase (l : Launch) (dC : Nat → ClassId) (dI : Nat → Nat → Nat) (cyI cyJ cyZ cyO : ClassId) (sz : Nat) (h_th : Nat) (v_th_row : Value) (v_th_undos : Value) (v_th_isKept : Value) (v_th_text : Value) (v_th_sizes : Value) (v_th_values : Value) (v_th_asked : Value) (v_th_first : Value) (v_th_behind : Value) (v_th_readBits : Value) (v_th_clauses : Value) (v_th_doing : Value) (v_th_numbers : Value) (v_th_planWord : Value) (v_th_addWord : Value) (v_th_delWord : Value) (v_th_fillWord : Value) (v_th_probes : Value) (v_th_links : Value) (v_th_looks : Value) (v_th_found : Value) (v_th_isOver : Value) (length : Int32) (u : Int32 × Int32) (hf : fX7_erase length = some u) : Met l yX7_erase wsX7_erase ({ frames := 0, cells := 0, slots := 0, locals := 0 }) (va_Pc [.ref h_th] (GP (dC, dI) (T4 cyI cyJ cyZ cyO) sz [(h_th, .inr (7, [v_th_row, v_th_undos, v_th_isKept, v_th_text, .int length, v_th_sizes, v_th_values, v_th_asked, v_th_first, v_th_behind, v_th_readBits, v_th_clauses, v_th_doing, v_th_numbers, v_th_planWord, v_th_addWord, v_th_delWord, v_th_fillWord, v_th_probes, v_th_links, v_th_looks, v_th_found, v_th_isOver]))])) (va_Qi (fun (r : Int32) (_ : Unit) => r = u.1) (GB (dC, dI) [(h_th, .inr (7, [v_th_row, v_th_undos, v_th_isKept, v_th_text, .int u.2, v_th_sizes, v_th_values, v_th_asked, v_th_first, v_th_behind, v_th_readBits, v_th_clauses, v_th_doing, v_th_numbers, v_th_planWord, v_th_addWord, v_th_delWord, v_th_fillWord, v_th_probes, v_th_links, v_th_looks, v_th_found, v_th_isOver]))] (va_A [(h_th, .inr (7, [v_th_row, v_th_undos, v_th_isKept, v_th_text, .int length, v_th_sizes, v_th_values, v_th_asked, v_th_first, v_th_behind, v_th_readBits, v_th_clauses, v_th_doing, v_th_numbers, v_th_planWord, v_th_addWord, v_th_delWord, v_th_fillWord, v_th_probes, v_th_links, v_th_looks, v_th_found, v_th_isOver]))] sz)) (va_A [(h_th, .inr (7, [v_th_row, v_th_undos, v_th_isKept, v_th_text, .int length, v_th_sizes, v_th_values, v_th_asked, v_th_first, v_th_behind, v_th_readBits, v_th_clauses, v_th_doing, v_th_numbers, v_th_planWord, v_th_addWord, v_th_delWord, v_th_fillWord, v_th_probes, v_th_links, v_th_looks, v_th_found, v_th_isOver]))] sz)) 0 0 (va_A [(h_th, .inr (7, [v_th_row, v_th_undos, v_th_isKept, v_th_text, .int length, v_th_sizes, v_th_values, v_th_asked, v_th_first, v_th_behind, v_th_readBits, v_th_clauses, v_th_doing, v_th_numbers, v_th_planWord, v_th_addWord, v_th_delWord, v_th_fillWord, v_th_probes, v_th_links, v_th_looks, v_th_found, v_th_isOver]))] sz) := by
  refine GMetI (by decide) rfl (Nat.le_of_ble_eq_true rfl) ?_
  intro p e s m args below meth c A Q ls hx hb hml hts hown hN hK hA hret hP hD hS hl
  have h := hf
  clear hf
  unfold fX7_erase at h
  have hown : s.vm.findClass RX7 = some m.cls := hown
  have hl : lv_has ls 2 [(0, .ref h_th)] := hl
  refine lv_aload_n hx hb dX7_erase_0 rfl (lv_at hl 0 rfl) ?_
  refine va_get (D := (dC, dI)) (ci := 7) (v := .int length) (C := RX7) (T := TX7) (N := 23) hx hb hts (fun _ hw => List.mem_cons_of_mem _ (List.mem_append_right _ hw)) hown hK hP 0 rfl rfl 4 (by decide) (hts (.fieldLink RX7 79 "PrefixIndexModel" "length" "I") (List.mem_of_getElem? (i := 1) rfl)) (fun _ h9 => h9) rfl dX7_erase_1 ?_
  refine lv_istore_n (lv' := [(1, .int length), (0, .ref h_th)]) hx hb dX7_erase_4 rfl hl (by decide) rfl (fun ls hl => ?_)
  refine lv_aload_n hx hb dX7_erase_5 rfl (lv_at hl 1 rfl) ?_
  refine lv_iconst (v := 0) hx hb dX7_erase_6 (by decide) ?_
  refine va_put (D := (dC, dI)) (ci := 7) (v := .int (0 : Int32)) (ty := .int) (C := RX7) (T := TX7) (N := 23) hx hb hts (fun _ hw => List.mem_cons_of_mem _ (List.mem_append_right _ hw)) tyX7 tyX7_ok nmX7 hown hK hP hD hS 0 rfl rfl 4 (by decide) (hts (.fieldLink RX7 79 "PrefixIndexModel" "length" "I") (List.mem_of_getElem? (i := 1) rfl)) (fun _ h9 => h9) rfl (by decide +kernel) rfl rfl (Nat.le_of_ble_eq_true rfl) dX7_erase_7 (fun H locs hP hD hS => ?_)
  have hP : va_P (dC, dI) vwCl [(h_th, .inr (7, [v_th_row, v_th_undos, v_th_isKept, v_th_text, .int (0 : Int32), v_th_sizes, v_th_values, v_th_asked, v_th_first, v_th_behind, v_th_readBits, v_th_clauses, v_th_doing, v_th_numbers, v_th_planWord, v_th_addWord, v_th_delWord, v_th_fillWord, v_th_probes, v_th_links, v_th_looks, v_th_found, v_th_isOver]))] H := hP
  have hD : va_D A [(h_th, .inr (7, [v_th_row, v_th_undos, v_th_isKept, v_th_text, .int (0 : Int32), v_th_sizes, v_th_values, v_th_asked, v_th_first, v_th_behind, v_th_readBits, v_th_clauses, v_th_doing, v_th_numbers, v_th_planWord, v_th_addWord, v_th_delWord, v_th_fillWord, v_th_probes, v_th_links, v_th_looks, v_th_found, v_th_isOver]))] := hD
  refine lv_iload_n hx hb dX7_erase_10 rfl (lv_at hl 0 rfl) ?_
  obtain rfl := Option.some.inj h
  exact hret _ _ _ _ dX7_erase_11 hP hD hS

def fX7_isLetter (x0 : Int32) : Option (Int32) := obd (fX7_in x0.toInt64 (97 : Int64) (122 : Int64)) fun u_1 => obl u_1 (some u_1)

set_option maxHeartbeats 4000000 in
set_option maxRecDepth 100000 in
theorem tX7_isLetter (l : Launch) (dC : Nat → ClassId) (dI : Nat → Nat → Nat) (cyI cyJ cyZ cyO : ClassId) (sz : Nat) (x0 : Int32) (u : Int32) (hf : fX7_isLetter x0 = some u) : Met l yX7_isLetter wsX7_isLetter ({ frames := 1, cells := 0, slots := 0, locals := 25 }) (va_Pc [.int x0] (GP (dC, dI) (T4 cyI cyJ cyZ cyO) sz [])) (va_Qi (fun (r : Int32) (_ : Unit) => r = u) (GB (dC, dI) [] (va_A [] sz)) (va_A [] sz)) 0 0 (va_A [] sz) := by
  refine GMetZ (by decide) rfl (Nat.le_of_ble_eq_true rfl) ?_
  intro p e s m args below meth c A Q ls hx hb hml hts hown hN hK hA hret hP hD hS hl
  have h := hf
  clear hf
  unfold fX7_isLetter at h
  have hown : s.vm.findClass RX7 = some m.cls := hown
  have hl : lv_has ls 1 [(0, .int x0)] := hl
  refine lv_iload_n hx hb dX7_isLetter_0 rfl (lv_at hl 0 rfl) ?_
  refine lv_i2l (v := x0.toInt64) hx hb dX7_isLetter_1 rfl ?_
  refine lv_ldc2 hx hb hown (hts (.constantLong RX7 83 (97)) (List.mem_of_getElem? (i := 1) rfl)) dX7_isLetter_2 ?_
  refine lv_ldc2 hx hb hown (hts (.constantLong RX7 85 (122)) (List.mem_of_getElem? (i := 2) rfl)) dX7_isLetter_5 ?_
  obtain ⟨u_1, hc_2, h⟩ := obd_e h
  refine Gci (wr := []) (va_runS (As := [.long x0.toInt64, .long (97 : Int64), .long (122 : Int64)]) (rest := []) ⟨hx, hb, hml, hown, hts⟩ (tX7_in l dC dI cyI cyJ cyZ cyO s.heap.size x0.toInt64 (97 : Int64) (122 : Int64) u_1 hc_2) (cwS 3 hts gX7_isLetter_X7_in rfl rfl rfl (by decide +kernel) ⟨Nat.le_of_ble_eq_true rfl, Nat.le_of_ble_eq_true rfl⟩) (GpreS hP hD hK hN [] rfl (by decide)) rfl rfl hl.1 rfl (lv_room (Nat.le_of_ble_eq_true rfl)) dX7_isLetter_8 ⟨Nat.zero_le _, Nat.zero_le _⟩) hP hD hS hA [] [] rfl rfl (by decide) (by decide) (fun H locs hP hD hS => ?_)
  have hP : va_P (dC, dI) vwCl [] H := hP
  have hD : va_D A [] := hD
  obtain ⟨hz, h⟩ := obl_e h
  obtain rfl := Option.some.inj h
  exact hret _ _ _ _ dX7_isLetter_11 hz hP hD hS

def fX7_isDigit (x0 : Int32) : Option (Int32) := obd (fX7_in x0.toInt64 (48 : Int64) (57 : Int64)) fun u_1 => obl u_1 (some u_1)

set_option maxHeartbeats 4000000 in
set_option maxRecDepth 100000 in
theorem tX7_isDigit (l : Launch) (dC : Nat → ClassId) (dI : Nat → Nat → Nat) (cyI cyJ cyZ cyO : ClassId) (sz : Nat) (x0 : Int32) (u : Int32) (hf : fX7_isDigit x0 = some u) : Met l yX7_isDigit wsX7_isDigit ({ frames := 1, cells := 0, slots := 0, locals := 25 }) (va_Pc [.int x0] (GP (dC, dI) (T4 cyI cyJ cyZ cyO) sz [])) (va_Qi (fun (r : Int32) (_ : Unit) => r = u) (GB (dC, dI) [] (va_A [] sz)) (va_A [] sz)) 0 0 (va_A [] sz) := by
  refine GMetZ (by decide) rfl (Nat.le_of_ble_eq_true rfl) ?_
  intro p e s m args below meth c A Q ls hx hb hml hts hown hN hK hA hret hP hD hS hl
  have h := hf
  clear hf
  unfold fX7_isDigit at h
  have hown : s.vm.findClass RX7 = some m.cls := hown
  have hl : lv_has ls 1 [(0, .int x0)] := hl
  refine lv_iload_n hx hb dX7_isDigit_0 rfl (lv_at hl 0 rfl) ?_
  refine lv_i2l (v := x0.toInt64) hx hb dX7_isDigit_1 rfl ?_
  refine lv_ldc2 hx hb hown (hts (.constantLong RX7 87 (48)) (List.mem_of_getElem? (i := 1) rfl)) dX7_isDigit_2 ?_
  refine lv_ldc2 hx hb hown (hts (.constantLong RX7 89 (57)) (List.mem_of_getElem? (i := 2) rfl)) dX7_isDigit_5 ?_
  obtain ⟨u_1, hc_2, h⟩ := obd_e h
  refine Gci (wr := []) (va_runS (As := [.long x0.toInt64, .long (48 : Int64), .long (57 : Int64)]) (rest := []) ⟨hx, hb, hml, hown, hts⟩ (tX7_in l dC dI cyI cyJ cyZ cyO s.heap.size x0.toInt64 (48 : Int64) (57 : Int64) u_1 hc_2) (cwS 3 hts gX7_isDigit_X7_in rfl rfl rfl (by decide +kernel) ⟨Nat.le_of_ble_eq_true rfl, Nat.le_of_ble_eq_true rfl⟩) (GpreS hP hD hK hN [] rfl (by decide)) rfl rfl hl.1 rfl (lv_room (Nat.le_of_ble_eq_true rfl)) dX7_isDigit_8 ⟨Nat.zero_le _, Nat.zero_le _⟩) hP hD hS hA [] [] rfl rfl (by decide) (by decide) (fun H locs hP hD hS => ?_)
  have hP : va_P (dC, dI) vwCl [] H := hP
  have hD : va_D A [] := hD
  obtain ⟨hz, h⟩ := obl_e h
  obtain rfl := Option.some.inj h
  exact hret _ _ _ _ dX7_isDigit_11 hz hP hD hS

def lpX7_nextToken_8 (length : Int32) (text : (Nat → Int32)) : Nat → Int32 → Option (Int32)
  | 0, _ => none
  | n + 1, zfirst => if length ≤ zfirst then (some zfirst) else (oin zfirst 200 (if (text zfirst.toNatClampNeg) = (32 : Int32) then (lpX7_nextToken_8 length text n (zfirst + (1 : Int32))) else (some zfirst)))

def lpX7_nextToken_165 (length : Int32) (text : (Nat → Int32)) : Nat → Int32 → Option (Int32)
  | 0, _ => none
  | n + 1, zbehind => if length ≤ zbehind then (some zbehind) else (oin zbehind 200 (obd (fX7_isDigit (text zbehind.toNatClampNeg)) fun u_22 => if u_22 = 0 then (some zbehind) else (lpX7_nextToken_165 length text n (zbehind + (1 : Int32)))))

def lpX7_nextToken_100 (length : Int32) (text : (Nat → Int32)) : Nat → Int32 → Option (Int32)
  | 0, _ => none
  | n + 1, zbehind => if length ≤ zbehind then (some zbehind) else (oin zbehind 200 (obd (fX7_isLetter (text zbehind.toNatClampNeg)) fun u_57 => if u_57 = 0 then (some zbehind) else (lpX7_nextToken_100 length text n (zbehind + (1 : Int32)))))

def fX7_nextToken (length : Int32) (first : Int32) (behind : Int32) (text : (Nat → Int32)) : Option (Int32 × Int32) := obd (lpX7_nextToken_8 length text 100000 behind) fun w_8 => olet (if length ≤ w_8 then (w_8) else ((w_8 + (1 : Int32)))) fun y_11 => obd (if length ≤ w_8 then (if length ≤ w_8 then (some y_11) else (oin w_8 200 (obd (fX7_isDigit (text w_8.toNatClampNeg)) fun u_16 => if u_16 = 0 then (some y_11) else (obd (lpX7_nextToken_165 length text 100000 y_11) fun w_30 => some w_30)))) else (oin w_8 200 (obd (fX7_isLetter (text w_8.toNatClampNeg)) fun u_33 => if u_33 = 0 then (if length ≤ w_8 then (some y_11) else (oin w_8 200 (obd (fX7_isDigit (text w_8.toNatClampNeg)) fun u_38 => if u_38 = 0 then (some y_11) else (obd (lpX7_nextToken_165 length text 100000 y_11) fun w_52 => some w_52)))) else (obd (lpX7_nextToken_100 length text 100000 y_11) fun w_65 => some w_65)))) fun w_13 => some (w_8, w_13)

set_option maxHeartbeats 4000000 in
set_option maxRecDepth 100000 in
theorem tX7_nextToken (l : Launch) (dC : Nat → ClassId) (dI : Nat → Nat → Nat) (cyI cyJ cyZ cyO : ClassId) (sz : Nat) (h_th h_text : Nat) (v_th_row : Value) (v_th_undos : Value) (v_th_isKept : Value) (v_th_sizes : Value) (v_th_values : Value) (v_th_asked : Value) (v_th_readBits : Value) (v_th_clauses : Value) (v_th_doing : Value) (v_th_numbers : Value) (v_th_planWord : Value) (v_th_addWord : Value) (v_th_delWord : Value) (v_th_fillWord : Value) (v_th_probes : Value) (v_th_links : Value) (v_th_looks : Value) (v_th_found : Value) (v_th_isOver : Value) (length : Int32) (first : Int32) (behind : Int32) (text : (Nat → Int32)) (u : Int32 × Int32) (hf : fX7_nextToken length first behind text = some u) : Met l yX7_nextToken wsX7_nextToken ({ frames := 2, cells := 0, slots := 0, locals := 45 }) (va_Pc [.ref h_th] (GP (dC, dI) (T4 cyI cyJ cyZ cyO) sz [(h_th, .inr (7, [v_th_row, v_th_undos, v_th_isKept, .ref h_text, .int length, v_th_sizes, v_th_values, v_th_asked, .int first, .int behind, v_th_readBits, v_th_clauses, v_th_doing, v_th_numbers, v_th_planWord, v_th_addWord, v_th_delWord, v_th_fillWord, v_th_probes, v_th_links, v_th_looks, v_th_found, v_th_isOver])), (h_text, .inl (cyI, 200, .inl text))])) (va_Qv (fun (_ : Unit) => True) (GB (dC, dI) [(h_th, .inr (7, [v_th_row, v_th_undos, v_th_isKept, .ref h_text, .int length, v_th_sizes, v_th_values, v_th_asked, .int u.1, .int u.2, v_th_readBits, v_th_clauses, v_th_doing, v_th_numbers, v_th_planWord, v_th_addWord, v_th_delWord, v_th_fillWord, v_th_probes, v_th_links, v_th_looks, v_th_found, v_th_isOver])), (h_text, .inl (cyI, 200, .inl text))] (va_A [(h_th, .inr (7, [v_th_row, v_th_undos, v_th_isKept, .ref h_text, .int length, v_th_sizes, v_th_values, v_th_asked, .int first, .int behind, v_th_readBits, v_th_clauses, v_th_doing, v_th_numbers, v_th_planWord, v_th_addWord, v_th_delWord, v_th_fillWord, v_th_probes, v_th_links, v_th_looks, v_th_found, v_th_isOver])), (h_text, .inl (cyI, 200, .inl text))] sz)) (va_A [(h_th, .inr (7, [v_th_row, v_th_undos, v_th_isKept, .ref h_text, .int length, v_th_sizes, v_th_values, v_th_asked, .int first, .int behind, v_th_readBits, v_th_clauses, v_th_doing, v_th_numbers, v_th_planWord, v_th_addWord, v_th_delWord, v_th_fillWord, v_th_probes, v_th_links, v_th_looks, v_th_found, v_th_isOver])), (h_text, .inl (cyI, 200, .inl text))] sz)) 0 0 (va_A [(h_th, .inr (7, [v_th_row, v_th_undos, v_th_isKept, .ref h_text, .int length, v_th_sizes, v_th_values, v_th_asked, .int first, .int behind, v_th_readBits, v_th_clauses, v_th_doing, v_th_numbers, v_th_planWord, v_th_addWord, v_th_delWord, v_th_fillWord, v_th_probes, v_th_links, v_th_looks, v_th_found, v_th_isOver])), (h_text, .inl (cyI, 200, .inl text))] sz) := by
  refine GMetV (by decide) rfl (Nat.le_of_ble_eq_true rfl) ?_
  intro p e s m args below meth c A Q ls hx hb hml hts hown hN hK hA hret hP hD hS hl
  have h := hf
  clear hf
  unfold fX7_nextToken at h
  have hown : s.vm.findClass RX7 = some m.cls := hown
  have hl : lv_has ls 1 [(0, .ref h_th)] := hl
  refine lv_aload_n hx hb dX7_nextToken_0 rfl (lv_at hl 0 rfl) ?_
  refine lv_aload_n hx hb dX7_nextToken_1 rfl (lv_at hl 0 rfl) ?_
  refine va_get (D := (dC, dI)) (ci := 7) (v := .int behind) (C := RX7) (T := TX7) (N := 23) hx hb hts (fun _ hw => List.mem_cons_of_mem _ (List.mem_append_right _ hw)) hown hK hP 0 rfl rfl 9 (by decide) (hts (.fieldLink RX7 91 "PrefixIndexModel" "behind" "I") (List.mem_of_getElem? (i := 1) rfl)) (fun _ h9 => h9) rfl dX7_nextToken_2 ?_
  refine va_put (D := (dC, dI)) (ci := 7) (v := .int behind) (ty := .int) (C := RX7) (T := TX7) (N := 23) hx hb hts (fun _ hw => List.mem_cons_of_mem _ (List.mem_append_right _ hw)) tyX7 tyX7_ok nmX7 hown hK hP hD hS 0 rfl rfl 8 (by decide) (hts (.fieldLink RX7 94 "PrefixIndexModel" "first" "I") (List.mem_of_getElem? (i := 2) rfl)) (fun _ h9 => h9) rfl (by decide +kernel) rfl rfl (Nat.le_of_ble_eq_true rfl) dX7_nextToken_5 (fun H locs hP hD hS => ?_)
  have hP : va_P (dC, dI) vwCl [(h_th, .inr (7, [v_th_row, v_th_undos, v_th_isKept, .ref h_text, .int length, v_th_sizes, v_th_values, v_th_asked, .int behind, .int behind, v_th_readBits, v_th_clauses, v_th_doing, v_th_numbers, v_th_planWord, v_th_addWord, v_th_delWord, v_th_fillWord, v_th_probes, v_th_links, v_th_looks, v_th_found, v_th_isOver])), (h_text, .inl (cyI, 200, .inl text))] H := hP
  have hD : va_D A [(h_th, .inr (7, [v_th_row, v_th_undos, v_th_isKept, .ref h_text, .int length, v_th_sizes, v_th_values, v_th_asked, .int behind, .int behind, v_th_readBits, v_th_clauses, v_th_doing, v_th_numbers, v_th_planWord, v_th_addWord, v_th_delWord, v_th_fillWord, v_th_probes, v_th_links, v_th_looks, v_th_found, v_th_isOver])), (h_text, .inl (cyI, 200, .inl text))] := hD
  obtain ⟨w_8, hw_9, h⟩ := obd_e h
  have J : ∀ (H : Heap) (locs : List Loc) (ls : Array Slot), va_P (dC, dI) vwCl [(h_th, .inr (7, [v_th_row, v_th_undos, v_th_isKept, .ref h_text, .int length, v_th_sizes, v_th_values, v_th_asked, .int w_8, .int behind, v_th_readBits, v_th_clauses, v_th_doing, v_th_numbers, v_th_planWord, v_th_addWord, v_th_delWord, v_th_fillWord, v_th_probes, v_th_links, v_th_looks, v_th_found, v_th_isOver])), (h_text, .inl (cyI, 200, .inl text))] H → va_D A [(h_th, .inr (7, [v_th_row, v_th_undos, v_th_isKept, .ref h_text, .int length, v_th_sizes, v_th_values, v_th_asked, .int w_8, .int behind, v_th_readBits, v_th_clauses, v_th_doing, v_th_numbers, v_th_planWord, v_th_addWord, v_th_delWord, v_th_fillWord, v_th_probes, v_th_links, v_th_looks, v_th_found, v_th_isOver])), (h_text, .inl (cyI, 200, .inl text))] → va_S A s.heap H locs → lv_has ls 1 [(0, .ref h_th)] → W p l e ({ frames := 2, cells := 0, slots := 0, locals := 45 }) s m args below meth c H locs 0 0 Q (F0 m 46 ls []) := by
    intro H locs ls hP hD hS hl
    refine lv_aload_n hx hb dX7_nextToken_46 rfl (lv_at hl 0 rfl) ?_
    refine lv_aload_n hx hb dX7_nextToken_47 rfl (lv_at hl 0 rfl) ?_
    refine va_get (D := (dC, dI)) (ci := 7) (v := .int w_8) (C := RX7) (T := TX7) (N := 23) hx hb hts (fun _ hw => List.mem_cons_of_mem _ (List.mem_append_right _ hw)) hown hK hP 0 rfl rfl 8 (by decide) (hts (.fieldLink RX7 94 "PrefixIndexModel" "first" "I") (List.mem_of_getElem? (i := 2) rfl)) (fun _ h9 => h9) rfl dX7_nextToken_48 ?_
    refine lv_aload_n hx hb dX7_nextToken_51 rfl (lv_at hl 0 rfl) ?_
    refine va_get (D := (dC, dI)) (ci := 7) (v := .int length) (C := RX7) (T := TX7) (N := 23) hx hb hts (fun _ hw => List.mem_cons_of_mem _ (List.mem_append_right _ hw)) hown hK hP 0 rfl rfl 4 (by decide) (hts (.fieldLink RX7 79 "PrefixIndexModel" "length" "I") (List.mem_of_getElem? (i := 3) rfl)) (fun _ h9 => h9) rfl dX7_nextToken_52 ?_
    obtain ⟨y_11, ey_11, h⟩ := olet_e h
    have J : ∀ (H : Heap) (locs : List Loc) (ls : Array Slot), va_P (dC, dI) vwCl [(h_th, .inr (7, [v_th_row, v_th_undos, v_th_isKept, .ref h_text, .int length, v_th_sizes, v_th_values, v_th_asked, .int w_8, .int behind, v_th_readBits, v_th_clauses, v_th_doing, v_th_numbers, v_th_planWord, v_th_addWord, v_th_delWord, v_th_fillWord, v_th_probes, v_th_links, v_th_looks, v_th_found, v_th_isOver])), (h_text, .inl (cyI, 200, .inl text))] H → va_D A [(h_th, .inr (7, [v_th_row, v_th_undos, v_th_isKept, .ref h_text, .int length, v_th_sizes, v_th_values, v_th_asked, .int w_8, .int behind, v_th_readBits, v_th_clauses, v_th_doing, v_th_numbers, v_th_planWord, v_th_addWord, v_th_delWord, v_th_fillWord, v_th_probes, v_th_links, v_th_looks, v_th_found, v_th_isOver])), (h_text, .inl (cyI, 200, .inl text))] → va_S A s.heap H locs → lv_has ls 1 [(0, .ref h_th)] → W p l e ({ frames := 2, cells := 0, slots := 0, locals := 45 }) s m args below meth c H locs 0 0 Q (F0 m 71 ls [.int y_11, .ref h_th]) := by
      intro H locs ls hP hD hS hl
      refine va_put (D := (dC, dI)) (ci := 7) (v := .int y_11) (ty := .int) (C := RX7) (T := TX7) (N := 23) hx hb hts (fun _ hw => List.mem_cons_of_mem _ (List.mem_append_right _ hw)) tyX7 tyX7_ok nmX7 hown hK hP hD hS 0 rfl rfl 9 (by decide) (hts (.fieldLink RX7 91 "PrefixIndexModel" "behind" "I") (List.mem_of_getElem? (i := 1) rfl)) (fun _ h9 => h9) rfl (by decide +kernel) rfl rfl (Nat.le_of_ble_eq_true rfl) dX7_nextToken_71 (fun H locs hP hD hS => ?_)
      have hP : va_P (dC, dI) vwCl [(h_th, .inr (7, [v_th_row, v_th_undos, v_th_isKept, .ref h_text, .int length, v_th_sizes, v_th_values, v_th_asked, .int w_8, .int y_11, v_th_readBits, v_th_clauses, v_th_doing, v_th_numbers, v_th_planWord, v_th_addWord, v_th_delWord, v_th_fillWord, v_th_probes, v_th_links, v_th_looks, v_th_found, v_th_isOver])), (h_text, .inl (cyI, 200, .inl text))] H := hP
      have hD : va_D A [(h_th, .inr (7, [v_th_row, v_th_undos, v_th_isKept, .ref h_text, .int length, v_th_sizes, v_th_values, v_th_asked, .int w_8, .int y_11, v_th_readBits, v_th_clauses, v_th_doing, v_th_numbers, v_th_planWord, v_th_addWord, v_th_delWord, v_th_fillWord, v_th_probes, v_th_links, v_th_looks, v_th_found, v_th_isOver])), (h_text, .inl (cyI, 200, .inl text))] := hD
      refine lv_aload_n hx hb dX7_nextToken_74 rfl (lv_at hl 0 rfl) ?_
      refine va_get (D := (dC, dI)) (ci := 7) (v := .int w_8) (C := RX7) (T := TX7) (N := 23) hx hb hts (fun _ hw => List.mem_cons_of_mem _ (List.mem_append_right _ hw)) hown hK hP 0 rfl rfl 8 (by decide) (hts (.fieldLink RX7 94 "PrefixIndexModel" "first" "I") (List.mem_of_getElem? (i := 2) rfl)) (fun _ h9 => h9) rfl dX7_nextToken_75 ?_
      refine lv_aload_n hx hb dX7_nextToken_78 rfl (lv_at hl 0 rfl) ?_
      refine va_get (D := (dC, dI)) (ci := 7) (v := .int length) (C := RX7) (T := TX7) (N := 23) hx hb hts (fun _ hw => List.mem_cons_of_mem _ (List.mem_append_right _ hw)) hown hK hP 0 rfl rfl 4 (by decide) (hts (.fieldLink RX7 79 "PrefixIndexModel" "length" "I") (List.mem_of_getElem? (i := 3) rfl)) (fun _ h9 => h9) rfl dX7_nextToken_79 ?_
      obtain ⟨w_13, hm_67, h⟩ := obd_e h
      have J : ∀ (H : Heap) (locs : List Loc) (ls : Array Slot), va_P (dC, dI) vwCl [(h_th, .inr (7, [v_th_row, v_th_undos, v_th_isKept, .ref h_text, .int length, v_th_sizes, v_th_values, v_th_asked, .int w_8, .int w_13, v_th_readBits, v_th_clauses, v_th_doing, v_th_numbers, v_th_planWord, v_th_addWord, v_th_delWord, v_th_fillWord, v_th_probes, v_th_links, v_th_looks, v_th_found, v_th_isOver])), (h_text, .inl (cyI, 200, .inl text))] H → va_D A [(h_th, .inr (7, [v_th_row, v_th_undos, v_th_isKept, .ref h_text, .int length, v_th_sizes, v_th_values, v_th_asked, .int w_8, .int w_13, v_th_readBits, v_th_clauses, v_th_doing, v_th_numbers, v_th_planWord, v_th_addWord, v_th_delWord, v_th_fillWord, v_th_probes, v_th_links, v_th_looks, v_th_found, v_th_isOver])), (h_text, .inl (cyI, 200, .inl text))] → va_S A s.heap H locs → lv_has ls 1 [] → W p l e ({ frames := 2, cells := 0, slots := 0, locals := 45 }) s m args below meth c H locs 0 0 Q (F0 m 204 ls []) := by
        intro H locs ls hP hD hS hl
        obtain rfl := Option.some.inj h
        exact hret _ _ _ _ dX7_nextToken_204 hP hD hS
      replace h := hm_67
      refine lv_icmp_ge (tgt := 139) hx hb dX7_nextToken_82 (by decide) (fun c_12 => ?_) (fun c_12 => ?_)
      · have h := og_ite_t c_12 h
        refine lv_aload_n hx hb dX7_nextToken_139 rfl (lv_at hl 0 rfl) ?_
        refine va_get (D := (dC, dI)) (ci := 7) (v := .int w_8) (C := RX7) (T := TX7) (N := 23) hx hb hts (fun _ hw => List.mem_cons_of_mem _ (List.mem_append_right _ hw)) hown hK hP 0 rfl rfl 8 (by decide) (hts (.fieldLink RX7 94 "PrefixIndexModel" "first" "I") (List.mem_of_getElem? (i := 2) rfl)) (fun _ h9 => h9) rfl dX7_nextToken_140 ?_
        refine lv_aload_n hx hb dX7_nextToken_143 rfl (lv_at hl 0 rfl) ?_
        refine va_get (D := (dC, dI)) (ci := 7) (v := .int length) (C := RX7) (T := TX7) (N := 23) hx hb hts (fun _ hw => List.mem_cons_of_mem _ (List.mem_append_right _ hw)) hown hK hP 0 rfl rfl 4 (by decide) (hts (.fieldLink RX7 79 "PrefixIndexModel" "length" "I") (List.mem_of_getElem? (i := 3) rfl)) (fun _ h9 => h9) rfl dX7_nextToken_144 ?_
        refine lv_icmp_ge (tgt := 204) hx hb dX7_nextToken_147 (by decide) (fun c_14 => ?_) (fun c_14 => ?_)
        · have h := og_ite_t c_14 h
          obtain rfl := Option.some.inj h
          exact J _ _ _ hP hD hS (lv_sub hl [] rfl)
        · have h := og_ite_f c_14 h
          refine lv_aload_n hx hb dX7_nextToken_150 rfl (lv_at hl 0 rfl) ?_
          refine va_get (D := (dC, dI)) (ci := 7) (v := .ref h_text) (C := RX7) (T := TX7) (N := 23) hx hb hts (fun _ hw => List.mem_cons_of_mem _ (List.mem_append_right _ hw)) hown hK hP 0 rfl rfl 3 (by decide) (hts (.fieldLink RX7 17 "PrefixIndexModel" "text" "[I") (List.mem_of_getElem? (i := 4) rfl)) (fun _ h9 => h9) rfl dX7_nextToken_151 ?_
          refine lv_aload_n hx hb dX7_nextToken_154 rfl (lv_at hl 0 rfl) ?_
          refine va_get (D := (dC, dI)) (ci := 7) (v := .int w_8) (C := RX7) (T := TX7) (N := 23) hx hb hts (fun _ hw => List.mem_cons_of_mem _ (List.mem_append_right _ hw)) hown hK hP 0 rfl rfl 8 (by decide) (hts (.fieldLink RX7 94 "PrefixIndexModel" "first" "I") (List.mem_of_getElem? (i := 2) rfl)) (fun _ h9 => h9) rfl dX7_nextToken_155 ?_
          obtain ⟨hi_15, h⟩ := oin_e h
          refine va_iald hx hb hK hP 1 0 rfl rfl hi_15 dX7_nextToken_158 ?_
          obtain ⟨u_16, hc_17, h⟩ := obd_e h
          refine Gci (wr := [(h_th, .inr (7, [v_th_row, v_th_undos, v_th_isKept, .ref h_text, .int length, v_th_sizes, v_th_values, v_th_asked, .int w_8, .int y_11, v_th_readBits, v_th_clauses, v_th_doing, v_th_numbers, v_th_planWord, v_th_addWord, v_th_delWord, v_th_fillWord, v_th_probes, v_th_links, v_th_looks, v_th_found, v_th_isOver])), (h_text, .inl (cyI, 200, .inl text))]) (va_runS (As := [.int (text w_8.toNatClampNeg)]) (rest := []) ⟨hx, hb, hml, hown, hts⟩ (tX7_isDigit l dC dI cyI cyJ cyZ cyO H.size (text w_8.toNatClampNeg) u_16 hc_17) (cwS 1 hts gX7_nextToken_X7_isDigit rfl rfl rfl (by decide +kernel) ⟨Nat.le_of_ble_eq_true rfl, Nat.le_of_ble_eq_true rfl⟩) (GpreS hP hD hK hN [] rfl (by decide)) rfl rfl hl.1 rfl (lv_room (Nat.le_of_ble_eq_true rfl)) dX7_nextToken_159 ⟨Nat.zero_le _, Nat.zero_le _⟩) hP hD hS hA [] [0, 1] rfl rfl (by decide) (by decide) (fun H locs hP hD hS => ?_)
          have hP : va_P (dC, dI) vwCl [(h_th, .inr (7, [v_th_row, v_th_undos, v_th_isKept, .ref h_text, .int length, v_th_sizes, v_th_values, v_th_asked, .int w_8, .int y_11, v_th_readBits, v_th_clauses, v_th_doing, v_th_numbers, v_th_planWord, v_th_addWord, v_th_delWord, v_th_fillWord, v_th_probes, v_th_links, v_th_looks, v_th_found, v_th_isOver])), (h_text, .inl (cyI, 200, .inl text))] H := hP
          have hD : va_D A [(h_th, .inr (7, [v_th_row, v_th_undos, v_th_isKept, .ref h_text, .int length, v_th_sizes, v_th_values, v_th_asked, .int w_8, .int y_11, v_th_readBits, v_th_clauses, v_th_doing, v_th_numbers, v_th_planWord, v_th_addWord, v_th_delWord, v_th_fillWord, v_th_probes, v_th_links, v_th_looks, v_th_found, v_th_isOver])), (h_text, .inl (cyI, 200, .inl text))] := hD
          refine lv_if_eq (tgt := 204) hx hb dX7_nextToken_162 (by decide) (fun c_18 => ?_) (fun c_18 => ?_)
          · have h := og_ite_t c_18 h
            obtain rfl := Option.some.inj h
            exact J _ _ _ hP hD hS (lv_sub hl [] rfl)
          · have h := og_ite_f c_18 h
            obtain ⟨w_30, hw_31, h⟩ := obd_e h
            have J : ∀ (H : Heap) (locs : List Loc) (ls : Array Slot), va_P (dC, dI) vwCl [(h_th, .inr (7, [v_th_row, v_th_undos, v_th_isKept, .ref h_text, .int length, v_th_sizes, v_th_values, v_th_asked, .int w_8, .int w_30, v_th_readBits, v_th_clauses, v_th_doing, v_th_numbers, v_th_planWord, v_th_addWord, v_th_delWord, v_th_fillWord, v_th_probes, v_th_links, v_th_looks, v_th_found, v_th_isOver])), (h_text, .inl (cyI, 200, .inl text))] H → va_D A [(h_th, .inr (7, [v_th_row, v_th_undos, v_th_isKept, .ref h_text, .int length, v_th_sizes, v_th_values, v_th_asked, .int w_8, .int w_30, v_th_readBits, v_th_clauses, v_th_doing, v_th_numbers, v_th_planWord, v_th_addWord, v_th_delWord, v_th_fillWord, v_th_probes, v_th_links, v_th_looks, v_th_found, v_th_isOver])), (h_text, .inl (cyI, 200, .inl text))] → va_S A s.heap H locs → lv_has ls 1 [] → W p l e ({ frames := 2, cells := 0, slots := 0, locals := 45 }) s m args below meth c H locs 0 0 Q (F0 m 204 ls []) := by
              intro H locs ls hP hD hS hl
              obtain rfl := Option.some.inj h
              exact J _ _ _ hP hD hS hl
            have LL : ∀ (n : Nat) (zbehind : Int32) (H : Heap) (locs : List Loc) (ls : Array Slot), lpX7_nextToken_165 length text n zbehind = some w_30 → va_P (dC, dI) vwCl [(h_th, .inr (7, [v_th_row, v_th_undos, v_th_isKept, .ref h_text, .int length, v_th_sizes, v_th_values, v_th_asked, .int w_8, .int zbehind, v_th_readBits, v_th_clauses, v_th_doing, v_th_numbers, v_th_planWord, v_th_addWord, v_th_delWord, v_th_fillWord, v_th_probes, v_th_links, v_th_looks, v_th_found, v_th_isOver])), (h_text, .inl (cyI, 200, .inl text))] H → va_D A [(h_th, .inr (7, [v_th_row, v_th_undos, v_th_isKept, .ref h_text, .int length, v_th_sizes, v_th_values, v_th_asked, .int w_8, .int zbehind, v_th_readBits, v_th_clauses, v_th_doing, v_th_numbers, v_th_planWord, v_th_addWord, v_th_delWord, v_th_fillWord, v_th_probes, v_th_links, v_th_looks, v_th_found, v_th_isOver])), (h_text, .inl (cyI, 200, .inl text))] → va_S A s.heap H locs → lv_has ls 1 [(0, .ref h_th)] → W p l e ({ frames := 2, cells := 0, slots := 0, locals := 45 }) s m args below meth c H locs 0 0 Q (F0 m 165 ls []) := by
              intro n
              induction n with
              | zero =>
                intro zbehind H locs ls h
                exact absurd h (by rw [lpX7_nextToken_165]; exact fun q => by cases q)
              | succ n ih =>
                intro zbehind H locs ls h hP hD hS hl
                rw [lpX7_nextToken_165] at h
                refine lv_aload_n hx hb dX7_nextToken_165 rfl (lv_at hl 0 rfl) ?_
                refine va_get (D := (dC, dI)) (ci := 7) (v := .int zbehind) (C := RX7) (T := TX7) (N := 23) hx hb hts (fun _ hw => List.mem_cons_of_mem _ (List.mem_append_right _ hw)) hown hK hP 0 rfl rfl 9 (by decide) (hts (.fieldLink RX7 91 "PrefixIndexModel" "behind" "I") (List.mem_of_getElem? (i := 1) rfl)) (fun _ h9 => h9) rfl dX7_nextToken_166 ?_
                refine lv_aload_n hx hb dX7_nextToken_169 rfl (lv_at hl 0 rfl) ?_
                refine va_get (D := (dC, dI)) (ci := 7) (v := .int length) (C := RX7) (T := TX7) (N := 23) hx hb hts (fun _ hw => List.mem_cons_of_mem _ (List.mem_append_right _ hw)) hown hK hP 0 rfl rfl 4 (by decide) (hts (.fieldLink RX7 79 "PrefixIndexModel" "length" "I") (List.mem_of_getElem? (i := 3) rfl)) (fun _ h9 => h9) rfl dX7_nextToken_170 ?_
                refine lv_icmp_ge (tgt := 204) hx hb dX7_nextToken_173 (by decide) (fun c_25 => ?_) (fun c_25 => ?_)
                · have h := og_ite_t c_25 h
                  obtain rfl := Option.some.inj h
                  exact J _ _ _ hP hD hS (lv_sub hl [] rfl)
                · have h := og_ite_f c_25 h
                  refine lv_aload_n hx hb dX7_nextToken_176 rfl (lv_at hl 0 rfl) ?_
                  refine va_get (D := (dC, dI)) (ci := 7) (v := .ref h_text) (C := RX7) (T := TX7) (N := 23) hx hb hts (fun _ hw => List.mem_cons_of_mem _ (List.mem_append_right _ hw)) hown hK hP 0 rfl rfl 3 (by decide) (hts (.fieldLink RX7 17 "PrefixIndexModel" "text" "[I") (List.mem_of_getElem? (i := 4) rfl)) (fun _ h9 => h9) rfl dX7_nextToken_177 ?_
                  refine lv_aload_n hx hb dX7_nextToken_180 rfl (lv_at hl 0 rfl) ?_
                  refine va_get (D := (dC, dI)) (ci := 7) (v := .int zbehind) (C := RX7) (T := TX7) (N := 23) hx hb hts (fun _ hw => List.mem_cons_of_mem _ (List.mem_append_right _ hw)) hown hK hP 0 rfl rfl 9 (by decide) (hts (.fieldLink RX7 91 "PrefixIndexModel" "behind" "I") (List.mem_of_getElem? (i := 1) rfl)) (fun _ h9 => h9) rfl dX7_nextToken_181 ?_
                  obtain ⟨hi_26, h⟩ := oin_e h
                  refine va_iald hx hb hK hP 1 0 rfl rfl hi_26 dX7_nextToken_184 ?_
                  obtain ⟨u_27, hc_28, h⟩ := obd_e h
                  refine Gci (wr := [(h_th, .inr (7, [v_th_row, v_th_undos, v_th_isKept, .ref h_text, .int length, v_th_sizes, v_th_values, v_th_asked, .int w_8, .int zbehind, v_th_readBits, v_th_clauses, v_th_doing, v_th_numbers, v_th_planWord, v_th_addWord, v_th_delWord, v_th_fillWord, v_th_probes, v_th_links, v_th_looks, v_th_found, v_th_isOver])), (h_text, .inl (cyI, 200, .inl text))]) (va_runS (As := [.int (text zbehind.toNatClampNeg)]) (rest := []) ⟨hx, hb, hml, hown, hts⟩ (tX7_isDigit l dC dI cyI cyJ cyZ cyO H.size (text zbehind.toNatClampNeg) u_27 hc_28) (cwS 1 hts gX7_nextToken_X7_isDigit rfl rfl rfl (by decide +kernel) ⟨Nat.le_of_ble_eq_true rfl, Nat.le_of_ble_eq_true rfl⟩) (GpreS hP hD hK hN [] rfl (by decide)) rfl rfl hl.1 rfl (lv_room (Nat.le_of_ble_eq_true rfl)) dX7_nextToken_185 ⟨Nat.zero_le _, Nat.zero_le _⟩) hP hD hS hA [] [0, 1] rfl rfl (by decide) (by decide) (fun H locs hP hD hS => ?_)
                  have hP : va_P (dC, dI) vwCl [(h_th, .inr (7, [v_th_row, v_th_undos, v_th_isKept, .ref h_text, .int length, v_th_sizes, v_th_values, v_th_asked, .int w_8, .int zbehind, v_th_readBits, v_th_clauses, v_th_doing, v_th_numbers, v_th_planWord, v_th_addWord, v_th_delWord, v_th_fillWord, v_th_probes, v_th_links, v_th_looks, v_th_found, v_th_isOver])), (h_text, .inl (cyI, 200, .inl text))] H := hP
                  have hD : va_D A [(h_th, .inr (7, [v_th_row, v_th_undos, v_th_isKept, .ref h_text, .int length, v_th_sizes, v_th_values, v_th_asked, .int w_8, .int zbehind, v_th_readBits, v_th_clauses, v_th_doing, v_th_numbers, v_th_planWord, v_th_addWord, v_th_delWord, v_th_fillWord, v_th_probes, v_th_links, v_th_looks, v_th_found, v_th_isOver])), (h_text, .inl (cyI, 200, .inl text))] := hD
                  refine lv_if_eq (tgt := 204) hx hb dX7_nextToken_188 (by decide) (fun c_29 => ?_) (fun c_29 => ?_)
                  · have h := og_ite_t c_29 h
                    obtain rfl := Option.some.inj h
                    exact J _ _ _ hP hD hS (lv_sub hl [] rfl)
                  · have h := og_ite_f c_29 h
                    refine lv_aload_n hx hb dX7_nextToken_191 rfl (lv_at hl 0 rfl) ?_
                    refine lv_dup hx hb dX7_nextToken_192 rfl ?_
                    refine va_get (D := (dC, dI)) (ci := 7) (v := .int zbehind) (C := RX7) (T := TX7) (N := 23) hx hb hts (fun _ hw => List.mem_cons_of_mem _ (List.mem_append_right _ hw)) hown hK hP 0 rfl rfl 9 (by decide) (hts (.fieldLink RX7 91 "PrefixIndexModel" "behind" "I") (List.mem_of_getElem? (i := 1) rfl)) (fun _ h9 => h9) rfl dX7_nextToken_193 ?_
                    refine lv_iconst (v := 1) hx hb dX7_nextToken_196 (by decide) ?_
                    refine lv_iadd hx hb dX7_nextToken_197 ?_
                    refine va_put (D := (dC, dI)) (ci := 7) (v := .int (zbehind + (1 : Int32))) (ty := .int) (C := RX7) (T := TX7) (N := 23) hx hb hts (fun _ hw => List.mem_cons_of_mem _ (List.mem_append_right _ hw)) tyX7 tyX7_ok nmX7 hown hK hP hD hS 0 rfl rfl 9 (by decide) (hts (.fieldLink RX7 91 "PrefixIndexModel" "behind" "I") (List.mem_of_getElem? (i := 1) rfl)) (fun _ h9 => h9) rfl (by decide +kernel) rfl rfl (Nat.le_of_ble_eq_true rfl) dX7_nextToken_198 (fun H locs hP hD hS => ?_)
                    have hP : va_P (dC, dI) vwCl [(h_th, .inr (7, [v_th_row, v_th_undos, v_th_isKept, .ref h_text, .int length, v_th_sizes, v_th_values, v_th_asked, .int w_8, .int (zbehind + (1 : Int32)), v_th_readBits, v_th_clauses, v_th_doing, v_th_numbers, v_th_planWord, v_th_addWord, v_th_delWord, v_th_fillWord, v_th_probes, v_th_links, v_th_looks, v_th_found, v_th_isOver])), (h_text, .inl (cyI, 200, .inl text))] H := hP
                    have hD : va_D A [(h_th, .inr (7, [v_th_row, v_th_undos, v_th_isKept, .ref h_text, .int length, v_th_sizes, v_th_values, v_th_asked, .int w_8, .int (zbehind + (1 : Int32)), v_th_readBits, v_th_clauses, v_th_doing, v_th_numbers, v_th_planWord, v_th_addWord, v_th_delWord, v_th_fillWord, v_th_probes, v_th_links, v_th_looks, v_th_found, v_th_isOver])), (h_text, .inl (cyI, 200, .inl text))] := hD
                    refine lv_goto (tgt := 165) hx hb dX7_nextToken_201 (by decide) ?_
                    exact ih (zbehind + (1 : Int32)) _ _ _ h hP hD hS hl
            exact LL _ y_11 _ _ _ hw_31 hP hD hS hl
      · have h := og_ite_f c_12 h
        refine lv_aload_n hx hb dX7_nextToken_85 rfl (lv_at hl 0 rfl) ?_
        refine va_get (D := (dC, dI)) (ci := 7) (v := .ref h_text) (C := RX7) (T := TX7) (N := 23) hx hb hts (fun _ hw => List.mem_cons_of_mem _ (List.mem_append_right _ hw)) hown hK hP 0 rfl rfl 3 (by decide) (hts (.fieldLink RX7 17 "PrefixIndexModel" "text" "[I") (List.mem_of_getElem? (i := 4) rfl)) (fun _ h9 => h9) rfl dX7_nextToken_86 ?_
        refine lv_aload_n hx hb dX7_nextToken_89 rfl (lv_at hl 0 rfl) ?_
        refine va_get (D := (dC, dI)) (ci := 7) (v := .int w_8) (C := RX7) (T := TX7) (N := 23) hx hb hts (fun _ hw => List.mem_cons_of_mem _ (List.mem_append_right _ hw)) hown hK hP 0 rfl rfl 8 (by decide) (hts (.fieldLink RX7 94 "PrefixIndexModel" "first" "I") (List.mem_of_getElem? (i := 2) rfl)) (fun _ h9 => h9) rfl dX7_nextToken_90 ?_
        obtain ⟨hi_32, h⟩ := oin_e h
        refine va_iald hx hb hK hP 1 0 rfl rfl hi_32 dX7_nextToken_93 ?_
        obtain ⟨u_33, hc_34, h⟩ := obd_e h
        refine Gci (wr := [(h_th, .inr (7, [v_th_row, v_th_undos, v_th_isKept, .ref h_text, .int length, v_th_sizes, v_th_values, v_th_asked, .int w_8, .int y_11, v_th_readBits, v_th_clauses, v_th_doing, v_th_numbers, v_th_planWord, v_th_addWord, v_th_delWord, v_th_fillWord, v_th_probes, v_th_links, v_th_looks, v_th_found, v_th_isOver])), (h_text, .inl (cyI, 200, .inl text))]) (va_runS (As := [.int (text w_8.toNatClampNeg)]) (rest := []) ⟨hx, hb, hml, hown, hts⟩ (tX7_isLetter l dC dI cyI cyJ cyZ cyO H.size (text w_8.toNatClampNeg) u_33 hc_34) (cwS 1 hts gX7_nextToken_X7_isLetter rfl rfl rfl (by decide +kernel) ⟨Nat.le_of_ble_eq_true rfl, Nat.le_of_ble_eq_true rfl⟩) (GpreS hP hD hK hN [] rfl (by decide)) rfl rfl hl.1 rfl (lv_room (Nat.le_of_ble_eq_true rfl)) dX7_nextToken_94 ⟨Nat.zero_le _, Nat.zero_le _⟩) hP hD hS hA [] [0, 1] rfl rfl (by decide) (by decide) (fun H locs hP hD hS => ?_)
        have hP : va_P (dC, dI) vwCl [(h_th, .inr (7, [v_th_row, v_th_undos, v_th_isKept, .ref h_text, .int length, v_th_sizes, v_th_values, v_th_asked, .int w_8, .int y_11, v_th_readBits, v_th_clauses, v_th_doing, v_th_numbers, v_th_planWord, v_th_addWord, v_th_delWord, v_th_fillWord, v_th_probes, v_th_links, v_th_looks, v_th_found, v_th_isOver])), (h_text, .inl (cyI, 200, .inl text))] H := hP
        have hD : va_D A [(h_th, .inr (7, [v_th_row, v_th_undos, v_th_isKept, .ref h_text, .int length, v_th_sizes, v_th_values, v_th_asked, .int w_8, .int y_11, v_th_readBits, v_th_clauses, v_th_doing, v_th_numbers, v_th_planWord, v_th_addWord, v_th_delWord, v_th_fillWord, v_th_probes, v_th_links, v_th_looks, v_th_found, v_th_isOver])), (h_text, .inl (cyI, 200, .inl text))] := hD
        refine lv_if_eq (tgt := 139) hx hb dX7_nextToken_97 (by decide) (fun c_35 => ?_) (fun c_35 => ?_)
        · have h := og_ite_t c_35 h
          refine lv_aload_n hx hb dX7_nextToken_139 rfl (lv_at hl 0 rfl) ?_
          refine va_get (D := (dC, dI)) (ci := 7) (v := .int w_8) (C := RX7) (T := TX7) (N := 23) hx hb hts (fun _ hw => List.mem_cons_of_mem _ (List.mem_append_right _ hw)) hown hK hP 0 rfl rfl 8 (by decide) (hts (.fieldLink RX7 94 "PrefixIndexModel" "first" "I") (List.mem_of_getElem? (i := 2) rfl)) (fun _ h9 => h9) rfl dX7_nextToken_140 ?_
          refine lv_aload_n hx hb dX7_nextToken_143 rfl (lv_at hl 0 rfl) ?_
          refine va_get (D := (dC, dI)) (ci := 7) (v := .int length) (C := RX7) (T := TX7) (N := 23) hx hb hts (fun _ hw => List.mem_cons_of_mem _ (List.mem_append_right _ hw)) hown hK hP 0 rfl rfl 4 (by decide) (hts (.fieldLink RX7 79 "PrefixIndexModel" "length" "I") (List.mem_of_getElem? (i := 3) rfl)) (fun _ h9 => h9) rfl dX7_nextToken_144 ?_
          refine lv_icmp_ge (tgt := 204) hx hb dX7_nextToken_147 (by decide) (fun c_36 => ?_) (fun c_36 => ?_)
          · have h := og_ite_t c_36 h
            obtain rfl := Option.some.inj h
            exact J _ _ _ hP hD hS (lv_sub hl [] rfl)
          · have h := og_ite_f c_36 h
            refine lv_aload_n hx hb dX7_nextToken_150 rfl (lv_at hl 0 rfl) ?_
            refine va_get (D := (dC, dI)) (ci := 7) (v := .ref h_text) (C := RX7) (T := TX7) (N := 23) hx hb hts (fun _ hw => List.mem_cons_of_mem _ (List.mem_append_right _ hw)) hown hK hP 0 rfl rfl 3 (by decide) (hts (.fieldLink RX7 17 "PrefixIndexModel" "text" "[I") (List.mem_of_getElem? (i := 4) rfl)) (fun _ h9 => h9) rfl dX7_nextToken_151 ?_
            refine lv_aload_n hx hb dX7_nextToken_154 rfl (lv_at hl 0 rfl) ?_
            refine va_get (D := (dC, dI)) (ci := 7) (v := .int w_8) (C := RX7) (T := TX7) (N := 23) hx hb hts (fun _ hw => List.mem_cons_of_mem _ (List.mem_append_right _ hw)) hown hK hP 0 rfl rfl 8 (by decide) (hts (.fieldLink RX7 94 "PrefixIndexModel" "first" "I") (List.mem_of_getElem? (i := 2) rfl)) (fun _ h9 => h9) rfl dX7_nextToken_155 ?_
            obtain ⟨hi_37, h⟩ := oin_e h
            refine va_iald hx hb hK hP 1 0 rfl rfl hi_37 dX7_nextToken_158 ?_
            obtain ⟨u_38, hc_39, h⟩ := obd_e h
            refine Gci (wr := [(h_th, .inr (7, [v_th_row, v_th_undos, v_th_isKept, .ref h_text, .int length, v_th_sizes, v_th_values, v_th_asked, .int w_8, .int y_11, v_th_readBits, v_th_clauses, v_th_doing, v_th_numbers, v_th_planWord, v_th_addWord, v_th_delWord, v_th_fillWord, v_th_probes, v_th_links, v_th_looks, v_th_found, v_th_isOver])), (h_text, .inl (cyI, 200, .inl text))]) (va_runS (As := [.int (text w_8.toNatClampNeg)]) (rest := []) ⟨hx, hb, hml, hown, hts⟩ (tX7_isDigit l dC dI cyI cyJ cyZ cyO H.size (text w_8.toNatClampNeg) u_38 hc_39) (cwS 1 hts gX7_nextToken_X7_isDigit rfl rfl rfl (by decide +kernel) ⟨Nat.le_of_ble_eq_true rfl, Nat.le_of_ble_eq_true rfl⟩) (GpreS hP hD hK hN [] rfl (by decide)) rfl rfl hl.1 rfl (lv_room (Nat.le_of_ble_eq_true rfl)) dX7_nextToken_159 ⟨Nat.zero_le _, Nat.zero_le _⟩) hP hD hS hA [] [0, 1] rfl rfl (by decide) (by decide) (fun H locs hP hD hS => ?_)
            have hP : va_P (dC, dI) vwCl [(h_th, .inr (7, [v_th_row, v_th_undos, v_th_isKept, .ref h_text, .int length, v_th_sizes, v_th_values, v_th_asked, .int w_8, .int y_11, v_th_readBits, v_th_clauses, v_th_doing, v_th_numbers, v_th_planWord, v_th_addWord, v_th_delWord, v_th_fillWord, v_th_probes, v_th_links, v_th_looks, v_th_found, v_th_isOver])), (h_text, .inl (cyI, 200, .inl text))] H := hP
            have hD : va_D A [(h_th, .inr (7, [v_th_row, v_th_undos, v_th_isKept, .ref h_text, .int length, v_th_sizes, v_th_values, v_th_asked, .int w_8, .int y_11, v_th_readBits, v_th_clauses, v_th_doing, v_th_numbers, v_th_planWord, v_th_addWord, v_th_delWord, v_th_fillWord, v_th_probes, v_th_links, v_th_looks, v_th_found, v_th_isOver])), (h_text, .inl (cyI, 200, .inl text))] := hD
            refine lv_if_eq (tgt := 204) hx hb dX7_nextToken_162 (by decide) (fun c_40 => ?_) (fun c_40 => ?_)
            · have h := og_ite_t c_40 h
              obtain rfl := Option.some.inj h
              exact J _ _ _ hP hD hS (lv_sub hl [] rfl)
            · have h := og_ite_f c_40 h
              obtain ⟨w_52, hw_53, h⟩ := obd_e h
              have J : ∀ (H : Heap) (locs : List Loc) (ls : Array Slot), va_P (dC, dI) vwCl [(h_th, .inr (7, [v_th_row, v_th_undos, v_th_isKept, .ref h_text, .int length, v_th_sizes, v_th_values, v_th_asked, .int w_8, .int w_52, v_th_readBits, v_th_clauses, v_th_doing, v_th_numbers, v_th_planWord, v_th_addWord, v_th_delWord, v_th_fillWord, v_th_probes, v_th_links, v_th_looks, v_th_found, v_th_isOver])), (h_text, .inl (cyI, 200, .inl text))] H → va_D A [(h_th, .inr (7, [v_th_row, v_th_undos, v_th_isKept, .ref h_text, .int length, v_th_sizes, v_th_values, v_th_asked, .int w_8, .int w_52, v_th_readBits, v_th_clauses, v_th_doing, v_th_numbers, v_th_planWord, v_th_addWord, v_th_delWord, v_th_fillWord, v_th_probes, v_th_links, v_th_looks, v_th_found, v_th_isOver])), (h_text, .inl (cyI, 200, .inl text))] → va_S A s.heap H locs → lv_has ls 1 [] → W p l e ({ frames := 2, cells := 0, slots := 0, locals := 45 }) s m args below meth c H locs 0 0 Q (F0 m 204 ls []) := by
                intro H locs ls hP hD hS hl
                obtain rfl := Option.some.inj h
                exact J _ _ _ hP hD hS hl
              have LL : ∀ (n : Nat) (zbehind : Int32) (H : Heap) (locs : List Loc) (ls : Array Slot), lpX7_nextToken_165 length text n zbehind = some w_52 → va_P (dC, dI) vwCl [(h_th, .inr (7, [v_th_row, v_th_undos, v_th_isKept, .ref h_text, .int length, v_th_sizes, v_th_values, v_th_asked, .int w_8, .int zbehind, v_th_readBits, v_th_clauses, v_th_doing, v_th_numbers, v_th_planWord, v_th_addWord, v_th_delWord, v_th_fillWord, v_th_probes, v_th_links, v_th_looks, v_th_found, v_th_isOver])), (h_text, .inl (cyI, 200, .inl text))] H → va_D A [(h_th, .inr (7, [v_th_row, v_th_undos, v_th_isKept, .ref h_text, .int length, v_th_sizes, v_th_values, v_th_asked, .int w_8, .int zbehind, v_th_readBits, v_th_clauses, v_th_doing, v_th_numbers, v_th_planWord, v_th_addWord, v_th_delWord, v_th_fillWord, v_th_probes, v_th_links, v_th_looks, v_th_found, v_th_isOver])), (h_text, .inl (cyI, 200, .inl text))] → va_S A s.heap H locs → lv_has ls 1 [(0, .ref h_th)] → W p l e ({ frames := 2, cells := 0, slots := 0, locals := 45 }) s m args below meth c H locs 0 0 Q (F0 m 165 ls []) := by
                intro n
                induction n with
                | zero =>
                  intro zbehind H locs ls h
                  exact absurd h (by rw [lpX7_nextToken_165]; exact fun q => by cases q)
                | succ n ih =>
                  intro zbehind H locs ls h hP hD hS hl
                  rw [lpX7_nextToken_165] at h
                  refine lv_aload_n hx hb dX7_nextToken_165 rfl (lv_at hl 0 rfl) ?_
                  refine va_get (D := (dC, dI)) (ci := 7) (v := .int zbehind) (C := RX7) (T := TX7) (N := 23) hx hb hts (fun _ hw => List.mem_cons_of_mem _ (List.mem_append_right _ hw)) hown hK hP 0 rfl rfl 9 (by decide) (hts (.fieldLink RX7 91 "PrefixIndexModel" "behind" "I") (List.mem_of_getElem? (i := 1) rfl)) (fun _ h9 => h9) rfl dX7_nextToken_166 ?_
                  refine lv_aload_n hx hb dX7_nextToken_169 rfl (lv_at hl 0 rfl) ?_
                  refine va_get (D := (dC, dI)) (ci := 7) (v := .int length) (C := RX7) (T := TX7) (N := 23) hx hb hts (fun _ hw => List.mem_cons_of_mem _ (List.mem_append_right _ hw)) hown hK hP 0 rfl rfl 4 (by decide) (hts (.fieldLink RX7 79 "PrefixIndexModel" "length" "I") (List.mem_of_getElem? (i := 3) rfl)) (fun _ h9 => h9) rfl dX7_nextToken_170 ?_
                  refine lv_icmp_ge (tgt := 204) hx hb dX7_nextToken_173 (by decide) (fun c_47 => ?_) (fun c_47 => ?_)
                  · have h := og_ite_t c_47 h
                    obtain rfl := Option.some.inj h
                    exact J _ _ _ hP hD hS (lv_sub hl [] rfl)
                  · have h := og_ite_f c_47 h
                    refine lv_aload_n hx hb dX7_nextToken_176 rfl (lv_at hl 0 rfl) ?_
                    refine va_get (D := (dC, dI)) (ci := 7) (v := .ref h_text) (C := RX7) (T := TX7) (N := 23) hx hb hts (fun _ hw => List.mem_cons_of_mem _ (List.mem_append_right _ hw)) hown hK hP 0 rfl rfl 3 (by decide) (hts (.fieldLink RX7 17 "PrefixIndexModel" "text" "[I") (List.mem_of_getElem? (i := 4) rfl)) (fun _ h9 => h9) rfl dX7_nextToken_177 ?_
                    refine lv_aload_n hx hb dX7_nextToken_180 rfl (lv_at hl 0 rfl) ?_
                    refine va_get (D := (dC, dI)) (ci := 7) (v := .int zbehind) (C := RX7) (T := TX7) (N := 23) hx hb hts (fun _ hw => List.mem_cons_of_mem _ (List.mem_append_right _ hw)) hown hK hP 0 rfl rfl 9 (by decide) (hts (.fieldLink RX7 91 "PrefixIndexModel" "behind" "I") (List.mem_of_getElem? (i := 1) rfl)) (fun _ h9 => h9) rfl dX7_nextToken_181 ?_
                    obtain ⟨hi_48, h⟩ := oin_e h
                    refine va_iald hx hb hK hP 1 0 rfl rfl hi_48 dX7_nextToken_184 ?_
                    obtain ⟨u_49, hc_50, h⟩ := obd_e h
                    refine Gci (wr := [(h_th, .inr (7, [v_th_row, v_th_undos, v_th_isKept, .ref h_text, .int length, v_th_sizes, v_th_values, v_th_asked, .int w_8, .int zbehind, v_th_readBits, v_th_clauses, v_th_doing, v_th_numbers, v_th_planWord, v_th_addWord, v_th_delWord, v_th_fillWord, v_th_probes, v_th_links, v_th_looks, v_th_found, v_th_isOver])), (h_text, .inl (cyI, 200, .inl text))]) (va_runS (As := [.int (text zbehind.toNatClampNeg)]) (rest := []) ⟨hx, hb, hml, hown, hts⟩ (tX7_isDigit l dC dI cyI cyJ cyZ cyO H.size (text zbehind.toNatClampNeg) u_49 hc_50) (cwS 1 hts gX7_nextToken_X7_isDigit rfl rfl rfl (by decide +kernel) ⟨Nat.le_of_ble_eq_true rfl, Nat.le_of_ble_eq_true rfl⟩) (GpreS hP hD hK hN [] rfl (by decide)) rfl rfl hl.1 rfl (lv_room (Nat.le_of_ble_eq_true rfl)) dX7_nextToken_185 ⟨Nat.zero_le _, Nat.zero_le _⟩) hP hD hS hA [] [0, 1] rfl rfl (by decide) (by decide) (fun H locs hP hD hS => ?_)
                    have hP : va_P (dC, dI) vwCl [(h_th, .inr (7, [v_th_row, v_th_undos, v_th_isKept, .ref h_text, .int length, v_th_sizes, v_th_values, v_th_asked, .int w_8, .int zbehind, v_th_readBits, v_th_clauses, v_th_doing, v_th_numbers, v_th_planWord, v_th_addWord, v_th_delWord, v_th_fillWord, v_th_probes, v_th_links, v_th_looks, v_th_found, v_th_isOver])), (h_text, .inl (cyI, 200, .inl text))] H := hP
                    have hD : va_D A [(h_th, .inr (7, [v_th_row, v_th_undos, v_th_isKept, .ref h_text, .int length, v_th_sizes, v_th_values, v_th_asked, .int w_8, .int zbehind, v_th_readBits, v_th_clauses, v_th_doing, v_th_numbers, v_th_planWord, v_th_addWord, v_th_delWord, v_th_fillWord, v_th_probes, v_th_links, v_th_looks, v_th_found, v_th_isOver])), (h_text, .inl (cyI, 200, .inl text))] := hD
                    refine lv_if_eq (tgt := 204) hx hb dX7_nextToken_188 (by decide) (fun c_51 => ?_) (fun c_51 => ?_)
                    · have h := og_ite_t c_51 h
                      obtain rfl := Option.some.inj h
                      exact J _ _ _ hP hD hS (lv_sub hl [] rfl)
                    · have h := og_ite_f c_51 h
                      refine lv_aload_n hx hb dX7_nextToken_191 rfl (lv_at hl 0 rfl) ?_
                      refine lv_dup hx hb dX7_nextToken_192 rfl ?_
                      refine va_get (D := (dC, dI)) (ci := 7) (v := .int zbehind) (C := RX7) (T := TX7) (N := 23) hx hb hts (fun _ hw => List.mem_cons_of_mem _ (List.mem_append_right _ hw)) hown hK hP 0 rfl rfl 9 (by decide) (hts (.fieldLink RX7 91 "PrefixIndexModel" "behind" "I") (List.mem_of_getElem? (i := 1) rfl)) (fun _ h9 => h9) rfl dX7_nextToken_193 ?_
                      refine lv_iconst (v := 1) hx hb dX7_nextToken_196 (by decide) ?_
                      refine lv_iadd hx hb dX7_nextToken_197 ?_
                      refine va_put (D := (dC, dI)) (ci := 7) (v := .int (zbehind + (1 : Int32))) (ty := .int) (C := RX7) (T := TX7) (N := 23) hx hb hts (fun _ hw => List.mem_cons_of_mem _ (List.mem_append_right _ hw)) tyX7 tyX7_ok nmX7 hown hK hP hD hS 0 rfl rfl 9 (by decide) (hts (.fieldLink RX7 91 "PrefixIndexModel" "behind" "I") (List.mem_of_getElem? (i := 1) rfl)) (fun _ h9 => h9) rfl (by decide +kernel) rfl rfl (Nat.le_of_ble_eq_true rfl) dX7_nextToken_198 (fun H locs hP hD hS => ?_)
                      have hP : va_P (dC, dI) vwCl [(h_th, .inr (7, [v_th_row, v_th_undos, v_th_isKept, .ref h_text, .int length, v_th_sizes, v_th_values, v_th_asked, .int w_8, .int (zbehind + (1 : Int32)), v_th_readBits, v_th_clauses, v_th_doing, v_th_numbers, v_th_planWord, v_th_addWord, v_th_delWord, v_th_fillWord, v_th_probes, v_th_links, v_th_looks, v_th_found, v_th_isOver])), (h_text, .inl (cyI, 200, .inl text))] H := hP
                      have hD : va_D A [(h_th, .inr (7, [v_th_row, v_th_undos, v_th_isKept, .ref h_text, .int length, v_th_sizes, v_th_values, v_th_asked, .int w_8, .int (zbehind + (1 : Int32)), v_th_readBits, v_th_clauses, v_th_doing, v_th_numbers, v_th_planWord, v_th_addWord, v_th_delWord, v_th_fillWord, v_th_probes, v_th_links, v_th_looks, v_th_found, v_th_isOver])), (h_text, .inl (cyI, 200, .inl text))] := hD
                      refine lv_goto (tgt := 165) hx hb dX7_nextToken_201 (by decide) ?_
                      exact ih (zbehind + (1 : Int32)) _ _ _ h hP hD hS hl
              exact LL _ y_11 _ _ _ hw_53 hP hD hS hl
        · have h := og_ite_f c_35 h
          obtain ⟨w_65, hw_66, h⟩ := obd_e h
          have J : ∀ (H : Heap) (locs : List Loc) (ls : Array Slot), va_P (dC, dI) vwCl [(h_th, .inr (7, [v_th_row, v_th_undos, v_th_isKept, .ref h_text, .int length, v_th_sizes, v_th_values, v_th_asked, .int w_8, .int w_65, v_th_readBits, v_th_clauses, v_th_doing, v_th_numbers, v_th_planWord, v_th_addWord, v_th_delWord, v_th_fillWord, v_th_probes, v_th_links, v_th_looks, v_th_found, v_th_isOver])), (h_text, .inl (cyI, 200, .inl text))] H → va_D A [(h_th, .inr (7, [v_th_row, v_th_undos, v_th_isKept, .ref h_text, .int length, v_th_sizes, v_th_values, v_th_asked, .int w_8, .int w_65, v_th_readBits, v_th_clauses, v_th_doing, v_th_numbers, v_th_planWord, v_th_addWord, v_th_delWord, v_th_fillWord, v_th_probes, v_th_links, v_th_looks, v_th_found, v_th_isOver])), (h_text, .inl (cyI, 200, .inl text))] → va_S A s.heap H locs → lv_has ls 1 [] → W p l e ({ frames := 2, cells := 0, slots := 0, locals := 45 }) s m args below meth c H locs 0 0 Q (F0 m 204 ls []) := by
            intro H locs ls hP hD hS hl
            obtain rfl := Option.some.inj h
            exact J _ _ _ hP hD hS hl
          have LL : ∀ (n : Nat) (zbehind : Int32) (H : Heap) (locs : List Loc) (ls : Array Slot), lpX7_nextToken_100 length text n zbehind = some w_65 → va_P (dC, dI) vwCl [(h_th, .inr (7, [v_th_row, v_th_undos, v_th_isKept, .ref h_text, .int length, v_th_sizes, v_th_values, v_th_asked, .int w_8, .int zbehind, v_th_readBits, v_th_clauses, v_th_doing, v_th_numbers, v_th_planWord, v_th_addWord, v_th_delWord, v_th_fillWord, v_th_probes, v_th_links, v_th_looks, v_th_found, v_th_isOver])), (h_text, .inl (cyI, 200, .inl text))] H → va_D A [(h_th, .inr (7, [v_th_row, v_th_undos, v_th_isKept, .ref h_text, .int length, v_th_sizes, v_th_values, v_th_asked, .int w_8, .int zbehind, v_th_readBits, v_th_clauses, v_th_doing, v_th_numbers, v_th_planWord, v_th_addWord, v_th_delWord, v_th_fillWord, v_th_probes, v_th_links, v_th_looks, v_th_found, v_th_isOver])), (h_text, .inl (cyI, 200, .inl text))] → va_S A s.heap H locs → lv_has ls 1 [(0, .ref h_th)] → W p l e ({ frames := 2, cells := 0, slots := 0, locals := 45 }) s m args below meth c H locs 0 0 Q (F0 m 100 ls []) := by
            intro n
            induction n with
            | zero =>
              intro zbehind H locs ls h
              exact absurd h (by rw [lpX7_nextToken_100]; exact fun q => by cases q)
            | succ n ih =>
              intro zbehind H locs ls h hP hD hS hl
              rw [lpX7_nextToken_100] at h
              refine lv_aload_n hx hb dX7_nextToken_100 rfl (lv_at hl 0 rfl) ?_
              refine va_get (D := (dC, dI)) (ci := 7) (v := .int zbehind) (C := RX7) (T := TX7) (N := 23) hx hb hts (fun _ hw => List.mem_cons_of_mem _ (List.mem_append_right _ hw)) hown hK hP 0 rfl rfl 9 (by decide) (hts (.fieldLink RX7 91 "PrefixIndexModel" "behind" "I") (List.mem_of_getElem? (i := 1) rfl)) (fun _ h9 => h9) rfl dX7_nextToken_101 ?_
              refine lv_aload_n hx hb dX7_nextToken_104 rfl (lv_at hl 0 rfl) ?_
              refine va_get (D := (dC, dI)) (ci := 7) (v := .int length) (C := RX7) (T := TX7) (N := 23) hx hb hts (fun _ hw => List.mem_cons_of_mem _ (List.mem_append_right _ hw)) hown hK hP 0 rfl rfl 4 (by decide) (hts (.fieldLink RX7 79 "PrefixIndexModel" "length" "I") (List.mem_of_getElem? (i := 3) rfl)) (fun _ h9 => h9) rfl dX7_nextToken_105 ?_
              refine lv_icmp_ge (tgt := 204) hx hb dX7_nextToken_108 (by decide) (fun c_60 => ?_) (fun c_60 => ?_)
              · have h := og_ite_t c_60 h
                obtain rfl := Option.some.inj h
                exact J _ _ _ hP hD hS (lv_sub hl [] rfl)
              · have h := og_ite_f c_60 h
                refine lv_aload_n hx hb dX7_nextToken_111 rfl (lv_at hl 0 rfl) ?_
                refine va_get (D := (dC, dI)) (ci := 7) (v := .ref h_text) (C := RX7) (T := TX7) (N := 23) hx hb hts (fun _ hw => List.mem_cons_of_mem _ (List.mem_append_right _ hw)) hown hK hP 0 rfl rfl 3 (by decide) (hts (.fieldLink RX7 17 "PrefixIndexModel" "text" "[I") (List.mem_of_getElem? (i := 4) rfl)) (fun _ h9 => h9) rfl dX7_nextToken_112 ?_
                refine lv_aload_n hx hb dX7_nextToken_115 rfl (lv_at hl 0 rfl) ?_
                refine va_get (D := (dC, dI)) (ci := 7) (v := .int zbehind) (C := RX7) (T := TX7) (N := 23) hx hb hts (fun _ hw => List.mem_cons_of_mem _ (List.mem_append_right _ hw)) hown hK hP 0 rfl rfl 9 (by decide) (hts (.fieldLink RX7 91 "PrefixIndexModel" "behind" "I") (List.mem_of_getElem? (i := 1) rfl)) (fun _ h9 => h9) rfl dX7_nextToken_116 ?_
                obtain ⟨hi_61, h⟩ := oin_e h
                refine va_iald hx hb hK hP 1 0 rfl rfl hi_61 dX7_nextToken_119 ?_
                obtain ⟨u_62, hc_63, h⟩ := obd_e h
                refine Gci (wr := [(h_th, .inr (7, [v_th_row, v_th_undos, v_th_isKept, .ref h_text, .int length, v_th_sizes, v_th_values, v_th_asked, .int w_8, .int zbehind, v_th_readBits, v_th_clauses, v_th_doing, v_th_numbers, v_th_planWord, v_th_addWord, v_th_delWord, v_th_fillWord, v_th_probes, v_th_links, v_th_looks, v_th_found, v_th_isOver])), (h_text, .inl (cyI, 200, .inl text))]) (va_runS (As := [.int (text zbehind.toNatClampNeg)]) (rest := []) ⟨hx, hb, hml, hown, hts⟩ (tX7_isLetter l dC dI cyI cyJ cyZ cyO H.size (text zbehind.toNatClampNeg) u_62 hc_63) (cwS 1 hts gX7_nextToken_X7_isLetter rfl rfl rfl (by decide +kernel) ⟨Nat.le_of_ble_eq_true rfl, Nat.le_of_ble_eq_true rfl⟩) (GpreS hP hD hK hN [] rfl (by decide)) rfl rfl hl.1 rfl (lv_room (Nat.le_of_ble_eq_true rfl)) dX7_nextToken_120 ⟨Nat.zero_le _, Nat.zero_le _⟩) hP hD hS hA [] [0, 1] rfl rfl (by decide) (by decide) (fun H locs hP hD hS => ?_)
                have hP : va_P (dC, dI) vwCl [(h_th, .inr (7, [v_th_row, v_th_undos, v_th_isKept, .ref h_text, .int length, v_th_sizes, v_th_values, v_th_asked, .int w_8, .int zbehind, v_th_readBits, v_th_clauses, v_th_doing, v_th_numbers, v_th_planWord, v_th_addWord, v_th_delWord, v_th_fillWord, v_th_probes, v_th_links, v_th_looks, v_th_found, v_th_isOver])), (h_text, .inl (cyI, 200, .inl text))] H := hP
                have hD : va_D A [(h_th, .inr (7, [v_th_row, v_th_undos, v_th_isKept, .ref h_text, .int length, v_th_sizes, v_th_values, v_th_asked, .int w_8, .int zbehind, v_th_readBits, v_th_clauses, v_th_doing, v_th_numbers, v_th_planWord, v_th_addWord, v_th_delWord, v_th_fillWord, v_th_probes, v_th_links, v_th_looks, v_th_found, v_th_isOver])), (h_text, .inl (cyI, 200, .inl text))] := hD
                refine lv_if_eq (tgt := 204) hx hb dX7_nextToken_123 (by decide) (fun c_64 => ?_) (fun c_64 => ?_)
                · have h := og_ite_t c_64 h
                  obtain rfl := Option.some.inj h
                  exact J _ _ _ hP hD hS (lv_sub hl [] rfl)
                · have h := og_ite_f c_64 h
                  refine lv_aload_n hx hb dX7_nextToken_126 rfl (lv_at hl 0 rfl) ?_
                  refine lv_dup hx hb dX7_nextToken_127 rfl ?_
                  refine va_get (D := (dC, dI)) (ci := 7) (v := .int zbehind) (C := RX7) (T := TX7) (N := 23) hx hb hts (fun _ hw => List.mem_cons_of_mem _ (List.mem_append_right _ hw)) hown hK hP 0 rfl rfl 9 (by decide) (hts (.fieldLink RX7 91 "PrefixIndexModel" "behind" "I") (List.mem_of_getElem? (i := 1) rfl)) (fun _ h9 => h9) rfl dX7_nextToken_128 ?_
                  refine lv_iconst (v := 1) hx hb dX7_nextToken_131 (by decide) ?_
                  refine lv_iadd hx hb dX7_nextToken_132 ?_
                  refine va_put (D := (dC, dI)) (ci := 7) (v := .int (zbehind + (1 : Int32))) (ty := .int) (C := RX7) (T := TX7) (N := 23) hx hb hts (fun _ hw => List.mem_cons_of_mem _ (List.mem_append_right _ hw)) tyX7 tyX7_ok nmX7 hown hK hP hD hS 0 rfl rfl 9 (by decide) (hts (.fieldLink RX7 91 "PrefixIndexModel" "behind" "I") (List.mem_of_getElem? (i := 1) rfl)) (fun _ h9 => h9) rfl (by decide +kernel) rfl rfl (Nat.le_of_ble_eq_true rfl) dX7_nextToken_133 (fun H locs hP hD hS => ?_)
                  have hP : va_P (dC, dI) vwCl [(h_th, .inr (7, [v_th_row, v_th_undos, v_th_isKept, .ref h_text, .int length, v_th_sizes, v_th_values, v_th_asked, .int w_8, .int (zbehind + (1 : Int32)), v_th_readBits, v_th_clauses, v_th_doing, v_th_numbers, v_th_planWord, v_th_addWord, v_th_delWord, v_th_fillWord, v_th_probes, v_th_links, v_th_looks, v_th_found, v_th_isOver])), (h_text, .inl (cyI, 200, .inl text))] H := hP
                  have hD : va_D A [(h_th, .inr (7, [v_th_row, v_th_undos, v_th_isKept, .ref h_text, .int length, v_th_sizes, v_th_values, v_th_asked, .int w_8, .int (zbehind + (1 : Int32)), v_th_readBits, v_th_clauses, v_th_doing, v_th_numbers, v_th_planWord, v_th_addWord, v_th_delWord, v_th_fillWord, v_th_probes, v_th_links, v_th_looks, v_th_found, v_th_isOver])), (h_text, .inl (cyI, 200, .inl text))] := hD
                  refine lv_goto (tgt := 100) hx hb dX7_nextToken_136 (by decide) ?_
                  exact ih (zbehind + (1 : Int32)) _ _ _ h hP hD hS hl
          exact LL _ y_11 _ _ _ hw_66 hP hD hS hl
    clear h
    refine lv_icmp_ge (tgt := 67) hx hb dX7_nextToken_55 (by decide) (fun c_10 => ?_) (fun c_10 => ?_)
    · refine lv_aload_n hx hb dX7_nextToken_67 rfl (lv_at hl 0 rfl) ?_
      refine va_get (D := (dC, dI)) (ci := 7) (v := .int w_8) (C := RX7) (T := TX7) (N := 23) hx hb hts (fun _ hw => List.mem_cons_of_mem _ (List.mem_append_right _ hw)) hown hK hP 0 rfl rfl 8 (by decide) (hts (.fieldLink RX7 94 "PrefixIndexModel" "first" "I") (List.mem_of_getElem? (i := 2) rfl)) (fun _ h9 => h9) rfl dX7_nextToken_68 ?_
      rw [if_pos c_10] at ey_11
      subst ey_11
      exact J H locs _ hP hD hS hl
    · refine lv_aload_n hx hb dX7_nextToken_58 rfl (lv_at hl 0 rfl) ?_
      refine va_get (D := (dC, dI)) (ci := 7) (v := .int w_8) (C := RX7) (T := TX7) (N := 23) hx hb hts (fun _ hw => List.mem_cons_of_mem _ (List.mem_append_right _ hw)) hown hK hP 0 rfl rfl 8 (by decide) (hts (.fieldLink RX7 94 "PrefixIndexModel" "first" "I") (List.mem_of_getElem? (i := 2) rfl)) (fun _ h9 => h9) rfl dX7_nextToken_59 ?_
      refine lv_iconst (v := 1) hx hb dX7_nextToken_62 (by decide) ?_
      refine lv_iadd hx hb dX7_nextToken_63 ?_
      refine lv_goto (tgt := 71) hx hb dX7_nextToken_64 (by decide) ?_
      rw [if_neg c_10] at ey_11
      subst ey_11
      exact J H locs _ hP hD hS hl
  have LL : ∀ (n : Nat) (zfirst : Int32) (H : Heap) (locs : List Loc) (ls : Array Slot), lpX7_nextToken_8 length text n zfirst = some w_8 → va_P (dC, dI) vwCl [(h_th, .inr (7, [v_th_row, v_th_undos, v_th_isKept, .ref h_text, .int length, v_th_sizes, v_th_values, v_th_asked, .int zfirst, .int behind, v_th_readBits, v_th_clauses, v_th_doing, v_th_numbers, v_th_planWord, v_th_addWord, v_th_delWord, v_th_fillWord, v_th_probes, v_th_links, v_th_looks, v_th_found, v_th_isOver])), (h_text, .inl (cyI, 200, .inl text))] H → va_D A [(h_th, .inr (7, [v_th_row, v_th_undos, v_th_isKept, .ref h_text, .int length, v_th_sizes, v_th_values, v_th_asked, .int zfirst, .int behind, v_th_readBits, v_th_clauses, v_th_doing, v_th_numbers, v_th_planWord, v_th_addWord, v_th_delWord, v_th_fillWord, v_th_probes, v_th_links, v_th_looks, v_th_found, v_th_isOver])), (h_text, .inl (cyI, 200, .inl text))] → va_S A s.heap H locs → lv_has ls 1 [(0, .ref h_th)] → W p l e ({ frames := 2, cells := 0, slots := 0, locals := 45 }) s m args below meth c H locs 0 0 Q (F0 m 8 ls []) := by
    intro n
    induction n with
    | zero =>
      intro zfirst H locs ls h
      exact absurd h (by rw [lpX7_nextToken_8]; exact fun q => by cases q)
    | succ n ih =>
      intro zfirst H locs ls h hP hD hS hl
      rw [lpX7_nextToken_8] at h
      refine lv_aload_n hx hb dX7_nextToken_8 rfl (lv_at hl 0 rfl) ?_
      refine va_get (D := (dC, dI)) (ci := 7) (v := .int zfirst) (C := RX7) (T := TX7) (N := 23) hx hb hts (fun _ hw => List.mem_cons_of_mem _ (List.mem_append_right _ hw)) hown hK hP 0 rfl rfl 8 (by decide) (hts (.fieldLink RX7 94 "PrefixIndexModel" "first" "I") (List.mem_of_getElem? (i := 2) rfl)) (fun _ h9 => h9) rfl dX7_nextToken_9 ?_
      refine lv_aload_n hx hb dX7_nextToken_12 rfl (lv_at hl 0 rfl) ?_
      refine va_get (D := (dC, dI)) (ci := 7) (v := .int length) (C := RX7) (T := TX7) (N := 23) hx hb hts (fun _ hw => List.mem_cons_of_mem _ (List.mem_append_right _ hw)) hown hK hP 0 rfl rfl 4 (by decide) (hts (.fieldLink RX7 79 "PrefixIndexModel" "length" "I") (List.mem_of_getElem? (i := 3) rfl)) (fun _ h9 => h9) rfl dX7_nextToken_13 ?_
      refine lv_icmp_ge (tgt := 46) hx hb dX7_nextToken_16 (by decide) (fun c_5 => ?_) (fun c_5 => ?_)
      · have h := og_ite_t c_5 h
        obtain rfl := Option.some.inj h
        exact J _ _ _ hP hD hS hl
      · have h := og_ite_f c_5 h
        refine lv_aload_n hx hb dX7_nextToken_19 rfl (lv_at hl 0 rfl) ?_
        refine va_get (D := (dC, dI)) (ci := 7) (v := .ref h_text) (C := RX7) (T := TX7) (N := 23) hx hb hts (fun _ hw => List.mem_cons_of_mem _ (List.mem_append_right _ hw)) hown hK hP 0 rfl rfl 3 (by decide) (hts (.fieldLink RX7 17 "PrefixIndexModel" "text" "[I") (List.mem_of_getElem? (i := 4) rfl)) (fun _ h9 => h9) rfl dX7_nextToken_20 ?_
        refine lv_aload_n hx hb dX7_nextToken_23 rfl (lv_at hl 0 rfl) ?_
        refine va_get (D := (dC, dI)) (ci := 7) (v := .int zfirst) (C := RX7) (T := TX7) (N := 23) hx hb hts (fun _ hw => List.mem_cons_of_mem _ (List.mem_append_right _ hw)) hown hK hP 0 rfl rfl 8 (by decide) (hts (.fieldLink RX7 94 "PrefixIndexModel" "first" "I") (List.mem_of_getElem? (i := 2) rfl)) (fun _ h9 => h9) rfl dX7_nextToken_24 ?_
        obtain ⟨hi_6, h⟩ := oin_e h
        refine va_iald hx hb hK hP 1 0 rfl rfl hi_6 dX7_nextToken_27 ?_
        refine lv_bipush (v := 32) hx hb dX7_nextToken_28 (by decide) ?_
        refine lv_icmp_ne (tgt := 46) hx hb dX7_nextToken_30 (by decide) (fun c_7 => ?_) (fun c_7 => ?_)
        · have h := og_ite_f c_7 h
          obtain rfl := Option.some.inj h
          exact J _ _ _ hP hD hS hl
        · have h := og_ite_t c_7 h
          refine lv_aload_n hx hb dX7_nextToken_33 rfl (lv_at hl 0 rfl) ?_
          refine lv_dup hx hb dX7_nextToken_34 rfl ?_
          refine va_get (D := (dC, dI)) (ci := 7) (v := .int zfirst) (C := RX7) (T := TX7) (N := 23) hx hb hts (fun _ hw => List.mem_cons_of_mem _ (List.mem_append_right _ hw)) hown hK hP 0 rfl rfl 8 (by decide) (hts (.fieldLink RX7 94 "PrefixIndexModel" "first" "I") (List.mem_of_getElem? (i := 2) rfl)) (fun _ h9 => h9) rfl dX7_nextToken_35 ?_
          refine lv_iconst (v := 1) hx hb dX7_nextToken_38 (by decide) ?_
          refine lv_iadd hx hb dX7_nextToken_39 ?_
          refine va_put (D := (dC, dI)) (ci := 7) (v := .int (zfirst + (1 : Int32))) (ty := .int) (C := RX7) (T := TX7) (N := 23) hx hb hts (fun _ hw => List.mem_cons_of_mem _ (List.mem_append_right _ hw)) tyX7 tyX7_ok nmX7 hown hK hP hD hS 0 rfl rfl 8 (by decide) (hts (.fieldLink RX7 94 "PrefixIndexModel" "first" "I") (List.mem_of_getElem? (i := 2) rfl)) (fun _ h9 => h9) rfl (by decide +kernel) rfl rfl (Nat.le_of_ble_eq_true rfl) dX7_nextToken_40 (fun H locs hP hD hS => ?_)
          have hP : va_P (dC, dI) vwCl [(h_th, .inr (7, [v_th_row, v_th_undos, v_th_isKept, .ref h_text, .int length, v_th_sizes, v_th_values, v_th_asked, .int (zfirst + (1 : Int32)), .int behind, v_th_readBits, v_th_clauses, v_th_doing, v_th_numbers, v_th_planWord, v_th_addWord, v_th_delWord, v_th_fillWord, v_th_probes, v_th_links, v_th_looks, v_th_found, v_th_isOver])), (h_text, .inl (cyI, 200, .inl text))] H := hP
          have hD : va_D A [(h_th, .inr (7, [v_th_row, v_th_undos, v_th_isKept, .ref h_text, .int length, v_th_sizes, v_th_values, v_th_asked, .int (zfirst + (1 : Int32)), .int behind, v_th_readBits, v_th_clauses, v_th_doing, v_th_numbers, v_th_planWord, v_th_addWord, v_th_delWord, v_th_fillWord, v_th_probes, v_th_links, v_th_looks, v_th_found, v_th_isOver])), (h_text, .inl (cyI, 200, .inl text))] := hD
          refine lv_goto (tgt := 8) hx hb dX7_nextToken_43 (by decide) ?_
          exact ih (zfirst + (1 : Int32)) _ _ _ h hP hD hS hl
  exact LL _ behind _ _ _ hw_9 hP hD hS hl

def lpX7_isWord_22 (n_a0 : Nat) (first : Int32) (text : (Nat → Int32)) (a0 : (Nat → Int32)) : Nat → Int32 → Int32 → Option (Int32 × Int32)
  | 0, _, _ => none
  | n + 1, m2, m3 => if (nI n_a0) ≤ m3 then (some (m2, m3)) else (if m2 = 0 then (some (m2, m3)) else (oin (first + m3) 200 (oin m3 n_a0 (olet (if (text (first + m3).toNatClampNeg) = (a0 m3.toNatClampNeg) then ((1 : Int32)) else ((0 : Int32))) fun y_9 => lpX7_isWord_22 n_a0 first text a0 n y_9 (m3 + (1 : Int32))))))

def fX7_isWord (n_a0 : Nat) (first : Int32) (behind : Int32) (text : (Nat → Int32)) (a0 : (Nat → Int32)) : Option (Int32) := olet (if (behind - first) = (nI n_a0) then ((1 : Int32)) else ((0 : Int32))) fun y_2 => obd (lpX7_isWord_22 n_a0 first text a0 100000 y_2 (0 : Int32)) fun w_16 => obl w_16.1 (some w_16.1)

set_option maxHeartbeats 4000000 in
set_option maxRecDepth 100000 in
theorem tX7_isWord (l : Launch) (dC : Nat → ClassId) (dI : Nat → Nat → Nat) (cyI cyJ cyZ cyO : ClassId) (sz : Nat) (h_th h_text h_a0 : Nat) (n_a0 : Nat) (v_th_row : Value) (v_th_undos : Value) (v_th_isKept : Value) (v_th_length : Value) (v_th_sizes : Value) (v_th_values : Value) (v_th_asked : Value) (v_th_readBits : Value) (v_th_clauses : Value) (v_th_doing : Value) (v_th_numbers : Value) (v_th_planWord : Value) (v_th_addWord : Value) (v_th_delWord : Value) (v_th_fillWord : Value) (v_th_probes : Value) (v_th_links : Value) (v_th_looks : Value) (v_th_found : Value) (v_th_isOver : Value) (first : Int32) (behind : Int32) (text : (Nat → Int32)) (a0 : (Nat → Int32)) (u : Int32) (hf : fX7_isWord n_a0 first behind text a0 = some u) : Met l yX7_isWord wsX7_isWord ({ frames := 0, cells := 0, slots := 0, locals := 0 }) (va_Pc [.ref h_th, .ref h_a0] (GP (dC, dI) (T4 cyI cyJ cyZ cyO) sz [(h_th, .inr (7, [v_th_row, v_th_undos, v_th_isKept, .ref h_text, v_th_length, v_th_sizes, v_th_values, v_th_asked, .int first, .int behind, v_th_readBits, v_th_clauses, v_th_doing, v_th_numbers, v_th_planWord, v_th_addWord, v_th_delWord, v_th_fillWord, v_th_probes, v_th_links, v_th_looks, v_th_found, v_th_isOver])), (h_text, .inl (cyI, 200, .inl text)), (h_a0, .inl (cyI, n_a0, .inl a0))])) (va_Qi (fun (r : Int32) (_ : Unit) => r = u) (GB (dC, dI) [(h_th, .inr (7, [v_th_row, v_th_undos, v_th_isKept, .ref h_text, v_th_length, v_th_sizes, v_th_values, v_th_asked, .int first, .int behind, v_th_readBits, v_th_clauses, v_th_doing, v_th_numbers, v_th_planWord, v_th_addWord, v_th_delWord, v_th_fillWord, v_th_probes, v_th_links, v_th_looks, v_th_found, v_th_isOver])), (h_text, .inl (cyI, 200, .inl text)), (h_a0, .inl (cyI, n_a0, .inl a0))] (va_A [(h_th, .inr (7, [v_th_row, v_th_undos, v_th_isKept, .ref h_text, v_th_length, v_th_sizes, v_th_values, v_th_asked, .int first, .int behind, v_th_readBits, v_th_clauses, v_th_doing, v_th_numbers, v_th_planWord, v_th_addWord, v_th_delWord, v_th_fillWord, v_th_probes, v_th_links, v_th_looks, v_th_found, v_th_isOver])), (h_text, .inl (cyI, 200, .inl text)), (h_a0, .inl (cyI, n_a0, .inl a0))] sz)) (va_A [(h_th, .inr (7, [v_th_row, v_th_undos, v_th_isKept, .ref h_text, v_th_length, v_th_sizes, v_th_values, v_th_asked, .int first, .int behind, v_th_readBits, v_th_clauses, v_th_doing, v_th_numbers, v_th_planWord, v_th_addWord, v_th_delWord, v_th_fillWord, v_th_probes, v_th_links, v_th_looks, v_th_found, v_th_isOver])), (h_text, .inl (cyI, 200, .inl text)), (h_a0, .inl (cyI, n_a0, .inl a0))] sz)) 0 0 (va_A [(h_th, .inr (7, [v_th_row, v_th_undos, v_th_isKept, .ref h_text, v_th_length, v_th_sizes, v_th_values, v_th_asked, .int first, .int behind, v_th_readBits, v_th_clauses, v_th_doing, v_th_numbers, v_th_planWord, v_th_addWord, v_th_delWord, v_th_fillWord, v_th_probes, v_th_links, v_th_looks, v_th_found, v_th_isOver])), (h_text, .inl (cyI, 200, .inl text)), (h_a0, .inl (cyI, n_a0, .inl a0))] sz) := by
  refine GMetZ (by decide) rfl (Nat.le_of_ble_eq_true rfl) ?_
  intro p e s m args below meth c A Q ls hx hb hml hts hown hN hK hA hret hP hD hS hl
  have h := hf
  clear hf
  unfold fX7_isWord at h
  have hown : s.vm.findClass RX7 = some m.cls := hown
  have hl : lv_has ls 4 [(0, .ref h_th), (1, .ref h_a0)] := hl
  refine lv_aload_n hx hb dX7_isWord_0 rfl (lv_at hl 0 rfl) ?_
  refine va_get (D := (dC, dI)) (ci := 7) (v := .int behind) (C := RX7) (T := TX7) (N := 23) hx hb hts (fun _ hw => List.mem_cons_of_mem _ (List.mem_append_right _ hw)) hown hK hP 0 rfl rfl 9 (by decide) (hts (.fieldLink RX7 91 "PrefixIndexModel" "behind" "I") (List.mem_of_getElem? (i := 1) rfl)) (fun _ h9 => h9) rfl dX7_isWord_1 ?_
  refine lv_aload_n hx hb dX7_isWord_4 rfl (lv_at hl 0 rfl) ?_
  refine va_get (D := (dC, dI)) (ci := 7) (v := .int first) (C := RX7) (T := TX7) (N := 23) hx hb hts (fun _ hw => List.mem_cons_of_mem _ (List.mem_append_right _ hw)) hown hK hP 0 rfl rfl 8 (by decide) (hts (.fieldLink RX7 94 "PrefixIndexModel" "first" "I") (List.mem_of_getElem? (i := 2) rfl)) (fun _ h9 => h9) rfl dX7_isWord_5 ?_
  refine lv_isub hx hb dX7_isWord_8 ?_
  refine lv_aload_n hx hb dX7_isWord_9 rfl (lv_at hl 1 rfl) ?_
  refine va_alen (v := nI n_a0) hx hb hK hP 2 0 rfl rfl rfl dX7_isWord_10 ?_
  obtain ⟨y_2, ey_2, h⟩ := olet_e h
  have J : ∀ (H : Heap) (locs : List Loc) (ls : Array Slot), va_P (dC, dI) vwCl [(h_th, .inr (7, [v_th_row, v_th_undos, v_th_isKept, .ref h_text, v_th_length, v_th_sizes, v_th_values, v_th_asked, .int first, .int behind, v_th_readBits, v_th_clauses, v_th_doing, v_th_numbers, v_th_planWord, v_th_addWord, v_th_delWord, v_th_fillWord, v_th_probes, v_th_links, v_th_looks, v_th_found, v_th_isOver])), (h_text, .inl (cyI, 200, .inl text)), (h_a0, .inl (cyI, n_a0, .inl a0))] H → va_D A [(h_th, .inr (7, [v_th_row, v_th_undos, v_th_isKept, .ref h_text, v_th_length, v_th_sizes, v_th_values, v_th_asked, .int first, .int behind, v_th_readBits, v_th_clauses, v_th_doing, v_th_numbers, v_th_planWord, v_th_addWord, v_th_delWord, v_th_fillWord, v_th_probes, v_th_links, v_th_looks, v_th_found, v_th_isOver])), (h_text, .inl (cyI, 200, .inl text)), (h_a0, .inl (cyI, n_a0, .inl a0))] → va_S A s.heap H locs → lv_has ls 4 [(0, .ref h_th), (1, .ref h_a0)] → W p l e ({ frames := 0, cells := 0, slots := 0, locals := 0 }) s m args below meth c H locs 0 0 Q (F0 m 19 ls [.int y_2]) := by
    intro H locs ls hP hD hS hl
    refine lv_istore_n (lv' := [(2, .int y_2), (0, .ref h_th), (1, .ref h_a0)]) hx hb dX7_isWord_19 rfl hl (by decide) rfl (fun ls hl => ?_)
    refine lv_iconst (v := 0) hx hb dX7_isWord_20 (by decide) ?_
    refine lv_istore_n (lv' := [(3, .int (0 : Int32)), (2, .int y_2), (0, .ref h_th), (1, .ref h_a0)]) hx hb dX7_isWord_21 rfl hl (by decide) rfl (fun ls hl => ?_)
    obtain ⟨w_16, hw_17, h⟩ := obd_e h
    have J : ∀ (H : Heap) (locs : List Loc) (ls : Array Slot), va_P (dC, dI) vwCl [(h_th, .inr (7, [v_th_row, v_th_undos, v_th_isKept, .ref h_text, v_th_length, v_th_sizes, v_th_values, v_th_asked, .int first, .int behind, v_th_readBits, v_th_clauses, v_th_doing, v_th_numbers, v_th_planWord, v_th_addWord, v_th_delWord, v_th_fillWord, v_th_probes, v_th_links, v_th_looks, v_th_found, v_th_isOver])), (h_text, .inl (cyI, 200, .inl text)), (h_a0, .inl (cyI, n_a0, .inl a0))] H → va_D A [(h_th, .inr (7, [v_th_row, v_th_undos, v_th_isKept, .ref h_text, v_th_length, v_th_sizes, v_th_values, v_th_asked, .int first, .int behind, v_th_readBits, v_th_clauses, v_th_doing, v_th_numbers, v_th_planWord, v_th_addWord, v_th_delWord, v_th_fillWord, v_th_probes, v_th_links, v_th_looks, v_th_found, v_th_isOver])), (h_text, .inl (cyI, 200, .inl text)), (h_a0, .inl (cyI, n_a0, .inl a0))] → va_S A s.heap H locs → lv_has ls 4 [(2, .int w_16.1)] → W p l e ({ frames := 0, cells := 0, slots := 0, locals := 0 }) s m args below meth c H locs 0 0 Q (F0 m 61 ls []) := by
      intro H locs ls hP hD hS hl
      refine lv_iload_n hx hb dX7_isWord_61 rfl (lv_at hl 0 rfl) ?_
      obtain ⟨hz, h⟩ := obl_e h
      obtain rfl := Option.some.inj h
      exact hret _ _ _ _ dX7_isWord_62 hz hP hD hS
    have LL : ∀ (n : Nat) (m2 : Int32) (m3 : Int32) (H : Heap) (locs : List Loc) (ls : Array Slot), lpX7_isWord_22 n_a0 first text a0 n m2 m3 = some w_16 → va_P (dC, dI) vwCl [(h_th, .inr (7, [v_th_row, v_th_undos, v_th_isKept, .ref h_text, v_th_length, v_th_sizes, v_th_values, v_th_asked, .int first, .int behind, v_th_readBits, v_th_clauses, v_th_doing, v_th_numbers, v_th_planWord, v_th_addWord, v_th_delWord, v_th_fillWord, v_th_probes, v_th_links, v_th_looks, v_th_found, v_th_isOver])), (h_text, .inl (cyI, 200, .inl text)), (h_a0, .inl (cyI, n_a0, .inl a0))] H → va_D A [(h_th, .inr (7, [v_th_row, v_th_undos, v_th_isKept, .ref h_text, v_th_length, v_th_sizes, v_th_values, v_th_asked, .int first, .int behind, v_th_readBits, v_th_clauses, v_th_doing, v_th_numbers, v_th_planWord, v_th_addWord, v_th_delWord, v_th_fillWord, v_th_probes, v_th_links, v_th_looks, v_th_found, v_th_isOver])), (h_text, .inl (cyI, 200, .inl text)), (h_a0, .inl (cyI, n_a0, .inl a0))] → va_S A s.heap H locs → lv_has ls 4 [(0, .ref h_th), (1, .ref h_a0), (2, .int m2), (3, .int m3)] → W p l e ({ frames := 0, cells := 0, slots := 0, locals := 0 }) s m args below meth c H locs 0 0 Q (F0 m 22 ls []) := by
      intro n
      induction n with
      | zero =>
        intro m2 m3 H locs ls h
        exact absurd h (by rw [lpX7_isWord_22]; exact fun q => by cases q)
      | succ n ih =>
        intro m2 m3 H locs ls h hP hD hS hl
        rw [lpX7_isWord_22] at h
        refine lv_iload_n hx hb dX7_isWord_22 rfl (lv_at hl 3 rfl) ?_
        refine lv_aload_n hx hb dX7_isWord_23 rfl (lv_at hl 1 rfl) ?_
        refine va_alen (v := nI n_a0) hx hb hK hP 2 0 rfl rfl rfl dX7_isWord_24 ?_
        refine lv_icmp_ge (tgt := 61) hx hb dX7_isWord_25 (by decide) (fun c_10 => ?_) (fun c_10 => ?_)
        · have h := og_ite_t c_10 h
          obtain rfl := Option.some.inj h
          exact J _ _ _ hP hD hS (lv_sub hl [2] rfl)
        · have h := og_ite_f c_10 h
          refine lv_iload_n hx hb dX7_isWord_28 rfl (lv_at hl 2 rfl) ?_
          refine lv_if_eq (tgt := 61) hx hb dX7_isWord_29 (by decide) (fun c_11 => ?_) (fun c_11 => ?_)
          · have h := og_ite_t c_11 h
            obtain rfl := Option.some.inj h
            exact J _ _ _ hP hD hS (lv_sub hl [2] rfl)
          · have h := og_ite_f c_11 h
            refine lv_aload_n hx hb dX7_isWord_32 rfl (lv_at hl 0 rfl) ?_
            refine va_get (D := (dC, dI)) (ci := 7) (v := .ref h_text) (C := RX7) (T := TX7) (N := 23) hx hb hts (fun _ hw => List.mem_cons_of_mem _ (List.mem_append_right _ hw)) hown hK hP 0 rfl rfl 3 (by decide) (hts (.fieldLink RX7 17 "PrefixIndexModel" "text" "[I") (List.mem_of_getElem? (i := 3) rfl)) (fun _ h9 => h9) rfl dX7_isWord_33 ?_
            refine lv_aload_n hx hb dX7_isWord_36 rfl (lv_at hl 0 rfl) ?_
            refine va_get (D := (dC, dI)) (ci := 7) (v := .int first) (C := RX7) (T := TX7) (N := 23) hx hb hts (fun _ hw => List.mem_cons_of_mem _ (List.mem_append_right _ hw)) hown hK hP 0 rfl rfl 8 (by decide) (hts (.fieldLink RX7 94 "PrefixIndexModel" "first" "I") (List.mem_of_getElem? (i := 2) rfl)) (fun _ h9 => h9) rfl dX7_isWord_37 ?_
            refine lv_iload_n hx hb dX7_isWord_40 rfl (lv_at hl 3 rfl) ?_
            refine lv_iadd hx hb dX7_isWord_41 ?_
            obtain ⟨hi_12, h⟩ := oin_e h
            refine va_iald hx hb hK hP 1 0 rfl rfl hi_12 dX7_isWord_42 ?_
            refine lv_aload_n hx hb dX7_isWord_43 rfl (lv_at hl 1 rfl) ?_
            refine lv_iload_n hx hb dX7_isWord_44 rfl (lv_at hl 3 rfl) ?_
            obtain ⟨hi_13, h⟩ := oin_e h
            refine va_iald hx hb hK hP 2 0 rfl rfl hi_13 dX7_isWord_45 ?_
            obtain ⟨y_15, ey_15, h⟩ := olet_e h
            have J : ∀ (H : Heap) (locs : List Loc) (ls : Array Slot), va_P (dC, dI) vwCl [(h_th, .inr (7, [v_th_row, v_th_undos, v_th_isKept, .ref h_text, v_th_length, v_th_sizes, v_th_values, v_th_asked, .int first, .int behind, v_th_readBits, v_th_clauses, v_th_doing, v_th_numbers, v_th_planWord, v_th_addWord, v_th_delWord, v_th_fillWord, v_th_probes, v_th_links, v_th_looks, v_th_found, v_th_isOver])), (h_text, .inl (cyI, 200, .inl text)), (h_a0, .inl (cyI, n_a0, .inl a0))] H → va_D A [(h_th, .inr (7, [v_th_row, v_th_undos, v_th_isKept, .ref h_text, v_th_length, v_th_sizes, v_th_values, v_th_asked, .int first, .int behind, v_th_readBits, v_th_clauses, v_th_doing, v_th_numbers, v_th_planWord, v_th_addWord, v_th_delWord, v_th_fillWord, v_th_probes, v_th_links, v_th_looks, v_th_found, v_th_isOver])), (h_text, .inl (cyI, 200, .inl text)), (h_a0, .inl (cyI, n_a0, .inl a0))] → va_S A s.heap H locs → lv_has ls 4 [(0, .ref h_th), (1, .ref h_a0), (3, .int m3)] → W p l e ({ frames := 0, cells := 0, slots := 0, locals := 0 }) s m args below meth c H locs 0 0 Q (F0 m 54 ls [.int y_15]) := by
              intro H locs ls hP hD hS hl
              refine lv_istore_n (lv' := [(2, .int y_15), (0, .ref h_th), (1, .ref h_a0), (3, .int m3)]) hx hb dX7_isWord_54 rfl hl (by decide) rfl (fun ls hl => ?_)
              refine lv_iinc (v := m3 + (1 : Int32)) (lv' := [(3, .int (m3 + (1 : Int32))), (2, .int y_15), (0, .ref h_th), (1, .ref h_a0)]) hx hb dX7_isWord_55 hl (k := 3) rfl rfl (by decide) rfl (fun ls hl => ?_)
              refine lv_goto (tgt := 22) hx hb dX7_isWord_58 (by decide) ?_
              exact ih y_15 (m3 + (1 : Int32)) _ _ _ h hP hD hS (lv_sub hl [2, 3, 1, 0] rfl)
            clear h
            refine lv_icmp_ne (tgt := 53) hx hb dX7_isWord_46 (by decide) (fun c_14 => ?_) (fun c_14 => ?_)
            · refine lv_iconst (v := 0) hx hb dX7_isWord_53 (by decide) ?_
              rw [if_neg c_14] at ey_15
              subst ey_15
              exact J H locs _ hP hD hS (lv_sub hl [0, 1, 3] rfl)
            · refine lv_iconst (v := 1) hx hb dX7_isWord_49 (by decide) ?_
              refine lv_goto (tgt := 54) hx hb dX7_isWord_50 (by decide) ?_
              rw [if_pos c_14] at ey_15
              subst ey_15
              exact J H locs _ hP hD hS (lv_sub hl [0, 1, 3] rfl)
    exact LL _ y_2 (0 : Int32) _ _ _ hw_17 hP hD hS (lv_sub hl [2, 3, 1, 0] rfl)
  clear h
  refine lv_icmp_ne (tgt := 18) hx hb dX7_isWord_11 (by decide) (fun c_1 => ?_) (fun c_1 => ?_)
  · refine lv_iconst (v := 0) hx hb dX7_isWord_18 (by decide) ?_
    rw [if_neg c_1] at ey_2
    subst ey_2
    exact J _ _ _ hP hD hS hl
  · refine lv_iconst (v := 1) hx hb dX7_isWord_14 (by decide) ?_
    refine lv_goto (tgt := 19) hx hb dX7_isWord_15 (by decide) ?_
    rw [if_pos c_1] at ey_2
    subst ey_2
    exact J _ _ _ hP hD hS hl

def lpX7_number_50 (q1 : Int32) (q2 : Int32) (q3 : Int32) (behind : Int32) (text : (Nat → Int32)) : Nat → Int32 → Int32 → Option (Int32 × Int32)
  | 0, _, _ => none
  | n + 1, m4, m5 => if behind ≤ m5 then (some (m4, m5)) else (oin m5 200 (lpX7_number_50 q1 q2 q3 behind text n ((((10 : Int32) * m4) + (text m5.toNatClampNeg)) - (48 : Int32)) (m5 + (1 : Int32))))

def fX7_number (length : Int32) (first : Int32) (behind : Int32) (text : (Nat → Int32)) (numbers : (Nat → Int32)) (x0 : Int32) (x1 : Int32) (x2 : Int32) : Option (Int32 × Int32 × Int32 × (Nat → Int32)) := if first = length then (obl (0 : Int32) (some ((0 : Int32), first, behind, numbers))) else (oin first 200 (obd (fX7_isDigit (text first.toNatClampNeg)) fun u_3 => if u_3 = 0 then (obl (0 : Int32) (some ((0 : Int32), first, behind, numbers))) else (if (behind - first) ≤ (5 : Int32) then (obd (lpX7_number_50 x0 x1 x2 behind text 100000 (0 : Int32) first) fun w_12 => obd (fX7_in w_12.1.toInt64 x1.toInt64 x2.toInt64) fun u_14 => obd (if u_14 = 0 then (some (first, behind, numbers)) else (oin x0 3 (obd (fX7_nextToken length first behind text) fun u_19 => some (u_19.1, u_19.2, upd numbers x0.toNatClampNeg w_12.1)))) fun w_17 => obl u_14 (some (u_14, w_17.1, w_17.2.1, w_17.2.2))) else (obl (0 : Int32) (some ((0 : Int32), first, behind, numbers))))))

set_option maxHeartbeats 4000000 in
set_option maxRecDepth 100000 in
theorem tX7_number (l : Launch) (dC : Nat → ClassId) (dI : Nat → Nat → Nat) (cyI cyJ cyZ cyO : ClassId) (sz : Nat) (h_th h_text h_numbers : Nat) (v_th_row : Value) (v_th_undos : Value) (v_th_isKept : Value) (v_th_sizes : Value) (v_th_values : Value) (v_th_asked : Value) (v_th_readBits : Value) (v_th_clauses : Value) (v_th_doing : Value) (v_th_planWord : Value) (v_th_addWord : Value) (v_th_delWord : Value) (v_th_fillWord : Value) (v_th_probes : Value) (v_th_links : Value) (v_th_looks : Value) (v_th_found : Value) (v_th_isOver : Value) (length : Int32) (first : Int32) (behind : Int32) (text : (Nat → Int32)) (numbers : (Nat → Int32)) (x0 : Int32) (x1 : Int32) (x2 : Int32) (u : Int32 × Int32 × Int32 × (Nat → Int32)) (hf : fX7_number length first behind text numbers x0 x1 x2 = some u) : Met l yX7_number wsX7_number ({ frames := 3, cells := 0, slots := 0, locals := 65 }) (va_Pc [.ref h_th, .int x0, .int x1, .int x2] (GP (dC, dI) (T4 cyI cyJ cyZ cyO) sz [(h_th, .inr (7, [v_th_row, v_th_undos, v_th_isKept, .ref h_text, .int length, v_th_sizes, v_th_values, v_th_asked, .int first, .int behind, v_th_readBits, v_th_clauses, v_th_doing, .ref h_numbers, v_th_planWord, v_th_addWord, v_th_delWord, v_th_fillWord, v_th_probes, v_th_links, v_th_looks, v_th_found, v_th_isOver])), (h_text, .inl (cyI, 200, .inl text)), (h_numbers, .inl (cyI, 3, .inl numbers))])) (va_Qi (fun (r : Int32) (_ : Unit) => r = u.1) (GB (dC, dI) [(h_th, .inr (7, [v_th_row, v_th_undos, v_th_isKept, .ref h_text, .int length, v_th_sizes, v_th_values, v_th_asked, .int u.2.1, .int u.2.2.1, v_th_readBits, v_th_clauses, v_th_doing, .ref h_numbers, v_th_planWord, v_th_addWord, v_th_delWord, v_th_fillWord, v_th_probes, v_th_links, v_th_looks, v_th_found, v_th_isOver])), (h_text, .inl (cyI, 200, .inl text)), (h_numbers, .inl (cyI, 3, .inl u.2.2.2))] (va_A [(h_th, .inr (7, [v_th_row, v_th_undos, v_th_isKept, .ref h_text, .int length, v_th_sizes, v_th_values, v_th_asked, .int first, .int behind, v_th_readBits, v_th_clauses, v_th_doing, .ref h_numbers, v_th_planWord, v_th_addWord, v_th_delWord, v_th_fillWord, v_th_probes, v_th_links, v_th_looks, v_th_found, v_th_isOver])), (h_text, .inl (cyI, 200, .inl text)), (h_numbers, .inl (cyI, 3, .inl numbers))] sz)) (va_A [(h_th, .inr (7, [v_th_row, v_th_undos, v_th_isKept, .ref h_text, .int length, v_th_sizes, v_th_values, v_th_asked, .int first, .int behind, v_th_readBits, v_th_clauses, v_th_doing, .ref h_numbers, v_th_planWord, v_th_addWord, v_th_delWord, v_th_fillWord, v_th_probes, v_th_links, v_th_looks, v_th_found, v_th_isOver])), (h_text, .inl (cyI, 200, .inl text)), (h_numbers, .inl (cyI, 3, .inl numbers))] sz)) 0 0 (va_A [(h_th, .inr (7, [v_th_row, v_th_undos, v_th_isKept, .ref h_text, .int length, v_th_sizes, v_th_values, v_th_asked, .int first, .int behind, v_th_readBits, v_th_clauses, v_th_doing, .ref h_numbers, v_th_planWord, v_th_addWord, v_th_delWord, v_th_fillWord, v_th_probes, v_th_links, v_th_looks, v_th_found, v_th_isOver])), (h_text, .inl (cyI, 200, .inl text)), (h_numbers, .inl (cyI, 3, .inl numbers))] sz) := by
  refine GMetZ (by decide) rfl (Nat.le_of_ble_eq_true rfl) ?_
  intro p e s m args below meth c A Q ls hx hb hml hts hown hN hK hA hret hP hD hS hl
  have h := hf
  clear hf
  unfold fX7_number at h
  have hown : s.vm.findClass RX7 = some m.cls := hown
  have hl : lv_has ls 6 [(0, .ref h_th), (1, .int x0), (2, .int x1), (3, .int x2)] := hl
  refine lv_aload_n hx hb dX7_number_0 rfl (lv_at hl 0 rfl) ?_
  refine va_get (D := (dC, dI)) (ci := 7) (v := .int first) (C := RX7) (T := TX7) (N := 23) hx hb hts (fun _ hw => List.mem_cons_of_mem _ (List.mem_append_right _ hw)) hown hK hP 0 rfl rfl 8 (by decide) (hts (.fieldLink RX7 94 "PrefixIndexModel" "first" "I") (List.mem_of_getElem? (i := 1) rfl)) (fun _ h9 => h9) rfl dX7_number_1 ?_
  refine lv_aload_n hx hb dX7_number_4 rfl (lv_at hl 0 rfl) ?_
  refine va_get (D := (dC, dI)) (ci := 7) (v := .int length) (C := RX7) (T := TX7) (N := 23) hx hb hts (fun _ hw => List.mem_cons_of_mem _ (List.mem_append_right _ hw)) hown hK hP 0 rfl rfl 4 (by decide) (hts (.fieldLink RX7 79 "PrefixIndexModel" "length" "I") (List.mem_of_getElem? (i := 2) rfl)) (fun _ h9 => h9) rfl dX7_number_5 ?_
  refine lv_icmp_eq (tgt := 39) hx hb dX7_number_8 (by decide) (fun c_1 => ?_) (fun c_1 => ?_)
  · have h := og_ite_t c_1 h
    refine lv_iconst (v := 0) hx hb dX7_number_39 (by decide) ?_
    obtain ⟨hz, h⟩ := obl_e h
    obtain rfl := Option.some.inj h
    exact hret _ _ _ _ dX7_number_40 hz hP hD hS
  · have h := og_ite_f c_1 h
    refine lv_aload_n hx hb dX7_number_11 rfl (lv_at hl 0 rfl) ?_
    refine va_get (D := (dC, dI)) (ci := 7) (v := .ref h_text) (C := RX7) (T := TX7) (N := 23) hx hb hts (fun _ hw => List.mem_cons_of_mem _ (List.mem_append_right _ hw)) hown hK hP 0 rfl rfl 3 (by decide) (hts (.fieldLink RX7 17 "PrefixIndexModel" "text" "[I") (List.mem_of_getElem? (i := 3) rfl)) (fun _ h9 => h9) rfl dX7_number_12 ?_
    refine lv_aload_n hx hb dX7_number_15 rfl (lv_at hl 0 rfl) ?_
    refine va_get (D := (dC, dI)) (ci := 7) (v := .int first) (C := RX7) (T := TX7) (N := 23) hx hb hts (fun _ hw => List.mem_cons_of_mem _ (List.mem_append_right _ hw)) hown hK hP 0 rfl rfl 8 (by decide) (hts (.fieldLink RX7 94 "PrefixIndexModel" "first" "I") (List.mem_of_getElem? (i := 1) rfl)) (fun _ h9 => h9) rfl dX7_number_16 ?_
    obtain ⟨hi_2, h⟩ := oin_e h
    refine va_iald hx hb hK hP 1 0 rfl rfl hi_2 dX7_number_19 ?_
    obtain ⟨u_3, hc_4, h⟩ := obd_e h
    refine Gci (wr := [(h_th, .inr (7, [v_th_row, v_th_undos, v_th_isKept, .ref h_text, .int length, v_th_sizes, v_th_values, v_th_asked, .int first, .int behind, v_th_readBits, v_th_clauses, v_th_doing, .ref h_numbers, v_th_planWord, v_th_addWord, v_th_delWord, v_th_fillWord, v_th_probes, v_th_links, v_th_looks, v_th_found, v_th_isOver])), (h_text, .inl (cyI, 200, .inl text)), (h_numbers, .inl (cyI, 3, .inl numbers))]) (va_runS (As := [.int (text first.toNatClampNeg)]) (rest := []) ⟨hx, hb, hml, hown, hts⟩ (tX7_isDigit l dC dI cyI cyJ cyZ cyO s.heap.size (text first.toNatClampNeg) u_3 hc_4) (cwS 1 hts gX7_number_X7_isDigit rfl rfl rfl (by decide +kernel) ⟨Nat.le_of_ble_eq_true rfl, Nat.le_of_ble_eq_true rfl⟩) (GpreS hP hD hK hN [] rfl (by decide)) rfl rfl hl.1 rfl (lv_room (Nat.le_of_ble_eq_true rfl)) dX7_number_20 ⟨Nat.zero_le _, Nat.zero_le _⟩) hP hD hS hA [] [0, 1, 2] rfl rfl (by decide) (by decide) (fun H locs hP hD hS => ?_)
    have hP : va_P (dC, dI) vwCl [(h_th, .inr (7, [v_th_row, v_th_undos, v_th_isKept, .ref h_text, .int length, v_th_sizes, v_th_values, v_th_asked, .int first, .int behind, v_th_readBits, v_th_clauses, v_th_doing, .ref h_numbers, v_th_planWord, v_th_addWord, v_th_delWord, v_th_fillWord, v_th_probes, v_th_links, v_th_looks, v_th_found, v_th_isOver])), (h_text, .inl (cyI, 200, .inl text)), (h_numbers, .inl (cyI, 3, .inl numbers))] H := hP
    have hD : va_D A [(h_th, .inr (7, [v_th_row, v_th_undos, v_th_isKept, .ref h_text, .int length, v_th_sizes, v_th_values, v_th_asked, .int first, .int behind, v_th_readBits, v_th_clauses, v_th_doing, .ref h_numbers, v_th_planWord, v_th_addWord, v_th_delWord, v_th_fillWord, v_th_probes, v_th_links, v_th_looks, v_th_found, v_th_isOver])), (h_text, .inl (cyI, 200, .inl text)), (h_numbers, .inl (cyI, 3, .inl numbers))] := hD
    refine lv_if_eq (tgt := 39) hx hb dX7_number_23 (by decide) (fun c_5 => ?_) (fun c_5 => ?_)
    · have h := og_ite_t c_5 h
      refine lv_iconst (v := 0) hx hb dX7_number_39 (by decide) ?_
      obtain ⟨hz, h⟩ := obl_e h
      obtain rfl := Option.some.inj h
      exact hret _ _ _ _ dX7_number_40 hz hP hD hS
    · have h := og_ite_f c_5 h
      refine lv_aload_n hx hb dX7_number_26 rfl (lv_at hl 0 rfl) ?_
      refine va_get (D := (dC, dI)) (ci := 7) (v := .int behind) (C := RX7) (T := TX7) (N := 23) hx hb hts (fun _ hw => List.mem_cons_of_mem _ (List.mem_append_right _ hw)) hown hK hP 0 rfl rfl 9 (by decide) (hts (.fieldLink RX7 91 "PrefixIndexModel" "behind" "I") (List.mem_of_getElem? (i := 4) rfl)) (fun _ h9 => h9) rfl dX7_number_27 ?_
      refine lv_aload_n hx hb dX7_number_30 rfl (lv_at hl 0 rfl) ?_
      refine va_get (D := (dC, dI)) (ci := 7) (v := .int first) (C := RX7) (T := TX7) (N := 23) hx hb hts (fun _ hw => List.mem_cons_of_mem _ (List.mem_append_right _ hw)) hown hK hP 0 rfl rfl 8 (by decide) (hts (.fieldLink RX7 94 "PrefixIndexModel" "first" "I") (List.mem_of_getElem? (i := 1) rfl)) (fun _ h9 => h9) rfl dX7_number_31 ?_
      refine lv_isub hx hb dX7_number_34 ?_
      refine lv_iconst (v := 5) hx hb dX7_number_35 (by decide) ?_
      refine lv_icmp_le (tgt := 41) hx hb dX7_number_36 (by decide) (fun c_6 => ?_) (fun c_6 => ?_)
      · have h := og_ite_t c_6 h
        refine lv_iconst (v := 0) hx hb dX7_number_41 (by decide) ?_
        refine lv_istore (lv' := [(4, .int (0 : Int32)), (0, .ref h_th), (1, .int x0), (2, .int x1), (3, .int x2)]) hx hb dX7_number_42 hl (by decide) rfl (fun ls hl => ?_)
        refine lv_aload_n hx hb dX7_number_44 rfl (lv_at hl 1 rfl) ?_
        refine va_get (D := (dC, dI)) (ci := 7) (v := .int first) (C := RX7) (T := TX7) (N := 23) hx hb hts (fun _ hw => List.mem_cons_of_mem _ (List.mem_append_right _ hw)) hown hK hP 0 rfl rfl 8 (by decide) (hts (.fieldLink RX7 94 "PrefixIndexModel" "first" "I") (List.mem_of_getElem? (i := 1) rfl)) (fun _ h9 => h9) rfl dX7_number_45 ?_
        refine lv_istore (lv' := [(5, .int first), (4, .int (0 : Int32)), (0, .ref h_th), (1, .int x0), (2, .int x1), (3, .int x2)]) hx hb dX7_number_48 hl (by decide) rfl (fun ls hl => ?_)
        obtain ⟨w_12, hw_13, h⟩ := obd_e h
        have J : ∀ (H : Heap) (locs : List Loc) (ls : Array Slot), va_P (dC, dI) vwCl [(h_th, .inr (7, [v_th_row, v_th_undos, v_th_isKept, .ref h_text, .int length, v_th_sizes, v_th_values, v_th_asked, .int first, .int behind, v_th_readBits, v_th_clauses, v_th_doing, .ref h_numbers, v_th_planWord, v_th_addWord, v_th_delWord, v_th_fillWord, v_th_probes, v_th_links, v_th_looks, v_th_found, v_th_isOver])), (h_text, .inl (cyI, 200, .inl text)), (h_numbers, .inl (cyI, 3, .inl numbers))] H → va_D A [(h_th, .inr (7, [v_th_row, v_th_undos, v_th_isKept, .ref h_text, .int length, v_th_sizes, v_th_values, v_th_asked, .int first, .int behind, v_th_readBits, v_th_clauses, v_th_doing, .ref h_numbers, v_th_planWord, v_th_addWord, v_th_delWord, v_th_fillWord, v_th_probes, v_th_links, v_th_looks, v_th_found, v_th_isOver])), (h_text, .inl (cyI, 200, .inl text)), (h_numbers, .inl (cyI, 3, .inl numbers))] → va_S A s.heap H locs → lv_has ls 6 [(0, .ref h_th), (1, .int x0), (2, .int x1), (3, .int x2), (4, .int w_12.1)] → W p l e ({ frames := 3, cells := 0, slots := 0, locals := 65 }) s m args below meth c H locs 0 0 Q (F0 m 83 ls []) := by
          intro H locs ls hP hD hS hl
          refine lv_iload hx hb dX7_number_83 (lv_at hl 4 rfl) ?_
          refine lv_i2l (v := w_12.1.toInt64) hx hb dX7_number_85 rfl ?_
          refine lv_iload_n hx hb dX7_number_86 rfl (lv_at hl 2 rfl) ?_
          refine lv_i2l (v := x1.toInt64) hx hb dX7_number_87 rfl ?_
          refine lv_iload_n hx hb dX7_number_88 rfl (lv_at hl 3 rfl) ?_
          refine lv_i2l (v := x2.toInt64) hx hb dX7_number_89 rfl ?_
          obtain ⟨u_14, hc_15, h⟩ := obd_e h
          refine Gci (wr := [(h_th, .inr (7, [v_th_row, v_th_undos, v_th_isKept, .ref h_text, .int length, v_th_sizes, v_th_values, v_th_asked, .int first, .int behind, v_th_readBits, v_th_clauses, v_th_doing, .ref h_numbers, v_th_planWord, v_th_addWord, v_th_delWord, v_th_fillWord, v_th_probes, v_th_links, v_th_looks, v_th_found, v_th_isOver])), (h_text, .inl (cyI, 200, .inl text)), (h_numbers, .inl (cyI, 3, .inl numbers))]) (va_runS (As := [.long w_12.1.toInt64, .long x1.toInt64, .long x2.toInt64]) (rest := []) ⟨hx, hb, hml, hown, hts⟩ (tX7_in l dC dI cyI cyJ cyZ cyO H.size w_12.1.toInt64 x1.toInt64 x2.toInt64 u_14 hc_15) (cwS 3 hts gX7_number_X7_in rfl rfl rfl (by decide +kernel) ⟨Nat.le_of_ble_eq_true rfl, Nat.le_of_ble_eq_true rfl⟩) (GpreS hP hD hK hN [] rfl (by decide)) rfl rfl hl.1 rfl (lv_room (Nat.le_of_ble_eq_true rfl)) dX7_number_90 ⟨Nat.zero_le _, Nat.zero_le _⟩) hP hD hS hA [] [0, 1, 2] rfl rfl (by decide) (by decide) (fun H locs hP hD hS => ?_)
          have hP : va_P (dC, dI) vwCl [(h_th, .inr (7, [v_th_row, v_th_undos, v_th_isKept, .ref h_text, .int length, v_th_sizes, v_th_values, v_th_asked, .int first, .int behind, v_th_readBits, v_th_clauses, v_th_doing, .ref h_numbers, v_th_planWord, v_th_addWord, v_th_delWord, v_th_fillWord, v_th_probes, v_th_links, v_th_looks, v_th_found, v_th_isOver])), (h_text, .inl (cyI, 200, .inl text)), (h_numbers, .inl (cyI, 3, .inl numbers))] H := hP
          have hD : va_D A [(h_th, .inr (7, [v_th_row, v_th_undos, v_th_isKept, .ref h_text, .int length, v_th_sizes, v_th_values, v_th_asked, .int first, .int behind, v_th_readBits, v_th_clauses, v_th_doing, .ref h_numbers, v_th_planWord, v_th_addWord, v_th_delWord, v_th_fillWord, v_th_probes, v_th_links, v_th_looks, v_th_found, v_th_isOver])), (h_text, .inl (cyI, 200, .inl text)), (h_numbers, .inl (cyI, 3, .inl numbers))] := hD
          refine lv_istore (lv' := [(5, .int u_14), (0, .ref h_th), (1, .int x0), (2, .int x1), (3, .int x2), (4, .int w_12.1)]) hx hb dX7_number_93 hl (by decide) rfl (fun ls hl => ?_)
          refine lv_iload hx hb dX7_number_95 (lv_at hl 0 rfl) ?_
          obtain ⟨w_17, hm_21, h⟩ := obd_e h
          have J : ∀ (H : Heap) (locs : List Loc) (ls : Array Slot), va_P (dC, dI) vwCl [(h_th, .inr (7, [v_th_row, v_th_undos, v_th_isKept, .ref h_text, .int length, v_th_sizes, v_th_values, v_th_asked, .int w_17.1, .int w_17.2.1, v_th_readBits, v_th_clauses, v_th_doing, .ref h_numbers, v_th_planWord, v_th_addWord, v_th_delWord, v_th_fillWord, v_th_probes, v_th_links, v_th_looks, v_th_found, v_th_isOver])), (h_text, .inl (cyI, 200, .inl text)), (h_numbers, .inl (cyI, 3, .inl w_17.2.2))] H → va_D A [(h_th, .inr (7, [v_th_row, v_th_undos, v_th_isKept, .ref h_text, .int length, v_th_sizes, v_th_values, v_th_asked, .int w_17.1, .int w_17.2.1, v_th_readBits, v_th_clauses, v_th_doing, .ref h_numbers, v_th_planWord, v_th_addWord, v_th_delWord, v_th_fillWord, v_th_probes, v_th_links, v_th_looks, v_th_found, v_th_isOver])), (h_text, .inl (cyI, 200, .inl text)), (h_numbers, .inl (cyI, 3, .inl w_17.2.2))] → va_S A s.heap H locs → lv_has ls 6 [(5, .int u_14)] → W p l e ({ frames := 3, cells := 0, slots := 0, locals := 65 }) s m args below meth c H locs 0 0 Q (F0 m 112 ls []) := by
            intro H locs ls hP hD hS hl
            refine lv_iload hx hb dX7_number_112 (lv_at hl 0 rfl) ?_
            obtain ⟨hz, h⟩ := obl_e h
            obtain rfl := Option.some.inj h
            exact hret _ _ _ _ dX7_number_114 hz hP hD hS
          replace h := hm_21
          refine lv_if_eq (tgt := 112) hx hb dX7_number_97 (by decide) (fun c_16 => ?_) (fun c_16 => ?_)
          · have h := og_ite_t c_16 h
            obtain rfl := Option.some.inj h
            exact J _ _ _ hP hD hS (lv_sub hl [0] rfl)
          · have h := og_ite_f c_16 h
            refine lv_aload_n hx hb dX7_number_100 rfl (lv_at hl 1 rfl) ?_
            refine va_get (D := (dC, dI)) (ci := 7) (v := .ref h_numbers) (C := RX7) (T := TX7) (N := 23) hx hb hts (fun _ hw => List.mem_cons_of_mem _ (List.mem_append_right _ hw)) hown hK hP 0 rfl rfl 13 (by decide) (hts (.fieldLink RX7 27 "PrefixIndexModel" "numbers" "[I") (List.mem_of_getElem? (i := 5) rfl)) (fun _ h9 => h9) rfl dX7_number_101 ?_
            refine lv_iload_n hx hb dX7_number_104 rfl (lv_at hl 2 rfl) ?_
            refine lv_iload hx hb dX7_number_105 (lv_at hl 5 rfl) ?_
            obtain ⟨hi_18, h⟩ := oin_e h
            refine va_iast hx hb hK hP hD hS 2 0 rfl rfl hi_18 dX7_number_107 (fun H locs hP hD hS => ?_)
            have hP : va_P (dC, dI) vwCl [(h_th, .inr (7, [v_th_row, v_th_undos, v_th_isKept, .ref h_text, .int length, v_th_sizes, v_th_values, v_th_asked, .int first, .int behind, v_th_readBits, v_th_clauses, v_th_doing, .ref h_numbers, v_th_planWord, v_th_addWord, v_th_delWord, v_th_fillWord, v_th_probes, v_th_links, v_th_looks, v_th_found, v_th_isOver])), (h_text, .inl (cyI, 200, .inl text)), (h_numbers, .inl (cyI, 3, .inl (upd numbers x0.toNatClampNeg w_12.1)))] H := hP
            have hD : va_D A [(h_th, .inr (7, [v_th_row, v_th_undos, v_th_isKept, .ref h_text, .int length, v_th_sizes, v_th_values, v_th_asked, .int first, .int behind, v_th_readBits, v_th_clauses, v_th_doing, .ref h_numbers, v_th_planWord, v_th_addWord, v_th_delWord, v_th_fillWord, v_th_probes, v_th_links, v_th_looks, v_th_found, v_th_isOver])), (h_text, .inl (cyI, 200, .inl text)), (h_numbers, .inl (cyI, 3, .inl (upd numbers x0.toNatClampNeg w_12.1)))] := hD
            refine lv_aload_n hx hb dX7_number_108 rfl (lv_at hl 1 rfl) ?_
            obtain ⟨u_19, hc_20, h⟩ := obd_e h
            refine Gcv (wr := [(h_numbers, .inl (cyI, 3, .inl (upd numbers x0.toNatClampNeg w_12.1)))]) (va_runV (As := []) (rest := []) ⟨hx, hb, hml, hown, hts⟩ (tX7_nextToken l dC dI cyI cyJ cyZ cyO H.size h_th h_text v_th_row v_th_undos v_th_isKept v_th_sizes v_th_values v_th_asked v_th_readBits v_th_clauses v_th_doing (.ref h_numbers) v_th_planWord v_th_addWord v_th_delWord v_th_fillWord v_th_probes v_th_links v_th_looks v_th_found v_th_isOver length first behind text u_19 hc_20) (cwV 0 hts gX7_number_X7_nextToken rfl rfl rfl (by decide +kernel) ⟨Nat.le_of_ble_eq_true rfl, Nat.le_of_ble_eq_true rfl⟩) (GpreV hP hD hK hN [0, 1] rfl (by decide) 7 0 rfl rfl rfl) rfl rfl hl.1 rfl (lv_room (Nat.le_of_ble_eq_true rfl)) dX7_number_109 ⟨Nat.zero_le _, Nat.zero_le _⟩) hP hD hS hA [0, 1] [2] rfl rfl (by decide) (by decide) (fun H locs hP hD hS => ?_)
            have hP : va_P (dC, dI) vwCl [(h_numbers, .inl (cyI, 3, .inl (upd numbers x0.toNatClampNeg w_12.1))), (h_th, .inr (7, [v_th_row, v_th_undos, v_th_isKept, .ref h_text, .int length, v_th_sizes, v_th_values, v_th_asked, .int u_19.1, .int u_19.2, v_th_readBits, v_th_clauses, v_th_doing, .ref h_numbers, v_th_planWord, v_th_addWord, v_th_delWord, v_th_fillWord, v_th_probes, v_th_links, v_th_looks, v_th_found, v_th_isOver])), (h_text, .inl (cyI, 200, .inl text))] H := hP
            have hD : va_D A [(h_numbers, .inl (cyI, 3, .inl (upd numbers x0.toNatClampNeg w_12.1))), (h_th, .inr (7, [v_th_row, v_th_undos, v_th_isKept, .ref h_text, .int length, v_th_sizes, v_th_values, v_th_asked, .int u_19.1, .int u_19.2, v_th_readBits, v_th_clauses, v_th_doing, .ref h_numbers, v_th_planWord, v_th_addWord, v_th_delWord, v_th_fillWord, v_th_probes, v_th_links, v_th_looks, v_th_found, v_th_isOver])), (h_text, .inl (cyI, 200, .inl text))] := hD
            obtain rfl := Option.some.inj h
            have hP := hP.sub (ws' := [(h_th, .inr (7, [v_th_row, v_th_undos, v_th_isKept, .ref h_text, .int length, v_th_sizes, v_th_values, v_th_asked, .int u_19.1, .int u_19.2, v_th_readBits, v_th_clauses, v_th_doing, .ref h_numbers, v_th_planWord, v_th_addWord, v_th_delWord, v_th_fillWord, v_th_probes, v_th_links, v_th_looks, v_th_found, v_th_isOver])), (h_text, .inl (cyI, 200, .inl text)), (h_numbers, .inl (cyI, 3, .inl (upd numbers x0.toNatClampNeg w_12.1)))]) [1, 2, 0] rfl
            have hD := hD.sub (ws' := [(h_th, .inr (7, [v_th_row, v_th_undos, v_th_isKept, .ref h_text, .int length, v_th_sizes, v_th_values, v_th_asked, .int u_19.1, .int u_19.2, v_th_readBits, v_th_clauses, v_th_doing, .ref h_numbers, v_th_planWord, v_th_addWord, v_th_delWord, v_th_fillWord, v_th_probes, v_th_links, v_th_looks, v_th_found, v_th_isOver])), (h_text, .inl (cyI, 200, .inl text)), (h_numbers, .inl (cyI, 3, .inl (upd numbers x0.toNatClampNeg w_12.1)))]) [1, 2, 0] (by decide) rfl
            exact J _ _ _ hP hD hS (lv_sub hl [0] rfl)
        have LL : ∀ (n : Nat) (m4 : Int32) (m5 : Int32) (H : Heap) (locs : List Loc) (ls : Array Slot), lpX7_number_50 x0 x1 x2 behind text n m4 m5 = some w_12 → va_P (dC, dI) vwCl [(h_th, .inr (7, [v_th_row, v_th_undos, v_th_isKept, .ref h_text, .int length, v_th_sizes, v_th_values, v_th_asked, .int first, .int behind, v_th_readBits, v_th_clauses, v_th_doing, .ref h_numbers, v_th_planWord, v_th_addWord, v_th_delWord, v_th_fillWord, v_th_probes, v_th_links, v_th_looks, v_th_found, v_th_isOver])), (h_text, .inl (cyI, 200, .inl text)), (h_numbers, .inl (cyI, 3, .inl numbers))] H → va_D A [(h_th, .inr (7, [v_th_row, v_th_undos, v_th_isKept, .ref h_text, .int length, v_th_sizes, v_th_values, v_th_asked, .int first, .int behind, v_th_readBits, v_th_clauses, v_th_doing, .ref h_numbers, v_th_planWord, v_th_addWord, v_th_delWord, v_th_fillWord, v_th_probes, v_th_links, v_th_looks, v_th_found, v_th_isOver])), (h_text, .inl (cyI, 200, .inl text)), (h_numbers, .inl (cyI, 3, .inl numbers))] → va_S A s.heap H locs → lv_has ls 6 [(0, .ref h_th), (1, .int x0), (2, .int x1), (3, .int x2), (4, .int m4), (5, .int m5)] → W p l e ({ frames := 3, cells := 0, slots := 0, locals := 65 }) s m args below meth c H locs 0 0 Q (F0 m 50 ls []) := by
          intro n
          induction n with
          | zero =>
            intro m4 m5 H locs ls h
            exact absurd h (by rw [lpX7_number_50]; exact fun q => by cases q)
          | succ n ih =>
            intro m4 m5 H locs ls h hP hD hS hl
            rw [lpX7_number_50] at h
            refine lv_iload hx hb dX7_number_50 (lv_at hl 5 rfl) ?_
            refine lv_aload_n hx hb dX7_number_52 rfl (lv_at hl 0 rfl) ?_
            refine va_get (D := (dC, dI)) (ci := 7) (v := .int behind) (C := RX7) (T := TX7) (N := 23) hx hb hts (fun _ hw => List.mem_cons_of_mem _ (List.mem_append_right _ hw)) hown hK hP 0 rfl rfl 9 (by decide) (hts (.fieldLink RX7 91 "PrefixIndexModel" "behind" "I") (List.mem_of_getElem? (i := 4) rfl)) (fun _ h9 => h9) rfl dX7_number_53 ?_
            refine lv_icmp_ge (tgt := 83) hx hb dX7_number_56 (by decide) (fun c_10 => ?_) (fun c_10 => ?_)
            · have h := og_ite_t c_10 h
              obtain rfl := Option.some.inj h
              exact J _ _ _ hP hD hS (lv_sub hl [0, 1, 2, 3, 4] rfl)
            · have h := og_ite_f c_10 h
              refine lv_bipush (v := 10) hx hb dX7_number_59 (by decide) ?_
              refine lv_iload hx hb dX7_number_61 (lv_at hl 4 rfl) ?_
              refine lv_imul hx hb dX7_number_63 ?_
              refine lv_aload_n hx hb dX7_number_64 rfl (lv_at hl 0 rfl) ?_
              refine va_get (D := (dC, dI)) (ci := 7) (v := .ref h_text) (C := RX7) (T := TX7) (N := 23) hx hb hts (fun _ hw => List.mem_cons_of_mem _ (List.mem_append_right _ hw)) hown hK hP 0 rfl rfl 3 (by decide) (hts (.fieldLink RX7 17 "PrefixIndexModel" "text" "[I") (List.mem_of_getElem? (i := 3) rfl)) (fun _ h9 => h9) rfl dX7_number_65 ?_
              refine lv_iload hx hb dX7_number_68 (lv_at hl 5 rfl) ?_
              obtain ⟨hi_11, h⟩ := oin_e h
              refine va_iald hx hb hK hP 1 0 rfl rfl hi_11 dX7_number_70 ?_
              refine lv_iadd hx hb dX7_number_71 ?_
              refine lv_bipush (v := 48) hx hb dX7_number_72 (by decide) ?_
              refine lv_isub hx hb dX7_number_74 ?_
              refine lv_istore (lv' := [(4, .int ((((10 : Int32) * m4) + (text m5.toNatClampNeg)) - (48 : Int32))), (0, .ref h_th), (1, .int x0), (2, .int x1), (3, .int x2), (5, .int m5)]) hx hb dX7_number_75 hl (by decide) rfl (fun ls hl => ?_)
              refine lv_iinc (v := m5 + (1 : Int32)) (lv' := [(5, .int (m5 + (1 : Int32))), (4, .int ((((10 : Int32) * m4) + (text m5.toNatClampNeg)) - (48 : Int32))), (0, .ref h_th), (1, .int x0), (2, .int x1), (3, .int x2)]) hx hb dX7_number_77 hl (k := 5) rfl rfl (by decide) rfl (fun ls hl => ?_)
              refine lv_goto (tgt := 50) hx hb dX7_number_80 (by decide) ?_
              exact ih ((((10 : Int32) * m4) + (text m5.toNatClampNeg)) - (48 : Int32)) (m5 + (1 : Int32)) _ _ _ h hP hD hS (lv_sub hl [2, 3, 4, 5, 1, 0] rfl)
        exact LL _ (0 : Int32) first _ _ _ hw_13 hP hD hS (lv_sub hl [2, 3, 4, 5, 1, 0] rfl)
      · have h := og_ite_f c_6 h
        refine lv_iconst (v := 0) hx hb dX7_number_39 (by decide) ?_
        obtain ⟨hz, h⟩ := obl_e h
        obtain rfl := Option.some.inj h
        exact hret _ _ _ _ dX7_number_40 hz hP hD hS

def fX7_wordHere (first : Int32) (behind : Int32) (text : (Nat → Int32)) (planWord : (Nat → Int32)) (addWord : (Nat → Int32)) (delWord : (Nat → Int32)) (fillWord : (Nat → Int32)) : Option (Int32) := obd (fX7_isWord 4 first behind text planWord) fun u_1 => obd (if u_1 = 0 then (obd (fX7_isWord 3 first behind text addWord) fun u_5 => if u_5 = 0 then (obd (fX7_isWord 3 first behind text delWord) fun u_8 => if u_8 = 0 then (obd (fX7_isWord 4 first behind text fillWord) fun u_11 => if u_11 = 0 then (some (-1 : Int32)) else (some (3 : Int32))) else (some (2 : Int32))) else (some (1 : Int32))) else (some (0 : Int32))) fun w_4 => some w_4

set_option maxHeartbeats 4000000 in
set_option maxRecDepth 100000 in
theorem tX7_wordHere (l : Launch) (dC : Nat → ClassId) (dI : Nat → Nat → Nat) (cyI cyJ cyZ cyO : ClassId) (sz : Nat) (h_th h_text h_planWord h_addWord h_delWord h_fillWord : Nat) (v_th_row : Value) (v_th_undos : Value) (v_th_isKept : Value) (v_th_length : Value) (v_th_sizes : Value) (v_th_values : Value) (v_th_asked : Value) (v_th_readBits : Value) (v_th_clauses : Value) (v_th_doing : Value) (v_th_numbers : Value) (v_th_probes : Value) (v_th_links : Value) (v_th_looks : Value) (v_th_found : Value) (v_th_isOver : Value) (first : Int32) (behind : Int32) (text : (Nat → Int32)) (planWord : (Nat → Int32)) (addWord : (Nat → Int32)) (delWord : (Nat → Int32)) (fillWord : (Nat → Int32)) (u : Int32) (hf : fX7_wordHere first behind text planWord addWord delWord fillWord = some u) : Met l yX7_wordHere wsX7_wordHere ({ frames := 1, cells := 0, slots := 0, locals := 23 }) (va_Pc [.ref h_th] (GP (dC, dI) (T4 cyI cyJ cyZ cyO) sz [(h_th, .inr (7, [v_th_row, v_th_undos, v_th_isKept, .ref h_text, v_th_length, v_th_sizes, v_th_values, v_th_asked, .int first, .int behind, v_th_readBits, v_th_clauses, v_th_doing, v_th_numbers, .ref h_planWord, .ref h_addWord, .ref h_delWord, .ref h_fillWord, v_th_probes, v_th_links, v_th_looks, v_th_found, v_th_isOver])), (h_text, .inl (cyI, 200, .inl text)), (h_planWord, .inl (cyI, 4, .inl planWord)), (h_addWord, .inl (cyI, 3, .inl addWord)), (h_delWord, .inl (cyI, 3, .inl delWord)), (h_fillWord, .inl (cyI, 4, .inl fillWord))])) (va_Qi (fun (r : Int32) (_ : Unit) => r = u) (GB (dC, dI) [(h_th, .inr (7, [v_th_row, v_th_undos, v_th_isKept, .ref h_text, v_th_length, v_th_sizes, v_th_values, v_th_asked, .int first, .int behind, v_th_readBits, v_th_clauses, v_th_doing, v_th_numbers, .ref h_planWord, .ref h_addWord, .ref h_delWord, .ref h_fillWord, v_th_probes, v_th_links, v_th_looks, v_th_found, v_th_isOver])), (h_text, .inl (cyI, 200, .inl text)), (h_planWord, .inl (cyI, 4, .inl planWord)), (h_addWord, .inl (cyI, 3, .inl addWord)), (h_delWord, .inl (cyI, 3, .inl delWord)), (h_fillWord, .inl (cyI, 4, .inl fillWord))] (va_A [(h_th, .inr (7, [v_th_row, v_th_undos, v_th_isKept, .ref h_text, v_th_length, v_th_sizes, v_th_values, v_th_asked, .int first, .int behind, v_th_readBits, v_th_clauses, v_th_doing, v_th_numbers, .ref h_planWord, .ref h_addWord, .ref h_delWord, .ref h_fillWord, v_th_probes, v_th_links, v_th_looks, v_th_found, v_th_isOver])), (h_text, .inl (cyI, 200, .inl text)), (h_planWord, .inl (cyI, 4, .inl planWord)), (h_addWord, .inl (cyI, 3, .inl addWord)), (h_delWord, .inl (cyI, 3, .inl delWord)), (h_fillWord, .inl (cyI, 4, .inl fillWord))] sz)) (va_A [(h_th, .inr (7, [v_th_row, v_th_undos, v_th_isKept, .ref h_text, v_th_length, v_th_sizes, v_th_values, v_th_asked, .int first, .int behind, v_th_readBits, v_th_clauses, v_th_doing, v_th_numbers, .ref h_planWord, .ref h_addWord, .ref h_delWord, .ref h_fillWord, v_th_probes, v_th_links, v_th_looks, v_th_found, v_th_isOver])), (h_text, .inl (cyI, 200, .inl text)), (h_planWord, .inl (cyI, 4, .inl planWord)), (h_addWord, .inl (cyI, 3, .inl addWord)), (h_delWord, .inl (cyI, 3, .inl delWord)), (h_fillWord, .inl (cyI, 4, .inl fillWord))] sz)) 0 0 (va_A [(h_th, .inr (7, [v_th_row, v_th_undos, v_th_isKept, .ref h_text, v_th_length, v_th_sizes, v_th_values, v_th_asked, .int first, .int behind, v_th_readBits, v_th_clauses, v_th_doing, v_th_numbers, .ref h_planWord, .ref h_addWord, .ref h_delWord, .ref h_fillWord, v_th_probes, v_th_links, v_th_looks, v_th_found, v_th_isOver])), (h_text, .inl (cyI, 200, .inl text)), (h_planWord, .inl (cyI, 4, .inl planWord)), (h_addWord, .inl (cyI, 3, .inl addWord)), (h_delWord, .inl (cyI, 3, .inl delWord)), (h_fillWord, .inl (cyI, 4, .inl fillWord))] sz) := by
  refine GMetI (by decide) rfl (Nat.le_of_ble_eq_true rfl) ?_
  intro p e s m args below meth c A Q ls hx hb hml hts hown hN hK hA hret hP hD hS hl
  have h := hf
  clear hf
  unfold fX7_wordHere at h
  have hown : s.vm.findClass RX7 = some m.cls := hown
  have hl : lv_has ls 1 [(0, .ref h_th)] := hl
  refine lv_aload_n hx hb dX7_wordHere_0 rfl (lv_at hl 0 rfl) ?_
  refine lv_aload_n hx hb dX7_wordHere_1 rfl (lv_at hl 0 rfl) ?_
  refine va_get (D := (dC, dI)) (ci := 7) (v := .ref h_planWord) (C := RX7) (T := TX7) (N := 23) hx hb hts (fun _ hw => List.mem_cons_of_mem _ (List.mem_append_right _ hw)) hown hK hP 0 rfl rfl 14 (by decide) (hts (.fieldLink RX7 30 "PrefixIndexModel" "planWord" "[I") (List.mem_of_getElem? (i := 1) rfl)) (fun _ h9 => h9) rfl dX7_wordHere_2 ?_
  obtain ⟨u_1, hc_2, h⟩ := obd_e h
  refine Gci (wr := [(h_addWord, .inl (cyI, 3, .inl addWord)), (h_delWord, .inl (cyI, 3, .inl delWord)), (h_fillWord, .inl (cyI, 4, .inl fillWord))]) (va_runV (As := [.ref h_planWord]) (rest := []) ⟨hx, hb, hml, hown, hts⟩ (tX7_isWord l dC dI cyI cyJ cyZ cyO s.heap.size h_th h_text h_planWord 4 v_th_row v_th_undos v_th_isKept v_th_length v_th_sizes v_th_values v_th_asked v_th_readBits v_th_clauses v_th_doing v_th_numbers (.ref h_planWord) (.ref h_addWord) (.ref h_delWord) (.ref h_fillWord) v_th_probes v_th_links v_th_looks v_th_found v_th_isOver first behind text planWord u_1 hc_2) (cwV 1 hts gX7_wordHere_X7_isWord rfl rfl rfl (by decide +kernel) ⟨Nat.le_of_ble_eq_true rfl, Nat.le_of_ble_eq_true rfl⟩) (GpreV hP hD hK hN [0, 1, 2] rfl (by decide) 7 0 rfl rfl rfl) rfl rfl hl.1 rfl (lv_room (Nat.le_of_ble_eq_true rfl)) dX7_wordHere_5 ⟨Nat.zero_le _, Nat.zero_le _⟩) hP hD hS hA [0, 1, 2] [3, 4, 5] rfl rfl (by decide) (by decide) (fun H locs hP hD hS => ?_)
  have hP : va_P (dC, dI) vwCl [(h_addWord, .inl (cyI, 3, .inl addWord)), (h_delWord, .inl (cyI, 3, .inl delWord)), (h_fillWord, .inl (cyI, 4, .inl fillWord)), (h_th, .inr (7, [v_th_row, v_th_undos, v_th_isKept, .ref h_text, v_th_length, v_th_sizes, v_th_values, v_th_asked, .int first, .int behind, v_th_readBits, v_th_clauses, v_th_doing, v_th_numbers, .ref h_planWord, .ref h_addWord, .ref h_delWord, .ref h_fillWord, v_th_probes, v_th_links, v_th_looks, v_th_found, v_th_isOver])), (h_text, .inl (cyI, 200, .inl text)), (h_planWord, .inl (cyI, 4, .inl planWord))] H := hP
  have hD : va_D A [(h_addWord, .inl (cyI, 3, .inl addWord)), (h_delWord, .inl (cyI, 3, .inl delWord)), (h_fillWord, .inl (cyI, 4, .inl fillWord)), (h_th, .inr (7, [v_th_row, v_th_undos, v_th_isKept, .ref h_text, v_th_length, v_th_sizes, v_th_values, v_th_asked, .int first, .int behind, v_th_readBits, v_th_clauses, v_th_doing, v_th_numbers, .ref h_planWord, .ref h_addWord, .ref h_delWord, .ref h_fillWord, v_th_probes, v_th_links, v_th_looks, v_th_found, v_th_isOver])), (h_text, .inl (cyI, 200, .inl text)), (h_planWord, .inl (cyI, 4, .inl planWord))] := hD
  obtain ⟨w_4, hm_14, h⟩ := obd_e h
  have J : ∀ (H : Heap) (locs : List Loc) (ls : Array Slot), va_P (dC, dI) vwCl [(h_addWord, .inl (cyI, 3, .inl addWord)), (h_delWord, .inl (cyI, 3, .inl delWord)), (h_fillWord, .inl (cyI, 4, .inl fillWord)), (h_th, .inr (7, [v_th_row, v_th_undos, v_th_isKept, .ref h_text, v_th_length, v_th_sizes, v_th_values, v_th_asked, .int first, .int behind, v_th_readBits, v_th_clauses, v_th_doing, v_th_numbers, .ref h_planWord, .ref h_addWord, .ref h_delWord, .ref h_fillWord, v_th_probes, v_th_links, v_th_looks, v_th_found, v_th_isOver])), (h_text, .inl (cyI, 200, .inl text)), (h_planWord, .inl (cyI, 4, .inl planWord))] H → va_D A [(h_addWord, .inl (cyI, 3, .inl addWord)), (h_delWord, .inl (cyI, 3, .inl delWord)), (h_fillWord, .inl (cyI, 4, .inl fillWord)), (h_th, .inr (7, [v_th_row, v_th_undos, v_th_isKept, .ref h_text, v_th_length, v_th_sizes, v_th_values, v_th_asked, .int first, .int behind, v_th_readBits, v_th_clauses, v_th_doing, v_th_numbers, .ref h_planWord, .ref h_addWord, .ref h_delWord, .ref h_fillWord, v_th_probes, v_th_links, v_th_looks, v_th_found, v_th_isOver])), (h_text, .inl (cyI, 200, .inl text)), (h_planWord, .inl (cyI, 4, .inl planWord))] → va_S A s.heap H locs → lv_has ls 1 [] → W p l e ({ frames := 1, cells := 0, slots := 0, locals := 23 }) s m args below meth c H locs 0 0 Q (F0 m 61 ls [.int w_4]) := by
    intro H locs ls hP hD hS hl
    obtain rfl := Option.some.inj h
    have hP := hP.sub (ws' := [(h_th, .inr (7, [v_th_row, v_th_undos, v_th_isKept, .ref h_text, v_th_length, v_th_sizes, v_th_values, v_th_asked, .int first, .int behind, v_th_readBits, v_th_clauses, v_th_doing, v_th_numbers, .ref h_planWord, .ref h_addWord, .ref h_delWord, .ref h_fillWord, v_th_probes, v_th_links, v_th_looks, v_th_found, v_th_isOver])), (h_text, .inl (cyI, 200, .inl text)), (h_planWord, .inl (cyI, 4, .inl planWord)), (h_addWord, .inl (cyI, 3, .inl addWord)), (h_delWord, .inl (cyI, 3, .inl delWord)), (h_fillWord, .inl (cyI, 4, .inl fillWord))]) [3, 4, 5, 0, 1, 2] rfl
    have hD := hD.sub (ws' := [(h_th, .inr (7, [v_th_row, v_th_undos, v_th_isKept, .ref h_text, v_th_length, v_th_sizes, v_th_values, v_th_asked, .int first, .int behind, v_th_readBits, v_th_clauses, v_th_doing, v_th_numbers, .ref h_planWord, .ref h_addWord, .ref h_delWord, .ref h_fillWord, v_th_probes, v_th_links, v_th_looks, v_th_found, v_th_isOver])), (h_text, .inl (cyI, 200, .inl text)), (h_planWord, .inl (cyI, 4, .inl planWord)), (h_addWord, .inl (cyI, 3, .inl addWord)), (h_delWord, .inl (cyI, 3, .inl delWord)), (h_fillWord, .inl (cyI, 4, .inl fillWord))]) [3, 4, 5, 0, 1, 2] (by decide) rfl
    exact hret _ _ _ _ dX7_wordHere_61 hP hD hS
  replace h := hm_14
  refine lv_if_eq (tgt := 15) hx hb dX7_wordHere_8 (by decide) (fun c_3 => ?_) (fun c_3 => ?_)
  · have h := og_ite_t c_3 h
    refine lv_aload_n hx hb dX7_wordHere_15 rfl (lv_at hl 0 rfl) ?_
    refine lv_aload_n hx hb dX7_wordHere_16 rfl (lv_at hl 0 rfl) ?_
    refine va_get (D := (dC, dI)) (ci := 7) (v := .ref h_addWord) (C := RX7) (T := TX7) (N := 23) hx hb hts (fun _ hw => List.mem_cons_of_mem _ (List.mem_append_right _ hw)) hown hK hP 3 rfl rfl 15 (by decide) (hts (.fieldLink RX7 33 "PrefixIndexModel" "addWord" "[I") (List.mem_of_getElem? (i := 2) rfl)) (fun _ h9 => h9) rfl dX7_wordHere_17 ?_
    obtain ⟨u_5, hc_6, h⟩ := obd_e h
    refine Gci (wr := [(h_delWord, .inl (cyI, 3, .inl delWord)), (h_fillWord, .inl (cyI, 4, .inl fillWord)), (h_planWord, .inl (cyI, 4, .inl planWord))]) (va_runV (As := [.ref h_addWord]) (rest := []) ⟨hx, hb, hml, hown, hts⟩ (tX7_isWord l dC dI cyI cyJ cyZ cyO H.size h_th h_text h_addWord 3 v_th_row v_th_undos v_th_isKept v_th_length v_th_sizes v_th_values v_th_asked v_th_readBits v_th_clauses v_th_doing v_th_numbers (.ref h_planWord) (.ref h_addWord) (.ref h_delWord) (.ref h_fillWord) v_th_probes v_th_links v_th_looks v_th_found v_th_isOver first behind text addWord u_5 hc_6) (cwV 1 hts gX7_wordHere_X7_isWord rfl rfl rfl (by decide +kernel) ⟨Nat.le_of_ble_eq_true rfl, Nat.le_of_ble_eq_true rfl⟩) (GpreV hP hD hK hN [3, 4, 0] rfl (by decide) 7 0 rfl rfl rfl) rfl rfl hl.1 rfl (lv_room (Nat.le_of_ble_eq_true rfl)) dX7_wordHere_20 ⟨Nat.zero_le _, Nat.zero_le _⟩) hP hD hS hA [3, 4, 0] [1, 2, 5] rfl rfl (by decide) (by decide) (fun H locs hP hD hS => ?_)
    have hP : va_P (dC, dI) vwCl [(h_delWord, .inl (cyI, 3, .inl delWord)), (h_fillWord, .inl (cyI, 4, .inl fillWord)), (h_planWord, .inl (cyI, 4, .inl planWord)), (h_th, .inr (7, [v_th_row, v_th_undos, v_th_isKept, .ref h_text, v_th_length, v_th_sizes, v_th_values, v_th_asked, .int first, .int behind, v_th_readBits, v_th_clauses, v_th_doing, v_th_numbers, .ref h_planWord, .ref h_addWord, .ref h_delWord, .ref h_fillWord, v_th_probes, v_th_links, v_th_looks, v_th_found, v_th_isOver])), (h_text, .inl (cyI, 200, .inl text)), (h_addWord, .inl (cyI, 3, .inl addWord))] H := hP
    have hD : va_D A [(h_delWord, .inl (cyI, 3, .inl delWord)), (h_fillWord, .inl (cyI, 4, .inl fillWord)), (h_planWord, .inl (cyI, 4, .inl planWord)), (h_th, .inr (7, [v_th_row, v_th_undos, v_th_isKept, .ref h_text, v_th_length, v_th_sizes, v_th_values, v_th_asked, .int first, .int behind, v_th_readBits, v_th_clauses, v_th_doing, v_th_numbers, .ref h_planWord, .ref h_addWord, .ref h_delWord, .ref h_fillWord, v_th_probes, v_th_links, v_th_looks, v_th_found, v_th_isOver])), (h_text, .inl (cyI, 200, .inl text)), (h_addWord, .inl (cyI, 3, .inl addWord))] := hD
    refine lv_if_eq (tgt := 30) hx hb dX7_wordHere_23 (by decide) (fun c_7 => ?_) (fun c_7 => ?_)
    · have h := og_ite_t c_7 h
      refine lv_aload_n hx hb dX7_wordHere_30 rfl (lv_at hl 0 rfl) ?_
      refine lv_aload_n hx hb dX7_wordHere_31 rfl (lv_at hl 0 rfl) ?_
      refine va_get (D := (dC, dI)) (ci := 7) (v := .ref h_delWord) (C := RX7) (T := TX7) (N := 23) hx hb hts (fun _ hw => List.mem_cons_of_mem _ (List.mem_append_right _ hw)) hown hK hP 3 rfl rfl 16 (by decide) (hts (.fieldLink RX7 36 "PrefixIndexModel" "delWord" "[I") (List.mem_of_getElem? (i := 3) rfl)) (fun _ h9 => h9) rfl dX7_wordHere_32 ?_
      obtain ⟨u_8, hc_9, h⟩ := obd_e h
      refine Gci (wr := [(h_fillWord, .inl (cyI, 4, .inl fillWord)), (h_planWord, .inl (cyI, 4, .inl planWord)), (h_addWord, .inl (cyI, 3, .inl addWord))]) (va_runV (As := [.ref h_delWord]) (rest := []) ⟨hx, hb, hml, hown, hts⟩ (tX7_isWord l dC dI cyI cyJ cyZ cyO H.size h_th h_text h_delWord 3 v_th_row v_th_undos v_th_isKept v_th_length v_th_sizes v_th_values v_th_asked v_th_readBits v_th_clauses v_th_doing v_th_numbers (.ref h_planWord) (.ref h_addWord) (.ref h_delWord) (.ref h_fillWord) v_th_probes v_th_links v_th_looks v_th_found v_th_isOver first behind text delWord u_8 hc_9) (cwV 1 hts gX7_wordHere_X7_isWord rfl rfl rfl (by decide +kernel) ⟨Nat.le_of_ble_eq_true rfl, Nat.le_of_ble_eq_true rfl⟩) (GpreV hP hD hK hN [3, 4, 0] rfl (by decide) 7 0 rfl rfl rfl) rfl rfl hl.1 rfl (lv_room (Nat.le_of_ble_eq_true rfl)) dX7_wordHere_35 ⟨Nat.zero_le _, Nat.zero_le _⟩) hP hD hS hA [3, 4, 0] [1, 2, 5] rfl rfl (by decide) (by decide) (fun H locs hP hD hS => ?_)
      have hP : va_P (dC, dI) vwCl [(h_fillWord, .inl (cyI, 4, .inl fillWord)), (h_planWord, .inl (cyI, 4, .inl planWord)), (h_addWord, .inl (cyI, 3, .inl addWord)), (h_th, .inr (7, [v_th_row, v_th_undos, v_th_isKept, .ref h_text, v_th_length, v_th_sizes, v_th_values, v_th_asked, .int first, .int behind, v_th_readBits, v_th_clauses, v_th_doing, v_th_numbers, .ref h_planWord, .ref h_addWord, .ref h_delWord, .ref h_fillWord, v_th_probes, v_th_links, v_th_looks, v_th_found, v_th_isOver])), (h_text, .inl (cyI, 200, .inl text)), (h_delWord, .inl (cyI, 3, .inl delWord))] H := hP
      have hD : va_D A [(h_fillWord, .inl (cyI, 4, .inl fillWord)), (h_planWord, .inl (cyI, 4, .inl planWord)), (h_addWord, .inl (cyI, 3, .inl addWord)), (h_th, .inr (7, [v_th_row, v_th_undos, v_th_isKept, .ref h_text, v_th_length, v_th_sizes, v_th_values, v_th_asked, .int first, .int behind, v_th_readBits, v_th_clauses, v_th_doing, v_th_numbers, .ref h_planWord, .ref h_addWord, .ref h_delWord, .ref h_fillWord, v_th_probes, v_th_links, v_th_looks, v_th_found, v_th_isOver])), (h_text, .inl (cyI, 200, .inl text)), (h_delWord, .inl (cyI, 3, .inl delWord))] := hD
      refine lv_if_eq (tgt := 45) hx hb dX7_wordHere_38 (by decide) (fun c_10 => ?_) (fun c_10 => ?_)
      · have h := og_ite_t c_10 h
        refine lv_aload_n hx hb dX7_wordHere_45 rfl (lv_at hl 0 rfl) ?_
        refine lv_aload_n hx hb dX7_wordHere_46 rfl (lv_at hl 0 rfl) ?_
        refine va_get (D := (dC, dI)) (ci := 7) (v := .ref h_fillWord) (C := RX7) (T := TX7) (N := 23) hx hb hts (fun _ hw => List.mem_cons_of_mem _ (List.mem_append_right _ hw)) hown hK hP 3 rfl rfl 17 (by decide) (hts (.fieldLink RX7 39 "PrefixIndexModel" "fillWord" "[I") (List.mem_of_getElem? (i := 4) rfl)) (fun _ h9 => h9) rfl dX7_wordHere_47 ?_
        obtain ⟨u_11, hc_12, h⟩ := obd_e h
        refine Gci (wr := [(h_planWord, .inl (cyI, 4, .inl planWord)), (h_addWord, .inl (cyI, 3, .inl addWord)), (h_delWord, .inl (cyI, 3, .inl delWord))]) (va_runV (As := [.ref h_fillWord]) (rest := []) ⟨hx, hb, hml, hown, hts⟩ (tX7_isWord l dC dI cyI cyJ cyZ cyO H.size h_th h_text h_fillWord 4 v_th_row v_th_undos v_th_isKept v_th_length v_th_sizes v_th_values v_th_asked v_th_readBits v_th_clauses v_th_doing v_th_numbers (.ref h_planWord) (.ref h_addWord) (.ref h_delWord) (.ref h_fillWord) v_th_probes v_th_links v_th_looks v_th_found v_th_isOver first behind text fillWord u_11 hc_12) (cwV 1 hts gX7_wordHere_X7_isWord rfl rfl rfl (by decide +kernel) ⟨Nat.le_of_ble_eq_true rfl, Nat.le_of_ble_eq_true rfl⟩) (GpreV hP hD hK hN [3, 4, 0] rfl (by decide) 7 0 rfl rfl rfl) rfl rfl hl.1 rfl (lv_room (Nat.le_of_ble_eq_true rfl)) dX7_wordHere_50 ⟨Nat.zero_le _, Nat.zero_le _⟩) hP hD hS hA [3, 4, 0] [1, 2, 5] rfl rfl (by decide) (by decide) (fun H locs hP hD hS => ?_)
        have hP : va_P (dC, dI) vwCl [(h_planWord, .inl (cyI, 4, .inl planWord)), (h_addWord, .inl (cyI, 3, .inl addWord)), (h_delWord, .inl (cyI, 3, .inl delWord)), (h_th, .inr (7, [v_th_row, v_th_undos, v_th_isKept, .ref h_text, v_th_length, v_th_sizes, v_th_values, v_th_asked, .int first, .int behind, v_th_readBits, v_th_clauses, v_th_doing, v_th_numbers, .ref h_planWord, .ref h_addWord, .ref h_delWord, .ref h_fillWord, v_th_probes, v_th_links, v_th_looks, v_th_found, v_th_isOver])), (h_text, .inl (cyI, 200, .inl text)), (h_fillWord, .inl (cyI, 4, .inl fillWord))] H := hP
        have hD : va_D A [(h_planWord, .inl (cyI, 4, .inl planWord)), (h_addWord, .inl (cyI, 3, .inl addWord)), (h_delWord, .inl (cyI, 3, .inl delWord)), (h_th, .inr (7, [v_th_row, v_th_undos, v_th_isKept, .ref h_text, v_th_length, v_th_sizes, v_th_values, v_th_asked, .int first, .int behind, v_th_readBits, v_th_clauses, v_th_doing, v_th_numbers, .ref h_planWord, .ref h_addWord, .ref h_delWord, .ref h_fillWord, v_th_probes, v_th_links, v_th_looks, v_th_found, v_th_isOver])), (h_text, .inl (cyI, 200, .inl text)), (h_fillWord, .inl (cyI, 4, .inl fillWord))] := hD
        refine lv_if_eq (tgt := 60) hx hb dX7_wordHere_53 (by decide) (fun c_13 => ?_) (fun c_13 => ?_)
        · have h := og_ite_t c_13 h
          refine lv_iconst (v := (-1)) hx hb dX7_wordHere_60 (by decide) ?_
          obtain rfl := Option.some.inj h
          have hP := hP.sub (ws' := [(h_addWord, .inl (cyI, 3, .inl addWord)), (h_delWord, .inl (cyI, 3, .inl delWord)), (h_fillWord, .inl (cyI, 4, .inl fillWord)), (h_th, .inr (7, [v_th_row, v_th_undos, v_th_isKept, .ref h_text, v_th_length, v_th_sizes, v_th_values, v_th_asked, .int first, .int behind, v_th_readBits, v_th_clauses, v_th_doing, v_th_numbers, .ref h_planWord, .ref h_addWord, .ref h_delWord, .ref h_fillWord, v_th_probes, v_th_links, v_th_looks, v_th_found, v_th_isOver])), (h_text, .inl (cyI, 200, .inl text)), (h_planWord, .inl (cyI, 4, .inl planWord))]) [1, 2, 5, 3, 4, 0] rfl
          have hD := hD.sub (ws' := [(h_addWord, .inl (cyI, 3, .inl addWord)), (h_delWord, .inl (cyI, 3, .inl delWord)), (h_fillWord, .inl (cyI, 4, .inl fillWord)), (h_th, .inr (7, [v_th_row, v_th_undos, v_th_isKept, .ref h_text, v_th_length, v_th_sizes, v_th_values, v_th_asked, .int first, .int behind, v_th_readBits, v_th_clauses, v_th_doing, v_th_numbers, .ref h_planWord, .ref h_addWord, .ref h_delWord, .ref h_fillWord, v_th_probes, v_th_links, v_th_looks, v_th_found, v_th_isOver])), (h_text, .inl (cyI, 200, .inl text)), (h_planWord, .inl (cyI, 4, .inl planWord))]) [1, 2, 5, 3, 4, 0] (by decide) rfl
          exact J _ _ _ hP hD hS (lv_sub hl [] rfl)
        · have h := og_ite_f c_13 h
          refine lv_iconst (v := 3) hx hb dX7_wordHere_56 (by decide) ?_
          refine lv_goto (tgt := 61) hx hb dX7_wordHere_57 (by decide) ?_
          obtain rfl := Option.some.inj h
          have hP := hP.sub (ws' := [(h_addWord, .inl (cyI, 3, .inl addWord)), (h_delWord, .inl (cyI, 3, .inl delWord)), (h_fillWord, .inl (cyI, 4, .inl fillWord)), (h_th, .inr (7, [v_th_row, v_th_undos, v_th_isKept, .ref h_text, v_th_length, v_th_sizes, v_th_values, v_th_asked, .int first, .int behind, v_th_readBits, v_th_clauses, v_th_doing, v_th_numbers, .ref h_planWord, .ref h_addWord, .ref h_delWord, .ref h_fillWord, v_th_probes, v_th_links, v_th_looks, v_th_found, v_th_isOver])), (h_text, .inl (cyI, 200, .inl text)), (h_planWord, .inl (cyI, 4, .inl planWord))]) [1, 2, 5, 3, 4, 0] rfl
          have hD := hD.sub (ws' := [(h_addWord, .inl (cyI, 3, .inl addWord)), (h_delWord, .inl (cyI, 3, .inl delWord)), (h_fillWord, .inl (cyI, 4, .inl fillWord)), (h_th, .inr (7, [v_th_row, v_th_undos, v_th_isKept, .ref h_text, v_th_length, v_th_sizes, v_th_values, v_th_asked, .int first, .int behind, v_th_readBits, v_th_clauses, v_th_doing, v_th_numbers, .ref h_planWord, .ref h_addWord, .ref h_delWord, .ref h_fillWord, v_th_probes, v_th_links, v_th_looks, v_th_found, v_th_isOver])), (h_text, .inl (cyI, 200, .inl text)), (h_planWord, .inl (cyI, 4, .inl planWord))]) [1, 2, 5, 3, 4, 0] (by decide) rfl
          exact J _ _ _ hP hD hS (lv_sub hl [] rfl)
      · have h := og_ite_f c_10 h
        refine lv_iconst (v := 2) hx hb dX7_wordHere_41 (by decide) ?_
        refine lv_goto (tgt := 61) hx hb dX7_wordHere_42 (by decide) ?_
        obtain rfl := Option.some.inj h
        have hP := hP.sub (ws' := [(h_addWord, .inl (cyI, 3, .inl addWord)), (h_delWord, .inl (cyI, 3, .inl delWord)), (h_fillWord, .inl (cyI, 4, .inl fillWord)), (h_th, .inr (7, [v_th_row, v_th_undos, v_th_isKept, .ref h_text, v_th_length, v_th_sizes, v_th_values, v_th_asked, .int first, .int behind, v_th_readBits, v_th_clauses, v_th_doing, v_th_numbers, .ref h_planWord, .ref h_addWord, .ref h_delWord, .ref h_fillWord, v_th_probes, v_th_links, v_th_looks, v_th_found, v_th_isOver])), (h_text, .inl (cyI, 200, .inl text)), (h_planWord, .inl (cyI, 4, .inl planWord))]) [2, 5, 0, 3, 4, 1] rfl
        have hD := hD.sub (ws' := [(h_addWord, .inl (cyI, 3, .inl addWord)), (h_delWord, .inl (cyI, 3, .inl delWord)), (h_fillWord, .inl (cyI, 4, .inl fillWord)), (h_th, .inr (7, [v_th_row, v_th_undos, v_th_isKept, .ref h_text, v_th_length, v_th_sizes, v_th_values, v_th_asked, .int first, .int behind, v_th_readBits, v_th_clauses, v_th_doing, v_th_numbers, .ref h_planWord, .ref h_addWord, .ref h_delWord, .ref h_fillWord, v_th_probes, v_th_links, v_th_looks, v_th_found, v_th_isOver])), (h_text, .inl (cyI, 200, .inl text)), (h_planWord, .inl (cyI, 4, .inl planWord))]) [2, 5, 0, 3, 4, 1] (by decide) rfl
        exact J _ _ _ hP hD hS (lv_sub hl [] rfl)
    · have h := og_ite_f c_7 h
      refine lv_iconst (v := 1) hx hb dX7_wordHere_26 (by decide) ?_
      refine lv_goto (tgt := 61) hx hb dX7_wordHere_27 (by decide) ?_
      obtain rfl := Option.some.inj h
      have hP := hP.sub (ws' := [(h_addWord, .inl (cyI, 3, .inl addWord)), (h_delWord, .inl (cyI, 3, .inl delWord)), (h_fillWord, .inl (cyI, 4, .inl fillWord)), (h_th, .inr (7, [v_th_row, v_th_undos, v_th_isKept, .ref h_text, v_th_length, v_th_sizes, v_th_values, v_th_asked, .int first, .int behind, v_th_readBits, v_th_clauses, v_th_doing, v_th_numbers, .ref h_planWord, .ref h_addWord, .ref h_delWord, .ref h_fillWord, v_th_probes, v_th_links, v_th_looks, v_th_found, v_th_isOver])), (h_text, .inl (cyI, 200, .inl text)), (h_planWord, .inl (cyI, 4, .inl planWord))]) [5, 0, 1, 3, 4, 2] rfl
      have hD := hD.sub (ws' := [(h_addWord, .inl (cyI, 3, .inl addWord)), (h_delWord, .inl (cyI, 3, .inl delWord)), (h_fillWord, .inl (cyI, 4, .inl fillWord)), (h_th, .inr (7, [v_th_row, v_th_undos, v_th_isKept, .ref h_text, v_th_length, v_th_sizes, v_th_values, v_th_asked, .int first, .int behind, v_th_readBits, v_th_clauses, v_th_doing, v_th_numbers, .ref h_planWord, .ref h_addWord, .ref h_delWord, .ref h_fillWord, v_th_probes, v_th_links, v_th_looks, v_th_found, v_th_isOver])), (h_text, .inl (cyI, 200, .inl text)), (h_planWord, .inl (cyI, 4, .inl planWord))]) [5, 0, 1, 3, 4, 2] (by decide) rfl
      exact J _ _ _ hP hD hS (lv_sub hl [] rfl)
  · have h := og_ite_f c_3 h
    refine lv_iconst (v := 0) hx hb dX7_wordHere_11 (by decide) ?_
    refine lv_goto (tgt := 61) hx hb dX7_wordHere_12 (by decide) ?_
    obtain rfl := Option.some.inj h
    exact J _ _ _ hP hD hS (lv_sub hl [] rfl)

def fX7_does (row : (Nat → Int32)) (numbers : (Nat → Int32)) (x0 : Int32) : Option ((Nat → Int32)) := obd (if x0 = (0 : Int32) then (oin (0 : Int32) 3 (oin (1 : Int32) 3 (obd (fX7_plan row (0 : Int32) (numbers (0 : Int32).toNatClampNeg) (numbers (1 : Int32).toNatClampNeg)) fun u_6 => some u_6))) else (if x0 = (1 : Int32) then (oin (0 : Int32) 3 (obd (fX7_addAt row (0 : Int32) (numbers (0 : Int32).toNatClampNeg)) fun u_10 => some u_10)) else (if x0 = (2 : Int32) then (oin (0 : Int32) 3 (obd (fX7_isKey row (0 : Int32) (numbers (0 : Int32).toNatClampNeg)) fun u_14 => if u_14 = 0 then (some row) else (oin (0 : Int32) 3 (obd (fX7_takeOut row (0 : Int32) (numbers (0 : Int32).toNatClampNeg)) fun u_18 => some u_18)))) else (oin (0 : Int32) 3 (oin (1 : Int32) 3 (oin (2 : Int32) 3 (obd (fX7_fill row (0 : Int32) (numbers (0 : Int32).toNatClampNeg) (numbers (1 : Int32).toNatClampNeg) (numbers (2 : Int32).toNatClampNeg)) fun u_23 => some u_23))))))) fun w_1 => some w_1

set_option maxHeartbeats 4000000 in
set_option maxRecDepth 100000 in
theorem tX7_does (l : Launch) (dC : Nat → ClassId) (dI : Nat → Nat → Nat) (cyI cyJ cyZ cyO : ClassId) (sz : Nat) (h_th h_row h_numbers : Nat) (v_th_undos : Value) (v_th_isKept : Value) (v_th_text : Value) (v_th_length : Value) (v_th_sizes : Value) (v_th_values : Value) (v_th_asked : Value) (v_th_first : Value) (v_th_behind : Value) (v_th_readBits : Value) (v_th_clauses : Value) (v_th_doing : Value) (v_th_planWord : Value) (v_th_addWord : Value) (v_th_delWord : Value) (v_th_fillWord : Value) (v_th_probes : Value) (v_th_links : Value) (v_th_looks : Value) (v_th_found : Value) (v_th_isOver : Value) (row : (Nat → Int32)) (numbers : (Nat → Int32)) (x0 : Int32) (u : (Nat → Int32)) (hf : fX7_does row numbers x0 = some u) : Met l yX7_does wsX7_does ({ frames := 7, cells := 0, slots := 0, locals := 162 }) (va_Pc [.ref h_th, .int x0] (GP (dC, dI) (T4 cyI cyJ cyZ cyO) sz [(h_th, .inr (7, [.ref h_row, v_th_undos, v_th_isKept, v_th_text, v_th_length, v_th_sizes, v_th_values, v_th_asked, v_th_first, v_th_behind, v_th_readBits, v_th_clauses, v_th_doing, .ref h_numbers, v_th_planWord, v_th_addWord, v_th_delWord, v_th_fillWord, v_th_probes, v_th_links, v_th_looks, v_th_found, v_th_isOver])), (h_row, .inl (cyI, 1824, .inl row)), (h_numbers, .inl (cyI, 3, .inl numbers))])) (va_Qv (fun (_ : Unit) => True) (GB (dC, dI) [(h_th, .inr (7, [.ref h_row, v_th_undos, v_th_isKept, v_th_text, v_th_length, v_th_sizes, v_th_values, v_th_asked, v_th_first, v_th_behind, v_th_readBits, v_th_clauses, v_th_doing, .ref h_numbers, v_th_planWord, v_th_addWord, v_th_delWord, v_th_fillWord, v_th_probes, v_th_links, v_th_looks, v_th_found, v_th_isOver])), (h_row, .inl (cyI, 1824, .inl u)), (h_numbers, .inl (cyI, 3, .inl numbers))] (va_A [(h_th, .inr (7, [.ref h_row, v_th_undos, v_th_isKept, v_th_text, v_th_length, v_th_sizes, v_th_values, v_th_asked, v_th_first, v_th_behind, v_th_readBits, v_th_clauses, v_th_doing, .ref h_numbers, v_th_planWord, v_th_addWord, v_th_delWord, v_th_fillWord, v_th_probes, v_th_links, v_th_looks, v_th_found, v_th_isOver])), (h_row, .inl (cyI, 1824, .inl row)), (h_numbers, .inl (cyI, 3, .inl numbers))] sz)) (va_A [(h_th, .inr (7, [.ref h_row, v_th_undos, v_th_isKept, v_th_text, v_th_length, v_th_sizes, v_th_values, v_th_asked, v_th_first, v_th_behind, v_th_readBits, v_th_clauses, v_th_doing, .ref h_numbers, v_th_planWord, v_th_addWord, v_th_delWord, v_th_fillWord, v_th_probes, v_th_links, v_th_looks, v_th_found, v_th_isOver])), (h_row, .inl (cyI, 1824, .inl row)), (h_numbers, .inl (cyI, 3, .inl numbers))] sz)) 0 0 (va_A [(h_th, .inr (7, [.ref h_row, v_th_undos, v_th_isKept, v_th_text, v_th_length, v_th_sizes, v_th_values, v_th_asked, v_th_first, v_th_behind, v_th_readBits, v_th_clauses, v_th_doing, .ref h_numbers, v_th_planWord, v_th_addWord, v_th_delWord, v_th_fillWord, v_th_probes, v_th_links, v_th_looks, v_th_found, v_th_isOver])), (h_row, .inl (cyI, 1824, .inl row)), (h_numbers, .inl (cyI, 3, .inl numbers))] sz) := by
  refine GMetV (by decide) rfl (Nat.le_of_ble_eq_true rfl) ?_
  intro p e s m args below meth c A Q ls hx hb hml hts hown hN hK hA hret hP hD hS hl
  have h := hf
  clear hf
  unfold fX7_does at h
  have hown : s.vm.findClass RX7 = some m.cls := hown
  have hl : lv_has ls 2 [(0, .ref h_th), (1, .int x0)] := hl
  refine lv_iload_n hx hb dX7_does_0 rfl (lv_at hl 1 rfl) ?_
  obtain ⟨w_1, hm_2, h⟩ := obd_e h
  have J : ∀ (H : Heap) (locs : List Loc) (ls : Array Slot), va_P (dC, dI) vwCl [(h_th, .inr (7, [.ref h_row, v_th_undos, v_th_isKept, v_th_text, v_th_length, v_th_sizes, v_th_values, v_th_asked, v_th_first, v_th_behind, v_th_readBits, v_th_clauses, v_th_doing, .ref h_numbers, v_th_planWord, v_th_addWord, v_th_delWord, v_th_fillWord, v_th_probes, v_th_links, v_th_looks, v_th_found, v_th_isOver])), (h_row, .inl (cyI, 1824, .inl w_1)), (h_numbers, .inl (cyI, 3, .inl numbers))] H → va_D A [(h_th, .inr (7, [.ref h_row, v_th_undos, v_th_isKept, v_th_text, v_th_length, v_th_sizes, v_th_values, v_th_asked, v_th_first, v_th_behind, v_th_readBits, v_th_clauses, v_th_doing, .ref h_numbers, v_th_planWord, v_th_addWord, v_th_delWord, v_th_fillWord, v_th_probes, v_th_links, v_th_looks, v_th_found, v_th_isOver])), (h_row, .inl (cyI, 1824, .inl w_1)), (h_numbers, .inl (cyI, 3, .inl numbers))] → va_S A s.heap H locs → lv_has ls 2 [] → W p l e ({ frames := 7, cells := 0, slots := 0, locals := 162 }) s m args below meth c H locs 0 0 Q (F0 m 113 ls []) := by
    intro H locs ls hP hD hS hl
    obtain rfl := Option.some.inj h
    exact hret _ _ _ _ dX7_does_113 hP hD hS
  replace h := hm_2
  by_cases c_3 : x0 = (0 : Int32)
  · have h := og_ite_t c_3 h
    refine lv_tableIn (off := 27) (tgt := 28) hx hb dX7_does_1 (by rw [c_3]; decide) (by rw [c_3]; decide) (by rw [c_3]; rfl) (by decide) ?_
    refine lv_aload_n hx hb dX7_does_28 rfl (lv_at hl 0 rfl) ?_
    refine lv_iconst (v := 0) hx hb dX7_does_29 (by decide) ?_
    refine lv_aload_n hx hb dX7_does_30 rfl (lv_at hl 0 rfl) ?_
    refine va_get (D := (dC, dI)) (ci := 7) (v := .ref h_numbers) (C := RX7) (T := TX7) (N := 23) hx hb hts (fun _ hw => List.mem_cons_of_mem _ (List.mem_append_right _ hw)) hown hK hP 0 rfl rfl 13 (by decide) (hts (.fieldLink RX7 27 "PrefixIndexModel" "numbers" "[I") (List.mem_of_getElem? (i := 1) rfl)) (fun _ h9 => h9) rfl dX7_does_31 ?_
    refine lv_iconst (v := 0) hx hb dX7_does_34 (by decide) ?_
    obtain ⟨hi_4, h⟩ := oin_e h
    refine va_iald hx hb hK hP 2 0 rfl rfl hi_4 dX7_does_35 ?_
    refine lv_aload_n hx hb dX7_does_36 rfl (lv_at hl 0 rfl) ?_
    refine va_get (D := (dC, dI)) (ci := 7) (v := .ref h_numbers) (C := RX7) (T := TX7) (N := 23) hx hb hts (fun _ hw => List.mem_cons_of_mem _ (List.mem_append_right _ hw)) hown hK hP 0 rfl rfl 13 (by decide) (hts (.fieldLink RX7 27 "PrefixIndexModel" "numbers" "[I") (List.mem_of_getElem? (i := 1) rfl)) (fun _ h9 => h9) rfl dX7_does_37 ?_
    refine lv_iconst (v := 1) hx hb dX7_does_40 (by decide) ?_
    obtain ⟨hi_5, h⟩ := oin_e h
    refine va_iald hx hb hK hP 2 0 rfl rfl hi_5 dX7_does_41 ?_
    obtain ⟨u_6, hc_7, h⟩ := obd_e h
    refine Gcv (wr := [(h_numbers, .inl (cyI, 3, .inl numbers))]) (va_runV (As := [.int (0 : Int32), .int (numbers (0 : Int32).toNatClampNeg), .int (numbers (1 : Int32).toNatClampNeg)]) (rest := []) ⟨hx, hb, hml, hown, hts⟩ (tX7_plan l dC dI cyI cyJ cyZ cyO s.heap.size h_th h_row v_th_undos v_th_isKept v_th_text v_th_length v_th_sizes v_th_values v_th_asked v_th_first v_th_behind v_th_readBits v_th_clauses v_th_doing (.ref h_numbers) v_th_planWord v_th_addWord v_th_delWord v_th_fillWord v_th_probes v_th_links v_th_looks v_th_found v_th_isOver row (0 : Int32) (numbers (0 : Int32).toNatClampNeg) (numbers (1 : Int32).toNatClampNeg) u_6 hc_7) (cwV 3 hts gX7_does_X7_plan rfl rfl rfl (by decide +kernel) ⟨Nat.le_of_ble_eq_true rfl, Nat.le_of_ble_eq_true rfl⟩) (GpreV hP hD hK hN [0, 1] rfl (by decide) 7 0 rfl rfl rfl) rfl rfl hl.1 rfl (lv_room (Nat.le_of_ble_eq_true rfl)) dX7_does_42 ⟨Nat.zero_le _, Nat.zero_le _⟩) hP hD hS hA [0, 1] [2] rfl rfl (by decide) (by decide) (fun H locs hP hD hS => ?_)
    have hP : va_P (dC, dI) vwCl [(h_numbers, .inl (cyI, 3, .inl numbers)), (h_th, .inr (7, [.ref h_row, v_th_undos, v_th_isKept, v_th_text, v_th_length, v_th_sizes, v_th_values, v_th_asked, v_th_first, v_th_behind, v_th_readBits, v_th_clauses, v_th_doing, .ref h_numbers, v_th_planWord, v_th_addWord, v_th_delWord, v_th_fillWord, v_th_probes, v_th_links, v_th_looks, v_th_found, v_th_isOver])), (h_row, .inl (cyI, 1824, .inl u_6))] H := hP
    have hD : va_D A [(h_numbers, .inl (cyI, 3, .inl numbers)), (h_th, .inr (7, [.ref h_row, v_th_undos, v_th_isKept, v_th_text, v_th_length, v_th_sizes, v_th_values, v_th_asked, v_th_first, v_th_behind, v_th_readBits, v_th_clauses, v_th_doing, .ref h_numbers, v_th_planWord, v_th_addWord, v_th_delWord, v_th_fillWord, v_th_probes, v_th_links, v_th_looks, v_th_found, v_th_isOver])), (h_row, .inl (cyI, 1824, .inl u_6))] := hD
    refine lv_goto (tgt := 113) hx hb dX7_does_45 (by decide) ?_
    obtain rfl := Option.some.inj h
    have hP := hP.sub (ws' := [(h_th, .inr (7, [.ref h_row, v_th_undos, v_th_isKept, v_th_text, v_th_length, v_th_sizes, v_th_values, v_th_asked, v_th_first, v_th_behind, v_th_readBits, v_th_clauses, v_th_doing, .ref h_numbers, v_th_planWord, v_th_addWord, v_th_delWord, v_th_fillWord, v_th_probes, v_th_links, v_th_looks, v_th_found, v_th_isOver])), (h_row, .inl (cyI, 1824, .inl u_6)), (h_numbers, .inl (cyI, 3, .inl numbers))]) [1, 2, 0] rfl
    have hD := hD.sub (ws' := [(h_th, .inr (7, [.ref h_row, v_th_undos, v_th_isKept, v_th_text, v_th_length, v_th_sizes, v_th_values, v_th_asked, v_th_first, v_th_behind, v_th_readBits, v_th_clauses, v_th_doing, .ref h_numbers, v_th_planWord, v_th_addWord, v_th_delWord, v_th_fillWord, v_th_probes, v_th_links, v_th_looks, v_th_found, v_th_isOver])), (h_row, .inl (cyI, 1824, .inl u_6)), (h_numbers, .inl (cyI, 3, .inl numbers))]) [1, 2, 0] (by decide) rfl
    exact J _ _ _ hP hD hS (lv_sub hl [] rfl)
  replace h := og_ite_f c_3 h
  by_cases c_8 : x0 = (1 : Int32)
  · have h := og_ite_t c_8 h
    refine lv_tableIn (off := 47) (tgt := 48) hx hb dX7_does_1 (by rw [c_8]; decide) (by rw [c_8]; decide) (by rw [c_8]; rfl) (by decide) ?_
    refine lv_aload_n hx hb dX7_does_48 rfl (lv_at hl 0 rfl) ?_
    refine lv_iconst (v := 0) hx hb dX7_does_49 (by decide) ?_
    refine lv_aload_n hx hb dX7_does_50 rfl (lv_at hl 0 rfl) ?_
    refine va_get (D := (dC, dI)) (ci := 7) (v := .ref h_numbers) (C := RX7) (T := TX7) (N := 23) hx hb hts (fun _ hw => List.mem_cons_of_mem _ (List.mem_append_right _ hw)) hown hK hP 0 rfl rfl 13 (by decide) (hts (.fieldLink RX7 27 "PrefixIndexModel" "numbers" "[I") (List.mem_of_getElem? (i := 1) rfl)) (fun _ h9 => h9) rfl dX7_does_51 ?_
    refine lv_iconst (v := 0) hx hb dX7_does_54 (by decide) ?_
    obtain ⟨hi_9, h⟩ := oin_e h
    refine va_iald hx hb hK hP 2 0 rfl rfl hi_9 dX7_does_55 ?_
    obtain ⟨u_10, hc_11, h⟩ := obd_e h
    refine Gcv (wr := [(h_numbers, .inl (cyI, 3, .inl numbers))]) (va_runV (As := [.int (0 : Int32), .int (numbers (0 : Int32).toNatClampNeg)]) (rest := []) ⟨hx, hb, hml, hown, hts⟩ (tX7_addAt l dC dI cyI cyJ cyZ cyO s.heap.size h_th h_row v_th_undos v_th_isKept v_th_text v_th_length v_th_sizes v_th_values v_th_asked v_th_first v_th_behind v_th_readBits v_th_clauses v_th_doing (.ref h_numbers) v_th_planWord v_th_addWord v_th_delWord v_th_fillWord v_th_probes v_th_links v_th_looks v_th_found v_th_isOver row (0 : Int32) (numbers (0 : Int32).toNatClampNeg) u_10 hc_11) (cwV 2 hts gX7_does_X7_addAt rfl rfl rfl (by decide +kernel) ⟨Nat.le_of_ble_eq_true rfl, Nat.le_of_ble_eq_true rfl⟩) (GpreV hP hD hK hN [0, 1] rfl (by decide) 7 0 rfl rfl rfl) rfl rfl hl.1 rfl (lv_room (Nat.le_of_ble_eq_true rfl)) dX7_does_56 ⟨Nat.zero_le _, Nat.zero_le _⟩) hP hD hS hA [0, 1] [2] rfl rfl (by decide) (by decide) (fun H locs hP hD hS => ?_)
    have hP : va_P (dC, dI) vwCl [(h_numbers, .inl (cyI, 3, .inl numbers)), (h_th, .inr (7, [.ref h_row, v_th_undos, v_th_isKept, v_th_text, v_th_length, v_th_sizes, v_th_values, v_th_asked, v_th_first, v_th_behind, v_th_readBits, v_th_clauses, v_th_doing, .ref h_numbers, v_th_planWord, v_th_addWord, v_th_delWord, v_th_fillWord, v_th_probes, v_th_links, v_th_looks, v_th_found, v_th_isOver])), (h_row, .inl (cyI, 1824, .inl u_10))] H := hP
    have hD : va_D A [(h_numbers, .inl (cyI, 3, .inl numbers)), (h_th, .inr (7, [.ref h_row, v_th_undos, v_th_isKept, v_th_text, v_th_length, v_th_sizes, v_th_values, v_th_asked, v_th_first, v_th_behind, v_th_readBits, v_th_clauses, v_th_doing, .ref h_numbers, v_th_planWord, v_th_addWord, v_th_delWord, v_th_fillWord, v_th_probes, v_th_links, v_th_looks, v_th_found, v_th_isOver])), (h_row, .inl (cyI, 1824, .inl u_10))] := hD
    refine lv_goto (tgt := 113) hx hb dX7_does_59 (by decide) ?_
    obtain rfl := Option.some.inj h
    have hP := hP.sub (ws' := [(h_th, .inr (7, [.ref h_row, v_th_undos, v_th_isKept, v_th_text, v_th_length, v_th_sizes, v_th_values, v_th_asked, v_th_first, v_th_behind, v_th_readBits, v_th_clauses, v_th_doing, .ref h_numbers, v_th_planWord, v_th_addWord, v_th_delWord, v_th_fillWord, v_th_probes, v_th_links, v_th_looks, v_th_found, v_th_isOver])), (h_row, .inl (cyI, 1824, .inl u_10)), (h_numbers, .inl (cyI, 3, .inl numbers))]) [1, 2, 0] rfl
    have hD := hD.sub (ws' := [(h_th, .inr (7, [.ref h_row, v_th_undos, v_th_isKept, v_th_text, v_th_length, v_th_sizes, v_th_values, v_th_asked, v_th_first, v_th_behind, v_th_readBits, v_th_clauses, v_th_doing, .ref h_numbers, v_th_planWord, v_th_addWord, v_th_delWord, v_th_fillWord, v_th_probes, v_th_links, v_th_looks, v_th_found, v_th_isOver])), (h_row, .inl (cyI, 1824, .inl u_10)), (h_numbers, .inl (cyI, 3, .inl numbers))]) [1, 2, 0] (by decide) rfl
    exact J _ _ _ hP hD hS (lv_sub hl [] rfl)
  replace h := og_ite_f c_8 h
  by_cases c_12 : x0 = (2 : Int32)
  · have h := og_ite_t c_12 h
    refine lv_tableIn (off := 61) (tgt := 62) hx hb dX7_does_1 (by rw [c_12]; decide) (by rw [c_12]; decide) (by rw [c_12]; rfl) (by decide) ?_
    refine lv_aload_n hx hb dX7_does_62 rfl (lv_at hl 0 rfl) ?_
    refine lv_iconst (v := 0) hx hb dX7_does_63 (by decide) ?_
    refine lv_aload_n hx hb dX7_does_64 rfl (lv_at hl 0 rfl) ?_
    refine va_get (D := (dC, dI)) (ci := 7) (v := .ref h_numbers) (C := RX7) (T := TX7) (N := 23) hx hb hts (fun _ hw => List.mem_cons_of_mem _ (List.mem_append_right _ hw)) hown hK hP 0 rfl rfl 13 (by decide) (hts (.fieldLink RX7 27 "PrefixIndexModel" "numbers" "[I") (List.mem_of_getElem? (i := 1) rfl)) (fun _ h9 => h9) rfl dX7_does_65 ?_
    refine lv_iconst (v := 0) hx hb dX7_does_68 (by decide) ?_
    obtain ⟨hi_13, h⟩ := oin_e h
    refine va_iald hx hb hK hP 2 0 rfl rfl hi_13 dX7_does_69 ?_
    obtain ⟨u_14, hc_15, h⟩ := obd_e h
    refine Gci (wr := [(h_numbers, .inl (cyI, 3, .inl numbers))]) (va_runV (As := [.int (0 : Int32), .int (numbers (0 : Int32).toNatClampNeg)]) (rest := []) ⟨hx, hb, hml, hown, hts⟩ (tX7_isKey l dC dI cyI cyJ cyZ cyO s.heap.size h_th h_row v_th_undos v_th_isKept v_th_text v_th_length v_th_sizes v_th_values v_th_asked v_th_first v_th_behind v_th_readBits v_th_clauses v_th_doing (.ref h_numbers) v_th_planWord v_th_addWord v_th_delWord v_th_fillWord v_th_probes v_th_links v_th_looks v_th_found v_th_isOver row (0 : Int32) (numbers (0 : Int32).toNatClampNeg) u_14 hc_15) (cwV 2 hts gX7_does_X7_isKey rfl rfl rfl (by decide +kernel) ⟨Nat.le_of_ble_eq_true rfl, Nat.le_of_ble_eq_true rfl⟩) (GpreV hP hD hK hN [0, 1] rfl (by decide) 7 0 rfl rfl rfl) rfl rfl hl.1 rfl (lv_room (Nat.le_of_ble_eq_true rfl)) dX7_does_70 ⟨Nat.zero_le _, Nat.zero_le _⟩) hP hD hS hA [0, 1] [2] rfl rfl (by decide) (by decide) (fun H locs hP hD hS => ?_)
    have hP : va_P (dC, dI) vwCl [(h_numbers, .inl (cyI, 3, .inl numbers)), (h_th, .inr (7, [.ref h_row, v_th_undos, v_th_isKept, v_th_text, v_th_length, v_th_sizes, v_th_values, v_th_asked, v_th_first, v_th_behind, v_th_readBits, v_th_clauses, v_th_doing, .ref h_numbers, v_th_planWord, v_th_addWord, v_th_delWord, v_th_fillWord, v_th_probes, v_th_links, v_th_looks, v_th_found, v_th_isOver])), (h_row, .inl (cyI, 1824, .inl row))] H := hP
    have hD : va_D A [(h_numbers, .inl (cyI, 3, .inl numbers)), (h_th, .inr (7, [.ref h_row, v_th_undos, v_th_isKept, v_th_text, v_th_length, v_th_sizes, v_th_values, v_th_asked, v_th_first, v_th_behind, v_th_readBits, v_th_clauses, v_th_doing, .ref h_numbers, v_th_planWord, v_th_addWord, v_th_delWord, v_th_fillWord, v_th_probes, v_th_links, v_th_looks, v_th_found, v_th_isOver])), (h_row, .inl (cyI, 1824, .inl row))] := hD
    refine lv_if_eq (tgt := 113) hx hb dX7_does_73 (by decide) (fun c_16 => ?_) (fun c_16 => ?_)
    · have h := og_ite_t c_16 h
      obtain rfl := Option.some.inj h
      have hP := hP.sub (ws' := [(h_th, .inr (7, [.ref h_row, v_th_undos, v_th_isKept, v_th_text, v_th_length, v_th_sizes, v_th_values, v_th_asked, v_th_first, v_th_behind, v_th_readBits, v_th_clauses, v_th_doing, .ref h_numbers, v_th_planWord, v_th_addWord, v_th_delWord, v_th_fillWord, v_th_probes, v_th_links, v_th_looks, v_th_found, v_th_isOver])), (h_row, .inl (cyI, 1824, .inl row)), (h_numbers, .inl (cyI, 3, .inl numbers))]) [1, 2, 0] rfl
      have hD := hD.sub (ws' := [(h_th, .inr (7, [.ref h_row, v_th_undos, v_th_isKept, v_th_text, v_th_length, v_th_sizes, v_th_values, v_th_asked, v_th_first, v_th_behind, v_th_readBits, v_th_clauses, v_th_doing, .ref h_numbers, v_th_planWord, v_th_addWord, v_th_delWord, v_th_fillWord, v_th_probes, v_th_links, v_th_looks, v_th_found, v_th_isOver])), (h_row, .inl (cyI, 1824, .inl row)), (h_numbers, .inl (cyI, 3, .inl numbers))]) [1, 2, 0] (by decide) rfl
      exact J _ _ _ hP hD hS (lv_sub hl [] rfl)
    · have h := og_ite_f c_16 h
      refine lv_aload_n hx hb dX7_does_76 rfl (lv_at hl 0 rfl) ?_
      refine lv_iconst (v := 0) hx hb dX7_does_77 (by decide) ?_
      refine lv_aload_n hx hb dX7_does_78 rfl (lv_at hl 0 rfl) ?_
      refine va_get (D := (dC, dI)) (ci := 7) (v := .ref h_numbers) (C := RX7) (T := TX7) (N := 23) hx hb hts (fun _ hw => List.mem_cons_of_mem _ (List.mem_append_right _ hw)) hown hK hP 1 rfl rfl 13 (by decide) (hts (.fieldLink RX7 27 "PrefixIndexModel" "numbers" "[I") (List.mem_of_getElem? (i := 1) rfl)) (fun _ h9 => h9) rfl dX7_does_79 ?_
      refine lv_iconst (v := 0) hx hb dX7_does_82 (by decide) ?_
      obtain ⟨hi_17, h⟩ := oin_e h
      refine va_iald hx hb hK hP 0 0 rfl rfl hi_17 dX7_does_83 ?_
      obtain ⟨u_18, hc_19, h⟩ := obd_e h
      refine Gcv (wr := [(h_numbers, .inl (cyI, 3, .inl numbers))]) (va_runV (As := [.int (0 : Int32), .int (numbers (0 : Int32).toNatClampNeg)]) (rest := []) ⟨hx, hb, hml, hown, hts⟩ (tX7_takeOut l dC dI cyI cyJ cyZ cyO H.size h_th h_row v_th_undos v_th_isKept v_th_text v_th_length v_th_sizes v_th_values v_th_asked v_th_first v_th_behind v_th_readBits v_th_clauses v_th_doing (.ref h_numbers) v_th_planWord v_th_addWord v_th_delWord v_th_fillWord v_th_probes v_th_links v_th_looks v_th_found v_th_isOver row (0 : Int32) (numbers (0 : Int32).toNatClampNeg) u_18 hc_19) (cwV 2 hts gX7_does_X7_takeOut rfl rfl rfl (by decide +kernel) ⟨Nat.le_of_ble_eq_true rfl, Nat.le_of_ble_eq_true rfl⟩) (GpreV hP hD hK hN [1, 2] rfl (by decide) 7 0 rfl rfl rfl) rfl rfl hl.1 rfl (lv_room (Nat.le_of_ble_eq_true rfl)) dX7_does_84 ⟨Nat.zero_le _, Nat.zero_le _⟩) hP hD hS hA [1, 2] [0] rfl rfl (by decide) (by decide) (fun H locs hP hD hS => ?_)
      have hP : va_P (dC, dI) vwCl [(h_numbers, .inl (cyI, 3, .inl numbers)), (h_th, .inr (7, [.ref h_row, v_th_undos, v_th_isKept, v_th_text, v_th_length, v_th_sizes, v_th_values, v_th_asked, v_th_first, v_th_behind, v_th_readBits, v_th_clauses, v_th_doing, .ref h_numbers, v_th_planWord, v_th_addWord, v_th_delWord, v_th_fillWord, v_th_probes, v_th_links, v_th_looks, v_th_found, v_th_isOver])), (h_row, .inl (cyI, 1824, .inl u_18))] H := hP
      have hD : va_D A [(h_numbers, .inl (cyI, 3, .inl numbers)), (h_th, .inr (7, [.ref h_row, v_th_undos, v_th_isKept, v_th_text, v_th_length, v_th_sizes, v_th_values, v_th_asked, v_th_first, v_th_behind, v_th_readBits, v_th_clauses, v_th_doing, .ref h_numbers, v_th_planWord, v_th_addWord, v_th_delWord, v_th_fillWord, v_th_probes, v_th_links, v_th_looks, v_th_found, v_th_isOver])), (h_row, .inl (cyI, 1824, .inl u_18))] := hD
      refine lv_goto (tgt := 113) hx hb dX7_does_87 (by decide) ?_
      obtain rfl := Option.some.inj h
      have hP := hP.sub (ws' := [(h_th, .inr (7, [.ref h_row, v_th_undos, v_th_isKept, v_th_text, v_th_length, v_th_sizes, v_th_values, v_th_asked, v_th_first, v_th_behind, v_th_readBits, v_th_clauses, v_th_doing, .ref h_numbers, v_th_planWord, v_th_addWord, v_th_delWord, v_th_fillWord, v_th_probes, v_th_links, v_th_looks, v_th_found, v_th_isOver])), (h_row, .inl (cyI, 1824, .inl u_18)), (h_numbers, .inl (cyI, 3, .inl numbers))]) [1, 2, 0] rfl
      have hD := hD.sub (ws' := [(h_th, .inr (7, [.ref h_row, v_th_undos, v_th_isKept, v_th_text, v_th_length, v_th_sizes, v_th_values, v_th_asked, v_th_first, v_th_behind, v_th_readBits, v_th_clauses, v_th_doing, .ref h_numbers, v_th_planWord, v_th_addWord, v_th_delWord, v_th_fillWord, v_th_probes, v_th_links, v_th_looks, v_th_found, v_th_isOver])), (h_row, .inl (cyI, 1824, .inl u_18)), (h_numbers, .inl (cyI, 3, .inl numbers))]) [1, 2, 0] (by decide) rfl
      exact J _ _ _ hP hD hS (lv_sub hl [] rfl)
  replace h := og_ite_f c_12 h
  have ec_3 : (x0).toInt ≠ 0 := fun q => c_3 (Int32.toInt_inj.mp (q.trans (by decide)))
  have ec_8 : (x0).toInt ≠ 1 := fun q => c_8 (Int32.toInt_inj.mp (q.trans (by decide)))
  have ec_12 : (x0).toInt ≠ 2 := fun q => c_12 (Int32.toInt_inj.mp (q.trans (by decide)))
  refine lv_tableOut (tgt := 90) hx hb dX7_does_1 (by omega) (by decide) ?_
  refine lv_aload_n hx hb dX7_does_90 rfl (lv_at hl 0 rfl) ?_
  refine lv_iconst (v := 0) hx hb dX7_does_91 (by decide) ?_
  refine lv_aload_n hx hb dX7_does_92 rfl (lv_at hl 0 rfl) ?_
  refine va_get (D := (dC, dI)) (ci := 7) (v := .ref h_numbers) (C := RX7) (T := TX7) (N := 23) hx hb hts (fun _ hw => List.mem_cons_of_mem _ (List.mem_append_right _ hw)) hown hK hP 0 rfl rfl 13 (by decide) (hts (.fieldLink RX7 27 "PrefixIndexModel" "numbers" "[I") (List.mem_of_getElem? (i := 1) rfl)) (fun _ h9 => h9) rfl dX7_does_93 ?_
  refine lv_iconst (v := 0) hx hb dX7_does_96 (by decide) ?_
  obtain ⟨hi_20, h⟩ := oin_e h
  refine va_iald hx hb hK hP 2 0 rfl rfl hi_20 dX7_does_97 ?_
  refine lv_aload_n hx hb dX7_does_98 rfl (lv_at hl 0 rfl) ?_
  refine va_get (D := (dC, dI)) (ci := 7) (v := .ref h_numbers) (C := RX7) (T := TX7) (N := 23) hx hb hts (fun _ hw => List.mem_cons_of_mem _ (List.mem_append_right _ hw)) hown hK hP 0 rfl rfl 13 (by decide) (hts (.fieldLink RX7 27 "PrefixIndexModel" "numbers" "[I") (List.mem_of_getElem? (i := 1) rfl)) (fun _ h9 => h9) rfl dX7_does_99 ?_
  refine lv_iconst (v := 1) hx hb dX7_does_102 (by decide) ?_
  obtain ⟨hi_21, h⟩ := oin_e h
  refine va_iald hx hb hK hP 2 0 rfl rfl hi_21 dX7_does_103 ?_
  refine lv_aload_n hx hb dX7_does_104 rfl (lv_at hl 0 rfl) ?_
  refine va_get (D := (dC, dI)) (ci := 7) (v := .ref h_numbers) (C := RX7) (T := TX7) (N := 23) hx hb hts (fun _ hw => List.mem_cons_of_mem _ (List.mem_append_right _ hw)) hown hK hP 0 rfl rfl 13 (by decide) (hts (.fieldLink RX7 27 "PrefixIndexModel" "numbers" "[I") (List.mem_of_getElem? (i := 1) rfl)) (fun _ h9 => h9) rfl dX7_does_105 ?_
  refine lv_iconst (v := 2) hx hb dX7_does_108 (by decide) ?_
  obtain ⟨hi_22, h⟩ := oin_e h
  refine va_iald hx hb hK hP 2 0 rfl rfl hi_22 dX7_does_109 ?_
  obtain ⟨u_23, hc_24, h⟩ := obd_e h
  refine Gcv (wr := [(h_numbers, .inl (cyI, 3, .inl numbers))]) (va_runV (As := [.int (0 : Int32), .int (numbers (0 : Int32).toNatClampNeg), .int (numbers (1 : Int32).toNatClampNeg), .int (numbers (2 : Int32).toNatClampNeg)]) (rest := []) ⟨hx, hb, hml, hown, hts⟩ (tX7_fill l dC dI cyI cyJ cyZ cyO s.heap.size h_th h_row v_th_undos v_th_isKept v_th_text v_th_length v_th_sizes v_th_values v_th_asked v_th_first v_th_behind v_th_readBits v_th_clauses v_th_doing (.ref h_numbers) v_th_planWord v_th_addWord v_th_delWord v_th_fillWord v_th_probes v_th_links v_th_looks v_th_found v_th_isOver row (0 : Int32) (numbers (0 : Int32).toNatClampNeg) (numbers (1 : Int32).toNatClampNeg) (numbers (2 : Int32).toNatClampNeg) u_23 hc_24) (cwV 4 hts gX7_does_X7_fill rfl rfl rfl (by decide +kernel) ⟨Nat.le_of_ble_eq_true rfl, Nat.le_of_ble_eq_true rfl⟩) (GpreV hP hD hK hN [0, 1] rfl (by decide) 7 0 rfl rfl rfl) rfl rfl hl.1 rfl (lv_room (Nat.le_of_ble_eq_true rfl)) dX7_does_110 ⟨Nat.zero_le _, Nat.zero_le _⟩) hP hD hS hA [0, 1] [2] rfl rfl (by decide) (by decide) (fun H locs hP hD hS => ?_)
  have hP : va_P (dC, dI) vwCl [(h_numbers, .inl (cyI, 3, .inl numbers)), (h_th, .inr (7, [.ref h_row, v_th_undos, v_th_isKept, v_th_text, v_th_length, v_th_sizes, v_th_values, v_th_asked, v_th_first, v_th_behind, v_th_readBits, v_th_clauses, v_th_doing, .ref h_numbers, v_th_planWord, v_th_addWord, v_th_delWord, v_th_fillWord, v_th_probes, v_th_links, v_th_looks, v_th_found, v_th_isOver])), (h_row, .inl (cyI, 1824, .inl u_23))] H := hP
  have hD : va_D A [(h_numbers, .inl (cyI, 3, .inl numbers)), (h_th, .inr (7, [.ref h_row, v_th_undos, v_th_isKept, v_th_text, v_th_length, v_th_sizes, v_th_values, v_th_asked, v_th_first, v_th_behind, v_th_readBits, v_th_clauses, v_th_doing, .ref h_numbers, v_th_planWord, v_th_addWord, v_th_delWord, v_th_fillWord, v_th_probes, v_th_links, v_th_looks, v_th_found, v_th_isOver])), (h_row, .inl (cyI, 1824, .inl u_23))] := hD
  obtain rfl := Option.some.inj h
  have hP := hP.sub (ws' := [(h_th, .inr (7, [.ref h_row, v_th_undos, v_th_isKept, v_th_text, v_th_length, v_th_sizes, v_th_values, v_th_asked, v_th_first, v_th_behind, v_th_readBits, v_th_clauses, v_th_doing, .ref h_numbers, v_th_planWord, v_th_addWord, v_th_delWord, v_th_fillWord, v_th_probes, v_th_links, v_th_looks, v_th_found, v_th_isOver])), (h_row, .inl (cyI, 1824, .inl u_23)), (h_numbers, .inl (cyI, 3, .inl numbers))]) [1, 2, 0] rfl
  have hD := hD.sub (ws' := [(h_th, .inr (7, [.ref h_row, v_th_undos, v_th_isKept, v_th_text, v_th_length, v_th_sizes, v_th_values, v_th_asked, v_th_first, v_th_behind, v_th_readBits, v_th_clauses, v_th_doing, .ref h_numbers, v_th_planWord, v_th_addWord, v_th_delWord, v_th_fillWord, v_th_probes, v_th_links, v_th_looks, v_th_found, v_th_isOver])), (h_row, .inl (cyI, 1824, .inl u_23)), (h_numbers, .inl (cyI, 3, .inl numbers))]) [1, 2, 0] (by decide) rfl
  exact J _ _ _ hP hD hS (lv_sub hl [] rfl)

def fX7_readsClause (length : Int32) (first : Int32) (behind : Int32) (readBits : Int32) (doing : Int32) (row : (Nat → Int32)) (text : (Nat → Int32)) (numbers : (Nat → Int32)) (planWord : (Nat → Int32)) (addWord : (Nat → Int32)) (delWord : (Nat → Int32)) (fillWord : (Nat → Int32)) : Option (Int32 × Int32 × Int32 × Int32 × (Nat → Int32) × (Nat → Int32)) := obd (fX7_wordHere first behind text planWord addWord delWord fillWord) fun u_1 => if u_1 = (-1 : Int32) then (obl (0 : Int32) (some ((0 : Int32), first, behind, readBits, row, numbers))) else (obd (fX7_nextToken length first behind text) fun u_4 => obd (if u_1 = 0 then (obd (fX7_number length u_4.1 u_4.2 text numbers (0 : Int32) (4 : Int32) (16 : Int32)) fun u_28 => if u_28.1 = 0 then (some ((0 : Int32), u_28.2.1, u_28.2.2.1, u_28.2.2.2)) else (obd (fX7_number length u_28.2.1 u_28.2.2.1 text u_28.2.2.2 (1 : Int32) (2 : Int32) (5 : Int32)) fun u_31 => if u_31.1 = 0 then (some ((0 : Int32), u_31.2.1, u_31.2.2.1, u_31.2.2.2)) else (some ((1 : Int32), u_31.2.1, u_31.2.2.1, u_31.2.2.2)))) else (obd (fX7_number length u_4.1 u_4.2 text numbers (0 : Int32) (0 : Int32) (((1 : Int32) <<< (readBits &&& 31)) - (1 : Int32))) fun u_18 => if u_18.1 = 0 then (some ((0 : Int32), u_18.2.1, u_18.2.2.1, u_18.2.2.2)) else (if u_1 = (3 : Int32) then (obd (fX7_number length u_18.2.1 u_18.2.2.1 text u_18.2.2.2 (1 : Int32) (1 : Int32) (999 : Int32)) fun u_22 => if u_22.1 = 0 then (some ((0 : Int32), u_22.2.1, u_22.2.2.1, u_22.2.2.2)) else (obd (fX7_number length u_22.2.1 u_22.2.2.1 text u_22.2.2.2 (2 : Int32) (1 : Int32) (96 : Int32)) fun u_25 => if u_25.1 = 0 then (some ((0 : Int32), u_25.2.1, u_25.2.2.1, u_25.2.2.2)) else (some ((1 : Int32), u_25.2.1, u_25.2.2.1, u_25.2.2.2)))) else (some ((1 : Int32), u_18.2.1, u_18.2.2.1, u_18.2.2.2))))) fun w_7 => obd (if w_7.1 = 0 then (some (readBits, row)) else (obd (if u_1 = 0 then (oin (0 : Int32) 3 (some (w_7.2.2.2 (0 : Int32).toNatClampNeg))) else (some readBits)) fun w_11 => if doing = 0 then (some (w_11, row)) else (obd (fX7_does row w_7.2.2.2 u_1) fun u_13 => some (w_11, u_13)))) fun w_9 => obl w_7.1 (some (w_7.1, w_7.2.1, w_7.2.2.1, w_9.1, w_9.2, w_7.2.2.2)))

set_option maxHeartbeats 4000000 in
set_option maxRecDepth 100000 in
theorem tX7_readsClause (l : Launch) (dC : Nat → ClassId) (dI : Nat → Nat → Nat) (cyI cyJ cyZ cyO : ClassId) (sz : Nat) (h_th h_row h_text h_numbers h_planWord h_addWord h_delWord h_fillWord : Nat) (v_th_undos : Value) (v_th_isKept : Value) (v_th_sizes : Value) (v_th_values : Value) (v_th_asked : Value) (v_th_clauses : Value) (v_th_probes : Value) (v_th_links : Value) (v_th_looks : Value) (v_th_found : Value) (v_th_isOver : Value) (length : Int32) (first : Int32) (behind : Int32) (readBits : Int32) (doing : Int32) (row : (Nat → Int32)) (text : (Nat → Int32)) (numbers : (Nat → Int32)) (planWord : (Nat → Int32)) (addWord : (Nat → Int32)) (delWord : (Nat → Int32)) (fillWord : (Nat → Int32)) (u : Int32 × Int32 × Int32 × Int32 × (Nat → Int32) × (Nat → Int32)) (hf : fX7_readsClause length first behind readBits doing row text numbers planWord addWord delWord fillWord = some u) : Met l yX7_readsClause wsX7_readsClause ({ frames := 8, cells := 0, slots := 0, locals := 183 }) (va_Pc [.ref h_th] (GP (dC, dI) (T4 cyI cyJ cyZ cyO) sz [(h_th, .inr (7, [.ref h_row, v_th_undos, v_th_isKept, .ref h_text, .int length, v_th_sizes, v_th_values, v_th_asked, .int first, .int behind, .int readBits, v_th_clauses, .int doing, .ref h_numbers, .ref h_planWord, .ref h_addWord, .ref h_delWord, .ref h_fillWord, v_th_probes, v_th_links, v_th_looks, v_th_found, v_th_isOver])), (h_row, .inl (cyI, 1824, .inl row)), (h_text, .inl (cyI, 200, .inl text)), (h_numbers, .inl (cyI, 3, .inl numbers)), (h_planWord, .inl (cyI, 4, .inl planWord)), (h_addWord, .inl (cyI, 3, .inl addWord)), (h_delWord, .inl (cyI, 3, .inl delWord)), (h_fillWord, .inl (cyI, 4, .inl fillWord))])) (va_Qi (fun (r : Int32) (_ : Unit) => r = u.1) (GB (dC, dI) [(h_th, .inr (7, [.ref h_row, v_th_undos, v_th_isKept, .ref h_text, .int length, v_th_sizes, v_th_values, v_th_asked, .int u.2.1, .int u.2.2.1, .int u.2.2.2.1, v_th_clauses, .int doing, .ref h_numbers, .ref h_planWord, .ref h_addWord, .ref h_delWord, .ref h_fillWord, v_th_probes, v_th_links, v_th_looks, v_th_found, v_th_isOver])), (h_row, .inl (cyI, 1824, .inl u.2.2.2.2.1)), (h_text, .inl (cyI, 200, .inl text)), (h_numbers, .inl (cyI, 3, .inl u.2.2.2.2.2)), (h_planWord, .inl (cyI, 4, .inl planWord)), (h_addWord, .inl (cyI, 3, .inl addWord)), (h_delWord, .inl (cyI, 3, .inl delWord)), (h_fillWord, .inl (cyI, 4, .inl fillWord))] (va_A [(h_th, .inr (7, [.ref h_row, v_th_undos, v_th_isKept, .ref h_text, .int length, v_th_sizes, v_th_values, v_th_asked, .int first, .int behind, .int readBits, v_th_clauses, .int doing, .ref h_numbers, .ref h_planWord, .ref h_addWord, .ref h_delWord, .ref h_fillWord, v_th_probes, v_th_links, v_th_looks, v_th_found, v_th_isOver])), (h_row, .inl (cyI, 1824, .inl row)), (h_text, .inl (cyI, 200, .inl text)), (h_numbers, .inl (cyI, 3, .inl numbers)), (h_planWord, .inl (cyI, 4, .inl planWord)), (h_addWord, .inl (cyI, 3, .inl addWord)), (h_delWord, .inl (cyI, 3, .inl delWord)), (h_fillWord, .inl (cyI, 4, .inl fillWord))] sz)) (va_A [(h_th, .inr (7, [.ref h_row, v_th_undos, v_th_isKept, .ref h_text, .int length, v_th_sizes, v_th_values, v_th_asked, .int first, .int behind, .int readBits, v_th_clauses, .int doing, .ref h_numbers, .ref h_planWord, .ref h_addWord, .ref h_delWord, .ref h_fillWord, v_th_probes, v_th_links, v_th_looks, v_th_found, v_th_isOver])), (h_row, .inl (cyI, 1824, .inl row)), (h_text, .inl (cyI, 200, .inl text)), (h_numbers, .inl (cyI, 3, .inl numbers)), (h_planWord, .inl (cyI, 4, .inl planWord)), (h_addWord, .inl (cyI, 3, .inl addWord)), (h_delWord, .inl (cyI, 3, .inl delWord)), (h_fillWord, .inl (cyI, 4, .inl fillWord))] sz)) 0 0 (va_A [(h_th, .inr (7, [.ref h_row, v_th_undos, v_th_isKept, .ref h_text, .int length, v_th_sizes, v_th_values, v_th_asked, .int first, .int behind, .int readBits, v_th_clauses, .int doing, .ref h_numbers, .ref h_planWord, .ref h_addWord, .ref h_delWord, .ref h_fillWord, v_th_probes, v_th_links, v_th_looks, v_th_found, v_th_isOver])), (h_row, .inl (cyI, 1824, .inl row)), (h_text, .inl (cyI, 200, .inl text)), (h_numbers, .inl (cyI, 3, .inl numbers)), (h_planWord, .inl (cyI, 4, .inl planWord)), (h_addWord, .inl (cyI, 3, .inl addWord)), (h_delWord, .inl (cyI, 3, .inl delWord)), (h_fillWord, .inl (cyI, 4, .inl fillWord))] sz) := by
  refine GMetZ (by decide) rfl (Nat.le_of_ble_eq_true rfl) ?_
  intro p e s m args below meth c A Q ls hx hb hml hts hown hN hK hA hret hP hD hS hl
  have h := hf
  clear hf
  unfold fX7_readsClause at h
  have hown : s.vm.findClass RX7 = some m.cls := hown
  have hl : lv_has ls 3 [(0, .ref h_th)] := hl
  refine lv_aload_n hx hb dX7_readsClause_0 rfl (lv_at hl 0 rfl) ?_
  obtain ⟨u_1, hc_2, h⟩ := obd_e h
  refine Gci (wr := [(h_row, .inl (cyI, 1824, .inl row)), (h_numbers, .inl (cyI, 3, .inl numbers))]) (va_runV (As := []) (rest := []) ⟨hx, hb, hml, hown, hts⟩ (tX7_wordHere l dC dI cyI cyJ cyZ cyO s.heap.size h_th h_text h_planWord h_addWord h_delWord h_fillWord (.ref h_row) v_th_undos v_th_isKept (.int length) v_th_sizes v_th_values v_th_asked (.int readBits) v_th_clauses (.int doing) (.ref h_numbers) v_th_probes v_th_links v_th_looks v_th_found v_th_isOver first behind text planWord addWord delWord fillWord u_1 hc_2) (cwV 0 hts gX7_readsClause_X7_wordHere rfl rfl rfl (by decide +kernel) ⟨Nat.le_of_ble_eq_true rfl, Nat.le_of_ble_eq_true rfl⟩) (GpreV hP hD hK hN [0, 2, 4, 5, 6, 7] rfl (by decide) 7 0 rfl rfl rfl) rfl rfl hl.1 rfl (lv_room (Nat.le_of_ble_eq_true rfl)) dX7_readsClause_1 ⟨Nat.zero_le _, Nat.zero_le _⟩) hP hD hS hA [0, 2, 4, 5, 6, 7] [1, 3] rfl rfl (by decide) (by decide) (fun H locs hP hD hS => ?_)
  have hP : va_P (dC, dI) vwCl [(h_row, .inl (cyI, 1824, .inl row)), (h_numbers, .inl (cyI, 3, .inl numbers)), (h_th, .inr (7, [.ref h_row, v_th_undos, v_th_isKept, .ref h_text, .int length, v_th_sizes, v_th_values, v_th_asked, .int first, .int behind, .int readBits, v_th_clauses, .int doing, .ref h_numbers, .ref h_planWord, .ref h_addWord, .ref h_delWord, .ref h_fillWord, v_th_probes, v_th_links, v_th_looks, v_th_found, v_th_isOver])), (h_text, .inl (cyI, 200, .inl text)), (h_planWord, .inl (cyI, 4, .inl planWord)), (h_addWord, .inl (cyI, 3, .inl addWord)), (h_delWord, .inl (cyI, 3, .inl delWord)), (h_fillWord, .inl (cyI, 4, .inl fillWord))] H := hP
  have hD : va_D A [(h_row, .inl (cyI, 1824, .inl row)), (h_numbers, .inl (cyI, 3, .inl numbers)), (h_th, .inr (7, [.ref h_row, v_th_undos, v_th_isKept, .ref h_text, .int length, v_th_sizes, v_th_values, v_th_asked, .int first, .int behind, .int readBits, v_th_clauses, .int doing, .ref h_numbers, .ref h_planWord, .ref h_addWord, .ref h_delWord, .ref h_fillWord, v_th_probes, v_th_links, v_th_looks, v_th_found, v_th_isOver])), (h_text, .inl (cyI, 200, .inl text)), (h_planWord, .inl (cyI, 4, .inl planWord)), (h_addWord, .inl (cyI, 3, .inl addWord)), (h_delWord, .inl (cyI, 3, .inl delWord)), (h_fillWord, .inl (cyI, 4, .inl fillWord))] := hD
  refine lv_istore_n (lv' := [(1, .int u_1), (0, .ref h_th)]) hx hb dX7_readsClause_4 rfl hl (by decide) rfl (fun ls hl => ?_)
  refine lv_iload_n hx hb dX7_readsClause_5 rfl (lv_at hl 0 rfl) ?_
  refine lv_iconst (v := (-1)) hx hb dX7_readsClause_6 (by decide) ?_
  refine lv_icmp_ne (tgt := 12) hx hb dX7_readsClause_7 (by decide) (fun c_3 => ?_) (fun c_3 => ?_)
  · have h := og_ite_f c_3 h
    refine lv_aload_n hx hb dX7_readsClause_12 rfl (lv_at hl 1 rfl) ?_
    obtain ⟨u_4, hc_5, h⟩ := obd_e h
    refine Gcv (wr := [(h_row, .inl (cyI, 1824, .inl row)), (h_numbers, .inl (cyI, 3, .inl numbers)), (h_planWord, .inl (cyI, 4, .inl planWord)), (h_addWord, .inl (cyI, 3, .inl addWord)), (h_delWord, .inl (cyI, 3, .inl delWord)), (h_fillWord, .inl (cyI, 4, .inl fillWord))]) (va_runV (As := []) (rest := []) ⟨hx, hb, hml, hown, hts⟩ (tX7_nextToken l dC dI cyI cyJ cyZ cyO H.size h_th h_text (.ref h_row) v_th_undos v_th_isKept v_th_sizes v_th_values v_th_asked (.int readBits) v_th_clauses (.int doing) (.ref h_numbers) (.ref h_planWord) (.ref h_addWord) (.ref h_delWord) (.ref h_fillWord) v_th_probes v_th_links v_th_looks v_th_found v_th_isOver length first behind text u_4 hc_5) (cwV 0 hts gX7_readsClause_X7_nextToken rfl rfl rfl (by decide +kernel) ⟨Nat.le_of_ble_eq_true rfl, Nat.le_of_ble_eq_true rfl⟩) (GpreV hP hD hK hN [2, 3] rfl (by decide) 7 0 rfl rfl rfl) rfl rfl hl.1 rfl (lv_room (Nat.le_of_ble_eq_true rfl)) dX7_readsClause_13 ⟨Nat.zero_le _, Nat.zero_le _⟩) hP hD hS hA [2, 3] [0, 1, 4, 5, 6, 7] rfl rfl (by decide) (by decide) (fun H locs hP hD hS => ?_)
    have hP : va_P (dC, dI) vwCl [(h_row, .inl (cyI, 1824, .inl row)), (h_numbers, .inl (cyI, 3, .inl numbers)), (h_planWord, .inl (cyI, 4, .inl planWord)), (h_addWord, .inl (cyI, 3, .inl addWord)), (h_delWord, .inl (cyI, 3, .inl delWord)), (h_fillWord, .inl (cyI, 4, .inl fillWord)), (h_th, .inr (7, [.ref h_row, v_th_undos, v_th_isKept, .ref h_text, .int length, v_th_sizes, v_th_values, v_th_asked, .int u_4.1, .int u_4.2, .int readBits, v_th_clauses, .int doing, .ref h_numbers, .ref h_planWord, .ref h_addWord, .ref h_delWord, .ref h_fillWord, v_th_probes, v_th_links, v_th_looks, v_th_found, v_th_isOver])), (h_text, .inl (cyI, 200, .inl text))] H := hP
    have hD : va_D A [(h_row, .inl (cyI, 1824, .inl row)), (h_numbers, .inl (cyI, 3, .inl numbers)), (h_planWord, .inl (cyI, 4, .inl planWord)), (h_addWord, .inl (cyI, 3, .inl addWord)), (h_delWord, .inl (cyI, 3, .inl delWord)), (h_fillWord, .inl (cyI, 4, .inl fillWord)), (h_th, .inr (7, [.ref h_row, v_th_undos, v_th_isKept, .ref h_text, .int length, v_th_sizes, v_th_values, v_th_asked, .int u_4.1, .int u_4.2, .int readBits, v_th_clauses, .int doing, .ref h_numbers, .ref h_planWord, .ref h_addWord, .ref h_delWord, .ref h_fillWord, v_th_probes, v_th_links, v_th_looks, v_th_found, v_th_isOver])), (h_text, .inl (cyI, 200, .inl text))] := hD
    refine lv_iload_n hx hb dX7_readsClause_16 rfl (lv_at hl 0 rfl) ?_
    obtain ⟨w_7, hm_34, h⟩ := obd_e h
    have J : ∀ (H : Heap) (locs : List Loc) (ls : Array Slot), va_P (dC, dI) vwCl [(h_row, .inl (cyI, 1824, .inl row)), (h_numbers, .inl (cyI, 3, .inl w_7.2.2.2)), (h_planWord, .inl (cyI, 4, .inl planWord)), (h_addWord, .inl (cyI, 3, .inl addWord)), (h_delWord, .inl (cyI, 3, .inl delWord)), (h_fillWord, .inl (cyI, 4, .inl fillWord)), (h_th, .inr (7, [.ref h_row, v_th_undos, v_th_isKept, .ref h_text, .int length, v_th_sizes, v_th_values, v_th_asked, .int w_7.2.1, .int w_7.2.2.1, .int readBits, v_th_clauses, .int doing, .ref h_numbers, .ref h_planWord, .ref h_addWord, .ref h_delWord, .ref h_fillWord, v_th_probes, v_th_links, v_th_looks, v_th_found, v_th_isOver])), (h_text, .inl (cyI, 200, .inl text))] H → va_D A [(h_row, .inl (cyI, 1824, .inl row)), (h_numbers, .inl (cyI, 3, .inl w_7.2.2.2)), (h_planWord, .inl (cyI, 4, .inl planWord)), (h_addWord, .inl (cyI, 3, .inl addWord)), (h_delWord, .inl (cyI, 3, .inl delWord)), (h_fillWord, .inl (cyI, 4, .inl fillWord)), (h_th, .inr (7, [.ref h_row, v_th_undos, v_th_isKept, .ref h_text, .int length, v_th_sizes, v_th_values, v_th_asked, .int w_7.2.1, .int w_7.2.2.1, .int readBits, v_th_clauses, .int doing, .ref h_numbers, .ref h_planWord, .ref h_addWord, .ref h_delWord, .ref h_fillWord, v_th_probes, v_th_links, v_th_looks, v_th_found, v_th_isOver])), (h_text, .inl (cyI, 200, .inl text))] → va_S A s.heap H locs → lv_has ls 3 [(0, .ref h_th), (1, .int u_1)] → W p l e ({ frames := 8, cells := 0, slots := 0, locals := 183 }) s m args below meth c H locs 0 0 Q (F0 m 99 ls [.int w_7.1]) := by
      intro H locs ls hP hD hS hl
      refine lv_istore_n (lv' := [(2, .int w_7.1), (0, .ref h_th), (1, .int u_1)]) hx hb dX7_readsClause_99 rfl hl (by decide) rfl (fun ls hl => ?_)
      refine lv_iload_n hx hb dX7_readsClause_100 rfl (lv_at hl 0 rfl) ?_
      obtain ⟨w_9, hm_17, h⟩ := obd_e h
      have J : ∀ (H : Heap) (locs : List Loc) (ls : Array Slot), va_P (dC, dI) vwCl [(h_row, .inl (cyI, 1824, .inl w_9.2)), (h_numbers, .inl (cyI, 3, .inl w_7.2.2.2)), (h_planWord, .inl (cyI, 4, .inl planWord)), (h_addWord, .inl (cyI, 3, .inl addWord)), (h_delWord, .inl (cyI, 3, .inl delWord)), (h_fillWord, .inl (cyI, 4, .inl fillWord)), (h_th, .inr (7, [.ref h_row, v_th_undos, v_th_isKept, .ref h_text, .int length, v_th_sizes, v_th_values, v_th_asked, .int w_7.2.1, .int w_7.2.2.1, .int w_9.1, v_th_clauses, .int doing, .ref h_numbers, .ref h_planWord, .ref h_addWord, .ref h_delWord, .ref h_fillWord, v_th_probes, v_th_links, v_th_looks, v_th_found, v_th_isOver])), (h_text, .inl (cyI, 200, .inl text))] H → va_D A [(h_row, .inl (cyI, 1824, .inl w_9.2)), (h_numbers, .inl (cyI, 3, .inl w_7.2.2.2)), (h_planWord, .inl (cyI, 4, .inl planWord)), (h_addWord, .inl (cyI, 3, .inl addWord)), (h_delWord, .inl (cyI, 3, .inl delWord)), (h_fillWord, .inl (cyI, 4, .inl fillWord)), (h_th, .inr (7, [.ref h_row, v_th_undos, v_th_isKept, .ref h_text, .int length, v_th_sizes, v_th_values, v_th_asked, .int w_7.2.1, .int w_7.2.2.1, .int w_9.1, v_th_clauses, .int doing, .ref h_numbers, .ref h_planWord, .ref h_addWord, .ref h_delWord, .ref h_fillWord, v_th_probes, v_th_links, v_th_looks, v_th_found, v_th_isOver])), (h_text, .inl (cyI, 200, .inl text))] → va_S A s.heap H locs → lv_has ls 3 [(2, .int w_7.1)] → W p l e ({ frames := 8, cells := 0, slots := 0, locals := 183 }) s m args below meth c H locs 0 0 Q (F0 m 137 ls []) := by
        intro H locs ls hP hD hS hl
        refine lv_iload_n hx hb dX7_readsClause_137 rfl (lv_at hl 0 rfl) ?_
        obtain ⟨hz, h⟩ := obl_e h
        obtain rfl := Option.some.inj h
        have hP := hP.sub (ws' := [(h_th, .inr (7, [.ref h_row, v_th_undos, v_th_isKept, .ref h_text, .int length, v_th_sizes, v_th_values, v_th_asked, .int w_7.2.1, .int w_7.2.2.1, .int w_9.1, v_th_clauses, .int doing, .ref h_numbers, .ref h_planWord, .ref h_addWord, .ref h_delWord, .ref h_fillWord, v_th_probes, v_th_links, v_th_looks, v_th_found, v_th_isOver])), (h_row, .inl (cyI, 1824, .inl w_9.2)), (h_text, .inl (cyI, 200, .inl text)), (h_numbers, .inl (cyI, 3, .inl w_7.2.2.2)), (h_planWord, .inl (cyI, 4, .inl planWord)), (h_addWord, .inl (cyI, 3, .inl addWord)), (h_delWord, .inl (cyI, 3, .inl delWord)), (h_fillWord, .inl (cyI, 4, .inl fillWord))]) [6, 0, 7, 1, 2, 3, 4, 5] rfl
        have hD := hD.sub (ws' := [(h_th, .inr (7, [.ref h_row, v_th_undos, v_th_isKept, .ref h_text, .int length, v_th_sizes, v_th_values, v_th_asked, .int w_7.2.1, .int w_7.2.2.1, .int w_9.1, v_th_clauses, .int doing, .ref h_numbers, .ref h_planWord, .ref h_addWord, .ref h_delWord, .ref h_fillWord, v_th_probes, v_th_links, v_th_looks, v_th_found, v_th_isOver])), (h_row, .inl (cyI, 1824, .inl w_9.2)), (h_text, .inl (cyI, 200, .inl text)), (h_numbers, .inl (cyI, 3, .inl w_7.2.2.2)), (h_planWord, .inl (cyI, 4, .inl planWord)), (h_addWord, .inl (cyI, 3, .inl addWord)), (h_delWord, .inl (cyI, 3, .inl delWord)), (h_fillWord, .inl (cyI, 4, .inl fillWord))]) [6, 0, 7, 1, 2, 3, 4, 5] (by decide) rfl
        exact hret _ _ _ _ dX7_readsClause_138 hz hP hD hS
      replace h := hm_17
      refine lv_if_eq (tgt := 137) hx hb dX7_readsClause_101 (by decide) (fun c_8 => ?_) (fun c_8 => ?_)
      · have h := og_ite_t c_8 h
        obtain rfl := Option.some.inj h
        exact J _ _ _ hP hD hS (lv_sub hl [0] rfl)
      · have h := og_ite_f c_8 h
        refine lv_aload_n hx hb dX7_readsClause_104 rfl (lv_at hl 1 rfl) ?_
        refine lv_iload_n hx hb dX7_readsClause_105 rfl (lv_at hl 2 rfl) ?_
        obtain ⟨w_11, hm_16, h⟩ := obd_e h
        have J : ∀ (H : Heap) (locs : List Loc) (ls : Array Slot), va_P (dC, dI) vwCl [(h_row, .inl (cyI, 1824, .inl row)), (h_numbers, .inl (cyI, 3, .inl w_7.2.2.2)), (h_planWord, .inl (cyI, 4, .inl planWord)), (h_addWord, .inl (cyI, 3, .inl addWord)), (h_delWord, .inl (cyI, 3, .inl delWord)), (h_fillWord, .inl (cyI, 4, .inl fillWord)), (h_th, .inr (7, [.ref h_row, v_th_undos, v_th_isKept, .ref h_text, .int length, v_th_sizes, v_th_values, v_th_asked, .int w_7.2.1, .int w_7.2.2.1, .int readBits, v_th_clauses, .int doing, .ref h_numbers, .ref h_planWord, .ref h_addWord, .ref h_delWord, .ref h_fillWord, v_th_probes, v_th_links, v_th_looks, v_th_found, v_th_isOver])), (h_text, .inl (cyI, 200, .inl text))] H → va_D A [(h_row, .inl (cyI, 1824, .inl row)), (h_numbers, .inl (cyI, 3, .inl w_7.2.2.2)), (h_planWord, .inl (cyI, 4, .inl planWord)), (h_addWord, .inl (cyI, 3, .inl addWord)), (h_delWord, .inl (cyI, 3, .inl delWord)), (h_fillWord, .inl (cyI, 4, .inl fillWord)), (h_th, .inr (7, [.ref h_row, v_th_undos, v_th_isKept, .ref h_text, .int length, v_th_sizes, v_th_values, v_th_asked, .int w_7.2.1, .int w_7.2.2.1, .int readBits, v_th_clauses, .int doing, .ref h_numbers, .ref h_planWord, .ref h_addWord, .ref h_delWord, .ref h_fillWord, v_th_probes, v_th_links, v_th_looks, v_th_found, v_th_isOver])), (h_text, .inl (cyI, 200, .inl text))] → va_S A s.heap H locs → lv_has ls 3 [(0, .ref h_th), (1, .int u_1), (2, .int w_7.1)] → W p l e ({ frames := 8, cells := 0, slots := 0, locals := 183 }) s m args below meth c H locs 0 0 Q (F0 m 122 ls [.int w_11, .ref h_th]) := by
          intro H locs ls hP hD hS hl
          refine va_put (D := (dC, dI)) (ci := 7) (v := .int w_11) (ty := .int) (C := RX7) (T := TX7) (N := 23) hx hb hts (fun _ hw => List.mem_cons_of_mem _ (List.mem_append_right _ hw)) tyX7 tyX7_ok nmX7 hown hK hP hD hS 6 rfl rfl 10 (by decide) (hts (.fieldLink RX7 126 "PrefixIndexModel" "readBits" "I") (List.mem_of_getElem? (i := 1) rfl)) (fun _ h9 => h9) rfl (by decide +kernel) rfl rfl (Nat.le_of_ble_eq_true rfl) dX7_readsClause_122 (fun H locs hP hD hS => ?_)
          have hP : va_P (dC, dI) vwCl [(h_row, .inl (cyI, 1824, .inl row)), (h_numbers, .inl (cyI, 3, .inl w_7.2.2.2)), (h_planWord, .inl (cyI, 4, .inl planWord)), (h_addWord, .inl (cyI, 3, .inl addWord)), (h_delWord, .inl (cyI, 3, .inl delWord)), (h_fillWord, .inl (cyI, 4, .inl fillWord)), (h_th, .inr (7, [.ref h_row, v_th_undos, v_th_isKept, .ref h_text, .int length, v_th_sizes, v_th_values, v_th_asked, .int w_7.2.1, .int w_7.2.2.1, .int w_11, v_th_clauses, .int doing, .ref h_numbers, .ref h_planWord, .ref h_addWord, .ref h_delWord, .ref h_fillWord, v_th_probes, v_th_links, v_th_looks, v_th_found, v_th_isOver])), (h_text, .inl (cyI, 200, .inl text))] H := hP
          have hD : va_D A [(h_row, .inl (cyI, 1824, .inl row)), (h_numbers, .inl (cyI, 3, .inl w_7.2.2.2)), (h_planWord, .inl (cyI, 4, .inl planWord)), (h_addWord, .inl (cyI, 3, .inl addWord)), (h_delWord, .inl (cyI, 3, .inl delWord)), (h_fillWord, .inl (cyI, 4, .inl fillWord)), (h_th, .inr (7, [.ref h_row, v_th_undos, v_th_isKept, .ref h_text, .int length, v_th_sizes, v_th_values, v_th_asked, .int w_7.2.1, .int w_7.2.2.1, .int w_11, v_th_clauses, .int doing, .ref h_numbers, .ref h_planWord, .ref h_addWord, .ref h_delWord, .ref h_fillWord, v_th_probes, v_th_links, v_th_looks, v_th_found, v_th_isOver])), (h_text, .inl (cyI, 200, .inl text))] := hD
          refine lv_aload_n hx hb dX7_readsClause_125 rfl (lv_at hl 0 rfl) ?_
          refine va_get (D := (dC, dI)) (ci := 7) (v := .int doing) (C := RX7) (T := TX7) (N := 23) hx hb hts (fun _ hw => List.mem_cons_of_mem _ (List.mem_append_right _ hw)) hown hK hP 6 rfl rfl 12 (by decide) (hts (.fieldLink RX7 129 "PrefixIndexModel" "doing" "Z") (List.mem_of_getElem? (i := 3) rfl)) (fun _ h9 => h9) rfl dX7_readsClause_126 ?_
          refine lv_if_eq (tgt := 137) hx hb dX7_readsClause_129 (by decide) (fun c_12 => ?_) (fun c_12 => ?_)
          · have h := og_ite_t c_12 h
            obtain rfl := Option.some.inj h
            exact J _ _ _ hP hD hS (lv_sub hl [2] rfl)
          · have h := og_ite_f c_12 h
            refine lv_aload_n hx hb dX7_readsClause_132 rfl (lv_at hl 0 rfl) ?_
            refine lv_iload_n hx hb dX7_readsClause_133 rfl (lv_at hl 1 rfl) ?_
            obtain ⟨u_13, hc_14, h⟩ := obd_e h
            refine Gcv (wr := [(h_planWord, .inl (cyI, 4, .inl planWord)), (h_addWord, .inl (cyI, 3, .inl addWord)), (h_delWord, .inl (cyI, 3, .inl delWord)), (h_fillWord, .inl (cyI, 4, .inl fillWord)), (h_text, .inl (cyI, 200, .inl text))]) (va_runV (As := [.int u_1]) (rest := []) ⟨hx, hb, hml, hown, hts⟩ (tX7_does l dC dI cyI cyJ cyZ cyO H.size h_th h_row h_numbers v_th_undos v_th_isKept (.ref h_text) (.int length) v_th_sizes v_th_values v_th_asked (.int w_7.2.1) (.int w_7.2.2.1) (.int w_11) v_th_clauses (.int doing) (.ref h_planWord) (.ref h_addWord) (.ref h_delWord) (.ref h_fillWord) v_th_probes v_th_links v_th_looks v_th_found v_th_isOver row w_7.2.2.2 u_1 u_13 hc_14) (cwV 1 hts gX7_readsClause_X7_does rfl rfl rfl (by decide +kernel) ⟨Nat.le_of_ble_eq_true rfl, Nat.le_of_ble_eq_true rfl⟩) (GpreV hP hD hK hN [6, 0, 1] rfl (by decide) 7 0 rfl rfl rfl) rfl rfl hl.1 rfl (lv_room (Nat.le_of_ble_eq_true rfl)) dX7_readsClause_134 ⟨Nat.zero_le _, Nat.zero_le _⟩) hP hD hS hA [6, 0, 1] [2, 3, 4, 5, 7] rfl rfl (by decide) (by decide) (fun H locs hP hD hS => ?_)
            have hP : va_P (dC, dI) vwCl [(h_planWord, .inl (cyI, 4, .inl planWord)), (h_addWord, .inl (cyI, 3, .inl addWord)), (h_delWord, .inl (cyI, 3, .inl delWord)), (h_fillWord, .inl (cyI, 4, .inl fillWord)), (h_text, .inl (cyI, 200, .inl text)), (h_th, .inr (7, [.ref h_row, v_th_undos, v_th_isKept, .ref h_text, .int length, v_th_sizes, v_th_values, v_th_asked, .int w_7.2.1, .int w_7.2.2.1, .int w_11, v_th_clauses, .int doing, .ref h_numbers, .ref h_planWord, .ref h_addWord, .ref h_delWord, .ref h_fillWord, v_th_probes, v_th_links, v_th_looks, v_th_found, v_th_isOver])), (h_row, .inl (cyI, 1824, .inl u_13)), (h_numbers, .inl (cyI, 3, .inl w_7.2.2.2))] H := hP
            have hD : va_D A [(h_planWord, .inl (cyI, 4, .inl planWord)), (h_addWord, .inl (cyI, 3, .inl addWord)), (h_delWord, .inl (cyI, 3, .inl delWord)), (h_fillWord, .inl (cyI, 4, .inl fillWord)), (h_text, .inl (cyI, 200, .inl text)), (h_th, .inr (7, [.ref h_row, v_th_undos, v_th_isKept, .ref h_text, .int length, v_th_sizes, v_th_values, v_th_asked, .int w_7.2.1, .int w_7.2.2.1, .int w_11, v_th_clauses, .int doing, .ref h_numbers, .ref h_planWord, .ref h_addWord, .ref h_delWord, .ref h_fillWord, v_th_probes, v_th_links, v_th_looks, v_th_found, v_th_isOver])), (h_row, .inl (cyI, 1824, .inl u_13)), (h_numbers, .inl (cyI, 3, .inl w_7.2.2.2))] := hD
            obtain rfl := Option.some.inj h
            have hP := hP.sub (ws' := [(h_row, .inl (cyI, 1824, .inl u_13)), (h_numbers, .inl (cyI, 3, .inl w_7.2.2.2)), (h_planWord, .inl (cyI, 4, .inl planWord)), (h_addWord, .inl (cyI, 3, .inl addWord)), (h_delWord, .inl (cyI, 3, .inl delWord)), (h_fillWord, .inl (cyI, 4, .inl fillWord)), (h_th, .inr (7, [.ref h_row, v_th_undos, v_th_isKept, .ref h_text, .int length, v_th_sizes, v_th_values, v_th_asked, .int w_7.2.1, .int w_7.2.2.1, .int w_11, v_th_clauses, .int doing, .ref h_numbers, .ref h_planWord, .ref h_addWord, .ref h_delWord, .ref h_fillWord, v_th_probes, v_th_links, v_th_looks, v_th_found, v_th_isOver])), (h_text, .inl (cyI, 200, .inl text))]) [6, 7, 0, 1, 2, 3, 5, 4] rfl
            have hD := hD.sub (ws' := [(h_row, .inl (cyI, 1824, .inl u_13)), (h_numbers, .inl (cyI, 3, .inl w_7.2.2.2)), (h_planWord, .inl (cyI, 4, .inl planWord)), (h_addWord, .inl (cyI, 3, .inl addWord)), (h_delWord, .inl (cyI, 3, .inl delWord)), (h_fillWord, .inl (cyI, 4, .inl fillWord)), (h_th, .inr (7, [.ref h_row, v_th_undos, v_th_isKept, .ref h_text, .int length, v_th_sizes, v_th_values, v_th_asked, .int w_7.2.1, .int w_7.2.2.1, .int w_11, v_th_clauses, .int doing, .ref h_numbers, .ref h_planWord, .ref h_addWord, .ref h_delWord, .ref h_fillWord, v_th_probes, v_th_links, v_th_looks, v_th_found, v_th_isOver])), (h_text, .inl (cyI, 200, .inl text))]) [6, 7, 0, 1, 2, 3, 5, 4] (by decide) rfl
            exact J _ _ _ hP hD hS (lv_sub hl [2] rfl)
        replace h := hm_16
        refine lv_if_ne (tgt := 118) hx hb dX7_readsClause_106 (by decide) (fun c_10 => ?_) (fun c_10 => ?_)
        · have h := og_ite_f c_10 h
          refine lv_aload_n hx hb dX7_readsClause_118 rfl (lv_at hl 1 rfl) ?_
          refine va_get (D := (dC, dI)) (ci := 7) (v := .int readBits) (C := RX7) (T := TX7) (N := 23) hx hb hts (fun _ hw => List.mem_cons_of_mem _ (List.mem_append_right _ hw)) hown hK hP 6 rfl rfl 10 (by decide) (hts (.fieldLink RX7 126 "PrefixIndexModel" "readBits" "I") (List.mem_of_getElem? (i := 1) rfl)) (fun _ h9 => h9) rfl dX7_readsClause_119 ?_
          obtain rfl := Option.some.inj h
          exact J _ _ _ hP hD hS (lv_sub hl [1, 2, 0] rfl)
        · have h := og_ite_t c_10 h
          refine lv_aload_n hx hb dX7_readsClause_109 rfl (lv_at hl 1 rfl) ?_
          refine va_get (D := (dC, dI)) (ci := 7) (v := .ref h_numbers) (C := RX7) (T := TX7) (N := 23) hx hb hts (fun _ hw => List.mem_cons_of_mem _ (List.mem_append_right _ hw)) hown hK hP 6 rfl rfl 13 (by decide) (hts (.fieldLink RX7 27 "PrefixIndexModel" "numbers" "[I") (List.mem_of_getElem? (i := 2) rfl)) (fun _ h9 => h9) rfl dX7_readsClause_110 ?_
          refine lv_iconst (v := 0) hx hb dX7_readsClause_113 (by decide) ?_
          obtain ⟨hi_15, h⟩ := oin_e h
          refine va_iald hx hb hK hP 1 0 rfl rfl hi_15 dX7_readsClause_114 ?_
          refine lv_goto (tgt := 122) hx hb dX7_readsClause_115 (by decide) ?_
          obtain rfl := Option.some.inj h
          exact J _ _ _ hP hD hS (lv_sub hl [1, 2, 0] rfl)
    replace h := hm_34
    refine lv_if_ne (tgt := 49) hx hb dX7_readsClause_17 (by decide) (fun c_6 => ?_) (fun c_6 => ?_)
    · have h := og_ite_f c_6 h
      refine lv_aload_n hx hb dX7_readsClause_49 rfl (lv_at hl 1 rfl) ?_
      refine lv_iconst (v := 0) hx hb dX7_readsClause_50 (by decide) ?_
      refine lv_iconst (v := 0) hx hb dX7_readsClause_51 (by decide) ?_
      refine lv_iconst (v := 1) hx hb dX7_readsClause_52 (by decide) ?_
      refine lv_aload_n hx hb dX7_readsClause_53 rfl (lv_at hl 1 rfl) ?_
      refine va_get (D := (dC, dI)) (ci := 7) (v := .int readBits) (C := RX7) (T := TX7) (N := 23) hx hb hts (fun _ hw => List.mem_cons_of_mem _ (List.mem_append_right _ hw)) hown hK hP 6 rfl rfl 10 (by decide) (hts (.fieldLink RX7 126 "PrefixIndexModel" "readBits" "I") (List.mem_of_getElem? (i := 1) rfl)) (fun _ h9 => h9) rfl dX7_readsClause_54 ?_
      refine lv_ishl hx hb dX7_readsClause_57 ?_
      refine lv_iconst (v := 1) hx hb dX7_readsClause_58 (by decide) ?_
      refine lv_isub hx hb dX7_readsClause_59 ?_
      obtain ⟨u_18, hc_19, h⟩ := obd_e h
      refine Gci (wr := [(h_row, .inl (cyI, 1824, .inl row)), (h_planWord, .inl (cyI, 4, .inl planWord)), (h_addWord, .inl (cyI, 3, .inl addWord)), (h_delWord, .inl (cyI, 3, .inl delWord)), (h_fillWord, .inl (cyI, 4, .inl fillWord))]) (va_runV (As := [.int (0 : Int32), .int (0 : Int32), .int (((1 : Int32) <<< (readBits &&& 31)) - (1 : Int32))]) (rest := []) ⟨hx, hb, hml, hown, hts⟩ (tX7_number l dC dI cyI cyJ cyZ cyO H.size h_th h_text h_numbers (.ref h_row) v_th_undos v_th_isKept v_th_sizes v_th_values v_th_asked (.int readBits) v_th_clauses (.int doing) (.ref h_planWord) (.ref h_addWord) (.ref h_delWord) (.ref h_fillWord) v_th_probes v_th_links v_th_looks v_th_found v_th_isOver length u_4.1 u_4.2 text numbers (0 : Int32) (0 : Int32) (((1 : Int32) <<< (readBits &&& 31)) - (1 : Int32)) u_18 hc_19) (cwV 3 hts gX7_readsClause_X7_number rfl rfl rfl (by decide +kernel) ⟨Nat.le_of_ble_eq_true rfl, Nat.le_of_ble_eq_true rfl⟩) (GpreV hP hD hK hN [6, 7, 1] rfl (by decide) 7 0 rfl rfl rfl) rfl rfl hl.1 rfl (lv_room (Nat.le_of_ble_eq_true rfl)) dX7_readsClause_60 ⟨Nat.zero_le _, Nat.zero_le _⟩) hP hD hS hA [6, 7, 1] [0, 2, 3, 4, 5] rfl rfl (by decide) (by decide) (fun H locs hP hD hS => ?_)
      have hP : va_P (dC, dI) vwCl [(h_row, .inl (cyI, 1824, .inl row)), (h_planWord, .inl (cyI, 4, .inl planWord)), (h_addWord, .inl (cyI, 3, .inl addWord)), (h_delWord, .inl (cyI, 3, .inl delWord)), (h_fillWord, .inl (cyI, 4, .inl fillWord)), (h_th, .inr (7, [.ref h_row, v_th_undos, v_th_isKept, .ref h_text, .int length, v_th_sizes, v_th_values, v_th_asked, .int u_18.2.1, .int u_18.2.2.1, .int readBits, v_th_clauses, .int doing, .ref h_numbers, .ref h_planWord, .ref h_addWord, .ref h_delWord, .ref h_fillWord, v_th_probes, v_th_links, v_th_looks, v_th_found, v_th_isOver])), (h_text, .inl (cyI, 200, .inl text)), (h_numbers, .inl (cyI, 3, .inl u_18.2.2.2))] H := hP
      have hD : va_D A [(h_row, .inl (cyI, 1824, .inl row)), (h_planWord, .inl (cyI, 4, .inl planWord)), (h_addWord, .inl (cyI, 3, .inl addWord)), (h_delWord, .inl (cyI, 3, .inl delWord)), (h_fillWord, .inl (cyI, 4, .inl fillWord)), (h_th, .inr (7, [.ref h_row, v_th_undos, v_th_isKept, .ref h_text, .int length, v_th_sizes, v_th_values, v_th_asked, .int u_18.2.1, .int u_18.2.2.1, .int readBits, v_th_clauses, .int doing, .ref h_numbers, .ref h_planWord, .ref h_addWord, .ref h_delWord, .ref h_fillWord, v_th_probes, v_th_links, v_th_looks, v_th_found, v_th_isOver])), (h_text, .inl (cyI, 200, .inl text)), (h_numbers, .inl (cyI, 3, .inl u_18.2.2.2))] := hD
      refine lv_if_eq (tgt := 98) hx hb dX7_readsClause_63 (by decide) (fun c_20 => ?_) (fun c_20 => ?_)
      · have h := og_ite_t c_20 h
        refine lv_iconst (v := 0) hx hb dX7_readsClause_98 (by decide) ?_
        obtain rfl := Option.some.inj h
        have hP := hP.sub (ws' := [(h_row, .inl (cyI, 1824, .inl row)), (h_numbers, .inl (cyI, 3, .inl u_18.2.2.2)), (h_planWord, .inl (cyI, 4, .inl planWord)), (h_addWord, .inl (cyI, 3, .inl addWord)), (h_delWord, .inl (cyI, 3, .inl delWord)), (h_fillWord, .inl (cyI, 4, .inl fillWord)), (h_th, .inr (7, [.ref h_row, v_th_undos, v_th_isKept, .ref h_text, .int length, v_th_sizes, v_th_values, v_th_asked, .int u_18.2.1, .int u_18.2.2.1, .int readBits, v_th_clauses, .int doing, .ref h_numbers, .ref h_planWord, .ref h_addWord, .ref h_delWord, .ref h_fillWord, v_th_probes, v_th_links, v_th_looks, v_th_found, v_th_isOver])), (h_text, .inl (cyI, 200, .inl text))]) [0, 7, 1, 2, 3, 4, 5, 6] rfl
        have hD := hD.sub (ws' := [(h_row, .inl (cyI, 1824, .inl row)), (h_numbers, .inl (cyI, 3, .inl u_18.2.2.2)), (h_planWord, .inl (cyI, 4, .inl planWord)), (h_addWord, .inl (cyI, 3, .inl addWord)), (h_delWord, .inl (cyI, 3, .inl delWord)), (h_fillWord, .inl (cyI, 4, .inl fillWord)), (h_th, .inr (7, [.ref h_row, v_th_undos, v_th_isKept, .ref h_text, .int length, v_th_sizes, v_th_values, v_th_asked, .int u_18.2.1, .int u_18.2.2.1, .int readBits, v_th_clauses, .int doing, .ref h_numbers, .ref h_planWord, .ref h_addWord, .ref h_delWord, .ref h_fillWord, v_th_probes, v_th_links, v_th_looks, v_th_found, v_th_isOver])), (h_text, .inl (cyI, 200, .inl text))]) [0, 7, 1, 2, 3, 4, 5, 6] (by decide) rfl
        exact J _ _ _ hP hD hS (lv_sub hl [1, 0] rfl)
      · have h := og_ite_f c_20 h
        refine lv_iload_n hx hb dX7_readsClause_66 rfl (lv_at hl 0 rfl) ?_
        refine lv_iconst (v := 3) hx hb dX7_readsClause_67 (by decide) ?_
        refine lv_icmp_ne (tgt := 94) hx hb dX7_readsClause_68 (by decide) (fun c_21 => ?_) (fun c_21 => ?_)
        · have h := og_ite_f c_21 h
          refine lv_iconst (v := 1) hx hb dX7_readsClause_94 (by decide) ?_
          refine lv_goto (tgt := 99) hx hb dX7_readsClause_95 (by decide) ?_
          obtain rfl := Option.some.inj h
          have hP := hP.sub (ws' := [(h_row, .inl (cyI, 1824, .inl row)), (h_numbers, .inl (cyI, 3, .inl u_18.2.2.2)), (h_planWord, .inl (cyI, 4, .inl planWord)), (h_addWord, .inl (cyI, 3, .inl addWord)), (h_delWord, .inl (cyI, 3, .inl delWord)), (h_fillWord, .inl (cyI, 4, .inl fillWord)), (h_th, .inr (7, [.ref h_row, v_th_undos, v_th_isKept, .ref h_text, .int length, v_th_sizes, v_th_values, v_th_asked, .int u_18.2.1, .int u_18.2.2.1, .int readBits, v_th_clauses, .int doing, .ref h_numbers, .ref h_planWord, .ref h_addWord, .ref h_delWord, .ref h_fillWord, v_th_probes, v_th_links, v_th_looks, v_th_found, v_th_isOver])), (h_text, .inl (cyI, 200, .inl text))]) [0, 7, 1, 2, 3, 4, 5, 6] rfl
          have hD := hD.sub (ws' := [(h_row, .inl (cyI, 1824, .inl row)), (h_numbers, .inl (cyI, 3, .inl u_18.2.2.2)), (h_planWord, .inl (cyI, 4, .inl planWord)), (h_addWord, .inl (cyI, 3, .inl addWord)), (h_delWord, .inl (cyI, 3, .inl delWord)), (h_fillWord, .inl (cyI, 4, .inl fillWord)), (h_th, .inr (7, [.ref h_row, v_th_undos, v_th_isKept, .ref h_text, .int length, v_th_sizes, v_th_values, v_th_asked, .int u_18.2.1, .int u_18.2.2.1, .int readBits, v_th_clauses, .int doing, .ref h_numbers, .ref h_planWord, .ref h_addWord, .ref h_delWord, .ref h_fillWord, v_th_probes, v_th_links, v_th_looks, v_th_found, v_th_isOver])), (h_text, .inl (cyI, 200, .inl text))]) [0, 7, 1, 2, 3, 4, 5, 6] (by decide) rfl
          exact J _ _ _ hP hD hS (lv_sub hl [1, 0] rfl)
        · have h := og_ite_t c_21 h
          refine lv_aload_n hx hb dX7_readsClause_71 rfl (lv_at hl 1 rfl) ?_
          refine lv_iconst (v := 1) hx hb dX7_readsClause_72 (by decide) ?_
          refine lv_iconst (v := 1) hx hb dX7_readsClause_73 (by decide) ?_
          refine lv_sipush (v := 999) hx hb dX7_readsClause_74 (by decide) ?_
          obtain ⟨u_22, hc_23, h⟩ := obd_e h
          refine Gci (wr := [(h_row, .inl (cyI, 1824, .inl row)), (h_planWord, .inl (cyI, 4, .inl planWord)), (h_addWord, .inl (cyI, 3, .inl addWord)), (h_delWord, .inl (cyI, 3, .inl delWord)), (h_fillWord, .inl (cyI, 4, .inl fillWord))]) (va_runV (As := [.int (1 : Int32), .int (1 : Int32), .int (999 : Int32)]) (rest := []) ⟨hx, hb, hml, hown, hts⟩ (tX7_number l dC dI cyI cyJ cyZ cyO H.size h_th h_text h_numbers (.ref h_row) v_th_undos v_th_isKept v_th_sizes v_th_values v_th_asked (.int readBits) v_th_clauses (.int doing) (.ref h_planWord) (.ref h_addWord) (.ref h_delWord) (.ref h_fillWord) v_th_probes v_th_links v_th_looks v_th_found v_th_isOver length u_18.2.1 u_18.2.2.1 text u_18.2.2.2 (1 : Int32) (1 : Int32) (999 : Int32) u_22 hc_23) (cwV 3 hts gX7_readsClause_X7_number rfl rfl rfl (by decide +kernel) ⟨Nat.le_of_ble_eq_true rfl, Nat.le_of_ble_eq_true rfl⟩) (GpreV hP hD hK hN [5, 6, 7] rfl (by decide) 7 0 rfl rfl rfl) rfl rfl hl.1 rfl (lv_room (Nat.le_of_ble_eq_true rfl)) dX7_readsClause_77 ⟨Nat.zero_le _, Nat.zero_le _⟩) hP hD hS hA [5, 6, 7] [0, 1, 2, 3, 4] rfl rfl (by decide) (by decide) (fun H locs hP hD hS => ?_)
          have hP : va_P (dC, dI) vwCl [(h_row, .inl (cyI, 1824, .inl row)), (h_planWord, .inl (cyI, 4, .inl planWord)), (h_addWord, .inl (cyI, 3, .inl addWord)), (h_delWord, .inl (cyI, 3, .inl delWord)), (h_fillWord, .inl (cyI, 4, .inl fillWord)), (h_th, .inr (7, [.ref h_row, v_th_undos, v_th_isKept, .ref h_text, .int length, v_th_sizes, v_th_values, v_th_asked, .int u_22.2.1, .int u_22.2.2.1, .int readBits, v_th_clauses, .int doing, .ref h_numbers, .ref h_planWord, .ref h_addWord, .ref h_delWord, .ref h_fillWord, v_th_probes, v_th_links, v_th_looks, v_th_found, v_th_isOver])), (h_text, .inl (cyI, 200, .inl text)), (h_numbers, .inl (cyI, 3, .inl u_22.2.2.2))] H := hP
          have hD : va_D A [(h_row, .inl (cyI, 1824, .inl row)), (h_planWord, .inl (cyI, 4, .inl planWord)), (h_addWord, .inl (cyI, 3, .inl addWord)), (h_delWord, .inl (cyI, 3, .inl delWord)), (h_fillWord, .inl (cyI, 4, .inl fillWord)), (h_th, .inr (7, [.ref h_row, v_th_undos, v_th_isKept, .ref h_text, .int length, v_th_sizes, v_th_values, v_th_asked, .int u_22.2.1, .int u_22.2.2.1, .int readBits, v_th_clauses, .int doing, .ref h_numbers, .ref h_planWord, .ref h_addWord, .ref h_delWord, .ref h_fillWord, v_th_probes, v_th_links, v_th_looks, v_th_found, v_th_isOver])), (h_text, .inl (cyI, 200, .inl text)), (h_numbers, .inl (cyI, 3, .inl u_22.2.2.2))] := hD
          refine lv_if_eq (tgt := 98) hx hb dX7_readsClause_80 (by decide) (fun c_24 => ?_) (fun c_24 => ?_)
          · have h := og_ite_t c_24 h
            refine lv_iconst (v := 0) hx hb dX7_readsClause_98 (by decide) ?_
            obtain rfl := Option.some.inj h
            have hP := hP.sub (ws' := [(h_row, .inl (cyI, 1824, .inl row)), (h_numbers, .inl (cyI, 3, .inl u_22.2.2.2)), (h_planWord, .inl (cyI, 4, .inl planWord)), (h_addWord, .inl (cyI, 3, .inl addWord)), (h_delWord, .inl (cyI, 3, .inl delWord)), (h_fillWord, .inl (cyI, 4, .inl fillWord)), (h_th, .inr (7, [.ref h_row, v_th_undos, v_th_isKept, .ref h_text, .int length, v_th_sizes, v_th_values, v_th_asked, .int u_22.2.1, .int u_22.2.2.1, .int readBits, v_th_clauses, .int doing, .ref h_numbers, .ref h_planWord, .ref h_addWord, .ref h_delWord, .ref h_fillWord, v_th_probes, v_th_links, v_th_looks, v_th_found, v_th_isOver])), (h_text, .inl (cyI, 200, .inl text))]) [0, 7, 1, 2, 3, 4, 5, 6] rfl
            have hD := hD.sub (ws' := [(h_row, .inl (cyI, 1824, .inl row)), (h_numbers, .inl (cyI, 3, .inl u_22.2.2.2)), (h_planWord, .inl (cyI, 4, .inl planWord)), (h_addWord, .inl (cyI, 3, .inl addWord)), (h_delWord, .inl (cyI, 3, .inl delWord)), (h_fillWord, .inl (cyI, 4, .inl fillWord)), (h_th, .inr (7, [.ref h_row, v_th_undos, v_th_isKept, .ref h_text, .int length, v_th_sizes, v_th_values, v_th_asked, .int u_22.2.1, .int u_22.2.2.1, .int readBits, v_th_clauses, .int doing, .ref h_numbers, .ref h_planWord, .ref h_addWord, .ref h_delWord, .ref h_fillWord, v_th_probes, v_th_links, v_th_looks, v_th_found, v_th_isOver])), (h_text, .inl (cyI, 200, .inl text))]) [0, 7, 1, 2, 3, 4, 5, 6] (by decide) rfl
            exact J _ _ _ hP hD hS (lv_sub hl [1, 0] rfl)
          · have h := og_ite_f c_24 h
            refine lv_aload_n hx hb dX7_readsClause_83 rfl (lv_at hl 1 rfl) ?_
            refine lv_iconst (v := 2) hx hb dX7_readsClause_84 (by decide) ?_
            refine lv_iconst (v := 1) hx hb dX7_readsClause_85 (by decide) ?_
            refine lv_bipush (v := 96) hx hb dX7_readsClause_86 (by decide) ?_
            obtain ⟨u_25, hc_26, h⟩ := obd_e h
            refine Gci (wr := [(h_row, .inl (cyI, 1824, .inl row)), (h_planWord, .inl (cyI, 4, .inl planWord)), (h_addWord, .inl (cyI, 3, .inl addWord)), (h_delWord, .inl (cyI, 3, .inl delWord)), (h_fillWord, .inl (cyI, 4, .inl fillWord))]) (va_runV (As := [.int (2 : Int32), .int (1 : Int32), .int (96 : Int32)]) (rest := []) ⟨hx, hb, hml, hown, hts⟩ (tX7_number l dC dI cyI cyJ cyZ cyO H.size h_th h_text h_numbers (.ref h_row) v_th_undos v_th_isKept v_th_sizes v_th_values v_th_asked (.int readBits) v_th_clauses (.int doing) (.ref h_planWord) (.ref h_addWord) (.ref h_delWord) (.ref h_fillWord) v_th_probes v_th_links v_th_looks v_th_found v_th_isOver length u_22.2.1 u_22.2.2.1 text u_22.2.2.2 (2 : Int32) (1 : Int32) (96 : Int32) u_25 hc_26) (cwV 3 hts gX7_readsClause_X7_number rfl rfl rfl (by decide +kernel) ⟨Nat.le_of_ble_eq_true rfl, Nat.le_of_ble_eq_true rfl⟩) (GpreV hP hD hK hN [5, 6, 7] rfl (by decide) 7 0 rfl rfl rfl) rfl rfl hl.1 rfl (lv_room (Nat.le_of_ble_eq_true rfl)) dX7_readsClause_88 ⟨Nat.zero_le _, Nat.zero_le _⟩) hP hD hS hA [5, 6, 7] [0, 1, 2, 3, 4] rfl rfl (by decide) (by decide) (fun H locs hP hD hS => ?_)
            have hP : va_P (dC, dI) vwCl [(h_row, .inl (cyI, 1824, .inl row)), (h_planWord, .inl (cyI, 4, .inl planWord)), (h_addWord, .inl (cyI, 3, .inl addWord)), (h_delWord, .inl (cyI, 3, .inl delWord)), (h_fillWord, .inl (cyI, 4, .inl fillWord)), (h_th, .inr (7, [.ref h_row, v_th_undos, v_th_isKept, .ref h_text, .int length, v_th_sizes, v_th_values, v_th_asked, .int u_25.2.1, .int u_25.2.2.1, .int readBits, v_th_clauses, .int doing, .ref h_numbers, .ref h_planWord, .ref h_addWord, .ref h_delWord, .ref h_fillWord, v_th_probes, v_th_links, v_th_looks, v_th_found, v_th_isOver])), (h_text, .inl (cyI, 200, .inl text)), (h_numbers, .inl (cyI, 3, .inl u_25.2.2.2))] H := hP
            have hD : va_D A [(h_row, .inl (cyI, 1824, .inl row)), (h_planWord, .inl (cyI, 4, .inl planWord)), (h_addWord, .inl (cyI, 3, .inl addWord)), (h_delWord, .inl (cyI, 3, .inl delWord)), (h_fillWord, .inl (cyI, 4, .inl fillWord)), (h_th, .inr (7, [.ref h_row, v_th_undos, v_th_isKept, .ref h_text, .int length, v_th_sizes, v_th_values, v_th_asked, .int u_25.2.1, .int u_25.2.2.1, .int readBits, v_th_clauses, .int doing, .ref h_numbers, .ref h_planWord, .ref h_addWord, .ref h_delWord, .ref h_fillWord, v_th_probes, v_th_links, v_th_looks, v_th_found, v_th_isOver])), (h_text, .inl (cyI, 200, .inl text)), (h_numbers, .inl (cyI, 3, .inl u_25.2.2.2))] := hD
            refine lv_if_eq (tgt := 98) hx hb dX7_readsClause_91 (by decide) (fun c_27 => ?_) (fun c_27 => ?_)
            · have h := og_ite_t c_27 h
              refine lv_iconst (v := 0) hx hb dX7_readsClause_98 (by decide) ?_
              obtain rfl := Option.some.inj h
              have hP := hP.sub (ws' := [(h_row, .inl (cyI, 1824, .inl row)), (h_numbers, .inl (cyI, 3, .inl u_25.2.2.2)), (h_planWord, .inl (cyI, 4, .inl planWord)), (h_addWord, .inl (cyI, 3, .inl addWord)), (h_delWord, .inl (cyI, 3, .inl delWord)), (h_fillWord, .inl (cyI, 4, .inl fillWord)), (h_th, .inr (7, [.ref h_row, v_th_undos, v_th_isKept, .ref h_text, .int length, v_th_sizes, v_th_values, v_th_asked, .int u_25.2.1, .int u_25.2.2.1, .int readBits, v_th_clauses, .int doing, .ref h_numbers, .ref h_planWord, .ref h_addWord, .ref h_delWord, .ref h_fillWord, v_th_probes, v_th_links, v_th_looks, v_th_found, v_th_isOver])), (h_text, .inl (cyI, 200, .inl text))]) [0, 7, 1, 2, 3, 4, 5, 6] rfl
              have hD := hD.sub (ws' := [(h_row, .inl (cyI, 1824, .inl row)), (h_numbers, .inl (cyI, 3, .inl u_25.2.2.2)), (h_planWord, .inl (cyI, 4, .inl planWord)), (h_addWord, .inl (cyI, 3, .inl addWord)), (h_delWord, .inl (cyI, 3, .inl delWord)), (h_fillWord, .inl (cyI, 4, .inl fillWord)), (h_th, .inr (7, [.ref h_row, v_th_undos, v_th_isKept, .ref h_text, .int length, v_th_sizes, v_th_values, v_th_asked, .int u_25.2.1, .int u_25.2.2.1, .int readBits, v_th_clauses, .int doing, .ref h_numbers, .ref h_planWord, .ref h_addWord, .ref h_delWord, .ref h_fillWord, v_th_probes, v_th_links, v_th_looks, v_th_found, v_th_isOver])), (h_text, .inl (cyI, 200, .inl text))]) [0, 7, 1, 2, 3, 4, 5, 6] (by decide) rfl
              exact J _ _ _ hP hD hS (lv_sub hl [1, 0] rfl)
            · have h := og_ite_f c_27 h
              refine lv_iconst (v := 1) hx hb dX7_readsClause_94 (by decide) ?_
              refine lv_goto (tgt := 99) hx hb dX7_readsClause_95 (by decide) ?_
              obtain rfl := Option.some.inj h
              have hP := hP.sub (ws' := [(h_row, .inl (cyI, 1824, .inl row)), (h_numbers, .inl (cyI, 3, .inl u_25.2.2.2)), (h_planWord, .inl (cyI, 4, .inl planWord)), (h_addWord, .inl (cyI, 3, .inl addWord)), (h_delWord, .inl (cyI, 3, .inl delWord)), (h_fillWord, .inl (cyI, 4, .inl fillWord)), (h_th, .inr (7, [.ref h_row, v_th_undos, v_th_isKept, .ref h_text, .int length, v_th_sizes, v_th_values, v_th_asked, .int u_25.2.1, .int u_25.2.2.1, .int readBits, v_th_clauses, .int doing, .ref h_numbers, .ref h_planWord, .ref h_addWord, .ref h_delWord, .ref h_fillWord, v_th_probes, v_th_links, v_th_looks, v_th_found, v_th_isOver])), (h_text, .inl (cyI, 200, .inl text))]) [0, 7, 1, 2, 3, 4, 5, 6] rfl
              have hD := hD.sub (ws' := [(h_row, .inl (cyI, 1824, .inl row)), (h_numbers, .inl (cyI, 3, .inl u_25.2.2.2)), (h_planWord, .inl (cyI, 4, .inl planWord)), (h_addWord, .inl (cyI, 3, .inl addWord)), (h_delWord, .inl (cyI, 3, .inl delWord)), (h_fillWord, .inl (cyI, 4, .inl fillWord)), (h_th, .inr (7, [.ref h_row, v_th_undos, v_th_isKept, .ref h_text, .int length, v_th_sizes, v_th_values, v_th_asked, .int u_25.2.1, .int u_25.2.2.1, .int readBits, v_th_clauses, .int doing, .ref h_numbers, .ref h_planWord, .ref h_addWord, .ref h_delWord, .ref h_fillWord, v_th_probes, v_th_links, v_th_looks, v_th_found, v_th_isOver])), (h_text, .inl (cyI, 200, .inl text))]) [0, 7, 1, 2, 3, 4, 5, 6] (by decide) rfl
              exact J _ _ _ hP hD hS (lv_sub hl [1, 0] rfl)
    · have h := og_ite_t c_6 h
      refine lv_aload_n hx hb dX7_readsClause_20 rfl (lv_at hl 1 rfl) ?_
      refine lv_iconst (v := 0) hx hb dX7_readsClause_21 (by decide) ?_
      refine lv_iconst (v := 4) hx hb dX7_readsClause_22 (by decide) ?_
      refine lv_bipush (v := 16) hx hb dX7_readsClause_23 (by decide) ?_
      obtain ⟨u_28, hc_29, h⟩ := obd_e h
      refine Gci (wr := [(h_row, .inl (cyI, 1824, .inl row)), (h_planWord, .inl (cyI, 4, .inl planWord)), (h_addWord, .inl (cyI, 3, .inl addWord)), (h_delWord, .inl (cyI, 3, .inl delWord)), (h_fillWord, .inl (cyI, 4, .inl fillWord))]) (va_runV (As := [.int (0 : Int32), .int (4 : Int32), .int (16 : Int32)]) (rest := []) ⟨hx, hb, hml, hown, hts⟩ (tX7_number l dC dI cyI cyJ cyZ cyO H.size h_th h_text h_numbers (.ref h_row) v_th_undos v_th_isKept v_th_sizes v_th_values v_th_asked (.int readBits) v_th_clauses (.int doing) (.ref h_planWord) (.ref h_addWord) (.ref h_delWord) (.ref h_fillWord) v_th_probes v_th_links v_th_looks v_th_found v_th_isOver length u_4.1 u_4.2 text numbers (0 : Int32) (4 : Int32) (16 : Int32) u_28 hc_29) (cwV 3 hts gX7_readsClause_X7_number rfl rfl rfl (by decide +kernel) ⟨Nat.le_of_ble_eq_true rfl, Nat.le_of_ble_eq_true rfl⟩) (GpreV hP hD hK hN [6, 7, 1] rfl (by decide) 7 0 rfl rfl rfl) rfl rfl hl.1 rfl (lv_room (Nat.le_of_ble_eq_true rfl)) dX7_readsClause_25 ⟨Nat.zero_le _, Nat.zero_le _⟩) hP hD hS hA [6, 7, 1] [0, 2, 3, 4, 5] rfl rfl (by decide) (by decide) (fun H locs hP hD hS => ?_)
      have hP : va_P (dC, dI) vwCl [(h_row, .inl (cyI, 1824, .inl row)), (h_planWord, .inl (cyI, 4, .inl planWord)), (h_addWord, .inl (cyI, 3, .inl addWord)), (h_delWord, .inl (cyI, 3, .inl delWord)), (h_fillWord, .inl (cyI, 4, .inl fillWord)), (h_th, .inr (7, [.ref h_row, v_th_undos, v_th_isKept, .ref h_text, .int length, v_th_sizes, v_th_values, v_th_asked, .int u_28.2.1, .int u_28.2.2.1, .int readBits, v_th_clauses, .int doing, .ref h_numbers, .ref h_planWord, .ref h_addWord, .ref h_delWord, .ref h_fillWord, v_th_probes, v_th_links, v_th_looks, v_th_found, v_th_isOver])), (h_text, .inl (cyI, 200, .inl text)), (h_numbers, .inl (cyI, 3, .inl u_28.2.2.2))] H := hP
      have hD : va_D A [(h_row, .inl (cyI, 1824, .inl row)), (h_planWord, .inl (cyI, 4, .inl planWord)), (h_addWord, .inl (cyI, 3, .inl addWord)), (h_delWord, .inl (cyI, 3, .inl delWord)), (h_fillWord, .inl (cyI, 4, .inl fillWord)), (h_th, .inr (7, [.ref h_row, v_th_undos, v_th_isKept, .ref h_text, .int length, v_th_sizes, v_th_values, v_th_asked, .int u_28.2.1, .int u_28.2.2.1, .int readBits, v_th_clauses, .int doing, .ref h_numbers, .ref h_planWord, .ref h_addWord, .ref h_delWord, .ref h_fillWord, v_th_probes, v_th_links, v_th_looks, v_th_found, v_th_isOver])), (h_text, .inl (cyI, 200, .inl text)), (h_numbers, .inl (cyI, 3, .inl u_28.2.2.2))] := hD
      refine lv_if_eq (tgt := 45) hx hb dX7_readsClause_28 (by decide) (fun c_30 => ?_) (fun c_30 => ?_)
      · have h := og_ite_t c_30 h
        refine lv_iconst (v := 0) hx hb dX7_readsClause_45 (by decide) ?_
        refine lv_goto (tgt := 99) hx hb dX7_readsClause_46 (by decide) ?_
        obtain rfl := Option.some.inj h
        have hP := hP.sub (ws' := [(h_row, .inl (cyI, 1824, .inl row)), (h_numbers, .inl (cyI, 3, .inl u_28.2.2.2)), (h_planWord, .inl (cyI, 4, .inl planWord)), (h_addWord, .inl (cyI, 3, .inl addWord)), (h_delWord, .inl (cyI, 3, .inl delWord)), (h_fillWord, .inl (cyI, 4, .inl fillWord)), (h_th, .inr (7, [.ref h_row, v_th_undos, v_th_isKept, .ref h_text, .int length, v_th_sizes, v_th_values, v_th_asked, .int u_28.2.1, .int u_28.2.2.1, .int readBits, v_th_clauses, .int doing, .ref h_numbers, .ref h_planWord, .ref h_addWord, .ref h_delWord, .ref h_fillWord, v_th_probes, v_th_links, v_th_looks, v_th_found, v_th_isOver])), (h_text, .inl (cyI, 200, .inl text))]) [0, 7, 1, 2, 3, 4, 5, 6] rfl
        have hD := hD.sub (ws' := [(h_row, .inl (cyI, 1824, .inl row)), (h_numbers, .inl (cyI, 3, .inl u_28.2.2.2)), (h_planWord, .inl (cyI, 4, .inl planWord)), (h_addWord, .inl (cyI, 3, .inl addWord)), (h_delWord, .inl (cyI, 3, .inl delWord)), (h_fillWord, .inl (cyI, 4, .inl fillWord)), (h_th, .inr (7, [.ref h_row, v_th_undos, v_th_isKept, .ref h_text, .int length, v_th_sizes, v_th_values, v_th_asked, .int u_28.2.1, .int u_28.2.2.1, .int readBits, v_th_clauses, .int doing, .ref h_numbers, .ref h_planWord, .ref h_addWord, .ref h_delWord, .ref h_fillWord, v_th_probes, v_th_links, v_th_looks, v_th_found, v_th_isOver])), (h_text, .inl (cyI, 200, .inl text))]) [0, 7, 1, 2, 3, 4, 5, 6] (by decide) rfl
        exact J _ _ _ hP hD hS (lv_sub hl [1, 0] rfl)
      · have h := og_ite_f c_30 h
        refine lv_aload_n hx hb dX7_readsClause_31 rfl (lv_at hl 1 rfl) ?_
        refine lv_iconst (v := 1) hx hb dX7_readsClause_32 (by decide) ?_
        refine lv_iconst (v := 2) hx hb dX7_readsClause_33 (by decide) ?_
        refine lv_iconst (v := 5) hx hb dX7_readsClause_34 (by decide) ?_
        obtain ⟨u_31, hc_32, h⟩ := obd_e h
        refine Gci (wr := [(h_row, .inl (cyI, 1824, .inl row)), (h_planWord, .inl (cyI, 4, .inl planWord)), (h_addWord, .inl (cyI, 3, .inl addWord)), (h_delWord, .inl (cyI, 3, .inl delWord)), (h_fillWord, .inl (cyI, 4, .inl fillWord))]) (va_runV (As := [.int (1 : Int32), .int (2 : Int32), .int (5 : Int32)]) (rest := []) ⟨hx, hb, hml, hown, hts⟩ (tX7_number l dC dI cyI cyJ cyZ cyO H.size h_th h_text h_numbers (.ref h_row) v_th_undos v_th_isKept v_th_sizes v_th_values v_th_asked (.int readBits) v_th_clauses (.int doing) (.ref h_planWord) (.ref h_addWord) (.ref h_delWord) (.ref h_fillWord) v_th_probes v_th_links v_th_looks v_th_found v_th_isOver length u_28.2.1 u_28.2.2.1 text u_28.2.2.2 (1 : Int32) (2 : Int32) (5 : Int32) u_31 hc_32) (cwV 3 hts gX7_readsClause_X7_number rfl rfl rfl (by decide +kernel) ⟨Nat.le_of_ble_eq_true rfl, Nat.le_of_ble_eq_true rfl⟩) (GpreV hP hD hK hN [5, 6, 7] rfl (by decide) 7 0 rfl rfl rfl) rfl rfl hl.1 rfl (lv_room (Nat.le_of_ble_eq_true rfl)) dX7_readsClause_35 ⟨Nat.zero_le _, Nat.zero_le _⟩) hP hD hS hA [5, 6, 7] [0, 1, 2, 3, 4] rfl rfl (by decide) (by decide) (fun H locs hP hD hS => ?_)
        have hP : va_P (dC, dI) vwCl [(h_row, .inl (cyI, 1824, .inl row)), (h_planWord, .inl (cyI, 4, .inl planWord)), (h_addWord, .inl (cyI, 3, .inl addWord)), (h_delWord, .inl (cyI, 3, .inl delWord)), (h_fillWord, .inl (cyI, 4, .inl fillWord)), (h_th, .inr (7, [.ref h_row, v_th_undos, v_th_isKept, .ref h_text, .int length, v_th_sizes, v_th_values, v_th_asked, .int u_31.2.1, .int u_31.2.2.1, .int readBits, v_th_clauses, .int doing, .ref h_numbers, .ref h_planWord, .ref h_addWord, .ref h_delWord, .ref h_fillWord, v_th_probes, v_th_links, v_th_looks, v_th_found, v_th_isOver])), (h_text, .inl (cyI, 200, .inl text)), (h_numbers, .inl (cyI, 3, .inl u_31.2.2.2))] H := hP
        have hD : va_D A [(h_row, .inl (cyI, 1824, .inl row)), (h_planWord, .inl (cyI, 4, .inl planWord)), (h_addWord, .inl (cyI, 3, .inl addWord)), (h_delWord, .inl (cyI, 3, .inl delWord)), (h_fillWord, .inl (cyI, 4, .inl fillWord)), (h_th, .inr (7, [.ref h_row, v_th_undos, v_th_isKept, .ref h_text, .int length, v_th_sizes, v_th_values, v_th_asked, .int u_31.2.1, .int u_31.2.2.1, .int readBits, v_th_clauses, .int doing, .ref h_numbers, .ref h_planWord, .ref h_addWord, .ref h_delWord, .ref h_fillWord, v_th_probes, v_th_links, v_th_looks, v_th_found, v_th_isOver])), (h_text, .inl (cyI, 200, .inl text)), (h_numbers, .inl (cyI, 3, .inl u_31.2.2.2))] := hD
        refine lv_if_eq (tgt := 45) hx hb dX7_readsClause_38 (by decide) (fun c_33 => ?_) (fun c_33 => ?_)
        · have h := og_ite_t c_33 h
          refine lv_iconst (v := 0) hx hb dX7_readsClause_45 (by decide) ?_
          refine lv_goto (tgt := 99) hx hb dX7_readsClause_46 (by decide) ?_
          obtain rfl := Option.some.inj h
          have hP := hP.sub (ws' := [(h_row, .inl (cyI, 1824, .inl row)), (h_numbers, .inl (cyI, 3, .inl u_31.2.2.2)), (h_planWord, .inl (cyI, 4, .inl planWord)), (h_addWord, .inl (cyI, 3, .inl addWord)), (h_delWord, .inl (cyI, 3, .inl delWord)), (h_fillWord, .inl (cyI, 4, .inl fillWord)), (h_th, .inr (7, [.ref h_row, v_th_undos, v_th_isKept, .ref h_text, .int length, v_th_sizes, v_th_values, v_th_asked, .int u_31.2.1, .int u_31.2.2.1, .int readBits, v_th_clauses, .int doing, .ref h_numbers, .ref h_planWord, .ref h_addWord, .ref h_delWord, .ref h_fillWord, v_th_probes, v_th_links, v_th_looks, v_th_found, v_th_isOver])), (h_text, .inl (cyI, 200, .inl text))]) [0, 7, 1, 2, 3, 4, 5, 6] rfl
          have hD := hD.sub (ws' := [(h_row, .inl (cyI, 1824, .inl row)), (h_numbers, .inl (cyI, 3, .inl u_31.2.2.2)), (h_planWord, .inl (cyI, 4, .inl planWord)), (h_addWord, .inl (cyI, 3, .inl addWord)), (h_delWord, .inl (cyI, 3, .inl delWord)), (h_fillWord, .inl (cyI, 4, .inl fillWord)), (h_th, .inr (7, [.ref h_row, v_th_undos, v_th_isKept, .ref h_text, .int length, v_th_sizes, v_th_values, v_th_asked, .int u_31.2.1, .int u_31.2.2.1, .int readBits, v_th_clauses, .int doing, .ref h_numbers, .ref h_planWord, .ref h_addWord, .ref h_delWord, .ref h_fillWord, v_th_probes, v_th_links, v_th_looks, v_th_found, v_th_isOver])), (h_text, .inl (cyI, 200, .inl text))]) [0, 7, 1, 2, 3, 4, 5, 6] (by decide) rfl
          exact J _ _ _ hP hD hS (lv_sub hl [1, 0] rfl)
        · have h := og_ite_f c_33 h
          refine lv_iconst (v := 1) hx hb dX7_readsClause_41 (by decide) ?_
          refine lv_goto (tgt := 99) hx hb dX7_readsClause_42 (by decide) ?_
          obtain rfl := Option.some.inj h
          have hP := hP.sub (ws' := [(h_row, .inl (cyI, 1824, .inl row)), (h_numbers, .inl (cyI, 3, .inl u_31.2.2.2)), (h_planWord, .inl (cyI, 4, .inl planWord)), (h_addWord, .inl (cyI, 3, .inl addWord)), (h_delWord, .inl (cyI, 3, .inl delWord)), (h_fillWord, .inl (cyI, 4, .inl fillWord)), (h_th, .inr (7, [.ref h_row, v_th_undos, v_th_isKept, .ref h_text, .int length, v_th_sizes, v_th_values, v_th_asked, .int u_31.2.1, .int u_31.2.2.1, .int readBits, v_th_clauses, .int doing, .ref h_numbers, .ref h_planWord, .ref h_addWord, .ref h_delWord, .ref h_fillWord, v_th_probes, v_th_links, v_th_looks, v_th_found, v_th_isOver])), (h_text, .inl (cyI, 200, .inl text))]) [0, 7, 1, 2, 3, 4, 5, 6] rfl
          have hD := hD.sub (ws' := [(h_row, .inl (cyI, 1824, .inl row)), (h_numbers, .inl (cyI, 3, .inl u_31.2.2.2)), (h_planWord, .inl (cyI, 4, .inl planWord)), (h_addWord, .inl (cyI, 3, .inl addWord)), (h_delWord, .inl (cyI, 3, .inl delWord)), (h_fillWord, .inl (cyI, 4, .inl fillWord)), (h_th, .inr (7, [.ref h_row, v_th_undos, v_th_isKept, .ref h_text, .int length, v_th_sizes, v_th_values, v_th_asked, .int u_31.2.1, .int u_31.2.2.1, .int readBits, v_th_clauses, .int doing, .ref h_numbers, .ref h_planWord, .ref h_addWord, .ref h_delWord, .ref h_fillWord, v_th_probes, v_th_links, v_th_looks, v_th_found, v_th_isOver])), (h_text, .inl (cyI, 200, .inl text))]) [0, 7, 1, 2, 3, 4, 5, 6] (by decide) rfl
          exact J _ _ _ hP hD hS (lv_sub hl [1, 0] rfl)
  · have h := og_ite_t c_3 h
    refine lv_iconst (v := 0) hx hb dX7_readsClause_10 (by decide) ?_
    obtain ⟨hz, h⟩ := obl_e h
    obtain rfl := Option.some.inj h
    have hP := hP.sub (ws' := [(h_th, .inr (7, [.ref h_row, v_th_undos, v_th_isKept, .ref h_text, .int length, v_th_sizes, v_th_values, v_th_asked, .int first, .int behind, .int readBits, v_th_clauses, .int doing, .ref h_numbers, .ref h_planWord, .ref h_addWord, .ref h_delWord, .ref h_fillWord, v_th_probes, v_th_links, v_th_looks, v_th_found, v_th_isOver])), (h_row, .inl (cyI, 1824, .inl row)), (h_text, .inl (cyI, 200, .inl text)), (h_numbers, .inl (cyI, 3, .inl numbers)), (h_planWord, .inl (cyI, 4, .inl planWord)), (h_addWord, .inl (cyI, 3, .inl addWord)), (h_delWord, .inl (cyI, 3, .inl delWord)), (h_fillWord, .inl (cyI, 4, .inl fillWord))]) [2, 0, 3, 1, 4, 5, 6, 7] rfl
    have hD := hD.sub (ws' := [(h_th, .inr (7, [.ref h_row, v_th_undos, v_th_isKept, .ref h_text, .int length, v_th_sizes, v_th_values, v_th_asked, .int first, .int behind, .int readBits, v_th_clauses, .int doing, .ref h_numbers, .ref h_planWord, .ref h_addWord, .ref h_delWord, .ref h_fillWord, v_th_probes, v_th_links, v_th_looks, v_th_found, v_th_isOver])), (h_row, .inl (cyI, 1824, .inl row)), (h_text, .inl (cyI, 200, .inl text)), (h_numbers, .inl (cyI, 3, .inl numbers)), (h_planWord, .inl (cyI, 4, .inl planWord)), (h_addWord, .inl (cyI, 3, .inl addWord)), (h_delWord, .inl (cyI, 3, .inl delWord)), (h_fillWord, .inl (cyI, 4, .inl fillWord))]) [2, 0, 3, 1, 4, 5, 6, 7] (by decide) rfl
    exact hret _ _ _ _ dX7_readsClause_11 hz hP hD hS

def lpX7_reads_34 (length : Int32) (doing : Int32) (text : (Nat → Int32)) (planWord : (Nat → Int32)) (addWord : (Nat → Int32)) (delWord : (Nat → Int32)) (fillWord : (Nat → Int32)) : Nat → Int32 → Int32 → Int32 → Int32 → Int32 → (Nat → Int32) → (Nat → Int32) → Option (Int32 × Int32 × Int32 × Int32 × Int32 × (Nat → Int32) × (Nat → Int32))
  | 0, _, _, _, _, _, _, _ => none
  | n + 1, m2, zfirst, zbehind, zreadBits, zclauses, zrow, znumbers => if m2 = 0 then (some (m2, zfirst, zbehind, zreadBits, zclauses, zrow, znumbers)) else (if length ≤ zfirst then (some (m2, zfirst, zbehind, zreadBits, zclauses, zrow, znumbers)) else (obd (if (24 : Int32) ≤ zclauses then (some (0 : Int32)) else (oin zfirst 200 (if (text zfirst.toNatClampNeg) = (59 : Int32) then (some (1 : Int32)) else (some (0 : Int32))))) fun w_11 => if w_11 = 0 then (lpX7_reads_34 length doing text planWord addWord delWord fillWord n w_11 zfirst zbehind zreadBits zclauses zrow znumbers) else (obd (fX7_nextToken length zfirst zbehind text) fun u_13 => obd (fX7_readsClause length u_13.1 u_13.2 zreadBits doing zrow text znumbers planWord addWord delWord fillWord) fun u_15 => lpX7_reads_34 length doing text planWord addWord delWord fillWord n u_15.1 u_15.2.1 u_15.2.2.1 u_15.2.2.2.1 (zclauses + (1 : Int32)) u_15.2.2.2.2.1 u_15.2.2.2.2.2)))

def fX7_reads (length : Int32) (first : Int32) (behind : Int32) (readBits : Int32) (clauses : Int32) (doing : Int32) (row : (Nat → Int32)) (text : (Nat → Int32)) (numbers : (Nat → Int32)) (planWord : (Nat → Int32)) (addWord : (Nat → Int32)) (delWord : (Nat → Int32)) (fillWord : (Nat → Int32)) (x0 : Int32) : Option (Int32 × Int32 × Int32 × Int32 × Int32 × Int32 × (Nat → Int32) × (Nat → Int32)) := obl x0 (oin (0 : Int32) 1824 (obd (fX7_nextToken length first (0 : Int32) text) fun u_3 => obd (fX7_readsClause length u_3.1 u_3.2 (row (0 : Int32).toNatClampNeg) x0 row text numbers planWord addWord delWord fillWord) fun u_5 => obd (lpX7_reads_34 length x0 text planWord addWord delWord fillWord 100000 u_5.1 u_5.2.1 u_5.2.2.1 u_5.2.2.2.1 (1 : Int32) u_5.2.2.2.2.1 u_5.2.2.2.2.2) fun w_32 => obl w_32.1 (some (w_32.1, w_32.2.1, w_32.2.2.1, w_32.2.2.2.1, w_32.2.2.2.2.1, x0, w_32.2.2.2.2.2.1, w_32.2.2.2.2.2.2))))

set_option maxHeartbeats 4000000 in
set_option maxRecDepth 100000 in
theorem tX7_reads (l : Launch) (dC : Nat → ClassId) (dI : Nat → Nat → Nat) (cyI cyJ cyZ cyO : ClassId) (sz : Nat) (h_th h_row h_text h_numbers h_planWord h_addWord h_delWord h_fillWord : Nat) (v_th_undos : Value) (v_th_isKept : Value) (v_th_sizes : Value) (v_th_values : Value) (v_th_asked : Value) (v_th_probes : Value) (v_th_links : Value) (v_th_looks : Value) (v_th_found : Value) (v_th_isOver : Value) (length : Int32) (first : Int32) (behind : Int32) (readBits : Int32) (clauses : Int32) (doing : Int32) (row : (Nat → Int32)) (text : (Nat → Int32)) (numbers : (Nat → Int32)) (planWord : (Nat → Int32)) (addWord : (Nat → Int32)) (delWord : (Nat → Int32)) (fillWord : (Nat → Int32)) (x0 : Int32) (u : Int32 × Int32 × Int32 × Int32 × Int32 × Int32 × (Nat → Int32) × (Nat → Int32)) (hf : fX7_reads length first behind readBits clauses doing row text numbers planWord addWord delWord fillWord x0 = some u) : Met l yX7_reads wsX7_reads ({ frames := 9, cells := 0, slots := 0, locals := 205 }) (va_Pc [.ref h_th, .int x0] (GP (dC, dI) (T4 cyI cyJ cyZ cyO) sz [(h_th, .inr (7, [.ref h_row, v_th_undos, v_th_isKept, .ref h_text, .int length, v_th_sizes, v_th_values, v_th_asked, .int first, .int behind, .int readBits, .int clauses, .int doing, .ref h_numbers, .ref h_planWord, .ref h_addWord, .ref h_delWord, .ref h_fillWord, v_th_probes, v_th_links, v_th_looks, v_th_found, v_th_isOver])), (h_row, .inl (cyI, 1824, .inl row)), (h_text, .inl (cyI, 200, .inl text)), (h_numbers, .inl (cyI, 3, .inl numbers)), (h_planWord, .inl (cyI, 4, .inl planWord)), (h_addWord, .inl (cyI, 3, .inl addWord)), (h_delWord, .inl (cyI, 3, .inl delWord)), (h_fillWord, .inl (cyI, 4, .inl fillWord))])) (va_Qi (fun (r : Int32) (_ : Unit) => r = u.1) (GB (dC, dI) [(h_th, .inr (7, [.ref h_row, v_th_undos, v_th_isKept, .ref h_text, .int length, v_th_sizes, v_th_values, v_th_asked, .int u.2.1, .int u.2.2.1, .int u.2.2.2.1, .int u.2.2.2.2.1, .int u.2.2.2.2.2.1, .ref h_numbers, .ref h_planWord, .ref h_addWord, .ref h_delWord, .ref h_fillWord, v_th_probes, v_th_links, v_th_looks, v_th_found, v_th_isOver])), (h_row, .inl (cyI, 1824, .inl u.2.2.2.2.2.2.1)), (h_text, .inl (cyI, 200, .inl text)), (h_numbers, .inl (cyI, 3, .inl u.2.2.2.2.2.2.2)), (h_planWord, .inl (cyI, 4, .inl planWord)), (h_addWord, .inl (cyI, 3, .inl addWord)), (h_delWord, .inl (cyI, 3, .inl delWord)), (h_fillWord, .inl (cyI, 4, .inl fillWord))] (va_A [(h_th, .inr (7, [.ref h_row, v_th_undos, v_th_isKept, .ref h_text, .int length, v_th_sizes, v_th_values, v_th_asked, .int first, .int behind, .int readBits, .int clauses, .int doing, .ref h_numbers, .ref h_planWord, .ref h_addWord, .ref h_delWord, .ref h_fillWord, v_th_probes, v_th_links, v_th_looks, v_th_found, v_th_isOver])), (h_row, .inl (cyI, 1824, .inl row)), (h_text, .inl (cyI, 200, .inl text)), (h_numbers, .inl (cyI, 3, .inl numbers)), (h_planWord, .inl (cyI, 4, .inl planWord)), (h_addWord, .inl (cyI, 3, .inl addWord)), (h_delWord, .inl (cyI, 3, .inl delWord)), (h_fillWord, .inl (cyI, 4, .inl fillWord))] sz)) (va_A [(h_th, .inr (7, [.ref h_row, v_th_undos, v_th_isKept, .ref h_text, .int length, v_th_sizes, v_th_values, v_th_asked, .int first, .int behind, .int readBits, .int clauses, .int doing, .ref h_numbers, .ref h_planWord, .ref h_addWord, .ref h_delWord, .ref h_fillWord, v_th_probes, v_th_links, v_th_looks, v_th_found, v_th_isOver])), (h_row, .inl (cyI, 1824, .inl row)), (h_text, .inl (cyI, 200, .inl text)), (h_numbers, .inl (cyI, 3, .inl numbers)), (h_planWord, .inl (cyI, 4, .inl planWord)), (h_addWord, .inl (cyI, 3, .inl addWord)), (h_delWord, .inl (cyI, 3, .inl delWord)), (h_fillWord, .inl (cyI, 4, .inl fillWord))] sz)) 0 0 (va_A [(h_th, .inr (7, [.ref h_row, v_th_undos, v_th_isKept, .ref h_text, .int length, v_th_sizes, v_th_values, v_th_asked, .int first, .int behind, .int readBits, .int clauses, .int doing, .ref h_numbers, .ref h_planWord, .ref h_addWord, .ref h_delWord, .ref h_fillWord, v_th_probes, v_th_links, v_th_looks, v_th_found, v_th_isOver])), (h_row, .inl (cyI, 1824, .inl row)), (h_text, .inl (cyI, 200, .inl text)), (h_numbers, .inl (cyI, 3, .inl numbers)), (h_planWord, .inl (cyI, 4, .inl planWord)), (h_addWord, .inl (cyI, 3, .inl addWord)), (h_delWord, .inl (cyI, 3, .inl delWord)), (h_fillWord, .inl (cyI, 4, .inl fillWord))] sz) := by
  refine GMetZ (by decide) rfl (Nat.le_of_ble_eq_true rfl) ?_
  intro p e s m args below meth c A Q ls hx hb hml hts hown hN hK hA hret hP hD hS hl
  have h := hf
  clear hf
  unfold fX7_reads at h
  have hown : s.vm.findClass RX7 = some m.cls := hown
  have hl : lv_has ls 3 [(0, .ref h_th), (1, .int x0)] := hl
  refine lv_aload_n hx hb dX7_reads_0 rfl (lv_at hl 0 rfl) ?_
  refine lv_iload_n hx hb dX7_reads_1 rfl (lv_at hl 1 rfl) ?_
  obtain ⟨hz_1, h⟩ := obl_e h
  refine va_put (D := (dC, dI)) (ci := 7) (v := .int x0) (ty := .boolean) (C := RX7) (T := TX7) (N := 23) hx hb hts (fun _ hw => List.mem_cons_of_mem _ (List.mem_append_right _ hw)) tyX7 tyX7_ok nmX7 hown hK hP hD hS 0 rfl rfl 12 (by decide) (hts (.fieldLink RX7 129 "PrefixIndexModel" "doing" "Z") (List.mem_of_getElem? (i := 1) rfl)) (fun _ h9 => h9) rfl (by decide +kernel) (obl_n hz_1) (hz_1.elim (fun q => by rw [q]; rfl) (fun q => by rw [q]; rfl)) (Nat.le_of_ble_eq_true rfl) dX7_reads_2 (fun H locs hP hD hS => ?_)
  have hP : va_P (dC, dI) vwCl [(h_th, .inr (7, [.ref h_row, v_th_undos, v_th_isKept, .ref h_text, .int length, v_th_sizes, v_th_values, v_th_asked, .int first, .int behind, .int readBits, .int clauses, .int x0, .ref h_numbers, .ref h_planWord, .ref h_addWord, .ref h_delWord, .ref h_fillWord, v_th_probes, v_th_links, v_th_looks, v_th_found, v_th_isOver])), (h_row, .inl (cyI, 1824, .inl row)), (h_text, .inl (cyI, 200, .inl text)), (h_numbers, .inl (cyI, 3, .inl numbers)), (h_planWord, .inl (cyI, 4, .inl planWord)), (h_addWord, .inl (cyI, 3, .inl addWord)), (h_delWord, .inl (cyI, 3, .inl delWord)), (h_fillWord, .inl (cyI, 4, .inl fillWord))] H := hP
  have hD : va_D A [(h_th, .inr (7, [.ref h_row, v_th_undos, v_th_isKept, .ref h_text, .int length, v_th_sizes, v_th_values, v_th_asked, .int first, .int behind, .int readBits, .int clauses, .int x0, .ref h_numbers, .ref h_planWord, .ref h_addWord, .ref h_delWord, .ref h_fillWord, v_th_probes, v_th_links, v_th_looks, v_th_found, v_th_isOver])), (h_row, .inl (cyI, 1824, .inl row)), (h_text, .inl (cyI, 200, .inl text)), (h_numbers, .inl (cyI, 3, .inl numbers)), (h_planWord, .inl (cyI, 4, .inl planWord)), (h_addWord, .inl (cyI, 3, .inl addWord)), (h_delWord, .inl (cyI, 3, .inl delWord)), (h_fillWord, .inl (cyI, 4, .inl fillWord))] := hD
  refine lv_aload_n hx hb dX7_reads_5 rfl (lv_at hl 0 rfl) ?_
  refine lv_iconst (v := 0) hx hb dX7_reads_6 (by decide) ?_
  refine va_put (D := (dC, dI)) (ci := 7) (v := .int (0 : Int32)) (ty := .int) (C := RX7) (T := TX7) (N := 23) hx hb hts (fun _ hw => List.mem_cons_of_mem _ (List.mem_append_right _ hw)) tyX7 tyX7_ok nmX7 hown hK hP hD hS 0 rfl rfl 9 (by decide) (hts (.fieldLink RX7 91 "PrefixIndexModel" "behind" "I") (List.mem_of_getElem? (i := 2) rfl)) (fun _ h9 => h9) rfl (by decide +kernel) rfl rfl (Nat.le_of_ble_eq_true rfl) dX7_reads_7 (fun H locs hP hD hS => ?_)
  have hP : va_P (dC, dI) vwCl [(h_th, .inr (7, [.ref h_row, v_th_undos, v_th_isKept, .ref h_text, .int length, v_th_sizes, v_th_values, v_th_asked, .int first, .int (0 : Int32), .int readBits, .int clauses, .int x0, .ref h_numbers, .ref h_planWord, .ref h_addWord, .ref h_delWord, .ref h_fillWord, v_th_probes, v_th_links, v_th_looks, v_th_found, v_th_isOver])), (h_row, .inl (cyI, 1824, .inl row)), (h_text, .inl (cyI, 200, .inl text)), (h_numbers, .inl (cyI, 3, .inl numbers)), (h_planWord, .inl (cyI, 4, .inl planWord)), (h_addWord, .inl (cyI, 3, .inl addWord)), (h_delWord, .inl (cyI, 3, .inl delWord)), (h_fillWord, .inl (cyI, 4, .inl fillWord))] H := hP
  have hD : va_D A [(h_th, .inr (7, [.ref h_row, v_th_undos, v_th_isKept, .ref h_text, .int length, v_th_sizes, v_th_values, v_th_asked, .int first, .int (0 : Int32), .int readBits, .int clauses, .int x0, .ref h_numbers, .ref h_planWord, .ref h_addWord, .ref h_delWord, .ref h_fillWord, v_th_probes, v_th_links, v_th_looks, v_th_found, v_th_isOver])), (h_row, .inl (cyI, 1824, .inl row)), (h_text, .inl (cyI, 200, .inl text)), (h_numbers, .inl (cyI, 3, .inl numbers)), (h_planWord, .inl (cyI, 4, .inl planWord)), (h_addWord, .inl (cyI, 3, .inl addWord)), (h_delWord, .inl (cyI, 3, .inl delWord)), (h_fillWord, .inl (cyI, 4, .inl fillWord))] := hD
  refine lv_aload_n hx hb dX7_reads_10 rfl (lv_at hl 0 rfl) ?_
  refine lv_iconst (v := 1) hx hb dX7_reads_11 (by decide) ?_
  refine va_put (D := (dC, dI)) (ci := 7) (v := .int (1 : Int32)) (ty := .int) (C := RX7) (T := TX7) (N := 23) hx hb hts (fun _ hw => List.mem_cons_of_mem _ (List.mem_append_right _ hw)) tyX7 tyX7_ok nmX7 hown hK hP hD hS 0 rfl rfl 11 (by decide) (hts (.fieldLink RX7 137 "PrefixIndexModel" "clauses" "I") (List.mem_of_getElem? (i := 3) rfl)) (fun _ h9 => h9) rfl (by decide +kernel) rfl rfl (Nat.le_of_ble_eq_true rfl) dX7_reads_12 (fun H locs hP hD hS => ?_)
  have hP : va_P (dC, dI) vwCl [(h_th, .inr (7, [.ref h_row, v_th_undos, v_th_isKept, .ref h_text, .int length, v_th_sizes, v_th_values, v_th_asked, .int first, .int (0 : Int32), .int readBits, .int (1 : Int32), .int x0, .ref h_numbers, .ref h_planWord, .ref h_addWord, .ref h_delWord, .ref h_fillWord, v_th_probes, v_th_links, v_th_looks, v_th_found, v_th_isOver])), (h_row, .inl (cyI, 1824, .inl row)), (h_text, .inl (cyI, 200, .inl text)), (h_numbers, .inl (cyI, 3, .inl numbers)), (h_planWord, .inl (cyI, 4, .inl planWord)), (h_addWord, .inl (cyI, 3, .inl addWord)), (h_delWord, .inl (cyI, 3, .inl delWord)), (h_fillWord, .inl (cyI, 4, .inl fillWord))] H := hP
  have hD : va_D A [(h_th, .inr (7, [.ref h_row, v_th_undos, v_th_isKept, .ref h_text, .int length, v_th_sizes, v_th_values, v_th_asked, .int first, .int (0 : Int32), .int readBits, .int (1 : Int32), .int x0, .ref h_numbers, .ref h_planWord, .ref h_addWord, .ref h_delWord, .ref h_fillWord, v_th_probes, v_th_links, v_th_looks, v_th_found, v_th_isOver])), (h_row, .inl (cyI, 1824, .inl row)), (h_text, .inl (cyI, 200, .inl text)), (h_numbers, .inl (cyI, 3, .inl numbers)), (h_planWord, .inl (cyI, 4, .inl planWord)), (h_addWord, .inl (cyI, 3, .inl addWord)), (h_delWord, .inl (cyI, 3, .inl delWord)), (h_fillWord, .inl (cyI, 4, .inl fillWord))] := hD
  refine lv_aload_n hx hb dX7_reads_15 rfl (lv_at hl 0 rfl) ?_
  refine lv_aload_n hx hb dX7_reads_16 rfl (lv_at hl 0 rfl) ?_
  refine va_get (D := (dC, dI)) (ci := 7) (v := .ref h_row) (C := RX7) (T := TX7) (N := 23) hx hb hts (fun _ hw => List.mem_cons_of_mem _ (List.mem_append_right _ hw)) hown hK hP 0 rfl rfl 0 (by decide) (hts (.fieldLink RX7 7 "PrefixIndexModel" "row" "[I") (List.mem_of_getElem? (i := 4) rfl)) (fun _ h9 => h9) rfl dX7_reads_17 ?_
  refine lv_iconst (v := 0) hx hb dX7_reads_20 (by decide) ?_
  obtain ⟨hi_2, h⟩ := oin_e h
  refine va_iald hx hb hK hP 1 0 rfl rfl hi_2 dX7_reads_21 ?_
  refine va_put (D := (dC, dI)) (ci := 7) (v := .int (row (0 : Int32).toNatClampNeg)) (ty := .int) (C := RX7) (T := TX7) (N := 23) hx hb hts (fun _ hw => List.mem_cons_of_mem _ (List.mem_append_right _ hw)) tyX7 tyX7_ok nmX7 hown hK hP hD hS 0 rfl rfl 10 (by decide) (hts (.fieldLink RX7 126 "PrefixIndexModel" "readBits" "I") (List.mem_of_getElem? (i := 5) rfl)) (fun _ h9 => h9) rfl (by decide +kernel) rfl rfl (Nat.le_of_ble_eq_true rfl) dX7_reads_22 (fun H locs hP hD hS => ?_)
  have hP : va_P (dC, dI) vwCl [(h_th, .inr (7, [.ref h_row, v_th_undos, v_th_isKept, .ref h_text, .int length, v_th_sizes, v_th_values, v_th_asked, .int first, .int (0 : Int32), .int (row (0 : Int32).toNatClampNeg), .int (1 : Int32), .int x0, .ref h_numbers, .ref h_planWord, .ref h_addWord, .ref h_delWord, .ref h_fillWord, v_th_probes, v_th_links, v_th_looks, v_th_found, v_th_isOver])), (h_row, .inl (cyI, 1824, .inl row)), (h_text, .inl (cyI, 200, .inl text)), (h_numbers, .inl (cyI, 3, .inl numbers)), (h_planWord, .inl (cyI, 4, .inl planWord)), (h_addWord, .inl (cyI, 3, .inl addWord)), (h_delWord, .inl (cyI, 3, .inl delWord)), (h_fillWord, .inl (cyI, 4, .inl fillWord))] H := hP
  have hD : va_D A [(h_th, .inr (7, [.ref h_row, v_th_undos, v_th_isKept, .ref h_text, .int length, v_th_sizes, v_th_values, v_th_asked, .int first, .int (0 : Int32), .int (row (0 : Int32).toNatClampNeg), .int (1 : Int32), .int x0, .ref h_numbers, .ref h_planWord, .ref h_addWord, .ref h_delWord, .ref h_fillWord, v_th_probes, v_th_links, v_th_looks, v_th_found, v_th_isOver])), (h_row, .inl (cyI, 1824, .inl row)), (h_text, .inl (cyI, 200, .inl text)), (h_numbers, .inl (cyI, 3, .inl numbers)), (h_planWord, .inl (cyI, 4, .inl planWord)), (h_addWord, .inl (cyI, 3, .inl addWord)), (h_delWord, .inl (cyI, 3, .inl delWord)), (h_fillWord, .inl (cyI, 4, .inl fillWord))] := hD
  refine lv_aload_n hx hb dX7_reads_25 rfl (lv_at hl 0 rfl) ?_
  obtain ⟨u_3, hc_4, h⟩ := obd_e h
  refine Gcv (wr := [(h_row, .inl (cyI, 1824, .inl row)), (h_numbers, .inl (cyI, 3, .inl numbers)), (h_planWord, .inl (cyI, 4, .inl planWord)), (h_addWord, .inl (cyI, 3, .inl addWord)), (h_delWord, .inl (cyI, 3, .inl delWord)), (h_fillWord, .inl (cyI, 4, .inl fillWord))]) (va_runV (As := []) (rest := []) ⟨hx, hb, hml, hown, hts⟩ (tX7_nextToken l dC dI cyI cyJ cyZ cyO H.size h_th h_text (.ref h_row) v_th_undos v_th_isKept v_th_sizes v_th_values v_th_asked (.int (row (0 : Int32).toNatClampNeg)) (.int (1 : Int32)) (.int x0) (.ref h_numbers) (.ref h_planWord) (.ref h_addWord) (.ref h_delWord) (.ref h_fillWord) v_th_probes v_th_links v_th_looks v_th_found v_th_isOver length first (0 : Int32) text u_3 hc_4) (cwV 0 hts gX7_reads_X7_nextToken rfl rfl rfl (by decide +kernel) ⟨Nat.le_of_ble_eq_true rfl, Nat.le_of_ble_eq_true rfl⟩) (GpreV hP hD hK hN [0, 2] rfl (by decide) 7 0 rfl rfl rfl) rfl rfl hl.1 rfl (lv_room (Nat.le_of_ble_eq_true rfl)) dX7_reads_26 ⟨Nat.zero_le _, Nat.zero_le _⟩) hP hD hS hA [0, 2] [1, 3, 4, 5, 6, 7] rfl rfl (by decide) (by decide) (fun H locs hP hD hS => ?_)
  have hP : va_P (dC, dI) vwCl [(h_row, .inl (cyI, 1824, .inl row)), (h_numbers, .inl (cyI, 3, .inl numbers)), (h_planWord, .inl (cyI, 4, .inl planWord)), (h_addWord, .inl (cyI, 3, .inl addWord)), (h_delWord, .inl (cyI, 3, .inl delWord)), (h_fillWord, .inl (cyI, 4, .inl fillWord)), (h_th, .inr (7, [.ref h_row, v_th_undos, v_th_isKept, .ref h_text, .int length, v_th_sizes, v_th_values, v_th_asked, .int u_3.1, .int u_3.2, .int (row (0 : Int32).toNatClampNeg), .int (1 : Int32), .int x0, .ref h_numbers, .ref h_planWord, .ref h_addWord, .ref h_delWord, .ref h_fillWord, v_th_probes, v_th_links, v_th_looks, v_th_found, v_th_isOver])), (h_text, .inl (cyI, 200, .inl text))] H := hP
  have hD : va_D A [(h_row, .inl (cyI, 1824, .inl row)), (h_numbers, .inl (cyI, 3, .inl numbers)), (h_planWord, .inl (cyI, 4, .inl planWord)), (h_addWord, .inl (cyI, 3, .inl addWord)), (h_delWord, .inl (cyI, 3, .inl delWord)), (h_fillWord, .inl (cyI, 4, .inl fillWord)), (h_th, .inr (7, [.ref h_row, v_th_undos, v_th_isKept, .ref h_text, .int length, v_th_sizes, v_th_values, v_th_asked, .int u_3.1, .int u_3.2, .int (row (0 : Int32).toNatClampNeg), .int (1 : Int32), .int x0, .ref h_numbers, .ref h_planWord, .ref h_addWord, .ref h_delWord, .ref h_fillWord, v_th_probes, v_th_links, v_th_looks, v_th_found, v_th_isOver])), (h_text, .inl (cyI, 200, .inl text))] := hD
  refine lv_aload_n hx hb dX7_reads_29 rfl (lv_at hl 0 rfl) ?_
  obtain ⟨u_5, hc_6, h⟩ := obd_e h
  refine Gci (wr := []) (va_runV (As := []) (rest := []) ⟨hx, hb, hml, hown, hts⟩ (tX7_readsClause l dC dI cyI cyJ cyZ cyO H.size h_th h_row h_text h_numbers h_planWord h_addWord h_delWord h_fillWord v_th_undos v_th_isKept v_th_sizes v_th_values v_th_asked (.int (1 : Int32)) v_th_probes v_th_links v_th_looks v_th_found v_th_isOver length u_3.1 u_3.2 (row (0 : Int32).toNatClampNeg) x0 row text numbers planWord addWord delWord fillWord u_5 hc_6) (cwV 0 hts gX7_reads_X7_readsClause rfl rfl rfl (by decide +kernel) ⟨Nat.le_of_ble_eq_true rfl, Nat.le_of_ble_eq_true rfl⟩) (GpreV hP hD hK hN [6, 0, 7, 1, 2, 3, 4, 5] rfl (by decide) 7 0 rfl rfl rfl) rfl rfl hl.1 rfl (lv_room (Nat.le_of_ble_eq_true rfl)) dX7_reads_30 ⟨Nat.zero_le _, Nat.zero_le _⟩) hP hD hS hA [6, 0, 7, 1, 2, 3, 4, 5] [] rfl rfl (by decide) (by decide) (fun H locs hP hD hS => ?_)
  have hP : va_P (dC, dI) vwCl [(h_th, .inr (7, [.ref h_row, v_th_undos, v_th_isKept, .ref h_text, .int length, v_th_sizes, v_th_values, v_th_asked, .int u_5.2.1, .int u_5.2.2.1, .int u_5.2.2.2.1, .int (1 : Int32), .int x0, .ref h_numbers, .ref h_planWord, .ref h_addWord, .ref h_delWord, .ref h_fillWord, v_th_probes, v_th_links, v_th_looks, v_th_found, v_th_isOver])), (h_row, .inl (cyI, 1824, .inl u_5.2.2.2.2.1)), (h_text, .inl (cyI, 200, .inl text)), (h_numbers, .inl (cyI, 3, .inl u_5.2.2.2.2.2)), (h_planWord, .inl (cyI, 4, .inl planWord)), (h_addWord, .inl (cyI, 3, .inl addWord)), (h_delWord, .inl (cyI, 3, .inl delWord)), (h_fillWord, .inl (cyI, 4, .inl fillWord))] H := hP
  have hD : va_D A [(h_th, .inr (7, [.ref h_row, v_th_undos, v_th_isKept, .ref h_text, .int length, v_th_sizes, v_th_values, v_th_asked, .int u_5.2.1, .int u_5.2.2.1, .int u_5.2.2.2.1, .int (1 : Int32), .int x0, .ref h_numbers, .ref h_planWord, .ref h_addWord, .ref h_delWord, .ref h_fillWord, v_th_probes, v_th_links, v_th_looks, v_th_found, v_th_isOver])), (h_row, .inl (cyI, 1824, .inl u_5.2.2.2.2.1)), (h_text, .inl (cyI, 200, .inl text)), (h_numbers, .inl (cyI, 3, .inl u_5.2.2.2.2.2)), (h_planWord, .inl (cyI, 4, .inl planWord)), (h_addWord, .inl (cyI, 3, .inl addWord)), (h_delWord, .inl (cyI, 3, .inl delWord)), (h_fillWord, .inl (cyI, 4, .inl fillWord))] := hD
  refine lv_istore_n (lv' := [(2, .int u_5.1), (0, .ref h_th), (1, .int x0)]) hx hb dX7_reads_33 rfl hl (by decide) rfl (fun ls hl => ?_)
  obtain ⟨w_32, hw_33, h⟩ := obd_e h
  have J : ∀ (H : Heap) (locs : List Loc) (ls : Array Slot), va_P (dC, dI) vwCl [(h_th, .inr (7, [.ref h_row, v_th_undos, v_th_isKept, .ref h_text, .int length, v_th_sizes, v_th_values, v_th_asked, .int w_32.2.1, .int w_32.2.2.1, .int w_32.2.2.2.1, .int w_32.2.2.2.2.1, .int x0, .ref h_numbers, .ref h_planWord, .ref h_addWord, .ref h_delWord, .ref h_fillWord, v_th_probes, v_th_links, v_th_looks, v_th_found, v_th_isOver])), (h_row, .inl (cyI, 1824, .inl w_32.2.2.2.2.2.1)), (h_text, .inl (cyI, 200, .inl text)), (h_numbers, .inl (cyI, 3, .inl w_32.2.2.2.2.2.2)), (h_planWord, .inl (cyI, 4, .inl planWord)), (h_addWord, .inl (cyI, 3, .inl addWord)), (h_delWord, .inl (cyI, 3, .inl delWord)), (h_fillWord, .inl (cyI, 4, .inl fillWord))] H → va_D A [(h_th, .inr (7, [.ref h_row, v_th_undos, v_th_isKept, .ref h_text, .int length, v_th_sizes, v_th_values, v_th_asked, .int w_32.2.1, .int w_32.2.2.1, .int w_32.2.2.2.1, .int w_32.2.2.2.2.1, .int x0, .ref h_numbers, .ref h_planWord, .ref h_addWord, .ref h_delWord, .ref h_fillWord, v_th_probes, v_th_links, v_th_looks, v_th_found, v_th_isOver])), (h_row, .inl (cyI, 1824, .inl w_32.2.2.2.2.2.1)), (h_text, .inl (cyI, 200, .inl text)), (h_numbers, .inl (cyI, 3, .inl w_32.2.2.2.2.2.2)), (h_planWord, .inl (cyI, 4, .inl planWord)), (h_addWord, .inl (cyI, 3, .inl addWord)), (h_delWord, .inl (cyI, 3, .inl delWord)), (h_fillWord, .inl (cyI, 4, .inl fillWord))] → va_S A s.heap H locs → lv_has ls 3 [(2, .int w_32.1)] → W p l e ({ frames := 9, cells := 0, slots := 0, locals := 205 }) s m args below meth c H locs 0 0 Q (F0 m 104 ls []) := by
    intro H locs ls hP hD hS hl
    refine lv_iload_n hx hb dX7_reads_104 rfl (lv_at hl 0 rfl) ?_
    obtain ⟨hz, h⟩ := obl_e h
    obtain rfl := Option.some.inj h
    exact hret _ _ _ _ dX7_reads_105 hz hP hD hS
  have LL : ∀ (n : Nat) (m2 : Int32) (zfirst : Int32) (zbehind : Int32) (zreadBits : Int32) (zclauses : Int32) (zrow : (Nat → Int32)) (znumbers : (Nat → Int32)) (H : Heap) (locs : List Loc) (ls : Array Slot), lpX7_reads_34 length x0 text planWord addWord delWord fillWord n m2 zfirst zbehind zreadBits zclauses zrow znumbers = some w_32 → va_P (dC, dI) vwCl [(h_th, .inr (7, [.ref h_row, v_th_undos, v_th_isKept, .ref h_text, .int length, v_th_sizes, v_th_values, v_th_asked, .int zfirst, .int zbehind, .int zreadBits, .int zclauses, .int x0, .ref h_numbers, .ref h_planWord, .ref h_addWord, .ref h_delWord, .ref h_fillWord, v_th_probes, v_th_links, v_th_looks, v_th_found, v_th_isOver])), (h_row, .inl (cyI, 1824, .inl zrow)), (h_text, .inl (cyI, 200, .inl text)), (h_numbers, .inl (cyI, 3, .inl znumbers)), (h_planWord, .inl (cyI, 4, .inl planWord)), (h_addWord, .inl (cyI, 3, .inl addWord)), (h_delWord, .inl (cyI, 3, .inl delWord)), (h_fillWord, .inl (cyI, 4, .inl fillWord))] H → va_D A [(h_th, .inr (7, [.ref h_row, v_th_undos, v_th_isKept, .ref h_text, .int length, v_th_sizes, v_th_values, v_th_asked, .int zfirst, .int zbehind, .int zreadBits, .int zclauses, .int x0, .ref h_numbers, .ref h_planWord, .ref h_addWord, .ref h_delWord, .ref h_fillWord, v_th_probes, v_th_links, v_th_looks, v_th_found, v_th_isOver])), (h_row, .inl (cyI, 1824, .inl zrow)), (h_text, .inl (cyI, 200, .inl text)), (h_numbers, .inl (cyI, 3, .inl znumbers)), (h_planWord, .inl (cyI, 4, .inl planWord)), (h_addWord, .inl (cyI, 3, .inl addWord)), (h_delWord, .inl (cyI, 3, .inl delWord)), (h_fillWord, .inl (cyI, 4, .inl fillWord))] → va_S A s.heap H locs → lv_has ls 3 [(0, .ref h_th), (2, .int m2)] → W p l e ({ frames := 9, cells := 0, slots := 0, locals := 205 }) s m args below meth c H locs 0 0 Q (F0 m 34 ls []) := by
    intro n
    induction n with
    | zero =>
      intro m2 zfirst zbehind zreadBits zclauses zrow znumbers H locs ls h
      exact absurd h (by rw [lpX7_reads_34]; exact fun q => by cases q)
    | succ n ih =>
      intro m2 zfirst zbehind zreadBits zclauses zrow znumbers H locs ls h hP hD hS hl
      rw [lpX7_reads_34] at h
      refine lv_iload_n hx hb dX7_reads_34 rfl (lv_at hl 1 rfl) ?_
      refine lv_if_eq (tgt := 104) hx hb dX7_reads_35 (by decide) (fun c_20 => ?_) (fun c_20 => ?_)
      · have h := og_ite_t c_20 h
        obtain rfl := Option.some.inj h
        exact J _ _ _ hP hD hS (lv_sub hl [1] rfl)
      · have h := og_ite_f c_20 h
        refine lv_aload_n hx hb dX7_reads_38 rfl (lv_at hl 0 rfl) ?_
        refine va_get (D := (dC, dI)) (ci := 7) (v := .int zfirst) (C := RX7) (T := TX7) (N := 23) hx hb hts (fun _ hw => List.mem_cons_of_mem _ (List.mem_append_right _ hw)) hown hK hP 0 rfl rfl 8 (by decide) (hts (.fieldLink RX7 94 "PrefixIndexModel" "first" "I") (List.mem_of_getElem? (i := 6) rfl)) (fun _ h9 => h9) rfl dX7_reads_39 ?_
        refine lv_aload_n hx hb dX7_reads_42 rfl (lv_at hl 0 rfl) ?_
        refine va_get (D := (dC, dI)) (ci := 7) (v := .int length) (C := RX7) (T := TX7) (N := 23) hx hb hts (fun _ hw => List.mem_cons_of_mem _ (List.mem_append_right _ hw)) hown hK hP 0 rfl rfl 4 (by decide) (hts (.fieldLink RX7 79 "PrefixIndexModel" "length" "I") (List.mem_of_getElem? (i := 7) rfl)) (fun _ h9 => h9) rfl dX7_reads_43 ?_
        refine lv_icmp_ge (tgt := 104) hx hb dX7_reads_46 (by decide) (fun c_21 => ?_) (fun c_21 => ?_)
        · have h := og_ite_t c_21 h
          obtain rfl := Option.some.inj h
          exact J _ _ _ hP hD hS (lv_sub hl [1] rfl)
        · have h := og_ite_f c_21 h
          refine lv_aload_n hx hb dX7_reads_49 rfl (lv_at hl 0 rfl) ?_
          refine va_get (D := (dC, dI)) (ci := 7) (v := .int zclauses) (C := RX7) (T := TX7) (N := 23) hx hb hts (fun _ hw => List.mem_cons_of_mem _ (List.mem_append_right _ hw)) hown hK hP 0 rfl rfl 11 (by decide) (hts (.fieldLink RX7 137 "PrefixIndexModel" "clauses" "I") (List.mem_of_getElem? (i := 3) rfl)) (fun _ h9 => h9) rfl dX7_reads_50 ?_
          refine lv_bipush (v := 24) hx hb dX7_reads_53 (by decide) ?_
          obtain ⟨w_23, hm_31, h⟩ := obd_e h
          have J : ∀ (H : Heap) (locs : List Loc) (ls : Array Slot), va_P (dC, dI) vwCl [(h_th, .inr (7, [.ref h_row, v_th_undos, v_th_isKept, .ref h_text, .int length, v_th_sizes, v_th_values, v_th_asked, .int zfirst, .int zbehind, .int zreadBits, .int zclauses, .int x0, .ref h_numbers, .ref h_planWord, .ref h_addWord, .ref h_delWord, .ref h_fillWord, v_th_probes, v_th_links, v_th_looks, v_th_found, v_th_isOver])), (h_row, .inl (cyI, 1824, .inl zrow)), (h_text, .inl (cyI, 200, .inl text)), (h_numbers, .inl (cyI, 3, .inl znumbers)), (h_planWord, .inl (cyI, 4, .inl planWord)), (h_addWord, .inl (cyI, 3, .inl addWord)), (h_delWord, .inl (cyI, 3, .inl delWord)), (h_fillWord, .inl (cyI, 4, .inl fillWord))] H → va_D A [(h_th, .inr (7, [.ref h_row, v_th_undos, v_th_isKept, .ref h_text, .int length, v_th_sizes, v_th_values, v_th_asked, .int zfirst, .int zbehind, .int zreadBits, .int zclauses, .int x0, .ref h_numbers, .ref h_planWord, .ref h_addWord, .ref h_delWord, .ref h_fillWord, v_th_probes, v_th_links, v_th_looks, v_th_found, v_th_isOver])), (h_row, .inl (cyI, 1824, .inl zrow)), (h_text, .inl (cyI, 200, .inl text)), (h_numbers, .inl (cyI, 3, .inl znumbers)), (h_planWord, .inl (cyI, 4, .inl planWord)), (h_addWord, .inl (cyI, 3, .inl addWord)), (h_delWord, .inl (cyI, 3, .inl delWord)), (h_fillWord, .inl (cyI, 4, .inl fillWord))] → va_S A s.heap H locs → lv_has ls 3 [(0, .ref h_th)] → W p l e ({ frames := 9, cells := 0, slots := 0, locals := 205 }) s m args below meth c H locs 0 0 Q (F0 m 77 ls [.int w_23]) := by
            intro H locs ls hP hD hS hl
            refine lv_istore_n (lv' := [(2, .int w_23), (0, .ref h_th)]) hx hb dX7_reads_77 rfl hl (by decide) rfl (fun ls hl => ?_)
            refine lv_iload_n hx hb dX7_reads_78 rfl (lv_at hl 0 rfl) ?_
            refine lv_if_eq (tgt := 34) hx hb dX7_reads_79 (by decide) (fun c_24 => ?_) (fun c_24 => ?_)
            · have h := og_ite_t c_24 h
              exact ih w_23 zfirst zbehind zreadBits zclauses zrow znumbers _ _ _ h hP hD hS (lv_sub hl [1, 0] rfl)
            · have h := og_ite_f c_24 h
              refine lv_aload_n hx hb dX7_reads_82 rfl (lv_at hl 1 rfl) ?_
              obtain ⟨u_25, hc_26, h⟩ := obd_e h
              refine Gcv (wr := [(h_row, .inl (cyI, 1824, .inl zrow)), (h_numbers, .inl (cyI, 3, .inl znumbers)), (h_planWord, .inl (cyI, 4, .inl planWord)), (h_addWord, .inl (cyI, 3, .inl addWord)), (h_delWord, .inl (cyI, 3, .inl delWord)), (h_fillWord, .inl (cyI, 4, .inl fillWord))]) (va_runV (As := []) (rest := []) ⟨hx, hb, hml, hown, hts⟩ (tX7_nextToken l dC dI cyI cyJ cyZ cyO H.size h_th h_text (.ref h_row) v_th_undos v_th_isKept v_th_sizes v_th_values v_th_asked (.int zreadBits) (.int zclauses) (.int x0) (.ref h_numbers) (.ref h_planWord) (.ref h_addWord) (.ref h_delWord) (.ref h_fillWord) v_th_probes v_th_links v_th_looks v_th_found v_th_isOver length zfirst zbehind text u_25 hc_26) (cwV 0 hts gX7_reads_X7_nextToken rfl rfl rfl (by decide +kernel) ⟨Nat.le_of_ble_eq_true rfl, Nat.le_of_ble_eq_true rfl⟩) (GpreV hP hD hK hN [0, 2] rfl (by decide) 7 0 rfl rfl rfl) rfl rfl hl.1 rfl (lv_room (Nat.le_of_ble_eq_true rfl)) dX7_reads_83 ⟨Nat.zero_le _, Nat.zero_le _⟩) hP hD hS hA [0, 2] [1, 3, 4, 5, 6, 7] rfl rfl (by decide) (by decide) (fun H locs hP hD hS => ?_)
              have hP : va_P (dC, dI) vwCl [(h_row, .inl (cyI, 1824, .inl zrow)), (h_numbers, .inl (cyI, 3, .inl znumbers)), (h_planWord, .inl (cyI, 4, .inl planWord)), (h_addWord, .inl (cyI, 3, .inl addWord)), (h_delWord, .inl (cyI, 3, .inl delWord)), (h_fillWord, .inl (cyI, 4, .inl fillWord)), (h_th, .inr (7, [.ref h_row, v_th_undos, v_th_isKept, .ref h_text, .int length, v_th_sizes, v_th_values, v_th_asked, .int u_25.1, .int u_25.2, .int zreadBits, .int zclauses, .int x0, .ref h_numbers, .ref h_planWord, .ref h_addWord, .ref h_delWord, .ref h_fillWord, v_th_probes, v_th_links, v_th_looks, v_th_found, v_th_isOver])), (h_text, .inl (cyI, 200, .inl text))] H := hP
              have hD : va_D A [(h_row, .inl (cyI, 1824, .inl zrow)), (h_numbers, .inl (cyI, 3, .inl znumbers)), (h_planWord, .inl (cyI, 4, .inl planWord)), (h_addWord, .inl (cyI, 3, .inl addWord)), (h_delWord, .inl (cyI, 3, .inl delWord)), (h_fillWord, .inl (cyI, 4, .inl fillWord)), (h_th, .inr (7, [.ref h_row, v_th_undos, v_th_isKept, .ref h_text, .int length, v_th_sizes, v_th_values, v_th_asked, .int u_25.1, .int u_25.2, .int zreadBits, .int zclauses, .int x0, .ref h_numbers, .ref h_planWord, .ref h_addWord, .ref h_delWord, .ref h_fillWord, v_th_probes, v_th_links, v_th_looks, v_th_found, v_th_isOver])), (h_text, .inl (cyI, 200, .inl text))] := hD
              refine lv_aload_n hx hb dX7_reads_86 rfl (lv_at hl 1 rfl) ?_
              obtain ⟨u_27, hc_28, h⟩ := obd_e h
              refine Gci (wr := []) (va_runV (As := []) (rest := []) ⟨hx, hb, hml, hown, hts⟩ (tX7_readsClause l dC dI cyI cyJ cyZ cyO H.size h_th h_row h_text h_numbers h_planWord h_addWord h_delWord h_fillWord v_th_undos v_th_isKept v_th_sizes v_th_values v_th_asked (.int zclauses) v_th_probes v_th_links v_th_looks v_th_found v_th_isOver length u_25.1 u_25.2 zreadBits x0 zrow text znumbers planWord addWord delWord fillWord u_27 hc_28) (cwV 0 hts gX7_reads_X7_readsClause rfl rfl rfl (by decide +kernel) ⟨Nat.le_of_ble_eq_true rfl, Nat.le_of_ble_eq_true rfl⟩) (GpreV hP hD hK hN [6, 0, 7, 1, 2, 3, 4, 5] rfl (by decide) 7 0 rfl rfl rfl) rfl rfl hl.1 rfl (lv_room (Nat.le_of_ble_eq_true rfl)) dX7_reads_87 ⟨Nat.zero_le _, Nat.zero_le _⟩) hP hD hS hA [6, 0, 7, 1, 2, 3, 4, 5] [] rfl rfl (by decide) (by decide) (fun H locs hP hD hS => ?_)
              have hP : va_P (dC, dI) vwCl [(h_th, .inr (7, [.ref h_row, v_th_undos, v_th_isKept, .ref h_text, .int length, v_th_sizes, v_th_values, v_th_asked, .int u_27.2.1, .int u_27.2.2.1, .int u_27.2.2.2.1, .int zclauses, .int x0, .ref h_numbers, .ref h_planWord, .ref h_addWord, .ref h_delWord, .ref h_fillWord, v_th_probes, v_th_links, v_th_looks, v_th_found, v_th_isOver])), (h_row, .inl (cyI, 1824, .inl u_27.2.2.2.2.1)), (h_text, .inl (cyI, 200, .inl text)), (h_numbers, .inl (cyI, 3, .inl u_27.2.2.2.2.2)), (h_planWord, .inl (cyI, 4, .inl planWord)), (h_addWord, .inl (cyI, 3, .inl addWord)), (h_delWord, .inl (cyI, 3, .inl delWord)), (h_fillWord, .inl (cyI, 4, .inl fillWord))] H := hP
              have hD : va_D A [(h_th, .inr (7, [.ref h_row, v_th_undos, v_th_isKept, .ref h_text, .int length, v_th_sizes, v_th_values, v_th_asked, .int u_27.2.1, .int u_27.2.2.1, .int u_27.2.2.2.1, .int zclauses, .int x0, .ref h_numbers, .ref h_planWord, .ref h_addWord, .ref h_delWord, .ref h_fillWord, v_th_probes, v_th_links, v_th_looks, v_th_found, v_th_isOver])), (h_row, .inl (cyI, 1824, .inl u_27.2.2.2.2.1)), (h_text, .inl (cyI, 200, .inl text)), (h_numbers, .inl (cyI, 3, .inl u_27.2.2.2.2.2)), (h_planWord, .inl (cyI, 4, .inl planWord)), (h_addWord, .inl (cyI, 3, .inl addWord)), (h_delWord, .inl (cyI, 3, .inl delWord)), (h_fillWord, .inl (cyI, 4, .inl fillWord))] := hD
              refine lv_istore_n (lv' := [(2, .int u_27.1), (0, .ref h_th)]) hx hb dX7_reads_90 rfl hl (by decide) rfl (fun ls hl => ?_)
              refine lv_aload_n hx hb dX7_reads_91 rfl (lv_at hl 1 rfl) ?_
              refine lv_dup hx hb dX7_reads_92 rfl ?_
              refine va_get (D := (dC, dI)) (ci := 7) (v := .int zclauses) (C := RX7) (T := TX7) (N := 23) hx hb hts (fun _ hw => List.mem_cons_of_mem _ (List.mem_append_right _ hw)) hown hK hP 0 rfl rfl 11 (by decide) (hts (.fieldLink RX7 137 "PrefixIndexModel" "clauses" "I") (List.mem_of_getElem? (i := 3) rfl)) (fun _ h9 => h9) rfl dX7_reads_93 ?_
              refine lv_iconst (v := 1) hx hb dX7_reads_96 (by decide) ?_
              refine lv_iadd hx hb dX7_reads_97 ?_
              refine va_put (D := (dC, dI)) (ci := 7) (v := .int (zclauses + (1 : Int32))) (ty := .int) (C := RX7) (T := TX7) (N := 23) hx hb hts (fun _ hw => List.mem_cons_of_mem _ (List.mem_append_right _ hw)) tyX7 tyX7_ok nmX7 hown hK hP hD hS 0 rfl rfl 11 (by decide) (hts (.fieldLink RX7 137 "PrefixIndexModel" "clauses" "I") (List.mem_of_getElem? (i := 3) rfl)) (fun _ h9 => h9) rfl (by decide +kernel) rfl rfl (Nat.le_of_ble_eq_true rfl) dX7_reads_98 (fun H locs hP hD hS => ?_)
              have hP : va_P (dC, dI) vwCl [(h_th, .inr (7, [.ref h_row, v_th_undos, v_th_isKept, .ref h_text, .int length, v_th_sizes, v_th_values, v_th_asked, .int u_27.2.1, .int u_27.2.2.1, .int u_27.2.2.2.1, .int (zclauses + (1 : Int32)), .int x0, .ref h_numbers, .ref h_planWord, .ref h_addWord, .ref h_delWord, .ref h_fillWord, v_th_probes, v_th_links, v_th_looks, v_th_found, v_th_isOver])), (h_row, .inl (cyI, 1824, .inl u_27.2.2.2.2.1)), (h_text, .inl (cyI, 200, .inl text)), (h_numbers, .inl (cyI, 3, .inl u_27.2.2.2.2.2)), (h_planWord, .inl (cyI, 4, .inl planWord)), (h_addWord, .inl (cyI, 3, .inl addWord)), (h_delWord, .inl (cyI, 3, .inl delWord)), (h_fillWord, .inl (cyI, 4, .inl fillWord))] H := hP
              have hD : va_D A [(h_th, .inr (7, [.ref h_row, v_th_undos, v_th_isKept, .ref h_text, .int length, v_th_sizes, v_th_values, v_th_asked, .int u_27.2.1, .int u_27.2.2.1, .int u_27.2.2.2.1, .int (zclauses + (1 : Int32)), .int x0, .ref h_numbers, .ref h_planWord, .ref h_addWord, .ref h_delWord, .ref h_fillWord, v_th_probes, v_th_links, v_th_looks, v_th_found, v_th_isOver])), (h_row, .inl (cyI, 1824, .inl u_27.2.2.2.2.1)), (h_text, .inl (cyI, 200, .inl text)), (h_numbers, .inl (cyI, 3, .inl u_27.2.2.2.2.2)), (h_planWord, .inl (cyI, 4, .inl planWord)), (h_addWord, .inl (cyI, 3, .inl addWord)), (h_delWord, .inl (cyI, 3, .inl delWord)), (h_fillWord, .inl (cyI, 4, .inl fillWord))] := hD
              refine lv_goto (tgt := 34) hx hb dX7_reads_101 (by decide) ?_
              exact ih u_27.1 u_27.2.1 u_27.2.2.1 u_27.2.2.2.1 (zclauses + (1 : Int32)) u_27.2.2.2.2.1 u_27.2.2.2.2.2 _ _ _ h hP hD hS (lv_sub hl [1, 0] rfl)
          replace h := hm_31
          refine lv_icmp_ge (tgt := 76) hx hb dX7_reads_55 (by decide) (fun c_22 => ?_) (fun c_22 => ?_)
          · have h := og_ite_t c_22 h
            refine lv_iconst (v := 0) hx hb dX7_reads_76 (by decide) ?_
            obtain rfl := Option.some.inj h
            exact J _ _ _ hP hD hS (lv_sub hl [0] rfl)
          · have h := og_ite_f c_22 h
            refine lv_aload_n hx hb dX7_reads_58 rfl (lv_at hl 0 rfl) ?_
            refine va_get (D := (dC, dI)) (ci := 7) (v := .ref h_text) (C := RX7) (T := TX7) (N := 23) hx hb hts (fun _ hw => List.mem_cons_of_mem _ (List.mem_append_right _ hw)) hown hK hP 0 rfl rfl 3 (by decide) (hts (.fieldLink RX7 17 "PrefixIndexModel" "text" "[I") (List.mem_of_getElem? (i := 8) rfl)) (fun _ h9 => h9) rfl dX7_reads_59 ?_
            refine lv_aload_n hx hb dX7_reads_62 rfl (lv_at hl 0 rfl) ?_
            refine va_get (D := (dC, dI)) (ci := 7) (v := .int zfirst) (C := RX7) (T := TX7) (N := 23) hx hb hts (fun _ hw => List.mem_cons_of_mem _ (List.mem_append_right _ hw)) hown hK hP 0 rfl rfl 8 (by decide) (hts (.fieldLink RX7 94 "PrefixIndexModel" "first" "I") (List.mem_of_getElem? (i := 6) rfl)) (fun _ h9 => h9) rfl dX7_reads_63 ?_
            obtain ⟨hi_29, h⟩ := oin_e h
            refine va_iald hx hb hK hP 2 0 rfl rfl hi_29 dX7_reads_66 ?_
            refine lv_bipush (v := 59) hx hb dX7_reads_67 (by decide) ?_
            refine lv_icmp_ne (tgt := 76) hx hb dX7_reads_69 (by decide) (fun c_30 => ?_) (fun c_30 => ?_)
            · have h := og_ite_f c_30 h
              refine lv_iconst (v := 0) hx hb dX7_reads_76 (by decide) ?_
              obtain rfl := Option.some.inj h
              exact J _ _ _ hP hD hS (lv_sub hl [0] rfl)
            · have h := og_ite_t c_30 h
              refine lv_iconst (v := 1) hx hb dX7_reads_72 (by decide) ?_
              refine lv_goto (tgt := 77) hx hb dX7_reads_73 (by decide) ?_
              obtain rfl := Option.some.inj h
              exact J _ _ _ hP hD hS (lv_sub hl [0] rfl)
  exact LL _ u_5.1 u_5.2.1 u_5.2.2.1 u_5.2.2.2.1 (1 : Int32) u_5.2.2.2.2.1 u_5.2.2.2.2.2 _ _ _ hw_33 hP hD hS (lv_sub hl [1, 0] rfl)

def fX7_fault (length : Int32) (first : Int32) (behind : Int32) (readBits : Int32) (clauses : Int32) (doing : Int32) (row : (Nat → Int32)) (text : (Nat → Int32)) (numbers : (Nat → Int32)) (planWord : (Nat → Int32)) (addWord : (Nat → Int32)) (delWord : (Nat → Int32)) (fillWord : (Nat → Int32)) : Option (Int32 × Int32 × Int32 × Int32 × Int32 × Int32 × (Nat → Int32) × (Nat → Int32)) := obd (fX7_reads length first behind readBits clauses doing row text numbers planWord addWord delWord fillWord (0 : Int32)) fun u_1 => olet (if u_1.1 = 0 then (u_1.2.1) else ((-1 : Int32))) fun y_4 => some (y_4, u_1.2.1, u_1.2.2.1, u_1.2.2.2.1, u_1.2.2.2.2.1, u_1.2.2.2.2.2.1, u_1.2.2.2.2.2.2.1, u_1.2.2.2.2.2.2.2)

set_option maxHeartbeats 4000000 in
set_option maxRecDepth 100000 in
theorem tX7_fault (l : Launch) (dC : Nat → ClassId) (dI : Nat → Nat → Nat) (cyI cyJ cyZ cyO : ClassId) (sz : Nat) (h_th h_row h_text h_numbers h_planWord h_addWord h_delWord h_fillWord : Nat) (v_th_undos : Value) (v_th_isKept : Value) (v_th_sizes : Value) (v_th_values : Value) (v_th_asked : Value) (v_th_probes : Value) (v_th_links : Value) (v_th_looks : Value) (v_th_found : Value) (v_th_isOver : Value) (length : Int32) (first : Int32) (behind : Int32) (readBits : Int32) (clauses : Int32) (doing : Int32) (row : (Nat → Int32)) (text : (Nat → Int32)) (numbers : (Nat → Int32)) (planWord : (Nat → Int32)) (addWord : (Nat → Int32)) (delWord : (Nat → Int32)) (fillWord : (Nat → Int32)) (u : Int32 × Int32 × Int32 × Int32 × Int32 × Int32 × (Nat → Int32) × (Nat → Int32)) (hf : fX7_fault length first behind readBits clauses doing row text numbers planWord addWord delWord fillWord = some u) : Met l yX7_fault wsX7_fault ({ frames := 10, cells := 0, slots := 0, locals := 227 }) (va_Pc [.ref h_th] (GP (dC, dI) (T4 cyI cyJ cyZ cyO) sz [(h_th, .inr (7, [.ref h_row, v_th_undos, v_th_isKept, .ref h_text, .int length, v_th_sizes, v_th_values, v_th_asked, .int first, .int behind, .int readBits, .int clauses, .int doing, .ref h_numbers, .ref h_planWord, .ref h_addWord, .ref h_delWord, .ref h_fillWord, v_th_probes, v_th_links, v_th_looks, v_th_found, v_th_isOver])), (h_row, .inl (cyI, 1824, .inl row)), (h_text, .inl (cyI, 200, .inl text)), (h_numbers, .inl (cyI, 3, .inl numbers)), (h_planWord, .inl (cyI, 4, .inl planWord)), (h_addWord, .inl (cyI, 3, .inl addWord)), (h_delWord, .inl (cyI, 3, .inl delWord)), (h_fillWord, .inl (cyI, 4, .inl fillWord))])) (va_Qi (fun (r : Int32) (_ : Unit) => r = u.1) (GB (dC, dI) [(h_th, .inr (7, [.ref h_row, v_th_undos, v_th_isKept, .ref h_text, .int length, v_th_sizes, v_th_values, v_th_asked, .int u.2.1, .int u.2.2.1, .int u.2.2.2.1, .int u.2.2.2.2.1, .int u.2.2.2.2.2.1, .ref h_numbers, .ref h_planWord, .ref h_addWord, .ref h_delWord, .ref h_fillWord, v_th_probes, v_th_links, v_th_looks, v_th_found, v_th_isOver])), (h_row, .inl (cyI, 1824, .inl u.2.2.2.2.2.2.1)), (h_text, .inl (cyI, 200, .inl text)), (h_numbers, .inl (cyI, 3, .inl u.2.2.2.2.2.2.2)), (h_planWord, .inl (cyI, 4, .inl planWord)), (h_addWord, .inl (cyI, 3, .inl addWord)), (h_delWord, .inl (cyI, 3, .inl delWord)), (h_fillWord, .inl (cyI, 4, .inl fillWord))] (va_A [(h_th, .inr (7, [.ref h_row, v_th_undos, v_th_isKept, .ref h_text, .int length, v_th_sizes, v_th_values, v_th_asked, .int first, .int behind, .int readBits, .int clauses, .int doing, .ref h_numbers, .ref h_planWord, .ref h_addWord, .ref h_delWord, .ref h_fillWord, v_th_probes, v_th_links, v_th_looks, v_th_found, v_th_isOver])), (h_row, .inl (cyI, 1824, .inl row)), (h_text, .inl (cyI, 200, .inl text)), (h_numbers, .inl (cyI, 3, .inl numbers)), (h_planWord, .inl (cyI, 4, .inl planWord)), (h_addWord, .inl (cyI, 3, .inl addWord)), (h_delWord, .inl (cyI, 3, .inl delWord)), (h_fillWord, .inl (cyI, 4, .inl fillWord))] sz)) (va_A [(h_th, .inr (7, [.ref h_row, v_th_undos, v_th_isKept, .ref h_text, .int length, v_th_sizes, v_th_values, v_th_asked, .int first, .int behind, .int readBits, .int clauses, .int doing, .ref h_numbers, .ref h_planWord, .ref h_addWord, .ref h_delWord, .ref h_fillWord, v_th_probes, v_th_links, v_th_looks, v_th_found, v_th_isOver])), (h_row, .inl (cyI, 1824, .inl row)), (h_text, .inl (cyI, 200, .inl text)), (h_numbers, .inl (cyI, 3, .inl numbers)), (h_planWord, .inl (cyI, 4, .inl planWord)), (h_addWord, .inl (cyI, 3, .inl addWord)), (h_delWord, .inl (cyI, 3, .inl delWord)), (h_fillWord, .inl (cyI, 4, .inl fillWord))] sz)) 0 0 (va_A [(h_th, .inr (7, [.ref h_row, v_th_undos, v_th_isKept, .ref h_text, .int length, v_th_sizes, v_th_values, v_th_asked, .int first, .int behind, .int readBits, .int clauses, .int doing, .ref h_numbers, .ref h_planWord, .ref h_addWord, .ref h_delWord, .ref h_fillWord, v_th_probes, v_th_links, v_th_looks, v_th_found, v_th_isOver])), (h_row, .inl (cyI, 1824, .inl row)), (h_text, .inl (cyI, 200, .inl text)), (h_numbers, .inl (cyI, 3, .inl numbers)), (h_planWord, .inl (cyI, 4, .inl planWord)), (h_addWord, .inl (cyI, 3, .inl addWord)), (h_delWord, .inl (cyI, 3, .inl delWord)), (h_fillWord, .inl (cyI, 4, .inl fillWord))] sz) := by
  refine GMetI (by decide) rfl (Nat.le_of_ble_eq_true rfl) ?_
  intro p e s m args below meth c A Q ls hx hb hml hts hown hN hK hA hret hP hD hS hl
  have h := hf
  clear hf
  unfold fX7_fault at h
  have hown : s.vm.findClass RX7 = some m.cls := hown
  have hl : lv_has ls 1 [(0, .ref h_th)] := hl
  refine lv_aload_n hx hb dX7_fault_0 rfl (lv_at hl 0 rfl) ?_
  refine lv_iconst (v := 0) hx hb dX7_fault_1 (by decide) ?_
  obtain ⟨u_1, hc_2, h⟩ := obd_e h
  refine Gci (wr := []) (va_runV (As := [.int (0 : Int32)]) (rest := []) ⟨hx, hb, hml, hown, hts⟩ (tX7_reads l dC dI cyI cyJ cyZ cyO s.heap.size h_th h_row h_text h_numbers h_planWord h_addWord h_delWord h_fillWord v_th_undos v_th_isKept v_th_sizes v_th_values v_th_asked v_th_probes v_th_links v_th_looks v_th_found v_th_isOver length first behind readBits clauses doing row text numbers planWord addWord delWord fillWord (0 : Int32) u_1 hc_2) (cwV 1 hts gX7_fault_X7_reads rfl rfl rfl (by decide +kernel) ⟨Nat.le_of_ble_eq_true rfl, Nat.le_of_ble_eq_true rfl⟩) (GpreV hP hD hK hN [0, 1, 2, 3, 4, 5, 6, 7] rfl (by decide) 7 0 rfl rfl rfl) rfl rfl hl.1 rfl (lv_room (Nat.le_of_ble_eq_true rfl)) dX7_fault_2 ⟨Nat.zero_le _, Nat.zero_le _⟩) hP hD hS hA [0, 1, 2, 3, 4, 5, 6, 7] [] rfl rfl (by decide) (by decide) (fun H locs hP hD hS => ?_)
  have hP : va_P (dC, dI) vwCl [(h_th, .inr (7, [.ref h_row, v_th_undos, v_th_isKept, .ref h_text, .int length, v_th_sizes, v_th_values, v_th_asked, .int u_1.2.1, .int u_1.2.2.1, .int u_1.2.2.2.1, .int u_1.2.2.2.2.1, .int u_1.2.2.2.2.2.1, .ref h_numbers, .ref h_planWord, .ref h_addWord, .ref h_delWord, .ref h_fillWord, v_th_probes, v_th_links, v_th_looks, v_th_found, v_th_isOver])), (h_row, .inl (cyI, 1824, .inl u_1.2.2.2.2.2.2.1)), (h_text, .inl (cyI, 200, .inl text)), (h_numbers, .inl (cyI, 3, .inl u_1.2.2.2.2.2.2.2)), (h_planWord, .inl (cyI, 4, .inl planWord)), (h_addWord, .inl (cyI, 3, .inl addWord)), (h_delWord, .inl (cyI, 3, .inl delWord)), (h_fillWord, .inl (cyI, 4, .inl fillWord))] H := hP
  have hD : va_D A [(h_th, .inr (7, [.ref h_row, v_th_undos, v_th_isKept, .ref h_text, .int length, v_th_sizes, v_th_values, v_th_asked, .int u_1.2.1, .int u_1.2.2.1, .int u_1.2.2.2.1, .int u_1.2.2.2.2.1, .int u_1.2.2.2.2.2.1, .ref h_numbers, .ref h_planWord, .ref h_addWord, .ref h_delWord, .ref h_fillWord, v_th_probes, v_th_links, v_th_looks, v_th_found, v_th_isOver])), (h_row, .inl (cyI, 1824, .inl u_1.2.2.2.2.2.2.1)), (h_text, .inl (cyI, 200, .inl text)), (h_numbers, .inl (cyI, 3, .inl u_1.2.2.2.2.2.2.2)), (h_planWord, .inl (cyI, 4, .inl planWord)), (h_addWord, .inl (cyI, 3, .inl addWord)), (h_delWord, .inl (cyI, 3, .inl delWord)), (h_fillWord, .inl (cyI, 4, .inl fillWord))] := hD
  obtain ⟨y_4, ey_4, h⟩ := olet_e h
  have J : ∀ (H : Heap) (locs : List Loc) (ls : Array Slot), va_P (dC, dI) vwCl [(h_th, .inr (7, [.ref h_row, v_th_undos, v_th_isKept, .ref h_text, .int length, v_th_sizes, v_th_values, v_th_asked, .int u_1.2.1, .int u_1.2.2.1, .int u_1.2.2.2.1, .int u_1.2.2.2.2.1, .int u_1.2.2.2.2.2.1, .ref h_numbers, .ref h_planWord, .ref h_addWord, .ref h_delWord, .ref h_fillWord, v_th_probes, v_th_links, v_th_looks, v_th_found, v_th_isOver])), (h_row, .inl (cyI, 1824, .inl u_1.2.2.2.2.2.2.1)), (h_text, .inl (cyI, 200, .inl text)), (h_numbers, .inl (cyI, 3, .inl u_1.2.2.2.2.2.2.2)), (h_planWord, .inl (cyI, 4, .inl planWord)), (h_addWord, .inl (cyI, 3, .inl addWord)), (h_delWord, .inl (cyI, 3, .inl delWord)), (h_fillWord, .inl (cyI, 4, .inl fillWord))] H → va_D A [(h_th, .inr (7, [.ref h_row, v_th_undos, v_th_isKept, .ref h_text, .int length, v_th_sizes, v_th_values, v_th_asked, .int u_1.2.1, .int u_1.2.2.1, .int u_1.2.2.2.1, .int u_1.2.2.2.2.1, .int u_1.2.2.2.2.2.1, .ref h_numbers, .ref h_planWord, .ref h_addWord, .ref h_delWord, .ref h_fillWord, v_th_probes, v_th_links, v_th_looks, v_th_found, v_th_isOver])), (h_row, .inl (cyI, 1824, .inl u_1.2.2.2.2.2.2.1)), (h_text, .inl (cyI, 200, .inl text)), (h_numbers, .inl (cyI, 3, .inl u_1.2.2.2.2.2.2.2)), (h_planWord, .inl (cyI, 4, .inl planWord)), (h_addWord, .inl (cyI, 3, .inl addWord)), (h_delWord, .inl (cyI, 3, .inl delWord)), (h_fillWord, .inl (cyI, 4, .inl fillWord))] → va_S A s.heap H locs → lv_has ls 1 [] → W p l e ({ frames := 10, cells := 0, slots := 0, locals := 227 }) s m args below meth c H locs 0 0 Q (F0 m 16 ls [.int y_4]) := by
    intro H locs ls hP hD hS hl
    obtain rfl := Option.some.inj h
    exact hret _ _ _ _ dX7_fault_16 hP hD hS
  clear h
  refine lv_if_eq (tgt := 12) hx hb dX7_fault_5 (by decide) (fun c_3 => ?_) (fun c_3 => ?_)
  · refine lv_aload_n hx hb dX7_fault_12 rfl (lv_at hl 0 rfl) ?_
    refine va_get (D := (dC, dI)) (ci := 7) (v := .int u_1.2.1) (C := RX7) (T := TX7) (N := 23) hx hb hts (fun _ hw => List.mem_cons_of_mem _ (List.mem_append_right _ hw)) hown hK hP 0 rfl rfl 8 (by decide) (hts (.fieldLink RX7 94 "PrefixIndexModel" "first" "I") (List.mem_of_getElem? (i := 1) rfl)) (fun _ h9 => h9) rfl dX7_fault_13 ?_
    rw [if_pos c_3] at ey_4
    subst ey_4
    exact J H locs _ hP hD hS (lv_sub hl [] rfl)
  · refine lv_iconst (v := (-1)) hx hb dX7_fault_8 (by decide) ?_
    refine lv_goto (tgt := 16) hx hb dX7_fault_9 (by decide) ?_
    rw [if_neg c_3] at ey_4
    subst ey_4
    exact J H locs _ hP hD hS (lv_sub hl [] rfl)

def fX7_read (undos : Int32) (length : Int32) (first : Int32) (behind : Int32) (readBits : Int32) (clauses : Int32) (doing : Int32) (row : (Nat → Int32)) (isKept : (Nat → Int32)) (text : (Nat → Int32)) (numbers : (Nat → Int32)) (planWord : (Nat → Int32)) (addWord : (Nat → Int32)) (delWord : (Nat → Int32)) (fillWord : (Nat → Int32)) : Option (Int32 × Int32 × Int32 × Int32 × Int32 × Int32 × Int32 × Int32 × (Nat → Int32) × (Nat → Int32) × (Nat → Int32)) := obd (fX7_reads length first behind readBits clauses doing row text numbers planWord addWord delWord fillWord (0 : Int32)) fun u_1 => if u_1.1 = 0 then (some ((-4 : Int32), undos, length, u_1.2.1, u_1.2.2.1, u_1.2.2.2.1, u_1.2.2.2.2.1, u_1.2.2.2.2.2.1, u_1.2.2.2.2.2.2.1, isKept, u_1.2.2.2.2.2.2.2)) else (obd (fX7_reads length u_1.2.1 u_1.2.2.1 u_1.2.2.2.1 u_1.2.2.2.2.1 u_1.2.2.2.2.2.1 u_1.2.2.2.2.2.2.1 text u_1.2.2.2.2.2.2.2 planWord addWord delWord fillWord (1 : Int32)) fun u_4 => oin (0 : Int32) 2 (obl (0 : Int32) (oin (1 : Int32) 2 (obl (0 : Int32) (some (u_4.2.2.2.2.1, (0 : Int32), (0 : Int32), u_4.2.1, u_4.2.2.1, u_4.2.2.2.1, u_4.2.2.2.2.1, u_4.2.2.2.2.2.1, u_4.2.2.2.2.2.2.1, upd (upd isKept (0 : Int32).toNatClampNeg (0 : Int32)) (1 : Int32).toNatClampNeg (0 : Int32), u_4.2.2.2.2.2.2.2))))))

set_option maxHeartbeats 4000000 in
set_option maxRecDepth 100000 in
theorem tX7_read (l : Launch) (dC : Nat → ClassId) (dI : Nat → Nat → Nat) (cyI cyJ cyZ cyO : ClassId) (sz : Nat) (h_th h_row h_isKept h_text h_numbers h_planWord h_addWord h_delWord h_fillWord : Nat) (v_th_sizes : Value) (v_th_values : Value) (v_th_asked : Value) (v_th_probes : Value) (v_th_links : Value) (v_th_looks : Value) (v_th_found : Value) (v_th_isOver : Value) (undos : Int32) (length : Int32) (first : Int32) (behind : Int32) (readBits : Int32) (clauses : Int32) (doing : Int32) (row : (Nat → Int32)) (isKept : (Nat → Int32)) (text : (Nat → Int32)) (numbers : (Nat → Int32)) (planWord : (Nat → Int32)) (addWord : (Nat → Int32)) (delWord : (Nat → Int32)) (fillWord : (Nat → Int32)) (u : Int32 × Int32 × Int32 × Int32 × Int32 × Int32 × Int32 × Int32 × (Nat → Int32) × (Nat → Int32) × (Nat → Int32)) (hf : fX7_read undos length first behind readBits clauses doing row isKept text numbers planWord addWord delWord fillWord = some u) : Met l yX7_read wsX7_read ({ frames := 10, cells := 0, slots := 0, locals := 227 }) (va_Pc [.ref h_th] (GP (dC, dI) (T4 cyI cyJ cyZ cyO) sz [(h_th, .inr (7, [.ref h_row, .int undos, .ref h_isKept, .ref h_text, .int length, v_th_sizes, v_th_values, v_th_asked, .int first, .int behind, .int readBits, .int clauses, .int doing, .ref h_numbers, .ref h_planWord, .ref h_addWord, .ref h_delWord, .ref h_fillWord, v_th_probes, v_th_links, v_th_looks, v_th_found, v_th_isOver])), (h_row, .inl (cyI, 1824, .inl row)), (h_isKept, .inl (cyZ, 2, .inl isKept)), (h_text, .inl (cyI, 200, .inl text)), (h_numbers, .inl (cyI, 3, .inl numbers)), (h_planWord, .inl (cyI, 4, .inl planWord)), (h_addWord, .inl (cyI, 3, .inl addWord)), (h_delWord, .inl (cyI, 3, .inl delWord)), (h_fillWord, .inl (cyI, 4, .inl fillWord))])) (va_Qi (fun (r : Int32) (_ : Unit) => r = u.1) (GB (dC, dI) [(h_th, .inr (7, [.ref h_row, .int u.2.1, .ref h_isKept, .ref h_text, .int u.2.2.1, v_th_sizes, v_th_values, v_th_asked, .int u.2.2.2.1, .int u.2.2.2.2.1, .int u.2.2.2.2.2.1, .int u.2.2.2.2.2.2.1, .int u.2.2.2.2.2.2.2.1, .ref h_numbers, .ref h_planWord, .ref h_addWord, .ref h_delWord, .ref h_fillWord, v_th_probes, v_th_links, v_th_looks, v_th_found, v_th_isOver])), (h_row, .inl (cyI, 1824, .inl u.2.2.2.2.2.2.2.2.1)), (h_isKept, .inl (cyZ, 2, .inl u.2.2.2.2.2.2.2.2.2.1)), (h_text, .inl (cyI, 200, .inl text)), (h_numbers, .inl (cyI, 3, .inl u.2.2.2.2.2.2.2.2.2.2)), (h_planWord, .inl (cyI, 4, .inl planWord)), (h_addWord, .inl (cyI, 3, .inl addWord)), (h_delWord, .inl (cyI, 3, .inl delWord)), (h_fillWord, .inl (cyI, 4, .inl fillWord))] (va_A [(h_th, .inr (7, [.ref h_row, .int undos, .ref h_isKept, .ref h_text, .int length, v_th_sizes, v_th_values, v_th_asked, .int first, .int behind, .int readBits, .int clauses, .int doing, .ref h_numbers, .ref h_planWord, .ref h_addWord, .ref h_delWord, .ref h_fillWord, v_th_probes, v_th_links, v_th_looks, v_th_found, v_th_isOver])), (h_row, .inl (cyI, 1824, .inl row)), (h_isKept, .inl (cyZ, 2, .inl isKept)), (h_text, .inl (cyI, 200, .inl text)), (h_numbers, .inl (cyI, 3, .inl numbers)), (h_planWord, .inl (cyI, 4, .inl planWord)), (h_addWord, .inl (cyI, 3, .inl addWord)), (h_delWord, .inl (cyI, 3, .inl delWord)), (h_fillWord, .inl (cyI, 4, .inl fillWord))] sz)) (va_A [(h_th, .inr (7, [.ref h_row, .int undos, .ref h_isKept, .ref h_text, .int length, v_th_sizes, v_th_values, v_th_asked, .int first, .int behind, .int readBits, .int clauses, .int doing, .ref h_numbers, .ref h_planWord, .ref h_addWord, .ref h_delWord, .ref h_fillWord, v_th_probes, v_th_links, v_th_looks, v_th_found, v_th_isOver])), (h_row, .inl (cyI, 1824, .inl row)), (h_isKept, .inl (cyZ, 2, .inl isKept)), (h_text, .inl (cyI, 200, .inl text)), (h_numbers, .inl (cyI, 3, .inl numbers)), (h_planWord, .inl (cyI, 4, .inl planWord)), (h_addWord, .inl (cyI, 3, .inl addWord)), (h_delWord, .inl (cyI, 3, .inl delWord)), (h_fillWord, .inl (cyI, 4, .inl fillWord))] sz)) 0 0 (va_A [(h_th, .inr (7, [.ref h_row, .int undos, .ref h_isKept, .ref h_text, .int length, v_th_sizes, v_th_values, v_th_asked, .int first, .int behind, .int readBits, .int clauses, .int doing, .ref h_numbers, .ref h_planWord, .ref h_addWord, .ref h_delWord, .ref h_fillWord, v_th_probes, v_th_links, v_th_looks, v_th_found, v_th_isOver])), (h_row, .inl (cyI, 1824, .inl row)), (h_isKept, .inl (cyZ, 2, .inl isKept)), (h_text, .inl (cyI, 200, .inl text)), (h_numbers, .inl (cyI, 3, .inl numbers)), (h_planWord, .inl (cyI, 4, .inl planWord)), (h_addWord, .inl (cyI, 3, .inl addWord)), (h_delWord, .inl (cyI, 3, .inl delWord)), (h_fillWord, .inl (cyI, 4, .inl fillWord))] sz) := by
  refine GMetI (by decide) rfl (Nat.le_of_ble_eq_true rfl) ?_
  intro p e s m args below meth c A Q ls hx hb hml hts hown hN hK hA hret hP hD hS hl
  have h := hf
  clear hf
  unfold fX7_read at h
  have hown : s.vm.findClass RX7 = some m.cls := hown
  have hl : lv_has ls 1 [(0, .ref h_th)] := hl
  refine lv_aload_n hx hb dX7_read_0 rfl (lv_at hl 0 rfl) ?_
  refine lv_iconst (v := 0) hx hb dX7_read_1 (by decide) ?_
  obtain ⟨u_1, hc_2, h⟩ := obd_e h
  refine Gci (wr := [(h_isKept, .inl (cyZ, 2, .inl isKept))]) (va_runV (As := [.int (0 : Int32)]) (rest := []) ⟨hx, hb, hml, hown, hts⟩ (tX7_reads l dC dI cyI cyJ cyZ cyO s.heap.size h_th h_row h_text h_numbers h_planWord h_addWord h_delWord h_fillWord (.int undos) (.ref h_isKept) v_th_sizes v_th_values v_th_asked v_th_probes v_th_links v_th_looks v_th_found v_th_isOver length first behind readBits clauses doing row text numbers planWord addWord delWord fillWord (0 : Int32) u_1 hc_2) (cwV 1 hts gX7_read_X7_reads rfl rfl rfl (by decide +kernel) ⟨Nat.le_of_ble_eq_true rfl, Nat.le_of_ble_eq_true rfl⟩) (GpreV hP hD hK hN [0, 1, 3, 4, 5, 6, 7, 8] rfl (by decide) 7 0 rfl rfl rfl) rfl rfl hl.1 rfl (lv_room (Nat.le_of_ble_eq_true rfl)) dX7_read_2 ⟨Nat.zero_le _, Nat.zero_le _⟩) hP hD hS hA [0, 1, 3, 4, 5, 6, 7, 8] [2] rfl rfl (by decide) (by decide) (fun H locs hP hD hS => ?_)
  have hP : va_P (dC, dI) vwCl [(h_isKept, .inl (cyZ, 2, .inl isKept)), (h_th, .inr (7, [.ref h_row, .int undos, .ref h_isKept, .ref h_text, .int length, v_th_sizes, v_th_values, v_th_asked, .int u_1.2.1, .int u_1.2.2.1, .int u_1.2.2.2.1, .int u_1.2.2.2.2.1, .int u_1.2.2.2.2.2.1, .ref h_numbers, .ref h_planWord, .ref h_addWord, .ref h_delWord, .ref h_fillWord, v_th_probes, v_th_links, v_th_looks, v_th_found, v_th_isOver])), (h_row, .inl (cyI, 1824, .inl u_1.2.2.2.2.2.2.1)), (h_text, .inl (cyI, 200, .inl text)), (h_numbers, .inl (cyI, 3, .inl u_1.2.2.2.2.2.2.2)), (h_planWord, .inl (cyI, 4, .inl planWord)), (h_addWord, .inl (cyI, 3, .inl addWord)), (h_delWord, .inl (cyI, 3, .inl delWord)), (h_fillWord, .inl (cyI, 4, .inl fillWord))] H := hP
  have hD : va_D A [(h_isKept, .inl (cyZ, 2, .inl isKept)), (h_th, .inr (7, [.ref h_row, .int undos, .ref h_isKept, .ref h_text, .int length, v_th_sizes, v_th_values, v_th_asked, .int u_1.2.1, .int u_1.2.2.1, .int u_1.2.2.2.1, .int u_1.2.2.2.2.1, .int u_1.2.2.2.2.2.1, .ref h_numbers, .ref h_planWord, .ref h_addWord, .ref h_delWord, .ref h_fillWord, v_th_probes, v_th_links, v_th_looks, v_th_found, v_th_isOver])), (h_row, .inl (cyI, 1824, .inl u_1.2.2.2.2.2.2.1)), (h_text, .inl (cyI, 200, .inl text)), (h_numbers, .inl (cyI, 3, .inl u_1.2.2.2.2.2.2.2)), (h_planWord, .inl (cyI, 4, .inl planWord)), (h_addWord, .inl (cyI, 3, .inl addWord)), (h_delWord, .inl (cyI, 3, .inl delWord)), (h_fillWord, .inl (cyI, 4, .inl fillWord))] := hD
  refine lv_if_ne (tgt := 11) hx hb dX7_read_5 (by decide) (fun c_3 => ?_) (fun c_3 => ?_)
  · have h := og_ite_f c_3 h
    refine lv_aload_n hx hb dX7_read_11 rfl (lv_at hl 0 rfl) ?_
    refine lv_iconst (v := 1) hx hb dX7_read_12 (by decide) ?_
    obtain ⟨u_4, hc_5, h⟩ := obd_e h
    refine Gci (wr := [(h_isKept, .inl (cyZ, 2, .inl isKept))]) (va_runV (As := [.int (1 : Int32)]) (rest := []) ⟨hx, hb, hml, hown, hts⟩ (tX7_reads l dC dI cyI cyJ cyZ cyO H.size h_th h_row h_text h_numbers h_planWord h_addWord h_delWord h_fillWord (.int undos) (.ref h_isKept) v_th_sizes v_th_values v_th_asked v_th_probes v_th_links v_th_looks v_th_found v_th_isOver length u_1.2.1 u_1.2.2.1 u_1.2.2.2.1 u_1.2.2.2.2.1 u_1.2.2.2.2.2.1 u_1.2.2.2.2.2.2.1 text u_1.2.2.2.2.2.2.2 planWord addWord delWord fillWord (1 : Int32) u_4 hc_5) (cwV 1 hts gX7_read_X7_reads rfl rfl rfl (by decide +kernel) ⟨Nat.le_of_ble_eq_true rfl, Nat.le_of_ble_eq_true rfl⟩) (GpreV hP hD hK hN [1, 2, 3, 4, 5, 6, 7, 8] rfl (by decide) 7 0 rfl rfl rfl) rfl rfl hl.1 rfl (lv_room (Nat.le_of_ble_eq_true rfl)) dX7_read_13 ⟨Nat.zero_le _, Nat.zero_le _⟩) hP hD hS hA [1, 2, 3, 4, 5, 6, 7, 8] [0] rfl rfl (by decide) (by decide) (fun H locs hP hD hS => ?_)
    have hP : va_P (dC, dI) vwCl [(h_isKept, .inl (cyZ, 2, .inl isKept)), (h_th, .inr (7, [.ref h_row, .int undos, .ref h_isKept, .ref h_text, .int length, v_th_sizes, v_th_values, v_th_asked, .int u_4.2.1, .int u_4.2.2.1, .int u_4.2.2.2.1, .int u_4.2.2.2.2.1, .int u_4.2.2.2.2.2.1, .ref h_numbers, .ref h_planWord, .ref h_addWord, .ref h_delWord, .ref h_fillWord, v_th_probes, v_th_links, v_th_looks, v_th_found, v_th_isOver])), (h_row, .inl (cyI, 1824, .inl u_4.2.2.2.2.2.2.1)), (h_text, .inl (cyI, 200, .inl text)), (h_numbers, .inl (cyI, 3, .inl u_4.2.2.2.2.2.2.2)), (h_planWord, .inl (cyI, 4, .inl planWord)), (h_addWord, .inl (cyI, 3, .inl addWord)), (h_delWord, .inl (cyI, 3, .inl delWord)), (h_fillWord, .inl (cyI, 4, .inl fillWord))] H := hP
    have hD : va_D A [(h_isKept, .inl (cyZ, 2, .inl isKept)), (h_th, .inr (7, [.ref h_row, .int undos, .ref h_isKept, .ref h_text, .int length, v_th_sizes, v_th_values, v_th_asked, .int u_4.2.1, .int u_4.2.2.1, .int u_4.2.2.2.1, .int u_4.2.2.2.2.1, .int u_4.2.2.2.2.2.1, .ref h_numbers, .ref h_planWord, .ref h_addWord, .ref h_delWord, .ref h_fillWord, v_th_probes, v_th_links, v_th_looks, v_th_found, v_th_isOver])), (h_row, .inl (cyI, 1824, .inl u_4.2.2.2.2.2.2.1)), (h_text, .inl (cyI, 200, .inl text)), (h_numbers, .inl (cyI, 3, .inl u_4.2.2.2.2.2.2.2)), (h_planWord, .inl (cyI, 4, .inl planWord)), (h_addWord, .inl (cyI, 3, .inl addWord)), (h_delWord, .inl (cyI, 3, .inl delWord)), (h_fillWord, .inl (cyI, 4, .inl fillWord))] := hD
    refine lv_pop hx hb dX7_read_16 rfl ?_
    refine lv_aload_n hx hb dX7_read_17 rfl (lv_at hl 0 rfl) ?_
    refine lv_iconst (v := 0) hx hb dX7_read_18 (by decide) ?_
    refine va_put (D := (dC, dI)) (ci := 7) (v := .int (0 : Int32)) (ty := .int) (C := RX7) (T := TX7) (N := 23) hx hb hts (fun _ hw => List.mem_cons_of_mem _ (List.mem_append_right _ hw)) tyX7 tyX7_ok nmX7 hown hK hP hD hS 1 rfl rfl 4 (by decide) (hts (.fieldLink RX7 79 "PrefixIndexModel" "length" "I") (List.mem_of_getElem? (i := 1) rfl)) (fun _ h9 => h9) rfl (by decide +kernel) rfl rfl (Nat.le_of_ble_eq_true rfl) dX7_read_19 (fun H locs hP hD hS => ?_)
    have hP : va_P (dC, dI) vwCl [(h_isKept, .inl (cyZ, 2, .inl isKept)), (h_th, .inr (7, [.ref h_row, .int undos, .ref h_isKept, .ref h_text, .int (0 : Int32), v_th_sizes, v_th_values, v_th_asked, .int u_4.2.1, .int u_4.2.2.1, .int u_4.2.2.2.1, .int u_4.2.2.2.2.1, .int u_4.2.2.2.2.2.1, .ref h_numbers, .ref h_planWord, .ref h_addWord, .ref h_delWord, .ref h_fillWord, v_th_probes, v_th_links, v_th_looks, v_th_found, v_th_isOver])), (h_row, .inl (cyI, 1824, .inl u_4.2.2.2.2.2.2.1)), (h_text, .inl (cyI, 200, .inl text)), (h_numbers, .inl (cyI, 3, .inl u_4.2.2.2.2.2.2.2)), (h_planWord, .inl (cyI, 4, .inl planWord)), (h_addWord, .inl (cyI, 3, .inl addWord)), (h_delWord, .inl (cyI, 3, .inl delWord)), (h_fillWord, .inl (cyI, 4, .inl fillWord))] H := hP
    have hD : va_D A [(h_isKept, .inl (cyZ, 2, .inl isKept)), (h_th, .inr (7, [.ref h_row, .int undos, .ref h_isKept, .ref h_text, .int (0 : Int32), v_th_sizes, v_th_values, v_th_asked, .int u_4.2.1, .int u_4.2.2.1, .int u_4.2.2.2.1, .int u_4.2.2.2.2.1, .int u_4.2.2.2.2.2.1, .ref h_numbers, .ref h_planWord, .ref h_addWord, .ref h_delWord, .ref h_fillWord, v_th_probes, v_th_links, v_th_looks, v_th_found, v_th_isOver])), (h_row, .inl (cyI, 1824, .inl u_4.2.2.2.2.2.2.1)), (h_text, .inl (cyI, 200, .inl text)), (h_numbers, .inl (cyI, 3, .inl u_4.2.2.2.2.2.2.2)), (h_planWord, .inl (cyI, 4, .inl planWord)), (h_addWord, .inl (cyI, 3, .inl addWord)), (h_delWord, .inl (cyI, 3, .inl delWord)), (h_fillWord, .inl (cyI, 4, .inl fillWord))] := hD
    refine lv_aload_n hx hb dX7_read_22 rfl (lv_at hl 0 rfl) ?_
    refine lv_iconst (v := 0) hx hb dX7_read_23 (by decide) ?_
    refine va_put (D := (dC, dI)) (ci := 7) (v := .int (0 : Int32)) (ty := .int) (C := RX7) (T := TX7) (N := 23) hx hb hts (fun _ hw => List.mem_cons_of_mem _ (List.mem_append_right _ hw)) tyX7 tyX7_ok nmX7 hown hK hP hD hS 1 rfl rfl 1 (by decide) (hts (.fieldLink RX7 148 "PrefixIndexModel" "undos" "I") (List.mem_of_getElem? (i := 2) rfl)) (fun _ h9 => h9) rfl (by decide +kernel) rfl rfl (Nat.le_of_ble_eq_true rfl) dX7_read_24 (fun H locs hP hD hS => ?_)
    have hP : va_P (dC, dI) vwCl [(h_isKept, .inl (cyZ, 2, .inl isKept)), (h_th, .inr (7, [.ref h_row, .int (0 : Int32), .ref h_isKept, .ref h_text, .int (0 : Int32), v_th_sizes, v_th_values, v_th_asked, .int u_4.2.1, .int u_4.2.2.1, .int u_4.2.2.2.1, .int u_4.2.2.2.2.1, .int u_4.2.2.2.2.2.1, .ref h_numbers, .ref h_planWord, .ref h_addWord, .ref h_delWord, .ref h_fillWord, v_th_probes, v_th_links, v_th_looks, v_th_found, v_th_isOver])), (h_row, .inl (cyI, 1824, .inl u_4.2.2.2.2.2.2.1)), (h_text, .inl (cyI, 200, .inl text)), (h_numbers, .inl (cyI, 3, .inl u_4.2.2.2.2.2.2.2)), (h_planWord, .inl (cyI, 4, .inl planWord)), (h_addWord, .inl (cyI, 3, .inl addWord)), (h_delWord, .inl (cyI, 3, .inl delWord)), (h_fillWord, .inl (cyI, 4, .inl fillWord))] H := hP
    have hD : va_D A [(h_isKept, .inl (cyZ, 2, .inl isKept)), (h_th, .inr (7, [.ref h_row, .int (0 : Int32), .ref h_isKept, .ref h_text, .int (0 : Int32), v_th_sizes, v_th_values, v_th_asked, .int u_4.2.1, .int u_4.2.2.1, .int u_4.2.2.2.1, .int u_4.2.2.2.2.1, .int u_4.2.2.2.2.2.1, .ref h_numbers, .ref h_planWord, .ref h_addWord, .ref h_delWord, .ref h_fillWord, v_th_probes, v_th_links, v_th_looks, v_th_found, v_th_isOver])), (h_row, .inl (cyI, 1824, .inl u_4.2.2.2.2.2.2.1)), (h_text, .inl (cyI, 200, .inl text)), (h_numbers, .inl (cyI, 3, .inl u_4.2.2.2.2.2.2.2)), (h_planWord, .inl (cyI, 4, .inl planWord)), (h_addWord, .inl (cyI, 3, .inl addWord)), (h_delWord, .inl (cyI, 3, .inl delWord)), (h_fillWord, .inl (cyI, 4, .inl fillWord))] := hD
    refine lv_aload_n hx hb dX7_read_27 rfl (lv_at hl 0 rfl) ?_
    refine va_get (D := (dC, dI)) (ci := 7) (v := .ref h_isKept) (C := RX7) (T := TX7) (N := 23) hx hb hts (fun _ hw => List.mem_cons_of_mem _ (List.mem_append_right _ hw)) hown hK hP 1 rfl rfl 2 (by decide) (hts (.fieldLink RX7 13 "PrefixIndexModel" "isKept" "[Z") (List.mem_of_getElem? (i := 3) rfl)) (fun _ h9 => h9) rfl dX7_read_28 ?_
    refine lv_iconst (v := 0) hx hb dX7_read_31 (by decide) ?_
    refine lv_iconst (v := 0) hx hb dX7_read_32 (by decide) ?_
    obtain ⟨hi_6, h⟩ := oin_e h
    obtain ⟨hz_7, h⟩ := obl_e h
    refine va_zast hx hb hK hP hD hS 0 2 rfl rfl hi_6 dX7_read_33 (fun H locs hP hD hS => ?_)
    rw [obl_v hz_7] at hP hD
    have hP : va_P (dC, dI) vwCl [(h_isKept, .inl (cyZ, 2, .inl (upd isKept (0 : Int32).toNatClampNeg (0 : Int32)))), (h_th, .inr (7, [.ref h_row, .int (0 : Int32), .ref h_isKept, .ref h_text, .int (0 : Int32), v_th_sizes, v_th_values, v_th_asked, .int u_4.2.1, .int u_4.2.2.1, .int u_4.2.2.2.1, .int u_4.2.2.2.2.1, .int u_4.2.2.2.2.2.1, .ref h_numbers, .ref h_planWord, .ref h_addWord, .ref h_delWord, .ref h_fillWord, v_th_probes, v_th_links, v_th_looks, v_th_found, v_th_isOver])), (h_row, .inl (cyI, 1824, .inl u_4.2.2.2.2.2.2.1)), (h_text, .inl (cyI, 200, .inl text)), (h_numbers, .inl (cyI, 3, .inl u_4.2.2.2.2.2.2.2)), (h_planWord, .inl (cyI, 4, .inl planWord)), (h_addWord, .inl (cyI, 3, .inl addWord)), (h_delWord, .inl (cyI, 3, .inl delWord)), (h_fillWord, .inl (cyI, 4, .inl fillWord))] H := hP
    have hD : va_D A [(h_isKept, .inl (cyZ, 2, .inl (upd isKept (0 : Int32).toNatClampNeg (0 : Int32)))), (h_th, .inr (7, [.ref h_row, .int (0 : Int32), .ref h_isKept, .ref h_text, .int (0 : Int32), v_th_sizes, v_th_values, v_th_asked, .int u_4.2.1, .int u_4.2.2.1, .int u_4.2.2.2.1, .int u_4.2.2.2.2.1, .int u_4.2.2.2.2.2.1, .ref h_numbers, .ref h_planWord, .ref h_addWord, .ref h_delWord, .ref h_fillWord, v_th_probes, v_th_links, v_th_looks, v_th_found, v_th_isOver])), (h_row, .inl (cyI, 1824, .inl u_4.2.2.2.2.2.2.1)), (h_text, .inl (cyI, 200, .inl text)), (h_numbers, .inl (cyI, 3, .inl u_4.2.2.2.2.2.2.2)), (h_planWord, .inl (cyI, 4, .inl planWord)), (h_addWord, .inl (cyI, 3, .inl addWord)), (h_delWord, .inl (cyI, 3, .inl delWord)), (h_fillWord, .inl (cyI, 4, .inl fillWord))] := hD
    refine lv_aload_n hx hb dX7_read_34 rfl (lv_at hl 0 rfl) ?_
    refine va_get (D := (dC, dI)) (ci := 7) (v := .ref h_isKept) (C := RX7) (T := TX7) (N := 23) hx hb hts (fun _ hw => List.mem_cons_of_mem _ (List.mem_append_right _ hw)) hown hK hP 1 rfl rfl 2 (by decide) (hts (.fieldLink RX7 13 "PrefixIndexModel" "isKept" "[Z") (List.mem_of_getElem? (i := 3) rfl)) (fun _ h9 => h9) rfl dX7_read_35 ?_
    refine lv_iconst (v := 1) hx hb dX7_read_38 (by decide) ?_
    refine lv_iconst (v := 0) hx hb dX7_read_39 (by decide) ?_
    obtain ⟨hi_8, h⟩ := oin_e h
    obtain ⟨hz_9, h⟩ := obl_e h
    refine va_zast hx hb hK hP hD hS 0 2 rfl rfl hi_8 dX7_read_40 (fun H locs hP hD hS => ?_)
    rw [obl_v hz_9] at hP hD
    have hP : va_P (dC, dI) vwCl [(h_isKept, .inl (cyZ, 2, .inl (upd (upd isKept (0 : Int32).toNatClampNeg (0 : Int32)) (1 : Int32).toNatClampNeg (0 : Int32)))), (h_th, .inr (7, [.ref h_row, .int (0 : Int32), .ref h_isKept, .ref h_text, .int (0 : Int32), v_th_sizes, v_th_values, v_th_asked, .int u_4.2.1, .int u_4.2.2.1, .int u_4.2.2.2.1, .int u_4.2.2.2.2.1, .int u_4.2.2.2.2.2.1, .ref h_numbers, .ref h_planWord, .ref h_addWord, .ref h_delWord, .ref h_fillWord, v_th_probes, v_th_links, v_th_looks, v_th_found, v_th_isOver])), (h_row, .inl (cyI, 1824, .inl u_4.2.2.2.2.2.2.1)), (h_text, .inl (cyI, 200, .inl text)), (h_numbers, .inl (cyI, 3, .inl u_4.2.2.2.2.2.2.2)), (h_planWord, .inl (cyI, 4, .inl planWord)), (h_addWord, .inl (cyI, 3, .inl addWord)), (h_delWord, .inl (cyI, 3, .inl delWord)), (h_fillWord, .inl (cyI, 4, .inl fillWord))] H := hP
    have hD : va_D A [(h_isKept, .inl (cyZ, 2, .inl (upd (upd isKept (0 : Int32).toNatClampNeg (0 : Int32)) (1 : Int32).toNatClampNeg (0 : Int32)))), (h_th, .inr (7, [.ref h_row, .int (0 : Int32), .ref h_isKept, .ref h_text, .int (0 : Int32), v_th_sizes, v_th_values, v_th_asked, .int u_4.2.1, .int u_4.2.2.1, .int u_4.2.2.2.1, .int u_4.2.2.2.2.1, .int u_4.2.2.2.2.2.1, .ref h_numbers, .ref h_planWord, .ref h_addWord, .ref h_delWord, .ref h_fillWord, v_th_probes, v_th_links, v_th_looks, v_th_found, v_th_isOver])), (h_row, .inl (cyI, 1824, .inl u_4.2.2.2.2.2.2.1)), (h_text, .inl (cyI, 200, .inl text)), (h_numbers, .inl (cyI, 3, .inl u_4.2.2.2.2.2.2.2)), (h_planWord, .inl (cyI, 4, .inl planWord)), (h_addWord, .inl (cyI, 3, .inl addWord)), (h_delWord, .inl (cyI, 3, .inl delWord)), (h_fillWord, .inl (cyI, 4, .inl fillWord))] := hD
    refine lv_aload_n hx hb dX7_read_41 rfl (lv_at hl 0 rfl) ?_
    refine va_get (D := (dC, dI)) (ci := 7) (v := .int u_4.2.2.2.2.1) (C := RX7) (T := TX7) (N := 23) hx hb hts (fun _ hw => List.mem_cons_of_mem _ (List.mem_append_right _ hw)) hown hK hP 1 rfl rfl 11 (by decide) (hts (.fieldLink RX7 137 "PrefixIndexModel" "clauses" "I") (List.mem_of_getElem? (i := 4) rfl)) (fun _ h9 => h9) rfl dX7_read_42 ?_
    obtain rfl := Option.some.inj h
    have hP := hP.sub (ws' := [(h_th, .inr (7, [.ref h_row, .int (0 : Int32), .ref h_isKept, .ref h_text, .int (0 : Int32), v_th_sizes, v_th_values, v_th_asked, .int u_4.2.1, .int u_4.2.2.1, .int u_4.2.2.2.1, .int u_4.2.2.2.2.1, .int u_4.2.2.2.2.2.1, .ref h_numbers, .ref h_planWord, .ref h_addWord, .ref h_delWord, .ref h_fillWord, v_th_probes, v_th_links, v_th_looks, v_th_found, v_th_isOver])), (h_row, .inl (cyI, 1824, .inl u_4.2.2.2.2.2.2.1)), (h_isKept, .inl (cyZ, 2, .inl (upd (upd isKept (0 : Int32).toNatClampNeg (0 : Int32)) (1 : Int32).toNatClampNeg (0 : Int32)))), (h_text, .inl (cyI, 200, .inl text)), (h_numbers, .inl (cyI, 3, .inl u_4.2.2.2.2.2.2.2)), (h_planWord, .inl (cyI, 4, .inl planWord)), (h_addWord, .inl (cyI, 3, .inl addWord)), (h_delWord, .inl (cyI, 3, .inl delWord)), (h_fillWord, .inl (cyI, 4, .inl fillWord))]) [1, 2, 0, 3, 4, 5, 6, 7, 8] rfl
    have hD := hD.sub (ws' := [(h_th, .inr (7, [.ref h_row, .int (0 : Int32), .ref h_isKept, .ref h_text, .int (0 : Int32), v_th_sizes, v_th_values, v_th_asked, .int u_4.2.1, .int u_4.2.2.1, .int u_4.2.2.2.1, .int u_4.2.2.2.2.1, .int u_4.2.2.2.2.2.1, .ref h_numbers, .ref h_planWord, .ref h_addWord, .ref h_delWord, .ref h_fillWord, v_th_probes, v_th_links, v_th_looks, v_th_found, v_th_isOver])), (h_row, .inl (cyI, 1824, .inl u_4.2.2.2.2.2.2.1)), (h_isKept, .inl (cyZ, 2, .inl (upd (upd isKept (0 : Int32).toNatClampNeg (0 : Int32)) (1 : Int32).toNatClampNeg (0 : Int32)))), (h_text, .inl (cyI, 200, .inl text)), (h_numbers, .inl (cyI, 3, .inl u_4.2.2.2.2.2.2.2)), (h_planWord, .inl (cyI, 4, .inl planWord)), (h_addWord, .inl (cyI, 3, .inl addWord)), (h_delWord, .inl (cyI, 3, .inl delWord)), (h_fillWord, .inl (cyI, 4, .inl fillWord))]) [1, 2, 0, 3, 4, 5, 6, 7, 8] (by decide) rfl
    exact hret _ _ _ _ dX7_read_45 hP hD hS
  · have h := og_ite_t c_3 h
    refine lv_bipush (v := (-4)) hx hb dX7_read_8 (by decide) ?_
    obtain rfl := Option.some.inj h
    have hP := hP.sub (ws' := [(h_th, .inr (7, [.ref h_row, .int undos, .ref h_isKept, .ref h_text, .int length, v_th_sizes, v_th_values, v_th_asked, .int u_1.2.1, .int u_1.2.2.1, .int u_1.2.2.2.1, .int u_1.2.2.2.2.1, .int u_1.2.2.2.2.2.1, .ref h_numbers, .ref h_planWord, .ref h_addWord, .ref h_delWord, .ref h_fillWord, v_th_probes, v_th_links, v_th_looks, v_th_found, v_th_isOver])), (h_row, .inl (cyI, 1824, .inl u_1.2.2.2.2.2.2.1)), (h_isKept, .inl (cyZ, 2, .inl isKept)), (h_text, .inl (cyI, 200, .inl text)), (h_numbers, .inl (cyI, 3, .inl u_1.2.2.2.2.2.2.2)), (h_planWord, .inl (cyI, 4, .inl planWord)), (h_addWord, .inl (cyI, 3, .inl addWord)), (h_delWord, .inl (cyI, 3, .inl delWord)), (h_fillWord, .inl (cyI, 4, .inl fillWord))]) [1, 2, 0, 3, 4, 5, 6, 7, 8] rfl
    have hD := hD.sub (ws' := [(h_th, .inr (7, [.ref h_row, .int undos, .ref h_isKept, .ref h_text, .int length, v_th_sizes, v_th_values, v_th_asked, .int u_1.2.1, .int u_1.2.2.1, .int u_1.2.2.2.1, .int u_1.2.2.2.2.1, .int u_1.2.2.2.2.2.1, .ref h_numbers, .ref h_planWord, .ref h_addWord, .ref h_delWord, .ref h_fillWord, v_th_probes, v_th_links, v_th_looks, v_th_found, v_th_isOver])), (h_row, .inl (cyI, 1824, .inl u_1.2.2.2.2.2.2.1)), (h_isKept, .inl (cyZ, 2, .inl isKept)), (h_text, .inl (cyI, 200, .inl text)), (h_numbers, .inl (cyI, 3, .inl u_1.2.2.2.2.2.2.2)), (h_planWord, .inl (cyI, 4, .inl planWord)), (h_addWord, .inl (cyI, 3, .inl addWord)), (h_delWord, .inl (cyI, 3, .inl delWord)), (h_fillWord, .inl (cyI, 4, .inl fillWord))]) [1, 2, 0, 3, 4, 5, 6, 7, 8] (by decide) rfl
    exact hret _ _ _ _ dX7_read_10 hP hD hS

def fX7_isNumber (row : (Nat → Int32)) (x0 : Int32) : Option (Int32) := obd (fX7_top row) fun u_1 => obd (fX7_in x0.toInt64 (0 : Int64) u_1.toInt64) fun u_3 => obl u_3 (some u_3)

set_option maxHeartbeats 4000000 in
set_option maxRecDepth 100000 in
theorem tX7_isNumber (l : Launch) (dC : Nat → ClassId) (dI : Nat → Nat → Nat) (cyI cyJ cyZ cyO : ClassId) (sz : Nat) (h_th h_row : Nat) (v_th_undos : Value) (v_th_isKept : Value) (v_th_text : Value) (v_th_length : Value) (v_th_sizes : Value) (v_th_values : Value) (v_th_asked : Value) (v_th_first : Value) (v_th_behind : Value) (v_th_readBits : Value) (v_th_clauses : Value) (v_th_doing : Value) (v_th_numbers : Value) (v_th_planWord : Value) (v_th_addWord : Value) (v_th_delWord : Value) (v_th_fillWord : Value) (v_th_probes : Value) (v_th_links : Value) (v_th_looks : Value) (v_th_found : Value) (v_th_isOver : Value) (row : (Nat → Int32)) (x0 : Int32) (u : Int32) (hf : fX7_isNumber row x0 = some u) : Met l yX7_isNumber wsX7_isNumber ({ frames := 1, cells := 0, slots := 0, locals := 25 }) (va_Pc [.ref h_th, .int x0] (GP (dC, dI) (T4 cyI cyJ cyZ cyO) sz [(h_th, .inr (7, [.ref h_row, v_th_undos, v_th_isKept, v_th_text, v_th_length, v_th_sizes, v_th_values, v_th_asked, v_th_first, v_th_behind, v_th_readBits, v_th_clauses, v_th_doing, v_th_numbers, v_th_planWord, v_th_addWord, v_th_delWord, v_th_fillWord, v_th_probes, v_th_links, v_th_looks, v_th_found, v_th_isOver])), (h_row, .inl (cyI, 1824, .inl row))])) (va_Qi (fun (r : Int32) (_ : Unit) => r = u) (GB (dC, dI) [(h_th, .inr (7, [.ref h_row, v_th_undos, v_th_isKept, v_th_text, v_th_length, v_th_sizes, v_th_values, v_th_asked, v_th_first, v_th_behind, v_th_readBits, v_th_clauses, v_th_doing, v_th_numbers, v_th_planWord, v_th_addWord, v_th_delWord, v_th_fillWord, v_th_probes, v_th_links, v_th_looks, v_th_found, v_th_isOver])), (h_row, .inl (cyI, 1824, .inl row))] (va_A [(h_th, .inr (7, [.ref h_row, v_th_undos, v_th_isKept, v_th_text, v_th_length, v_th_sizes, v_th_values, v_th_asked, v_th_first, v_th_behind, v_th_readBits, v_th_clauses, v_th_doing, v_th_numbers, v_th_planWord, v_th_addWord, v_th_delWord, v_th_fillWord, v_th_probes, v_th_links, v_th_looks, v_th_found, v_th_isOver])), (h_row, .inl (cyI, 1824, .inl row))] sz)) (va_A [(h_th, .inr (7, [.ref h_row, v_th_undos, v_th_isKept, v_th_text, v_th_length, v_th_sizes, v_th_values, v_th_asked, v_th_first, v_th_behind, v_th_readBits, v_th_clauses, v_th_doing, v_th_numbers, v_th_planWord, v_th_addWord, v_th_delWord, v_th_fillWord, v_th_probes, v_th_links, v_th_looks, v_th_found, v_th_isOver])), (h_row, .inl (cyI, 1824, .inl row))] sz)) 0 0 (va_A [(h_th, .inr (7, [.ref h_row, v_th_undos, v_th_isKept, v_th_text, v_th_length, v_th_sizes, v_th_values, v_th_asked, v_th_first, v_th_behind, v_th_readBits, v_th_clauses, v_th_doing, v_th_numbers, v_th_planWord, v_th_addWord, v_th_delWord, v_th_fillWord, v_th_probes, v_th_links, v_th_looks, v_th_found, v_th_isOver])), (h_row, .inl (cyI, 1824, .inl row))] sz) := by
  refine GMetZ (by decide) rfl (Nat.le_of_ble_eq_true rfl) ?_
  intro p e s m args below meth c A Q ls hx hb hml hts hown hN hK hA hret hP hD hS hl
  have h := hf
  clear hf
  unfold fX7_isNumber at h
  have hown : s.vm.findClass RX7 = some m.cls := hown
  have hl : lv_has ls 2 [(0, .ref h_th), (1, .int x0)] := hl
  refine lv_iload_n hx hb dX7_isNumber_0 rfl (lv_at hl 1 rfl) ?_
  refine lv_i2l (v := x0.toInt64) hx hb dX7_isNumber_1 rfl ?_
  refine lv_lconst (v := 0) hx hb dX7_isNumber_2 (by decide) ?_
  refine lv_aload_n hx hb dX7_isNumber_3 rfl (lv_at hl 0 rfl) ?_
  obtain ⟨u_1, hc_2, h⟩ := obd_e h
  refine Gci (wr := []) (va_runV (As := []) (rest := [.long (0 : Int64), .long x0.toInt64]) ⟨hx, hb, hml, hown, hts⟩ (tX7_top l dC dI cyI cyJ cyZ cyO s.heap.size h_th h_row v_th_undos v_th_isKept v_th_text v_th_length v_th_sizes v_th_values v_th_asked v_th_first v_th_behind v_th_readBits v_th_clauses v_th_doing v_th_numbers v_th_planWord v_th_addWord v_th_delWord v_th_fillWord v_th_probes v_th_links v_th_looks v_th_found v_th_isOver row u_1 hc_2) (cwV 0 hts gX7_isNumber_X7_top rfl rfl rfl (by decide +kernel) ⟨Nat.le_of_ble_eq_true rfl, Nat.le_of_ble_eq_true rfl⟩) (GpreV hP hD hK hN [0, 1] rfl (by decide) 7 0 rfl rfl rfl) rfl rfl hl.1 rfl (lv_room (Nat.le_of_ble_eq_true rfl)) dX7_isNumber_4 ⟨Nat.zero_le _, Nat.zero_le _⟩) hP hD hS hA [0, 1] [] rfl rfl (by decide) (by decide) (fun H locs hP hD hS => ?_)
  have hP : va_P (dC, dI) vwCl [(h_th, .inr (7, [.ref h_row, v_th_undos, v_th_isKept, v_th_text, v_th_length, v_th_sizes, v_th_values, v_th_asked, v_th_first, v_th_behind, v_th_readBits, v_th_clauses, v_th_doing, v_th_numbers, v_th_planWord, v_th_addWord, v_th_delWord, v_th_fillWord, v_th_probes, v_th_links, v_th_looks, v_th_found, v_th_isOver])), (h_row, .inl (cyI, 1824, .inl row))] H := hP
  have hD : va_D A [(h_th, .inr (7, [.ref h_row, v_th_undos, v_th_isKept, v_th_text, v_th_length, v_th_sizes, v_th_values, v_th_asked, v_th_first, v_th_behind, v_th_readBits, v_th_clauses, v_th_doing, v_th_numbers, v_th_planWord, v_th_addWord, v_th_delWord, v_th_fillWord, v_th_probes, v_th_links, v_th_looks, v_th_found, v_th_isOver])), (h_row, .inl (cyI, 1824, .inl row))] := hD
  refine lv_i2l (v := u_1.toInt64) hx hb dX7_isNumber_7 rfl ?_
  obtain ⟨u_3, hc_4, h⟩ := obd_e h
  refine Gci (wr := [(h_th, .inr (7, [.ref h_row, v_th_undos, v_th_isKept, v_th_text, v_th_length, v_th_sizes, v_th_values, v_th_asked, v_th_first, v_th_behind, v_th_readBits, v_th_clauses, v_th_doing, v_th_numbers, v_th_planWord, v_th_addWord, v_th_delWord, v_th_fillWord, v_th_probes, v_th_links, v_th_looks, v_th_found, v_th_isOver])), (h_row, .inl (cyI, 1824, .inl row))]) (va_runS (As := [.long x0.toInt64, .long (0 : Int64), .long u_1.toInt64]) (rest := []) ⟨hx, hb, hml, hown, hts⟩ (tX7_in l dC dI cyI cyJ cyZ cyO H.size x0.toInt64 (0 : Int64) u_1.toInt64 u_3 hc_4) (cwS 3 hts gX7_isNumber_X7_in rfl rfl rfl (by decide +kernel) ⟨Nat.le_of_ble_eq_true rfl, Nat.le_of_ble_eq_true rfl⟩) (GpreS hP hD hK hN [] rfl (by decide)) rfl rfl hl.1 rfl (lv_room (Nat.le_of_ble_eq_true rfl)) dX7_isNumber_8 ⟨Nat.zero_le _, Nat.zero_le _⟩) hP hD hS hA [] [0, 1] rfl rfl (by decide) (by decide) (fun H locs hP hD hS => ?_)
  have hP : va_P (dC, dI) vwCl [(h_th, .inr (7, [.ref h_row, v_th_undos, v_th_isKept, v_th_text, v_th_length, v_th_sizes, v_th_values, v_th_asked, v_th_first, v_th_behind, v_th_readBits, v_th_clauses, v_th_doing, v_th_numbers, v_th_planWord, v_th_addWord, v_th_delWord, v_th_fillWord, v_th_probes, v_th_links, v_th_looks, v_th_found, v_th_isOver])), (h_row, .inl (cyI, 1824, .inl row))] H := hP
  have hD : va_D A [(h_th, .inr (7, [.ref h_row, v_th_undos, v_th_isKept, v_th_text, v_th_length, v_th_sizes, v_th_values, v_th_asked, v_th_first, v_th_behind, v_th_readBits, v_th_clauses, v_th_doing, v_th_numbers, v_th_planWord, v_th_addWord, v_th_delWord, v_th_fillWord, v_th_probes, v_th_links, v_th_looks, v_th_found, v_th_isOver])), (h_row, .inl (cyI, 1824, .inl row))] := hD
  obtain ⟨hz, h⟩ := obl_e h
  obtain rfl := Option.some.inj h
  exact hret _ _ _ _ dX7_isNumber_11 hz hP hD hS

def lpX7_keepPast_2 (undos : Int32) : Nat → Int32 → (Nat → Int32) → Option (Int32 × (Nat → Int32))
  | 0, _, _ => none
  | n + 1, m1, zrow => if (1064 : Int32) ≤ m1 then (some (m1, zrow)) else (if undos = (8 : Int32) then (oin ((304 : Int32) + m1) 1824 (oin ((152 : Int32) + m1) 1824 (lpX7_keepPast_2 undos n (m1 + (1 : Int32)) (upd zrow ((152 : Int32) + m1).toNatClampNeg (zrow ((304 : Int32) + m1).toNatClampNeg))))) else (some (m1, zrow)))

def fX7_keepPast (undos : Int32) (row : (Nat → Int32)) : Option (Int32 × (Nat → Int32)) := obd (lpX7_keepPast_2 undos 100000 (0 : Int32) row) fun w_10 => olet (if undos = (8 : Int32) then ((1 : Int32)) else ((0 : Int32))) fun y_13 => obd (fX7_copyRow w_10.2 (0 : Int32) ((152 : Int32) + ((152 : Int32) * (undos - y_13)))) fun u_14 => some (((undos - y_13) + (1 : Int32)), u_14)

set_option maxHeartbeats 4000000 in
set_option maxRecDepth 100000 in
theorem tX7_keepPast (l : Launch) (dC : Nat → ClassId) (dI : Nat → Nat → Nat) (cyI cyJ cyZ cyO : ClassId) (sz : Nat) (h_th h_row : Nat) (v_th_isKept : Value) (v_th_text : Value) (v_th_length : Value) (v_th_sizes : Value) (v_th_values : Value) (v_th_asked : Value) (v_th_first : Value) (v_th_behind : Value) (v_th_readBits : Value) (v_th_clauses : Value) (v_th_doing : Value) (v_th_numbers : Value) (v_th_planWord : Value) (v_th_addWord : Value) (v_th_delWord : Value) (v_th_fillWord : Value) (v_th_probes : Value) (v_th_links : Value) (v_th_looks : Value) (v_th_found : Value) (v_th_isOver : Value) (undos : Int32) (row : (Nat → Int32)) (u : Int32 × (Nat → Int32)) (hf : fX7_keepPast undos row = some u) : Met l yX7_keepPast wsX7_keepPast ({ frames := 1, cells := 0, slots := 0, locals := 23 }) (va_Pc [.ref h_th] (GP (dC, dI) (T4 cyI cyJ cyZ cyO) sz [(h_th, .inr (7, [.ref h_row, .int undos, v_th_isKept, v_th_text, v_th_length, v_th_sizes, v_th_values, v_th_asked, v_th_first, v_th_behind, v_th_readBits, v_th_clauses, v_th_doing, v_th_numbers, v_th_planWord, v_th_addWord, v_th_delWord, v_th_fillWord, v_th_probes, v_th_links, v_th_looks, v_th_found, v_th_isOver])), (h_row, .inl (cyI, 1824, .inl row))])) (va_Qv (fun (_ : Unit) => True) (GB (dC, dI) [(h_th, .inr (7, [.ref h_row, .int u.1, v_th_isKept, v_th_text, v_th_length, v_th_sizes, v_th_values, v_th_asked, v_th_first, v_th_behind, v_th_readBits, v_th_clauses, v_th_doing, v_th_numbers, v_th_planWord, v_th_addWord, v_th_delWord, v_th_fillWord, v_th_probes, v_th_links, v_th_looks, v_th_found, v_th_isOver])), (h_row, .inl (cyI, 1824, .inl u.2))] (va_A [(h_th, .inr (7, [.ref h_row, .int undos, v_th_isKept, v_th_text, v_th_length, v_th_sizes, v_th_values, v_th_asked, v_th_first, v_th_behind, v_th_readBits, v_th_clauses, v_th_doing, v_th_numbers, v_th_planWord, v_th_addWord, v_th_delWord, v_th_fillWord, v_th_probes, v_th_links, v_th_looks, v_th_found, v_th_isOver])), (h_row, .inl (cyI, 1824, .inl row))] sz)) (va_A [(h_th, .inr (7, [.ref h_row, .int undos, v_th_isKept, v_th_text, v_th_length, v_th_sizes, v_th_values, v_th_asked, v_th_first, v_th_behind, v_th_readBits, v_th_clauses, v_th_doing, v_th_numbers, v_th_planWord, v_th_addWord, v_th_delWord, v_th_fillWord, v_th_probes, v_th_links, v_th_looks, v_th_found, v_th_isOver])), (h_row, .inl (cyI, 1824, .inl row))] sz)) 0 0 (va_A [(h_th, .inr (7, [.ref h_row, .int undos, v_th_isKept, v_th_text, v_th_length, v_th_sizes, v_th_values, v_th_asked, v_th_first, v_th_behind, v_th_readBits, v_th_clauses, v_th_doing, v_th_numbers, v_th_planWord, v_th_addWord, v_th_delWord, v_th_fillWord, v_th_probes, v_th_links, v_th_looks, v_th_found, v_th_isOver])), (h_row, .inl (cyI, 1824, .inl row))] sz) := by
  refine GMetV (by decide) rfl (Nat.le_of_ble_eq_true rfl) ?_
  intro p e s m args below meth c A Q ls hx hb hml hts hown hN hK hA hret hP hD hS hl
  have h := hf
  clear hf
  unfold fX7_keepPast at h
  have hown : s.vm.findClass RX7 = some m.cls := hown
  have hl : lv_has ls 2 [(0, .ref h_th)] := hl
  refine lv_iconst (v := 0) hx hb dX7_keepPast_0 (by decide) ?_
  refine lv_istore_n (lv' := [(1, .int (0 : Int32)), (0, .ref h_th)]) hx hb dX7_keepPast_1 rfl hl (by decide) rfl (fun ls hl => ?_)
  obtain ⟨w_10, hw_11, h⟩ := obd_e h
  have J : ∀ (H : Heap) (locs : List Loc) (ls : Array Slot), va_P (dC, dI) vwCl [(h_th, .inr (7, [.ref h_row, .int undos, v_th_isKept, v_th_text, v_th_length, v_th_sizes, v_th_values, v_th_asked, v_th_first, v_th_behind, v_th_readBits, v_th_clauses, v_th_doing, v_th_numbers, v_th_planWord, v_th_addWord, v_th_delWord, v_th_fillWord, v_th_probes, v_th_links, v_th_looks, v_th_found, v_th_isOver])), (h_row, .inl (cyI, 1824, .inl w_10.2))] H → va_D A [(h_th, .inr (7, [.ref h_row, .int undos, v_th_isKept, v_th_text, v_th_length, v_th_sizes, v_th_values, v_th_asked, v_th_first, v_th_behind, v_th_readBits, v_th_clauses, v_th_doing, v_th_numbers, v_th_planWord, v_th_addWord, v_th_delWord, v_th_fillWord, v_th_probes, v_th_links, v_th_looks, v_th_found, v_th_isOver])), (h_row, .inl (cyI, 1824, .inl w_10.2))] → va_S A s.heap H locs → lv_has ls 2 [(0, .ref h_th)] → W p l e ({ frames := 1, cells := 0, slots := 0, locals := 23 }) s m args below meth c H locs 0 0 Q (F0 m 44 ls []) := by
    intro H locs ls hP hD hS hl
    refine lv_aload_n hx hb dX7_keepPast_44 rfl (lv_at hl 0 rfl) ?_
    refine lv_dup hx hb dX7_keepPast_45 rfl ?_
    refine va_get (D := (dC, dI)) (ci := 7) (v := .int undos) (C := RX7) (T := TX7) (N := 23) hx hb hts (fun _ hw => List.mem_cons_of_mem _ (List.mem_append_right _ hw)) hown hK hP 0 rfl rfl 1 (by decide) (hts (.fieldLink RX7 148 "PrefixIndexModel" "undos" "I") (List.mem_of_getElem? (i := 1) rfl)) (fun _ h9 => h9) rfl dX7_keepPast_46 ?_
    refine lv_aload_n hx hb dX7_keepPast_49 rfl (lv_at hl 0 rfl) ?_
    refine va_get (D := (dC, dI)) (ci := 7) (v := .int undos) (C := RX7) (T := TX7) (N := 23) hx hb hts (fun _ hw => List.mem_cons_of_mem _ (List.mem_append_right _ hw)) hown hK hP 0 rfl rfl 1 (by decide) (hts (.fieldLink RX7 148 "PrefixIndexModel" "undos" "I") (List.mem_of_getElem? (i := 1) rfl)) (fun _ h9 => h9) rfl dX7_keepPast_50 ?_
    refine lv_bipush (v := 8) hx hb dX7_keepPast_53 (by decide) ?_
    obtain ⟨y_13, ey_13, h⟩ := olet_e h
    have J : ∀ (H : Heap) (locs : List Loc) (ls : Array Slot), va_P (dC, dI) vwCl [(h_th, .inr (7, [.ref h_row, .int undos, v_th_isKept, v_th_text, v_th_length, v_th_sizes, v_th_values, v_th_asked, v_th_first, v_th_behind, v_th_readBits, v_th_clauses, v_th_doing, v_th_numbers, v_th_planWord, v_th_addWord, v_th_delWord, v_th_fillWord, v_th_probes, v_th_links, v_th_looks, v_th_found, v_th_isOver])), (h_row, .inl (cyI, 1824, .inl w_10.2))] H → va_D A [(h_th, .inr (7, [.ref h_row, .int undos, v_th_isKept, v_th_text, v_th_length, v_th_sizes, v_th_values, v_th_asked, v_th_first, v_th_behind, v_th_readBits, v_th_clauses, v_th_doing, v_th_numbers, v_th_planWord, v_th_addWord, v_th_delWord, v_th_fillWord, v_th_probes, v_th_links, v_th_looks, v_th_found, v_th_isOver])), (h_row, .inl (cyI, 1824, .inl w_10.2))] → va_S A s.heap H locs → lv_has ls 2 [(0, .ref h_th)] → W p l e ({ frames := 1, cells := 0, slots := 0, locals := 23 }) s m args below meth c H locs 0 0 Q (F0 m 63 ls [.int y_13, .int undos, .ref h_th]) := by
      intro H locs ls hP hD hS hl
      refine lv_isub hx hb dX7_keepPast_63 ?_
      refine va_put (D := (dC, dI)) (ci := 7) (v := .int (undos - y_13)) (ty := .int) (C := RX7) (T := TX7) (N := 23) hx hb hts (fun _ hw => List.mem_cons_of_mem _ (List.mem_append_right _ hw)) tyX7 tyX7_ok nmX7 hown hK hP hD hS 0 rfl rfl 1 (by decide) (hts (.fieldLink RX7 148 "PrefixIndexModel" "undos" "I") (List.mem_of_getElem? (i := 1) rfl)) (fun _ h9 => h9) rfl (by decide +kernel) rfl rfl (Nat.le_of_ble_eq_true rfl) dX7_keepPast_64 (fun H locs hP hD hS => ?_)
      have hP : va_P (dC, dI) vwCl [(h_th, .inr (7, [.ref h_row, .int (undos - y_13), v_th_isKept, v_th_text, v_th_length, v_th_sizes, v_th_values, v_th_asked, v_th_first, v_th_behind, v_th_readBits, v_th_clauses, v_th_doing, v_th_numbers, v_th_planWord, v_th_addWord, v_th_delWord, v_th_fillWord, v_th_probes, v_th_links, v_th_looks, v_th_found, v_th_isOver])), (h_row, .inl (cyI, 1824, .inl w_10.2))] H := hP
      have hD : va_D A [(h_th, .inr (7, [.ref h_row, .int (undos - y_13), v_th_isKept, v_th_text, v_th_length, v_th_sizes, v_th_values, v_th_asked, v_th_first, v_th_behind, v_th_readBits, v_th_clauses, v_th_doing, v_th_numbers, v_th_planWord, v_th_addWord, v_th_delWord, v_th_fillWord, v_th_probes, v_th_links, v_th_looks, v_th_found, v_th_isOver])), (h_row, .inl (cyI, 1824, .inl w_10.2))] := hD
      refine lv_aload_n hx hb dX7_keepPast_67 rfl (lv_at hl 0 rfl) ?_
      refine lv_iconst (v := 0) hx hb dX7_keepPast_68 (by decide) ?_
      refine lv_sipush (v := 152) hx hb dX7_keepPast_69 (by decide) ?_
      refine lv_sipush (v := 152) hx hb dX7_keepPast_72 (by decide) ?_
      refine lv_aload_n hx hb dX7_keepPast_75 rfl (lv_at hl 0 rfl) ?_
      refine va_get (D := (dC, dI)) (ci := 7) (v := .int (undos - y_13)) (C := RX7) (T := TX7) (N := 23) hx hb hts (fun _ hw => List.mem_cons_of_mem _ (List.mem_append_right _ hw)) hown hK hP 0 rfl rfl 1 (by decide) (hts (.fieldLink RX7 148 "PrefixIndexModel" "undos" "I") (List.mem_of_getElem? (i := 1) rfl)) (fun _ h9 => h9) rfl dX7_keepPast_76 ?_
      refine lv_imul hx hb dX7_keepPast_79 ?_
      refine lv_iadd hx hb dX7_keepPast_80 ?_
      obtain ⟨u_14, hc_15, h⟩ := obd_e h
      refine Gcv (wr := []) (va_runV (As := [.int (0 : Int32), .int ((152 : Int32) + ((152 : Int32) * (undos - y_13)))]) (rest := []) ⟨hx, hb, hml, hown, hts⟩ (tX7_copyRow l dC dI cyI cyJ cyZ cyO H.size h_th h_row (.int (undos - y_13)) v_th_isKept v_th_text v_th_length v_th_sizes v_th_values v_th_asked v_th_first v_th_behind v_th_readBits v_th_clauses v_th_doing v_th_numbers v_th_planWord v_th_addWord v_th_delWord v_th_fillWord v_th_probes v_th_links v_th_looks v_th_found v_th_isOver w_10.2 (0 : Int32) ((152 : Int32) + ((152 : Int32) * (undos - y_13))) u_14 hc_15) (cwV 2 hts gX7_keepPast_X7_copyRow rfl rfl rfl (by decide +kernel) ⟨Nat.le_of_ble_eq_true rfl, Nat.le_of_ble_eq_true rfl⟩) (GpreV hP hD hK hN [0, 1] rfl (by decide) 7 0 rfl rfl rfl) rfl rfl hl.1 rfl (lv_room (Nat.le_of_ble_eq_true rfl)) dX7_keepPast_81 ⟨Nat.zero_le _, Nat.zero_le _⟩) hP hD hS hA [0, 1] [] rfl rfl (by decide) (by decide) (fun H locs hP hD hS => ?_)
      have hP : va_P (dC, dI) vwCl [(h_th, .inr (7, [.ref h_row, .int (undos - y_13), v_th_isKept, v_th_text, v_th_length, v_th_sizes, v_th_values, v_th_asked, v_th_first, v_th_behind, v_th_readBits, v_th_clauses, v_th_doing, v_th_numbers, v_th_planWord, v_th_addWord, v_th_delWord, v_th_fillWord, v_th_probes, v_th_links, v_th_looks, v_th_found, v_th_isOver])), (h_row, .inl (cyI, 1824, .inl u_14))] H := hP
      have hD : va_D A [(h_th, .inr (7, [.ref h_row, .int (undos - y_13), v_th_isKept, v_th_text, v_th_length, v_th_sizes, v_th_values, v_th_asked, v_th_first, v_th_behind, v_th_readBits, v_th_clauses, v_th_doing, v_th_numbers, v_th_planWord, v_th_addWord, v_th_delWord, v_th_fillWord, v_th_probes, v_th_links, v_th_looks, v_th_found, v_th_isOver])), (h_row, .inl (cyI, 1824, .inl u_14))] := hD
      refine lv_aload_n hx hb dX7_keepPast_84 rfl (lv_at hl 0 rfl) ?_
      refine lv_dup hx hb dX7_keepPast_85 rfl ?_
      refine va_get (D := (dC, dI)) (ci := 7) (v := .int (undos - y_13)) (C := RX7) (T := TX7) (N := 23) hx hb hts (fun _ hw => List.mem_cons_of_mem _ (List.mem_append_right _ hw)) hown hK hP 0 rfl rfl 1 (by decide) (hts (.fieldLink RX7 148 "PrefixIndexModel" "undos" "I") (List.mem_of_getElem? (i := 1) rfl)) (fun _ h9 => h9) rfl dX7_keepPast_86 ?_
      refine lv_iconst (v := 1) hx hb dX7_keepPast_89 (by decide) ?_
      refine lv_iadd hx hb dX7_keepPast_90 ?_
      refine va_put (D := (dC, dI)) (ci := 7) (v := .int ((undos - y_13) + (1 : Int32))) (ty := .int) (C := RX7) (T := TX7) (N := 23) hx hb hts (fun _ hw => List.mem_cons_of_mem _ (List.mem_append_right _ hw)) tyX7 tyX7_ok nmX7 hown hK hP hD hS 0 rfl rfl 1 (by decide) (hts (.fieldLink RX7 148 "PrefixIndexModel" "undos" "I") (List.mem_of_getElem? (i := 1) rfl)) (fun _ h9 => h9) rfl (by decide +kernel) rfl rfl (Nat.le_of_ble_eq_true rfl) dX7_keepPast_91 (fun H locs hP hD hS => ?_)
      have hP : va_P (dC, dI) vwCl [(h_th, .inr (7, [.ref h_row, .int ((undos - y_13) + (1 : Int32)), v_th_isKept, v_th_text, v_th_length, v_th_sizes, v_th_values, v_th_asked, v_th_first, v_th_behind, v_th_readBits, v_th_clauses, v_th_doing, v_th_numbers, v_th_planWord, v_th_addWord, v_th_delWord, v_th_fillWord, v_th_probes, v_th_links, v_th_looks, v_th_found, v_th_isOver])), (h_row, .inl (cyI, 1824, .inl u_14))] H := hP
      have hD : va_D A [(h_th, .inr (7, [.ref h_row, .int ((undos - y_13) + (1 : Int32)), v_th_isKept, v_th_text, v_th_length, v_th_sizes, v_th_values, v_th_asked, v_th_first, v_th_behind, v_th_readBits, v_th_clauses, v_th_doing, v_th_numbers, v_th_planWord, v_th_addWord, v_th_delWord, v_th_fillWord, v_th_probes, v_th_links, v_th_looks, v_th_found, v_th_isOver])), (h_row, .inl (cyI, 1824, .inl u_14))] := hD
      obtain rfl := Option.some.inj h
      exact hret _ _ _ _ dX7_keepPast_94 hP hD hS
    clear h
    refine lv_icmp_ne (tgt := 62) hx hb dX7_keepPast_55 (by decide) (fun c_12 => ?_) (fun c_12 => ?_)
    · refine lv_iconst (v := 0) hx hb dX7_keepPast_62 (by decide) ?_
      rw [if_neg c_12] at ey_13
      subst ey_13
      exact J H locs _ hP hD hS hl
    · refine lv_iconst (v := 1) hx hb dX7_keepPast_58 (by decide) ?_
      refine lv_goto (tgt := 63) hx hb dX7_keepPast_59 (by decide) ?_
      rw [if_pos c_12] at ey_13
      subst ey_13
      exact J H locs _ hP hD hS hl
  have LL : ∀ (n : Nat) (m1 : Int32) (zrow : (Nat → Int32)) (H : Heap) (locs : List Loc) (ls : Array Slot), lpX7_keepPast_2 undos n m1 zrow = some w_10 → va_P (dC, dI) vwCl [(h_th, .inr (7, [.ref h_row, .int undos, v_th_isKept, v_th_text, v_th_length, v_th_sizes, v_th_values, v_th_asked, v_th_first, v_th_behind, v_th_readBits, v_th_clauses, v_th_doing, v_th_numbers, v_th_planWord, v_th_addWord, v_th_delWord, v_th_fillWord, v_th_probes, v_th_links, v_th_looks, v_th_found, v_th_isOver])), (h_row, .inl (cyI, 1824, .inl zrow))] H → va_D A [(h_th, .inr (7, [.ref h_row, .int undos, v_th_isKept, v_th_text, v_th_length, v_th_sizes, v_th_values, v_th_asked, v_th_first, v_th_behind, v_th_readBits, v_th_clauses, v_th_doing, v_th_numbers, v_th_planWord, v_th_addWord, v_th_delWord, v_th_fillWord, v_th_probes, v_th_links, v_th_looks, v_th_found, v_th_isOver])), (h_row, .inl (cyI, 1824, .inl zrow))] → va_S A s.heap H locs → lv_has ls 2 [(0, .ref h_th), (1, .int m1)] → W p l e ({ frames := 1, cells := 0, slots := 0, locals := 23 }) s m args below meth c H locs 0 0 Q (F0 m 2 ls []) := by
    intro n
    induction n with
    | zero =>
      intro m1 zrow H locs ls h
      exact absurd h (by rw [lpX7_keepPast_2]; exact fun q => by cases q)
    | succ n ih =>
      intro m1 zrow H locs ls h hP hD hS hl
      rw [lpX7_keepPast_2] at h
      refine lv_iload_n hx hb dX7_keepPast_2 rfl (lv_at hl 1 rfl) ?_
      refine lv_sipush (v := 1064) hx hb dX7_keepPast_3 (by decide) ?_
      refine lv_icmp_ge (tgt := 44) hx hb dX7_keepPast_6 (by decide) (fun c_6 => ?_) (fun c_6 => ?_)
      · have h := og_ite_t c_6 h
        obtain rfl := Option.some.inj h
        exact J _ _ _ hP hD hS (lv_sub hl [0] rfl)
      · have h := og_ite_f c_6 h
        refine lv_aload_n hx hb dX7_keepPast_9 rfl (lv_at hl 0 rfl) ?_
        refine va_get (D := (dC, dI)) (ci := 7) (v := .int undos) (C := RX7) (T := TX7) (N := 23) hx hb hts (fun _ hw => List.mem_cons_of_mem _ (List.mem_append_right _ hw)) hown hK hP 0 rfl rfl 1 (by decide) (hts (.fieldLink RX7 148 "PrefixIndexModel" "undos" "I") (List.mem_of_getElem? (i := 1) rfl)) (fun _ h9 => h9) rfl dX7_keepPast_10 ?_
        refine lv_bipush (v := 8) hx hb dX7_keepPast_13 (by decide) ?_
        refine lv_icmp_ne (tgt := 44) hx hb dX7_keepPast_15 (by decide) (fun c_7 => ?_) (fun c_7 => ?_)
        · have h := og_ite_f c_7 h
          obtain rfl := Option.some.inj h
          exact J _ _ _ hP hD hS (lv_sub hl [0] rfl)
        · have h := og_ite_t c_7 h
          refine lv_aload_n hx hb dX7_keepPast_18 rfl (lv_at hl 0 rfl) ?_
          refine va_get (D := (dC, dI)) (ci := 7) (v := .ref h_row) (C := RX7) (T := TX7) (N := 23) hx hb hts (fun _ hw => List.mem_cons_of_mem _ (List.mem_append_right _ hw)) hown hK hP 0 rfl rfl 0 (by decide) (hts (.fieldLink RX7 7 "PrefixIndexModel" "row" "[I") (List.mem_of_getElem? (i := 2) rfl)) (fun _ h9 => h9) rfl dX7_keepPast_19 ?_
          refine lv_sipush (v := 152) hx hb dX7_keepPast_22 (by decide) ?_
          refine lv_iload_n hx hb dX7_keepPast_25 rfl (lv_at hl 1 rfl) ?_
          refine lv_iadd hx hb dX7_keepPast_26 ?_
          refine lv_aload_n hx hb dX7_keepPast_27 rfl (lv_at hl 0 rfl) ?_
          refine va_get (D := (dC, dI)) (ci := 7) (v := .ref h_row) (C := RX7) (T := TX7) (N := 23) hx hb hts (fun _ hw => List.mem_cons_of_mem _ (List.mem_append_right _ hw)) hown hK hP 0 rfl rfl 0 (by decide) (hts (.fieldLink RX7 7 "PrefixIndexModel" "row" "[I") (List.mem_of_getElem? (i := 2) rfl)) (fun _ h9 => h9) rfl dX7_keepPast_28 ?_
          refine lv_sipush (v := 304) hx hb dX7_keepPast_31 (by decide) ?_
          refine lv_iload_n hx hb dX7_keepPast_34 rfl (lv_at hl 1 rfl) ?_
          refine lv_iadd hx hb dX7_keepPast_35 ?_
          obtain ⟨hi_8, h⟩ := oin_e h
          refine va_iald hx hb hK hP 1 0 rfl rfl hi_8 dX7_keepPast_36 ?_
          obtain ⟨hi_9, h⟩ := oin_e h
          refine va_iast hx hb hK hP hD hS 1 0 rfl rfl hi_9 dX7_keepPast_37 (fun H locs hP hD hS => ?_)
          have hP : va_P (dC, dI) vwCl [(h_th, .inr (7, [.ref h_row, .int undos, v_th_isKept, v_th_text, v_th_length, v_th_sizes, v_th_values, v_th_asked, v_th_first, v_th_behind, v_th_readBits, v_th_clauses, v_th_doing, v_th_numbers, v_th_planWord, v_th_addWord, v_th_delWord, v_th_fillWord, v_th_probes, v_th_links, v_th_looks, v_th_found, v_th_isOver])), (h_row, .inl (cyI, 1824, .inl (upd zrow ((152 : Int32) + m1).toNatClampNeg (zrow ((304 : Int32) + m1).toNatClampNeg))))] H := hP
          have hD : va_D A [(h_th, .inr (7, [.ref h_row, .int undos, v_th_isKept, v_th_text, v_th_length, v_th_sizes, v_th_values, v_th_asked, v_th_first, v_th_behind, v_th_readBits, v_th_clauses, v_th_doing, v_th_numbers, v_th_planWord, v_th_addWord, v_th_delWord, v_th_fillWord, v_th_probes, v_th_links, v_th_looks, v_th_found, v_th_isOver])), (h_row, .inl (cyI, 1824, .inl (upd zrow ((152 : Int32) + m1).toNatClampNeg (zrow ((304 : Int32) + m1).toNatClampNeg))))] := hD
          refine lv_iinc (v := m1 + (1 : Int32)) (lv' := [(1, .int (m1 + (1 : Int32))), (0, .ref h_th)]) hx hb dX7_keepPast_38 hl (k := 1) rfl rfl (by decide) rfl (fun ls hl => ?_)
          refine lv_goto (tgt := 2) hx hb dX7_keepPast_41 (by decide) ?_
          exact ih (m1 + (1 : Int32)) (upd zrow ((152 : Int32) + m1).toNatClampNeg (zrow ((304 : Int32) + m1).toNatClampNeg)) _ _ _ h hP hD hS (lv_sub hl [1, 0] rfl)
  exact LL _ (0 : Int32) row _ _ _ hw_11 hP hD hS (lv_sub hl [1, 0] rfl)

def fX7_add (undos : Int32) (row : (Nat → Int32)) (x0 : Int32) : Option (Int32 × Int32 × (Nat → Int32)) := obd (fX7_isNumber row x0) fun u_1 => if u_1 = 0 then (some ((-3 : Int32), undos, row)) else (obd (fX7_isKey row (0 : Int32) x0) fun u_4 => if u_4 = 0 then (oin (2 : Int32) 1824 (if (row (2 : Int32).toNatClampNeg) = (96 : Int32) then (some ((-5 : Int32), undos, row)) else (obd (fX7_keepPast undos row) fun u_9 => obd (fX7_putIn u_9.2 (0 : Int32) x0) fun u_11 => oin (2 : Int32) 1824 (some ((u_11 (2 : Int32).toNatClampNeg), u_9.1, u_11))))) else (some ((-4 : Int32), undos, row)))

set_option maxHeartbeats 4000000 in
set_option maxRecDepth 100000 in
theorem tX7_add (l : Launch) (dC : Nat → ClassId) (dI : Nat → Nat → Nat) (cyI cyJ cyZ cyO : ClassId) (sz : Nat) (h_th h_row : Nat) (v_th_isKept : Value) (v_th_text : Value) (v_th_length : Value) (v_th_sizes : Value) (v_th_values : Value) (v_th_asked : Value) (v_th_first : Value) (v_th_behind : Value) (v_th_readBits : Value) (v_th_clauses : Value) (v_th_doing : Value) (v_th_numbers : Value) (v_th_planWord : Value) (v_th_addWord : Value) (v_th_delWord : Value) (v_th_fillWord : Value) (v_th_probes : Value) (v_th_links : Value) (v_th_looks : Value) (v_th_found : Value) (v_th_isOver : Value) (undos : Int32) (row : (Nat → Int32)) (x0 : Int32) (u : Int32 × Int32 × (Nat → Int32)) (hf : fX7_add undos row x0 = some u) : Met l yX7_add wsX7_add ({ frames := 5, cells := 0, slots := 0, locals := 115 }) (va_Pc [.ref h_th, .int x0] (GP (dC, dI) (T4 cyI cyJ cyZ cyO) sz [(h_th, .inr (7, [.ref h_row, .int undos, v_th_isKept, v_th_text, v_th_length, v_th_sizes, v_th_values, v_th_asked, v_th_first, v_th_behind, v_th_readBits, v_th_clauses, v_th_doing, v_th_numbers, v_th_planWord, v_th_addWord, v_th_delWord, v_th_fillWord, v_th_probes, v_th_links, v_th_looks, v_th_found, v_th_isOver])), (h_row, .inl (cyI, 1824, .inl row))])) (va_Qi (fun (r : Int32) (_ : Unit) => r = u.1) (GB (dC, dI) [(h_th, .inr (7, [.ref h_row, .int u.2.1, v_th_isKept, v_th_text, v_th_length, v_th_sizes, v_th_values, v_th_asked, v_th_first, v_th_behind, v_th_readBits, v_th_clauses, v_th_doing, v_th_numbers, v_th_planWord, v_th_addWord, v_th_delWord, v_th_fillWord, v_th_probes, v_th_links, v_th_looks, v_th_found, v_th_isOver])), (h_row, .inl (cyI, 1824, .inl u.2.2))] (va_A [(h_th, .inr (7, [.ref h_row, .int undos, v_th_isKept, v_th_text, v_th_length, v_th_sizes, v_th_values, v_th_asked, v_th_first, v_th_behind, v_th_readBits, v_th_clauses, v_th_doing, v_th_numbers, v_th_planWord, v_th_addWord, v_th_delWord, v_th_fillWord, v_th_probes, v_th_links, v_th_looks, v_th_found, v_th_isOver])), (h_row, .inl (cyI, 1824, .inl row))] sz)) (va_A [(h_th, .inr (7, [.ref h_row, .int undos, v_th_isKept, v_th_text, v_th_length, v_th_sizes, v_th_values, v_th_asked, v_th_first, v_th_behind, v_th_readBits, v_th_clauses, v_th_doing, v_th_numbers, v_th_planWord, v_th_addWord, v_th_delWord, v_th_fillWord, v_th_probes, v_th_links, v_th_looks, v_th_found, v_th_isOver])), (h_row, .inl (cyI, 1824, .inl row))] sz)) 0 0 (va_A [(h_th, .inr (7, [.ref h_row, .int undos, v_th_isKept, v_th_text, v_th_length, v_th_sizes, v_th_values, v_th_asked, v_th_first, v_th_behind, v_th_readBits, v_th_clauses, v_th_doing, v_th_numbers, v_th_planWord, v_th_addWord, v_th_delWord, v_th_fillWord, v_th_probes, v_th_links, v_th_looks, v_th_found, v_th_isOver])), (h_row, .inl (cyI, 1824, .inl row))] sz) := by
  refine GMetI (by decide) rfl (Nat.le_of_ble_eq_true rfl) ?_
  intro p e s m args below meth c A Q ls hx hb hml hts hown hN hK hA hret hP hD hS hl
  have h := hf
  clear hf
  unfold fX7_add at h
  have hown : s.vm.findClass RX7 = some m.cls := hown
  have hl : lv_has ls 2 [(0, .ref h_th), (1, .int x0)] := hl
  refine lv_aload_n hx hb dX7_add_0 rfl (lv_at hl 0 rfl) ?_
  refine lv_iload_n hx hb dX7_add_1 rfl (lv_at hl 1 rfl) ?_
  obtain ⟨u_1, hc_2, h⟩ := obd_e h
  refine Gci (wr := []) (va_runV (As := [.int x0]) (rest := []) ⟨hx, hb, hml, hown, hts⟩ (tX7_isNumber l dC dI cyI cyJ cyZ cyO s.heap.size h_th h_row (.int undos) v_th_isKept v_th_text v_th_length v_th_sizes v_th_values v_th_asked v_th_first v_th_behind v_th_readBits v_th_clauses v_th_doing v_th_numbers v_th_planWord v_th_addWord v_th_delWord v_th_fillWord v_th_probes v_th_links v_th_looks v_th_found v_th_isOver row x0 u_1 hc_2) (cwV 1 hts gX7_add_X7_isNumber rfl rfl rfl (by decide +kernel) ⟨Nat.le_of_ble_eq_true rfl, Nat.le_of_ble_eq_true rfl⟩) (GpreV hP hD hK hN [0, 1] rfl (by decide) 7 0 rfl rfl rfl) rfl rfl hl.1 rfl (lv_room (Nat.le_of_ble_eq_true rfl)) dX7_add_2 ⟨Nat.zero_le _, Nat.zero_le _⟩) hP hD hS hA [0, 1] [] rfl rfl (by decide) (by decide) (fun H locs hP hD hS => ?_)
  have hP : va_P (dC, dI) vwCl [(h_th, .inr (7, [.ref h_row, .int undos, v_th_isKept, v_th_text, v_th_length, v_th_sizes, v_th_values, v_th_asked, v_th_first, v_th_behind, v_th_readBits, v_th_clauses, v_th_doing, v_th_numbers, v_th_planWord, v_th_addWord, v_th_delWord, v_th_fillWord, v_th_probes, v_th_links, v_th_looks, v_th_found, v_th_isOver])), (h_row, .inl (cyI, 1824, .inl row))] H := hP
  have hD : va_D A [(h_th, .inr (7, [.ref h_row, .int undos, v_th_isKept, v_th_text, v_th_length, v_th_sizes, v_th_values, v_th_asked, v_th_first, v_th_behind, v_th_readBits, v_th_clauses, v_th_doing, v_th_numbers, v_th_planWord, v_th_addWord, v_th_delWord, v_th_fillWord, v_th_probes, v_th_links, v_th_looks, v_th_found, v_th_isOver])), (h_row, .inl (cyI, 1824, .inl row))] := hD
  refine lv_if_ne (tgt := 11) hx hb dX7_add_5 (by decide) (fun c_3 => ?_) (fun c_3 => ?_)
  · have h := og_ite_f c_3 h
    refine lv_aload_n hx hb dX7_add_11 rfl (lv_at hl 0 rfl) ?_
    refine lv_iconst (v := 0) hx hb dX7_add_12 (by decide) ?_
    refine lv_iload_n hx hb dX7_add_13 rfl (lv_at hl 1 rfl) ?_
    obtain ⟨u_4, hc_5, h⟩ := obd_e h
    refine Gci (wr := []) (va_runV (As := [.int (0 : Int32), .int x0]) (rest := []) ⟨hx, hb, hml, hown, hts⟩ (tX7_isKey l dC dI cyI cyJ cyZ cyO H.size h_th h_row (.int undos) v_th_isKept v_th_text v_th_length v_th_sizes v_th_values v_th_asked v_th_first v_th_behind v_th_readBits v_th_clauses v_th_doing v_th_numbers v_th_planWord v_th_addWord v_th_delWord v_th_fillWord v_th_probes v_th_links v_th_looks v_th_found v_th_isOver row (0 : Int32) x0 u_4 hc_5) (cwV 2 hts gX7_add_X7_isKey rfl rfl rfl (by decide +kernel) ⟨Nat.le_of_ble_eq_true rfl, Nat.le_of_ble_eq_true rfl⟩) (GpreV hP hD hK hN [0, 1] rfl (by decide) 7 0 rfl rfl rfl) rfl rfl hl.1 rfl (lv_room (Nat.le_of_ble_eq_true rfl)) dX7_add_14 ⟨Nat.zero_le _, Nat.zero_le _⟩) hP hD hS hA [0, 1] [] rfl rfl (by decide) (by decide) (fun H locs hP hD hS => ?_)
    have hP : va_P (dC, dI) vwCl [(h_th, .inr (7, [.ref h_row, .int undos, v_th_isKept, v_th_text, v_th_length, v_th_sizes, v_th_values, v_th_asked, v_th_first, v_th_behind, v_th_readBits, v_th_clauses, v_th_doing, v_th_numbers, v_th_planWord, v_th_addWord, v_th_delWord, v_th_fillWord, v_th_probes, v_th_links, v_th_looks, v_th_found, v_th_isOver])), (h_row, .inl (cyI, 1824, .inl row))] H := hP
    have hD : va_D A [(h_th, .inr (7, [.ref h_row, .int undos, v_th_isKept, v_th_text, v_th_length, v_th_sizes, v_th_values, v_th_asked, v_th_first, v_th_behind, v_th_readBits, v_th_clauses, v_th_doing, v_th_numbers, v_th_planWord, v_th_addWord, v_th_delWord, v_th_fillWord, v_th_probes, v_th_links, v_th_looks, v_th_found, v_th_isOver])), (h_row, .inl (cyI, 1824, .inl row))] := hD
    refine lv_if_eq (tgt := 23) hx hb dX7_add_17 (by decide) (fun c_6 => ?_) (fun c_6 => ?_)
    · have h := og_ite_t c_6 h
      refine lv_aload_n hx hb dX7_add_23 rfl (lv_at hl 0 rfl) ?_
      refine va_get (D := (dC, dI)) (ci := 7) (v := .ref h_row) (C := RX7) (T := TX7) (N := 23) hx hb hts (fun _ hw => List.mem_cons_of_mem _ (List.mem_append_right _ hw)) hown hK hP 0 rfl rfl 0 (by decide) (hts (.fieldLink RX7 7 "PrefixIndexModel" "row" "[I") (List.mem_of_getElem? (i := 1) rfl)) (fun _ h9 => h9) rfl dX7_add_24 ?_
      refine lv_iconst (v := 2) hx hb dX7_add_27 (by decide) ?_
      obtain ⟨hi_7, h⟩ := oin_e h
      refine va_iald hx hb hK hP 1 0 rfl rfl hi_7 dX7_add_28 ?_
      refine lv_bipush (v := 96) hx hb dX7_add_29 (by decide) ?_
      refine lv_icmp_ne (tgt := 37) hx hb dX7_add_31 (by decide) (fun c_8 => ?_) (fun c_8 => ?_)
      · have h := og_ite_f c_8 h
        refine lv_aload_n hx hb dX7_add_37 rfl (lv_at hl 0 rfl) ?_
        obtain ⟨u_9, hc_10, h⟩ := obd_e h
        refine Gcv (wr := []) (va_runV (As := []) (rest := []) ⟨hx, hb, hml, hown, hts⟩ (tX7_keepPast l dC dI cyI cyJ cyZ cyO H.size h_th h_row v_th_isKept v_th_text v_th_length v_th_sizes v_th_values v_th_asked v_th_first v_th_behind v_th_readBits v_th_clauses v_th_doing v_th_numbers v_th_planWord v_th_addWord v_th_delWord v_th_fillWord v_th_probes v_th_links v_th_looks v_th_found v_th_isOver undos row u_9 hc_10) (cwV 0 hts gX7_add_X7_keepPast rfl rfl rfl (by decide +kernel) ⟨Nat.le_of_ble_eq_true rfl, Nat.le_of_ble_eq_true rfl⟩) (GpreV hP hD hK hN [0, 1] rfl (by decide) 7 0 rfl rfl rfl) rfl rfl hl.1 rfl (lv_room (Nat.le_of_ble_eq_true rfl)) dX7_add_38 ⟨Nat.zero_le _, Nat.zero_le _⟩) hP hD hS hA [0, 1] [] rfl rfl (by decide) (by decide) (fun H locs hP hD hS => ?_)
        have hP : va_P (dC, dI) vwCl [(h_th, .inr (7, [.ref h_row, .int u_9.1, v_th_isKept, v_th_text, v_th_length, v_th_sizes, v_th_values, v_th_asked, v_th_first, v_th_behind, v_th_readBits, v_th_clauses, v_th_doing, v_th_numbers, v_th_planWord, v_th_addWord, v_th_delWord, v_th_fillWord, v_th_probes, v_th_links, v_th_looks, v_th_found, v_th_isOver])), (h_row, .inl (cyI, 1824, .inl u_9.2))] H := hP
        have hD : va_D A [(h_th, .inr (7, [.ref h_row, .int u_9.1, v_th_isKept, v_th_text, v_th_length, v_th_sizes, v_th_values, v_th_asked, v_th_first, v_th_behind, v_th_readBits, v_th_clauses, v_th_doing, v_th_numbers, v_th_planWord, v_th_addWord, v_th_delWord, v_th_fillWord, v_th_probes, v_th_links, v_th_looks, v_th_found, v_th_isOver])), (h_row, .inl (cyI, 1824, .inl u_9.2))] := hD
        refine lv_aload_n hx hb dX7_add_41 rfl (lv_at hl 0 rfl) ?_
        refine lv_iconst (v := 0) hx hb dX7_add_42 (by decide) ?_
        refine lv_iload_n hx hb dX7_add_43 rfl (lv_at hl 1 rfl) ?_
        obtain ⟨u_11, hc_12, h⟩ := obd_e h
        refine Gcv (wr := []) (va_runV (As := [.int (0 : Int32), .int x0]) (rest := []) ⟨hx, hb, hml, hown, hts⟩ (tX7_putIn l dC dI cyI cyJ cyZ cyO H.size h_th h_row (.int u_9.1) v_th_isKept v_th_text v_th_length v_th_sizes v_th_values v_th_asked v_th_first v_th_behind v_th_readBits v_th_clauses v_th_doing v_th_numbers v_th_planWord v_th_addWord v_th_delWord v_th_fillWord v_th_probes v_th_links v_th_looks v_th_found v_th_isOver u_9.2 (0 : Int32) x0 u_11 hc_12) (cwV 2 hts gX7_add_X7_putIn rfl rfl rfl (by decide +kernel) ⟨Nat.le_of_ble_eq_true rfl, Nat.le_of_ble_eq_true rfl⟩) (GpreV hP hD hK hN [0, 1] rfl (by decide) 7 0 rfl rfl rfl) rfl rfl hl.1 rfl (lv_room (Nat.le_of_ble_eq_true rfl)) dX7_add_44 ⟨Nat.zero_le _, Nat.zero_le _⟩) hP hD hS hA [0, 1] [] rfl rfl (by decide) (by decide) (fun H locs hP hD hS => ?_)
        have hP : va_P (dC, dI) vwCl [(h_th, .inr (7, [.ref h_row, .int u_9.1, v_th_isKept, v_th_text, v_th_length, v_th_sizes, v_th_values, v_th_asked, v_th_first, v_th_behind, v_th_readBits, v_th_clauses, v_th_doing, v_th_numbers, v_th_planWord, v_th_addWord, v_th_delWord, v_th_fillWord, v_th_probes, v_th_links, v_th_looks, v_th_found, v_th_isOver])), (h_row, .inl (cyI, 1824, .inl u_11))] H := hP
        have hD : va_D A [(h_th, .inr (7, [.ref h_row, .int u_9.1, v_th_isKept, v_th_text, v_th_length, v_th_sizes, v_th_values, v_th_asked, v_th_first, v_th_behind, v_th_readBits, v_th_clauses, v_th_doing, v_th_numbers, v_th_planWord, v_th_addWord, v_th_delWord, v_th_fillWord, v_th_probes, v_th_links, v_th_looks, v_th_found, v_th_isOver])), (h_row, .inl (cyI, 1824, .inl u_11))] := hD
        refine lv_aload_n hx hb dX7_add_47 rfl (lv_at hl 0 rfl) ?_
        refine va_get (D := (dC, dI)) (ci := 7) (v := .ref h_row) (C := RX7) (T := TX7) (N := 23) hx hb hts (fun _ hw => List.mem_cons_of_mem _ (List.mem_append_right _ hw)) hown hK hP 0 rfl rfl 0 (by decide) (hts (.fieldLink RX7 7 "PrefixIndexModel" "row" "[I") (List.mem_of_getElem? (i := 1) rfl)) (fun _ h9 => h9) rfl dX7_add_48 ?_
        refine lv_iconst (v := 2) hx hb dX7_add_51 (by decide) ?_
        obtain ⟨hi_13, h⟩ := oin_e h
        refine va_iald hx hb hK hP 1 0 rfl rfl hi_13 dX7_add_52 ?_
        obtain rfl := Option.some.inj h
        exact hret _ _ _ _ dX7_add_53 hP hD hS
      · have h := og_ite_t c_8 h
        refine lv_bipush (v := (-5)) hx hb dX7_add_34 (by decide) ?_
        obtain rfl := Option.some.inj h
        exact hret _ _ _ _ dX7_add_36 hP hD hS
    · have h := og_ite_f c_6 h
      refine lv_bipush (v := (-4)) hx hb dX7_add_20 (by decide) ?_
      obtain rfl := Option.some.inj h
      exact hret _ _ _ _ dX7_add_22 hP hD hS
  · have h := og_ite_t c_3 h
    refine lv_bipush (v := (-3)) hx hb dX7_add_8 (by decide) ?_
    obtain rfl := Option.some.inj h
    exact hret _ _ _ _ dX7_add_10 hP hD hS

def fX7_remove (undos : Int32) (row : (Nat → Int32)) (x0 : Int32) : Option (Int32 × Int32 × (Nat → Int32)) := obd (fX7_isNumber row x0) fun u_1 => if u_1 = 0 then (some ((-3 : Int32), undos, row)) else (obd (fX7_isKey row (0 : Int32) x0) fun u_4 => if u_4 = 0 then (some ((-4 : Int32), undos, row)) else (obd (fX7_keepPast undos row) fun u_7 => obd (fX7_takeOut u_7.2 (0 : Int32) x0) fun u_9 => oin (2 : Int32) 1824 (some ((u_9 (2 : Int32).toNatClampNeg), u_7.1, u_9))))

set_option maxHeartbeats 4000000 in
set_option maxRecDepth 100000 in
theorem tX7_remove (l : Launch) (dC : Nat → ClassId) (dI : Nat → Nat → Nat) (cyI cyJ cyZ cyO : ClassId) (sz : Nat) (h_th h_row : Nat) (v_th_isKept : Value) (v_th_text : Value) (v_th_length : Value) (v_th_sizes : Value) (v_th_values : Value) (v_th_asked : Value) (v_th_first : Value) (v_th_behind : Value) (v_th_readBits : Value) (v_th_clauses : Value) (v_th_doing : Value) (v_th_numbers : Value) (v_th_planWord : Value) (v_th_addWord : Value) (v_th_delWord : Value) (v_th_fillWord : Value) (v_th_probes : Value) (v_th_links : Value) (v_th_looks : Value) (v_th_found : Value) (v_th_isOver : Value) (undos : Int32) (row : (Nat → Int32)) (x0 : Int32) (u : Int32 × Int32 × (Nat → Int32)) (hf : fX7_remove undos row x0 = some u) : Met l yX7_remove wsX7_remove ({ frames := 5, cells := 0, slots := 0, locals := 116 }) (va_Pc [.ref h_th, .int x0] (GP (dC, dI) (T4 cyI cyJ cyZ cyO) sz [(h_th, .inr (7, [.ref h_row, .int undos, v_th_isKept, v_th_text, v_th_length, v_th_sizes, v_th_values, v_th_asked, v_th_first, v_th_behind, v_th_readBits, v_th_clauses, v_th_doing, v_th_numbers, v_th_planWord, v_th_addWord, v_th_delWord, v_th_fillWord, v_th_probes, v_th_links, v_th_looks, v_th_found, v_th_isOver])), (h_row, .inl (cyI, 1824, .inl row))])) (va_Qi (fun (r : Int32) (_ : Unit) => r = u.1) (GB (dC, dI) [(h_th, .inr (7, [.ref h_row, .int u.2.1, v_th_isKept, v_th_text, v_th_length, v_th_sizes, v_th_values, v_th_asked, v_th_first, v_th_behind, v_th_readBits, v_th_clauses, v_th_doing, v_th_numbers, v_th_planWord, v_th_addWord, v_th_delWord, v_th_fillWord, v_th_probes, v_th_links, v_th_looks, v_th_found, v_th_isOver])), (h_row, .inl (cyI, 1824, .inl u.2.2))] (va_A [(h_th, .inr (7, [.ref h_row, .int undos, v_th_isKept, v_th_text, v_th_length, v_th_sizes, v_th_values, v_th_asked, v_th_first, v_th_behind, v_th_readBits, v_th_clauses, v_th_doing, v_th_numbers, v_th_planWord, v_th_addWord, v_th_delWord, v_th_fillWord, v_th_probes, v_th_links, v_th_looks, v_th_found, v_th_isOver])), (h_row, .inl (cyI, 1824, .inl row))] sz)) (va_A [(h_th, .inr (7, [.ref h_row, .int undos, v_th_isKept, v_th_text, v_th_length, v_th_sizes, v_th_values, v_th_asked, v_th_first, v_th_behind, v_th_readBits, v_th_clauses, v_th_doing, v_th_numbers, v_th_planWord, v_th_addWord, v_th_delWord, v_th_fillWord, v_th_probes, v_th_links, v_th_looks, v_th_found, v_th_isOver])), (h_row, .inl (cyI, 1824, .inl row))] sz)) 0 0 (va_A [(h_th, .inr (7, [.ref h_row, .int undos, v_th_isKept, v_th_text, v_th_length, v_th_sizes, v_th_values, v_th_asked, v_th_first, v_th_behind, v_th_readBits, v_th_clauses, v_th_doing, v_th_numbers, v_th_planWord, v_th_addWord, v_th_delWord, v_th_fillWord, v_th_probes, v_th_links, v_th_looks, v_th_found, v_th_isOver])), (h_row, .inl (cyI, 1824, .inl row))] sz) := by
  refine GMetI (by decide) rfl (Nat.le_of_ble_eq_true rfl) ?_
  intro p e s m args below meth c A Q ls hx hb hml hts hown hN hK hA hret hP hD hS hl
  have h := hf
  clear hf
  unfold fX7_remove at h
  have hown : s.vm.findClass RX7 = some m.cls := hown
  have hl : lv_has ls 2 [(0, .ref h_th), (1, .int x0)] := hl
  refine lv_aload_n hx hb dX7_remove_0 rfl (lv_at hl 0 rfl) ?_
  refine lv_iload_n hx hb dX7_remove_1 rfl (lv_at hl 1 rfl) ?_
  obtain ⟨u_1, hc_2, h⟩ := obd_e h
  refine Gci (wr := []) (va_runV (As := [.int x0]) (rest := []) ⟨hx, hb, hml, hown, hts⟩ (tX7_isNumber l dC dI cyI cyJ cyZ cyO s.heap.size h_th h_row (.int undos) v_th_isKept v_th_text v_th_length v_th_sizes v_th_values v_th_asked v_th_first v_th_behind v_th_readBits v_th_clauses v_th_doing v_th_numbers v_th_planWord v_th_addWord v_th_delWord v_th_fillWord v_th_probes v_th_links v_th_looks v_th_found v_th_isOver row x0 u_1 hc_2) (cwV 1 hts gX7_remove_X7_isNumber rfl rfl rfl (by decide +kernel) ⟨Nat.le_of_ble_eq_true rfl, Nat.le_of_ble_eq_true rfl⟩) (GpreV hP hD hK hN [0, 1] rfl (by decide) 7 0 rfl rfl rfl) rfl rfl hl.1 rfl (lv_room (Nat.le_of_ble_eq_true rfl)) dX7_remove_2 ⟨Nat.zero_le _, Nat.zero_le _⟩) hP hD hS hA [0, 1] [] rfl rfl (by decide) (by decide) (fun H locs hP hD hS => ?_)
  have hP : va_P (dC, dI) vwCl [(h_th, .inr (7, [.ref h_row, .int undos, v_th_isKept, v_th_text, v_th_length, v_th_sizes, v_th_values, v_th_asked, v_th_first, v_th_behind, v_th_readBits, v_th_clauses, v_th_doing, v_th_numbers, v_th_planWord, v_th_addWord, v_th_delWord, v_th_fillWord, v_th_probes, v_th_links, v_th_looks, v_th_found, v_th_isOver])), (h_row, .inl (cyI, 1824, .inl row))] H := hP
  have hD : va_D A [(h_th, .inr (7, [.ref h_row, .int undos, v_th_isKept, v_th_text, v_th_length, v_th_sizes, v_th_values, v_th_asked, v_th_first, v_th_behind, v_th_readBits, v_th_clauses, v_th_doing, v_th_numbers, v_th_planWord, v_th_addWord, v_th_delWord, v_th_fillWord, v_th_probes, v_th_links, v_th_looks, v_th_found, v_th_isOver])), (h_row, .inl (cyI, 1824, .inl row))] := hD
  refine lv_if_ne (tgt := 11) hx hb dX7_remove_5 (by decide) (fun c_3 => ?_) (fun c_3 => ?_)
  · have h := og_ite_f c_3 h
    refine lv_aload_n hx hb dX7_remove_11 rfl (lv_at hl 0 rfl) ?_
    refine lv_iconst (v := 0) hx hb dX7_remove_12 (by decide) ?_
    refine lv_iload_n hx hb dX7_remove_13 rfl (lv_at hl 1 rfl) ?_
    obtain ⟨u_4, hc_5, h⟩ := obd_e h
    refine Gci (wr := []) (va_runV (As := [.int (0 : Int32), .int x0]) (rest := []) ⟨hx, hb, hml, hown, hts⟩ (tX7_isKey l dC dI cyI cyJ cyZ cyO H.size h_th h_row (.int undos) v_th_isKept v_th_text v_th_length v_th_sizes v_th_values v_th_asked v_th_first v_th_behind v_th_readBits v_th_clauses v_th_doing v_th_numbers v_th_planWord v_th_addWord v_th_delWord v_th_fillWord v_th_probes v_th_links v_th_looks v_th_found v_th_isOver row (0 : Int32) x0 u_4 hc_5) (cwV 2 hts gX7_remove_X7_isKey rfl rfl rfl (by decide +kernel) ⟨Nat.le_of_ble_eq_true rfl, Nat.le_of_ble_eq_true rfl⟩) (GpreV hP hD hK hN [0, 1] rfl (by decide) 7 0 rfl rfl rfl) rfl rfl hl.1 rfl (lv_room (Nat.le_of_ble_eq_true rfl)) dX7_remove_14 ⟨Nat.zero_le _, Nat.zero_le _⟩) hP hD hS hA [0, 1] [] rfl rfl (by decide) (by decide) (fun H locs hP hD hS => ?_)
    have hP : va_P (dC, dI) vwCl [(h_th, .inr (7, [.ref h_row, .int undos, v_th_isKept, v_th_text, v_th_length, v_th_sizes, v_th_values, v_th_asked, v_th_first, v_th_behind, v_th_readBits, v_th_clauses, v_th_doing, v_th_numbers, v_th_planWord, v_th_addWord, v_th_delWord, v_th_fillWord, v_th_probes, v_th_links, v_th_looks, v_th_found, v_th_isOver])), (h_row, .inl (cyI, 1824, .inl row))] H := hP
    have hD : va_D A [(h_th, .inr (7, [.ref h_row, .int undos, v_th_isKept, v_th_text, v_th_length, v_th_sizes, v_th_values, v_th_asked, v_th_first, v_th_behind, v_th_readBits, v_th_clauses, v_th_doing, v_th_numbers, v_th_planWord, v_th_addWord, v_th_delWord, v_th_fillWord, v_th_probes, v_th_links, v_th_looks, v_th_found, v_th_isOver])), (h_row, .inl (cyI, 1824, .inl row))] := hD
    refine lv_if_ne (tgt := 23) hx hb dX7_remove_17 (by decide) (fun c_6 => ?_) (fun c_6 => ?_)
    · have h := og_ite_f c_6 h
      refine lv_aload_n hx hb dX7_remove_23 rfl (lv_at hl 0 rfl) ?_
      obtain ⟨u_7, hc_8, h⟩ := obd_e h
      refine Gcv (wr := []) (va_runV (As := []) (rest := []) ⟨hx, hb, hml, hown, hts⟩ (tX7_keepPast l dC dI cyI cyJ cyZ cyO H.size h_th h_row v_th_isKept v_th_text v_th_length v_th_sizes v_th_values v_th_asked v_th_first v_th_behind v_th_readBits v_th_clauses v_th_doing v_th_numbers v_th_planWord v_th_addWord v_th_delWord v_th_fillWord v_th_probes v_th_links v_th_looks v_th_found v_th_isOver undos row u_7 hc_8) (cwV 0 hts gX7_remove_X7_keepPast rfl rfl rfl (by decide +kernel) ⟨Nat.le_of_ble_eq_true rfl, Nat.le_of_ble_eq_true rfl⟩) (GpreV hP hD hK hN [0, 1] rfl (by decide) 7 0 rfl rfl rfl) rfl rfl hl.1 rfl (lv_room (Nat.le_of_ble_eq_true rfl)) dX7_remove_24 ⟨Nat.zero_le _, Nat.zero_le _⟩) hP hD hS hA [0, 1] [] rfl rfl (by decide) (by decide) (fun H locs hP hD hS => ?_)
      have hP : va_P (dC, dI) vwCl [(h_th, .inr (7, [.ref h_row, .int u_7.1, v_th_isKept, v_th_text, v_th_length, v_th_sizes, v_th_values, v_th_asked, v_th_first, v_th_behind, v_th_readBits, v_th_clauses, v_th_doing, v_th_numbers, v_th_planWord, v_th_addWord, v_th_delWord, v_th_fillWord, v_th_probes, v_th_links, v_th_looks, v_th_found, v_th_isOver])), (h_row, .inl (cyI, 1824, .inl u_7.2))] H := hP
      have hD : va_D A [(h_th, .inr (7, [.ref h_row, .int u_7.1, v_th_isKept, v_th_text, v_th_length, v_th_sizes, v_th_values, v_th_asked, v_th_first, v_th_behind, v_th_readBits, v_th_clauses, v_th_doing, v_th_numbers, v_th_planWord, v_th_addWord, v_th_delWord, v_th_fillWord, v_th_probes, v_th_links, v_th_looks, v_th_found, v_th_isOver])), (h_row, .inl (cyI, 1824, .inl u_7.2))] := hD
      refine lv_aload_n hx hb dX7_remove_27 rfl (lv_at hl 0 rfl) ?_
      refine lv_iconst (v := 0) hx hb dX7_remove_28 (by decide) ?_
      refine lv_iload_n hx hb dX7_remove_29 rfl (lv_at hl 1 rfl) ?_
      obtain ⟨u_9, hc_10, h⟩ := obd_e h
      refine Gcv (wr := []) (va_runV (As := [.int (0 : Int32), .int x0]) (rest := []) ⟨hx, hb, hml, hown, hts⟩ (tX7_takeOut l dC dI cyI cyJ cyZ cyO H.size h_th h_row (.int u_7.1) v_th_isKept v_th_text v_th_length v_th_sizes v_th_values v_th_asked v_th_first v_th_behind v_th_readBits v_th_clauses v_th_doing v_th_numbers v_th_planWord v_th_addWord v_th_delWord v_th_fillWord v_th_probes v_th_links v_th_looks v_th_found v_th_isOver u_7.2 (0 : Int32) x0 u_9 hc_10) (cwV 2 hts gX7_remove_X7_takeOut rfl rfl rfl (by decide +kernel) ⟨Nat.le_of_ble_eq_true rfl, Nat.le_of_ble_eq_true rfl⟩) (GpreV hP hD hK hN [0, 1] rfl (by decide) 7 0 rfl rfl rfl) rfl rfl hl.1 rfl (lv_room (Nat.le_of_ble_eq_true rfl)) dX7_remove_30 ⟨Nat.zero_le _, Nat.zero_le _⟩) hP hD hS hA [0, 1] [] rfl rfl (by decide) (by decide) (fun H locs hP hD hS => ?_)
      have hP : va_P (dC, dI) vwCl [(h_th, .inr (7, [.ref h_row, .int u_7.1, v_th_isKept, v_th_text, v_th_length, v_th_sizes, v_th_values, v_th_asked, v_th_first, v_th_behind, v_th_readBits, v_th_clauses, v_th_doing, v_th_numbers, v_th_planWord, v_th_addWord, v_th_delWord, v_th_fillWord, v_th_probes, v_th_links, v_th_looks, v_th_found, v_th_isOver])), (h_row, .inl (cyI, 1824, .inl u_9))] H := hP
      have hD : va_D A [(h_th, .inr (7, [.ref h_row, .int u_7.1, v_th_isKept, v_th_text, v_th_length, v_th_sizes, v_th_values, v_th_asked, v_th_first, v_th_behind, v_th_readBits, v_th_clauses, v_th_doing, v_th_numbers, v_th_planWord, v_th_addWord, v_th_delWord, v_th_fillWord, v_th_probes, v_th_links, v_th_looks, v_th_found, v_th_isOver])), (h_row, .inl (cyI, 1824, .inl u_9))] := hD
      refine lv_aload_n hx hb dX7_remove_33 rfl (lv_at hl 0 rfl) ?_
      refine va_get (D := (dC, dI)) (ci := 7) (v := .ref h_row) (C := RX7) (T := TX7) (N := 23) hx hb hts (fun _ hw => List.mem_cons_of_mem _ (List.mem_append_right _ hw)) hown hK hP 0 rfl rfl 0 (by decide) (hts (.fieldLink RX7 7 "PrefixIndexModel" "row" "[I") (List.mem_of_getElem? (i := 1) rfl)) (fun _ h9 => h9) rfl dX7_remove_34 ?_
      refine lv_iconst (v := 2) hx hb dX7_remove_37 (by decide) ?_
      obtain ⟨hi_11, h⟩ := oin_e h
      refine va_iald hx hb hK hP 1 0 rfl rfl hi_11 dX7_remove_38 ?_
      obtain rfl := Option.some.inj h
      exact hret _ _ _ _ dX7_remove_39 hP hD hS
    · have h := og_ite_t c_6 h
      refine lv_bipush (v := (-4)) hx hb dX7_remove_20 (by decide) ?_
      obtain rfl := Option.some.inj h
      exact hret _ _ _ _ dX7_remove_22 hP hD hS
  · have h := og_ite_t c_3 h
    refine lv_bipush (v := (-3)) hx hb dX7_remove_8 (by decide) ?_
    obtain rfl := Option.some.inj h
    exact hret _ _ _ _ dX7_remove_10 hP hD hS

def fX7_undo (undos : Int32) (row : (Nat → Int32)) : Option (Int32 × Int32 × (Nat → Int32)) := if undos = 0 then (some ((-4 : Int32), undos, row)) else (obd (fX7_copyRow row ((152 : Int32) + ((152 : Int32) * (undos - (1 : Int32)))) (0 : Int32)) fun u_2 => some ((undos - (1 : Int32)), (undos - (1 : Int32)), u_2))

set_option maxHeartbeats 4000000 in
set_option maxRecDepth 100000 in
theorem tX7_undo (l : Launch) (dC : Nat → ClassId) (dI : Nat → Nat → Nat) (cyI cyJ cyZ cyO : ClassId) (sz : Nat) (h_th h_row : Nat) (v_th_isKept : Value) (v_th_text : Value) (v_th_length : Value) (v_th_sizes : Value) (v_th_values : Value) (v_th_asked : Value) (v_th_first : Value) (v_th_behind : Value) (v_th_readBits : Value) (v_th_clauses : Value) (v_th_doing : Value) (v_th_numbers : Value) (v_th_planWord : Value) (v_th_addWord : Value) (v_th_delWord : Value) (v_th_fillWord : Value) (v_th_probes : Value) (v_th_links : Value) (v_th_looks : Value) (v_th_found : Value) (v_th_isOver : Value) (undos : Int32) (row : (Nat → Int32)) (u : Int32 × Int32 × (Nat → Int32)) (hf : fX7_undo undos row = some u) : Met l yX7_undo wsX7_undo ({ frames := 1, cells := 0, slots := 0, locals := 23 }) (va_Pc [.ref h_th] (GP (dC, dI) (T4 cyI cyJ cyZ cyO) sz [(h_th, .inr (7, [.ref h_row, .int undos, v_th_isKept, v_th_text, v_th_length, v_th_sizes, v_th_values, v_th_asked, v_th_first, v_th_behind, v_th_readBits, v_th_clauses, v_th_doing, v_th_numbers, v_th_planWord, v_th_addWord, v_th_delWord, v_th_fillWord, v_th_probes, v_th_links, v_th_looks, v_th_found, v_th_isOver])), (h_row, .inl (cyI, 1824, .inl row))])) (va_Qi (fun (r : Int32) (_ : Unit) => r = u.1) (GB (dC, dI) [(h_th, .inr (7, [.ref h_row, .int u.2.1, v_th_isKept, v_th_text, v_th_length, v_th_sizes, v_th_values, v_th_asked, v_th_first, v_th_behind, v_th_readBits, v_th_clauses, v_th_doing, v_th_numbers, v_th_planWord, v_th_addWord, v_th_delWord, v_th_fillWord, v_th_probes, v_th_links, v_th_looks, v_th_found, v_th_isOver])), (h_row, .inl (cyI, 1824, .inl u.2.2))] (va_A [(h_th, .inr (7, [.ref h_row, .int undos, v_th_isKept, v_th_text, v_th_length, v_th_sizes, v_th_values, v_th_asked, v_th_first, v_th_behind, v_th_readBits, v_th_clauses, v_th_doing, v_th_numbers, v_th_planWord, v_th_addWord, v_th_delWord, v_th_fillWord, v_th_probes, v_th_links, v_th_looks, v_th_found, v_th_isOver])), (h_row, .inl (cyI, 1824, .inl row))] sz)) (va_A [(h_th, .inr (7, [.ref h_row, .int undos, v_th_isKept, v_th_text, v_th_length, v_th_sizes, v_th_values, v_th_asked, v_th_first, v_th_behind, v_th_readBits, v_th_clauses, v_th_doing, v_th_numbers, v_th_planWord, v_th_addWord, v_th_delWord, v_th_fillWord, v_th_probes, v_th_links, v_th_looks, v_th_found, v_th_isOver])), (h_row, .inl (cyI, 1824, .inl row))] sz)) 0 0 (va_A [(h_th, .inr (7, [.ref h_row, .int undos, v_th_isKept, v_th_text, v_th_length, v_th_sizes, v_th_values, v_th_asked, v_th_first, v_th_behind, v_th_readBits, v_th_clauses, v_th_doing, v_th_numbers, v_th_planWord, v_th_addWord, v_th_delWord, v_th_fillWord, v_th_probes, v_th_links, v_th_looks, v_th_found, v_th_isOver])), (h_row, .inl (cyI, 1824, .inl row))] sz) := by
  refine GMetI (by decide) rfl (Nat.le_of_ble_eq_true rfl) ?_
  intro p e s m args below meth c A Q ls hx hb hml hts hown hN hK hA hret hP hD hS hl
  have h := hf
  clear hf
  unfold fX7_undo at h
  have hown : s.vm.findClass RX7 = some m.cls := hown
  have hl : lv_has ls 1 [(0, .ref h_th)] := hl
  refine lv_aload_n hx hb dX7_undo_0 rfl (lv_at hl 0 rfl) ?_
  refine va_get (D := (dC, dI)) (ci := 7) (v := .int undos) (C := RX7) (T := TX7) (N := 23) hx hb hts (fun _ hw => List.mem_cons_of_mem _ (List.mem_append_right _ hw)) hown hK hP 0 rfl rfl 1 (by decide) (hts (.fieldLink RX7 148 "PrefixIndexModel" "undos" "I") (List.mem_of_getElem? (i := 1) rfl)) (fun _ h9 => h9) rfl dX7_undo_1 ?_
  refine lv_if_ne (tgt := 10) hx hb dX7_undo_4 (by decide) (fun c_1 => ?_) (fun c_1 => ?_)
  · have h := og_ite_f c_1 h
    refine lv_aload_n hx hb dX7_undo_10 rfl (lv_at hl 0 rfl) ?_
    refine lv_dup hx hb dX7_undo_11 rfl ?_
    refine va_get (D := (dC, dI)) (ci := 7) (v := .int undos) (C := RX7) (T := TX7) (N := 23) hx hb hts (fun _ hw => List.mem_cons_of_mem _ (List.mem_append_right _ hw)) hown hK hP 0 rfl rfl 1 (by decide) (hts (.fieldLink RX7 148 "PrefixIndexModel" "undos" "I") (List.mem_of_getElem? (i := 1) rfl)) (fun _ h9 => h9) rfl dX7_undo_12 ?_
    refine lv_iconst (v := 1) hx hb dX7_undo_15 (by decide) ?_
    refine lv_isub hx hb dX7_undo_16 ?_
    refine va_put (D := (dC, dI)) (ci := 7) (v := .int (undos - (1 : Int32))) (ty := .int) (C := RX7) (T := TX7) (N := 23) hx hb hts (fun _ hw => List.mem_cons_of_mem _ (List.mem_append_right _ hw)) tyX7 tyX7_ok nmX7 hown hK hP hD hS 0 rfl rfl 1 (by decide) (hts (.fieldLink RX7 148 "PrefixIndexModel" "undos" "I") (List.mem_of_getElem? (i := 1) rfl)) (fun _ h9 => h9) rfl (by decide +kernel) rfl rfl (Nat.le_of_ble_eq_true rfl) dX7_undo_17 (fun H locs hP hD hS => ?_)
    have hP : va_P (dC, dI) vwCl [(h_th, .inr (7, [.ref h_row, .int (undos - (1 : Int32)), v_th_isKept, v_th_text, v_th_length, v_th_sizes, v_th_values, v_th_asked, v_th_first, v_th_behind, v_th_readBits, v_th_clauses, v_th_doing, v_th_numbers, v_th_planWord, v_th_addWord, v_th_delWord, v_th_fillWord, v_th_probes, v_th_links, v_th_looks, v_th_found, v_th_isOver])), (h_row, .inl (cyI, 1824, .inl row))] H := hP
    have hD : va_D A [(h_th, .inr (7, [.ref h_row, .int (undos - (1 : Int32)), v_th_isKept, v_th_text, v_th_length, v_th_sizes, v_th_values, v_th_asked, v_th_first, v_th_behind, v_th_readBits, v_th_clauses, v_th_doing, v_th_numbers, v_th_planWord, v_th_addWord, v_th_delWord, v_th_fillWord, v_th_probes, v_th_links, v_th_looks, v_th_found, v_th_isOver])), (h_row, .inl (cyI, 1824, .inl row))] := hD
    refine lv_aload_n hx hb dX7_undo_20 rfl (lv_at hl 0 rfl) ?_
    refine lv_sipush (v := 152) hx hb dX7_undo_21 (by decide) ?_
    refine lv_sipush (v := 152) hx hb dX7_undo_24 (by decide) ?_
    refine lv_aload_n hx hb dX7_undo_27 rfl (lv_at hl 0 rfl) ?_
    refine va_get (D := (dC, dI)) (ci := 7) (v := .int (undos - (1 : Int32))) (C := RX7) (T := TX7) (N := 23) hx hb hts (fun _ hw => List.mem_cons_of_mem _ (List.mem_append_right _ hw)) hown hK hP 0 rfl rfl 1 (by decide) (hts (.fieldLink RX7 148 "PrefixIndexModel" "undos" "I") (List.mem_of_getElem? (i := 1) rfl)) (fun _ h9 => h9) rfl dX7_undo_28 ?_
    refine lv_imul hx hb dX7_undo_31 ?_
    refine lv_iadd hx hb dX7_undo_32 ?_
    refine lv_iconst (v := 0) hx hb dX7_undo_33 (by decide) ?_
    obtain ⟨u_2, hc_3, h⟩ := obd_e h
    refine Gcv (wr := []) (va_runV (As := [.int ((152 : Int32) + ((152 : Int32) * (undos - (1 : Int32)))), .int (0 : Int32)]) (rest := []) ⟨hx, hb, hml, hown, hts⟩ (tX7_copyRow l dC dI cyI cyJ cyZ cyO H.size h_th h_row (.int (undos - (1 : Int32))) v_th_isKept v_th_text v_th_length v_th_sizes v_th_values v_th_asked v_th_first v_th_behind v_th_readBits v_th_clauses v_th_doing v_th_numbers v_th_planWord v_th_addWord v_th_delWord v_th_fillWord v_th_probes v_th_links v_th_looks v_th_found v_th_isOver row ((152 : Int32) + ((152 : Int32) * (undos - (1 : Int32)))) (0 : Int32) u_2 hc_3) (cwV 2 hts gX7_undo_X7_copyRow rfl rfl rfl (by decide +kernel) ⟨Nat.le_of_ble_eq_true rfl, Nat.le_of_ble_eq_true rfl⟩) (GpreV hP hD hK hN [0, 1] rfl (by decide) 7 0 rfl rfl rfl) rfl rfl hl.1 rfl (lv_room (Nat.le_of_ble_eq_true rfl)) dX7_undo_34 ⟨Nat.zero_le _, Nat.zero_le _⟩) hP hD hS hA [0, 1] [] rfl rfl (by decide) (by decide) (fun H locs hP hD hS => ?_)
    have hP : va_P (dC, dI) vwCl [(h_th, .inr (7, [.ref h_row, .int (undos - (1 : Int32)), v_th_isKept, v_th_text, v_th_length, v_th_sizes, v_th_values, v_th_asked, v_th_first, v_th_behind, v_th_readBits, v_th_clauses, v_th_doing, v_th_numbers, v_th_planWord, v_th_addWord, v_th_delWord, v_th_fillWord, v_th_probes, v_th_links, v_th_looks, v_th_found, v_th_isOver])), (h_row, .inl (cyI, 1824, .inl u_2))] H := hP
    have hD : va_D A [(h_th, .inr (7, [.ref h_row, .int (undos - (1 : Int32)), v_th_isKept, v_th_text, v_th_length, v_th_sizes, v_th_values, v_th_asked, v_th_first, v_th_behind, v_th_readBits, v_th_clauses, v_th_doing, v_th_numbers, v_th_planWord, v_th_addWord, v_th_delWord, v_th_fillWord, v_th_probes, v_th_links, v_th_looks, v_th_found, v_th_isOver])), (h_row, .inl (cyI, 1824, .inl u_2))] := hD
    refine lv_aload_n hx hb dX7_undo_37 rfl (lv_at hl 0 rfl) ?_
    refine va_get (D := (dC, dI)) (ci := 7) (v := .int (undos - (1 : Int32))) (C := RX7) (T := TX7) (N := 23) hx hb hts (fun _ hw => List.mem_cons_of_mem _ (List.mem_append_right _ hw)) hown hK hP 0 rfl rfl 1 (by decide) (hts (.fieldLink RX7 148 "PrefixIndexModel" "undos" "I") (List.mem_of_getElem? (i := 1) rfl)) (fun _ h9 => h9) rfl dX7_undo_38 ?_
    obtain rfl := Option.some.inj h
    exact hret _ _ _ _ dX7_undo_41 hP hD hS
  · have h := og_ite_t c_1 h
    refine lv_bipush (v := (-4)) hx hb dX7_undo_7 (by decide) ?_
    obtain rfl := Option.some.inj h
    exact hret _ _ _ _ dX7_undo_9 hP hD hS

def fX7_keep (row : (Nat → Int32)) (isKept : (Nat → Int32)) (x0 : Int32) : Option (Int32 × (Nat → Int32) × (Nat → Int32)) := obd (fX7_in x0.toInt64 (0 : Int64) (1 : Int64)) fun u_1 => if u_1 = 0 then (some ((-2 : Int32), row, isKept)) else (obd (fX7_copyRow row (0 : Int32) ((1368 : Int32) + ((152 : Int32) * x0))) fun u_4 => oin x0 2 (obl (1 : Int32) (oin (2 : Int32) 1824 (some ((u_4 (2 : Int32).toNatClampNeg), u_4, upd isKept x0.toNatClampNeg (1 : Int32))))))

set_option maxHeartbeats 4000000 in
set_option maxRecDepth 100000 in
theorem tX7_keep (l : Launch) (dC : Nat → ClassId) (dI : Nat → Nat → Nat) (cyI cyJ cyZ cyO : ClassId) (sz : Nat) (h_th h_row h_isKept : Nat) (v_th_undos : Value) (v_th_text : Value) (v_th_length : Value) (v_th_sizes : Value) (v_th_values : Value) (v_th_asked : Value) (v_th_first : Value) (v_th_behind : Value) (v_th_readBits : Value) (v_th_clauses : Value) (v_th_doing : Value) (v_th_numbers : Value) (v_th_planWord : Value) (v_th_addWord : Value) (v_th_delWord : Value) (v_th_fillWord : Value) (v_th_probes : Value) (v_th_links : Value) (v_th_looks : Value) (v_th_found : Value) (v_th_isOver : Value) (row : (Nat → Int32)) (isKept : (Nat → Int32)) (x0 : Int32) (u : Int32 × (Nat → Int32) × (Nat → Int32)) (hf : fX7_keep row isKept x0 = some u) : Met l yX7_keep wsX7_keep ({ frames := 1, cells := 0, slots := 0, locals := 25 }) (va_Pc [.ref h_th, .int x0] (GP (dC, dI) (T4 cyI cyJ cyZ cyO) sz [(h_th, .inr (7, [.ref h_row, v_th_undos, .ref h_isKept, v_th_text, v_th_length, v_th_sizes, v_th_values, v_th_asked, v_th_first, v_th_behind, v_th_readBits, v_th_clauses, v_th_doing, v_th_numbers, v_th_planWord, v_th_addWord, v_th_delWord, v_th_fillWord, v_th_probes, v_th_links, v_th_looks, v_th_found, v_th_isOver])), (h_row, .inl (cyI, 1824, .inl row)), (h_isKept, .inl (cyZ, 2, .inl isKept))])) (va_Qi (fun (r : Int32) (_ : Unit) => r = u.1) (GB (dC, dI) [(h_th, .inr (7, [.ref h_row, v_th_undos, .ref h_isKept, v_th_text, v_th_length, v_th_sizes, v_th_values, v_th_asked, v_th_first, v_th_behind, v_th_readBits, v_th_clauses, v_th_doing, v_th_numbers, v_th_planWord, v_th_addWord, v_th_delWord, v_th_fillWord, v_th_probes, v_th_links, v_th_looks, v_th_found, v_th_isOver])), (h_row, .inl (cyI, 1824, .inl u.2.1)), (h_isKept, .inl (cyZ, 2, .inl u.2.2))] (va_A [(h_th, .inr (7, [.ref h_row, v_th_undos, .ref h_isKept, v_th_text, v_th_length, v_th_sizes, v_th_values, v_th_asked, v_th_first, v_th_behind, v_th_readBits, v_th_clauses, v_th_doing, v_th_numbers, v_th_planWord, v_th_addWord, v_th_delWord, v_th_fillWord, v_th_probes, v_th_links, v_th_looks, v_th_found, v_th_isOver])), (h_row, .inl (cyI, 1824, .inl row)), (h_isKept, .inl (cyZ, 2, .inl isKept))] sz)) (va_A [(h_th, .inr (7, [.ref h_row, v_th_undos, .ref h_isKept, v_th_text, v_th_length, v_th_sizes, v_th_values, v_th_asked, v_th_first, v_th_behind, v_th_readBits, v_th_clauses, v_th_doing, v_th_numbers, v_th_planWord, v_th_addWord, v_th_delWord, v_th_fillWord, v_th_probes, v_th_links, v_th_looks, v_th_found, v_th_isOver])), (h_row, .inl (cyI, 1824, .inl row)), (h_isKept, .inl (cyZ, 2, .inl isKept))] sz)) 0 0 (va_A [(h_th, .inr (7, [.ref h_row, v_th_undos, .ref h_isKept, v_th_text, v_th_length, v_th_sizes, v_th_values, v_th_asked, v_th_first, v_th_behind, v_th_readBits, v_th_clauses, v_th_doing, v_th_numbers, v_th_planWord, v_th_addWord, v_th_delWord, v_th_fillWord, v_th_probes, v_th_links, v_th_looks, v_th_found, v_th_isOver])), (h_row, .inl (cyI, 1824, .inl row)), (h_isKept, .inl (cyZ, 2, .inl isKept))] sz) := by
  refine GMetI (by decide) rfl (Nat.le_of_ble_eq_true rfl) ?_
  intro p e s m args below meth c A Q ls hx hb hml hts hown hN hK hA hret hP hD hS hl
  have h := hf
  clear hf
  unfold fX7_keep at h
  have hown : s.vm.findClass RX7 = some m.cls := hown
  have hl : lv_has ls 2 [(0, .ref h_th), (1, .int x0)] := hl
  refine lv_iload_n hx hb dX7_keep_0 rfl (lv_at hl 1 rfl) ?_
  refine lv_i2l (v := x0.toInt64) hx hb dX7_keep_1 rfl ?_
  refine lv_lconst (v := 0) hx hb dX7_keep_2 (by decide) ?_
  refine lv_lconst (v := 1) hx hb dX7_keep_3 (by decide) ?_
  obtain ⟨u_1, hc_2, h⟩ := obd_e h
  refine Gci (wr := [(h_th, .inr (7, [.ref h_row, v_th_undos, .ref h_isKept, v_th_text, v_th_length, v_th_sizes, v_th_values, v_th_asked, v_th_first, v_th_behind, v_th_readBits, v_th_clauses, v_th_doing, v_th_numbers, v_th_planWord, v_th_addWord, v_th_delWord, v_th_fillWord, v_th_probes, v_th_links, v_th_looks, v_th_found, v_th_isOver])), (h_row, .inl (cyI, 1824, .inl row)), (h_isKept, .inl (cyZ, 2, .inl isKept))]) (va_runS (As := [.long x0.toInt64, .long (0 : Int64), .long (1 : Int64)]) (rest := []) ⟨hx, hb, hml, hown, hts⟩ (tX7_in l dC dI cyI cyJ cyZ cyO s.heap.size x0.toInt64 (0 : Int64) (1 : Int64) u_1 hc_2) (cwS 3 hts gX7_keep_X7_in rfl rfl rfl (by decide +kernel) ⟨Nat.le_of_ble_eq_true rfl, Nat.le_of_ble_eq_true rfl⟩) (GpreS hP hD hK hN [] rfl (by decide)) rfl rfl hl.1 rfl (lv_room (Nat.le_of_ble_eq_true rfl)) dX7_keep_4 ⟨Nat.zero_le _, Nat.zero_le _⟩) hP hD hS hA [] [0, 1, 2] rfl rfl (by decide) (by decide) (fun H locs hP hD hS => ?_)
  have hP : va_P (dC, dI) vwCl [(h_th, .inr (7, [.ref h_row, v_th_undos, .ref h_isKept, v_th_text, v_th_length, v_th_sizes, v_th_values, v_th_asked, v_th_first, v_th_behind, v_th_readBits, v_th_clauses, v_th_doing, v_th_numbers, v_th_planWord, v_th_addWord, v_th_delWord, v_th_fillWord, v_th_probes, v_th_links, v_th_looks, v_th_found, v_th_isOver])), (h_row, .inl (cyI, 1824, .inl row)), (h_isKept, .inl (cyZ, 2, .inl isKept))] H := hP
  have hD : va_D A [(h_th, .inr (7, [.ref h_row, v_th_undos, .ref h_isKept, v_th_text, v_th_length, v_th_sizes, v_th_values, v_th_asked, v_th_first, v_th_behind, v_th_readBits, v_th_clauses, v_th_doing, v_th_numbers, v_th_planWord, v_th_addWord, v_th_delWord, v_th_fillWord, v_th_probes, v_th_links, v_th_looks, v_th_found, v_th_isOver])), (h_row, .inl (cyI, 1824, .inl row)), (h_isKept, .inl (cyZ, 2, .inl isKept))] := hD
  refine lv_if_ne (tgt := 13) hx hb dX7_keep_7 (by decide) (fun c_3 => ?_) (fun c_3 => ?_)
  · have h := og_ite_f c_3 h
    refine lv_aload_n hx hb dX7_keep_13 rfl (lv_at hl 0 rfl) ?_
    refine lv_iconst (v := 0) hx hb dX7_keep_14 (by decide) ?_
    refine lv_sipush (v := 1368) hx hb dX7_keep_15 (by decide) ?_
    refine lv_sipush (v := 152) hx hb dX7_keep_18 (by decide) ?_
    refine lv_iload_n hx hb dX7_keep_21 rfl (lv_at hl 1 rfl) ?_
    refine lv_imul hx hb dX7_keep_22 ?_
    refine lv_iadd hx hb dX7_keep_23 ?_
    obtain ⟨u_4, hc_5, h⟩ := obd_e h
    refine Gcv (wr := [(h_isKept, .inl (cyZ, 2, .inl isKept))]) (va_runV (As := [.int (0 : Int32), .int ((1368 : Int32) + ((152 : Int32) * x0))]) (rest := []) ⟨hx, hb, hml, hown, hts⟩ (tX7_copyRow l dC dI cyI cyJ cyZ cyO H.size h_th h_row v_th_undos (.ref h_isKept) v_th_text v_th_length v_th_sizes v_th_values v_th_asked v_th_first v_th_behind v_th_readBits v_th_clauses v_th_doing v_th_numbers v_th_planWord v_th_addWord v_th_delWord v_th_fillWord v_th_probes v_th_links v_th_looks v_th_found v_th_isOver row (0 : Int32) ((1368 : Int32) + ((152 : Int32) * x0)) u_4 hc_5) (cwV 2 hts gX7_keep_X7_copyRow rfl rfl rfl (by decide +kernel) ⟨Nat.le_of_ble_eq_true rfl, Nat.le_of_ble_eq_true rfl⟩) (GpreV hP hD hK hN [0, 1] rfl (by decide) 7 0 rfl rfl rfl) rfl rfl hl.1 rfl (lv_room (Nat.le_of_ble_eq_true rfl)) dX7_keep_24 ⟨Nat.zero_le _, Nat.zero_le _⟩) hP hD hS hA [0, 1] [2] rfl rfl (by decide) (by decide) (fun H locs hP hD hS => ?_)
    have hP : va_P (dC, dI) vwCl [(h_isKept, .inl (cyZ, 2, .inl isKept)), (h_th, .inr (7, [.ref h_row, v_th_undos, .ref h_isKept, v_th_text, v_th_length, v_th_sizes, v_th_values, v_th_asked, v_th_first, v_th_behind, v_th_readBits, v_th_clauses, v_th_doing, v_th_numbers, v_th_planWord, v_th_addWord, v_th_delWord, v_th_fillWord, v_th_probes, v_th_links, v_th_looks, v_th_found, v_th_isOver])), (h_row, .inl (cyI, 1824, .inl u_4))] H := hP
    have hD : va_D A [(h_isKept, .inl (cyZ, 2, .inl isKept)), (h_th, .inr (7, [.ref h_row, v_th_undos, .ref h_isKept, v_th_text, v_th_length, v_th_sizes, v_th_values, v_th_asked, v_th_first, v_th_behind, v_th_readBits, v_th_clauses, v_th_doing, v_th_numbers, v_th_planWord, v_th_addWord, v_th_delWord, v_th_fillWord, v_th_probes, v_th_links, v_th_looks, v_th_found, v_th_isOver])), (h_row, .inl (cyI, 1824, .inl u_4))] := hD
    refine lv_aload_n hx hb dX7_keep_27 rfl (lv_at hl 0 rfl) ?_
    refine va_get (D := (dC, dI)) (ci := 7) (v := .ref h_isKept) (C := RX7) (T := TX7) (N := 23) hx hb hts (fun _ hw => List.mem_cons_of_mem _ (List.mem_append_right _ hw)) hown hK hP 1 rfl rfl 2 (by decide) (hts (.fieldLink RX7 13 "PrefixIndexModel" "isKept" "[Z") (List.mem_of_getElem? (i := 1) rfl)) (fun _ h9 => h9) rfl dX7_keep_28 ?_
    refine lv_iload_n hx hb dX7_keep_31 rfl (lv_at hl 1 rfl) ?_
    refine lv_iconst (v := 1) hx hb dX7_keep_32 (by decide) ?_
    obtain ⟨hi_6, h⟩ := oin_e h
    obtain ⟨hz_7, h⟩ := obl_e h
    refine va_zast hx hb hK hP hD hS 0 2 rfl rfl hi_6 dX7_keep_33 (fun H locs hP hD hS => ?_)
    rw [obl_v hz_7] at hP hD
    have hP : va_P (dC, dI) vwCl [(h_isKept, .inl (cyZ, 2, .inl (upd isKept x0.toNatClampNeg (1 : Int32)))), (h_th, .inr (7, [.ref h_row, v_th_undos, .ref h_isKept, v_th_text, v_th_length, v_th_sizes, v_th_values, v_th_asked, v_th_first, v_th_behind, v_th_readBits, v_th_clauses, v_th_doing, v_th_numbers, v_th_planWord, v_th_addWord, v_th_delWord, v_th_fillWord, v_th_probes, v_th_links, v_th_looks, v_th_found, v_th_isOver])), (h_row, .inl (cyI, 1824, .inl u_4))] H := hP
    have hD : va_D A [(h_isKept, .inl (cyZ, 2, .inl (upd isKept x0.toNatClampNeg (1 : Int32)))), (h_th, .inr (7, [.ref h_row, v_th_undos, .ref h_isKept, v_th_text, v_th_length, v_th_sizes, v_th_values, v_th_asked, v_th_first, v_th_behind, v_th_readBits, v_th_clauses, v_th_doing, v_th_numbers, v_th_planWord, v_th_addWord, v_th_delWord, v_th_fillWord, v_th_probes, v_th_links, v_th_looks, v_th_found, v_th_isOver])), (h_row, .inl (cyI, 1824, .inl u_4))] := hD
    refine lv_aload_n hx hb dX7_keep_34 rfl (lv_at hl 0 rfl) ?_
    refine va_get (D := (dC, dI)) (ci := 7) (v := .ref h_row) (C := RX7) (T := TX7) (N := 23) hx hb hts (fun _ hw => List.mem_cons_of_mem _ (List.mem_append_right _ hw)) hown hK hP 1 rfl rfl 0 (by decide) (hts (.fieldLink RX7 7 "PrefixIndexModel" "row" "[I") (List.mem_of_getElem? (i := 2) rfl)) (fun _ h9 => h9) rfl dX7_keep_35 ?_
    refine lv_iconst (v := 2) hx hb dX7_keep_38 (by decide) ?_
    obtain ⟨hi_8, h⟩ := oin_e h
    refine va_iald hx hb hK hP 2 0 rfl rfl hi_8 dX7_keep_39 ?_
    obtain rfl := Option.some.inj h
    have hP := hP.sub (ws' := [(h_th, .inr (7, [.ref h_row, v_th_undos, .ref h_isKept, v_th_text, v_th_length, v_th_sizes, v_th_values, v_th_asked, v_th_first, v_th_behind, v_th_readBits, v_th_clauses, v_th_doing, v_th_numbers, v_th_planWord, v_th_addWord, v_th_delWord, v_th_fillWord, v_th_probes, v_th_links, v_th_looks, v_th_found, v_th_isOver])), (h_row, .inl (cyI, 1824, .inl u_4)), (h_isKept, .inl (cyZ, 2, .inl (upd isKept x0.toNatClampNeg (1 : Int32))))]) [1, 2, 0] rfl
    have hD := hD.sub (ws' := [(h_th, .inr (7, [.ref h_row, v_th_undos, .ref h_isKept, v_th_text, v_th_length, v_th_sizes, v_th_values, v_th_asked, v_th_first, v_th_behind, v_th_readBits, v_th_clauses, v_th_doing, v_th_numbers, v_th_planWord, v_th_addWord, v_th_delWord, v_th_fillWord, v_th_probes, v_th_links, v_th_looks, v_th_found, v_th_isOver])), (h_row, .inl (cyI, 1824, .inl u_4)), (h_isKept, .inl (cyZ, 2, .inl (upd isKept x0.toNatClampNeg (1 : Int32))))]) [1, 2, 0] (by decide) rfl
    exact hret _ _ _ _ dX7_keep_40 hP hD hS
  · have h := og_ite_t c_3 h
    refine lv_bipush (v := (-2)) hx hb dX7_keep_10 (by decide) ?_
    obtain rfl := Option.some.inj h
    exact hret _ _ _ _ dX7_keep_12 hP hD hS

def fX7_back (undos : Int32) (row : (Nat → Int32)) (isKept : (Nat → Int32)) (x0 : Int32) : Option (Int32 × Int32 × (Nat → Int32)) := obd (fX7_in x0.toInt64 (0 : Int64) (1 : Int64)) fun u_1 => if u_1 = 0 then (some ((-2 : Int32), undos, row)) else (oin x0 2 (if (isKept x0.toNatClampNeg) = 0 then (some ((-4 : Int32), undos, row)) else (obd (fX7_copyRow row ((1368 : Int32) + ((152 : Int32) * x0)) (0 : Int32)) fun u_6 => oin (2 : Int32) 1824 (some ((u_6 (2 : Int32).toNatClampNeg), (0 : Int32), u_6)))))

set_option maxHeartbeats 4000000 in
set_option maxRecDepth 100000 in
theorem tX7_back (l : Launch) (dC : Nat → ClassId) (dI : Nat → Nat → Nat) (cyI cyJ cyZ cyO : ClassId) (sz : Nat) (h_th h_row h_isKept : Nat) (v_th_text : Value) (v_th_length : Value) (v_th_sizes : Value) (v_th_values : Value) (v_th_asked : Value) (v_th_first : Value) (v_th_behind : Value) (v_th_readBits : Value) (v_th_clauses : Value) (v_th_doing : Value) (v_th_numbers : Value) (v_th_planWord : Value) (v_th_addWord : Value) (v_th_delWord : Value) (v_th_fillWord : Value) (v_th_probes : Value) (v_th_links : Value) (v_th_looks : Value) (v_th_found : Value) (v_th_isOver : Value) (undos : Int32) (row : (Nat → Int32)) (isKept : (Nat → Int32)) (x0 : Int32) (u : Int32 × Int32 × (Nat → Int32)) (hf : fX7_back undos row isKept x0 = some u) : Met l yX7_back wsX7_back ({ frames := 1, cells := 0, slots := 0, locals := 25 }) (va_Pc [.ref h_th, .int x0] (GP (dC, dI) (T4 cyI cyJ cyZ cyO) sz [(h_th, .inr (7, [.ref h_row, .int undos, .ref h_isKept, v_th_text, v_th_length, v_th_sizes, v_th_values, v_th_asked, v_th_first, v_th_behind, v_th_readBits, v_th_clauses, v_th_doing, v_th_numbers, v_th_planWord, v_th_addWord, v_th_delWord, v_th_fillWord, v_th_probes, v_th_links, v_th_looks, v_th_found, v_th_isOver])), (h_row, .inl (cyI, 1824, .inl row)), (h_isKept, .inl (cyZ, 2, .inl isKept))])) (va_Qi (fun (r : Int32) (_ : Unit) => r = u.1) (GB (dC, dI) [(h_th, .inr (7, [.ref h_row, .int u.2.1, .ref h_isKept, v_th_text, v_th_length, v_th_sizes, v_th_values, v_th_asked, v_th_first, v_th_behind, v_th_readBits, v_th_clauses, v_th_doing, v_th_numbers, v_th_planWord, v_th_addWord, v_th_delWord, v_th_fillWord, v_th_probes, v_th_links, v_th_looks, v_th_found, v_th_isOver])), (h_row, .inl (cyI, 1824, .inl u.2.2)), (h_isKept, .inl (cyZ, 2, .inl isKept))] (va_A [(h_th, .inr (7, [.ref h_row, .int undos, .ref h_isKept, v_th_text, v_th_length, v_th_sizes, v_th_values, v_th_asked, v_th_first, v_th_behind, v_th_readBits, v_th_clauses, v_th_doing, v_th_numbers, v_th_planWord, v_th_addWord, v_th_delWord, v_th_fillWord, v_th_probes, v_th_links, v_th_looks, v_th_found, v_th_isOver])), (h_row, .inl (cyI, 1824, .inl row)), (h_isKept, .inl (cyZ, 2, .inl isKept))] sz)) (va_A [(h_th, .inr (7, [.ref h_row, .int undos, .ref h_isKept, v_th_text, v_th_length, v_th_sizes, v_th_values, v_th_asked, v_th_first, v_th_behind, v_th_readBits, v_th_clauses, v_th_doing, v_th_numbers, v_th_planWord, v_th_addWord, v_th_delWord, v_th_fillWord, v_th_probes, v_th_links, v_th_looks, v_th_found, v_th_isOver])), (h_row, .inl (cyI, 1824, .inl row)), (h_isKept, .inl (cyZ, 2, .inl isKept))] sz)) 0 0 (va_A [(h_th, .inr (7, [.ref h_row, .int undos, .ref h_isKept, v_th_text, v_th_length, v_th_sizes, v_th_values, v_th_asked, v_th_first, v_th_behind, v_th_readBits, v_th_clauses, v_th_doing, v_th_numbers, v_th_planWord, v_th_addWord, v_th_delWord, v_th_fillWord, v_th_probes, v_th_links, v_th_looks, v_th_found, v_th_isOver])), (h_row, .inl (cyI, 1824, .inl row)), (h_isKept, .inl (cyZ, 2, .inl isKept))] sz) := by
  refine GMetI (by decide) rfl (Nat.le_of_ble_eq_true rfl) ?_
  intro p e s m args below meth c A Q ls hx hb hml hts hown hN hK hA hret hP hD hS hl
  have h := hf
  clear hf
  unfold fX7_back at h
  have hown : s.vm.findClass RX7 = some m.cls := hown
  have hl : lv_has ls 2 [(0, .ref h_th), (1, .int x0)] := hl
  refine lv_iload_n hx hb dX7_back_0 rfl (lv_at hl 1 rfl) ?_
  refine lv_i2l (v := x0.toInt64) hx hb dX7_back_1 rfl ?_
  refine lv_lconst (v := 0) hx hb dX7_back_2 (by decide) ?_
  refine lv_lconst (v := 1) hx hb dX7_back_3 (by decide) ?_
  obtain ⟨u_1, hc_2, h⟩ := obd_e h
  refine Gci (wr := [(h_th, .inr (7, [.ref h_row, .int undos, .ref h_isKept, v_th_text, v_th_length, v_th_sizes, v_th_values, v_th_asked, v_th_first, v_th_behind, v_th_readBits, v_th_clauses, v_th_doing, v_th_numbers, v_th_planWord, v_th_addWord, v_th_delWord, v_th_fillWord, v_th_probes, v_th_links, v_th_looks, v_th_found, v_th_isOver])), (h_row, .inl (cyI, 1824, .inl row)), (h_isKept, .inl (cyZ, 2, .inl isKept))]) (va_runS (As := [.long x0.toInt64, .long (0 : Int64), .long (1 : Int64)]) (rest := []) ⟨hx, hb, hml, hown, hts⟩ (tX7_in l dC dI cyI cyJ cyZ cyO s.heap.size x0.toInt64 (0 : Int64) (1 : Int64) u_1 hc_2) (cwS 3 hts gX7_back_X7_in rfl rfl rfl (by decide +kernel) ⟨Nat.le_of_ble_eq_true rfl, Nat.le_of_ble_eq_true rfl⟩) (GpreS hP hD hK hN [] rfl (by decide)) rfl rfl hl.1 rfl (lv_room (Nat.le_of_ble_eq_true rfl)) dX7_back_4 ⟨Nat.zero_le _, Nat.zero_le _⟩) hP hD hS hA [] [0, 1, 2] rfl rfl (by decide) (by decide) (fun H locs hP hD hS => ?_)
  have hP : va_P (dC, dI) vwCl [(h_th, .inr (7, [.ref h_row, .int undos, .ref h_isKept, v_th_text, v_th_length, v_th_sizes, v_th_values, v_th_asked, v_th_first, v_th_behind, v_th_readBits, v_th_clauses, v_th_doing, v_th_numbers, v_th_planWord, v_th_addWord, v_th_delWord, v_th_fillWord, v_th_probes, v_th_links, v_th_looks, v_th_found, v_th_isOver])), (h_row, .inl (cyI, 1824, .inl row)), (h_isKept, .inl (cyZ, 2, .inl isKept))] H := hP
  have hD : va_D A [(h_th, .inr (7, [.ref h_row, .int undos, .ref h_isKept, v_th_text, v_th_length, v_th_sizes, v_th_values, v_th_asked, v_th_first, v_th_behind, v_th_readBits, v_th_clauses, v_th_doing, v_th_numbers, v_th_planWord, v_th_addWord, v_th_delWord, v_th_fillWord, v_th_probes, v_th_links, v_th_looks, v_th_found, v_th_isOver])), (h_row, .inl (cyI, 1824, .inl row)), (h_isKept, .inl (cyZ, 2, .inl isKept))] := hD
  refine lv_if_ne (tgt := 13) hx hb dX7_back_7 (by decide) (fun c_3 => ?_) (fun c_3 => ?_)
  · have h := og_ite_f c_3 h
    refine lv_aload_n hx hb dX7_back_13 rfl (lv_at hl 0 rfl) ?_
    refine va_get (D := (dC, dI)) (ci := 7) (v := .ref h_isKept) (C := RX7) (T := TX7) (N := 23) hx hb hts (fun _ hw => List.mem_cons_of_mem _ (List.mem_append_right _ hw)) hown hK hP 0 rfl rfl 2 (by decide) (hts (.fieldLink RX7 13 "PrefixIndexModel" "isKept" "[Z") (List.mem_of_getElem? (i := 1) rfl)) (fun _ h9 => h9) rfl dX7_back_14 ?_
    refine lv_iload_n hx hb dX7_back_17 rfl (lv_at hl 1 rfl) ?_
    obtain ⟨hi_4, h⟩ := oin_e h
    refine va_zald hx hb hK hP 2 2 rfl rfl hi_4 dX7_back_18 ?_
    refine lv_if_ne (tgt := 25) hx hb dX7_back_19 (by decide) (fun c_5 => ?_) (fun c_5 => ?_)
    · have h := og_ite_f c_5 h
      refine lv_aload_n hx hb dX7_back_25 rfl (lv_at hl 0 rfl) ?_
      refine lv_sipush (v := 1368) hx hb dX7_back_26 (by decide) ?_
      refine lv_sipush (v := 152) hx hb dX7_back_29 (by decide) ?_
      refine lv_iload_n hx hb dX7_back_32 rfl (lv_at hl 1 rfl) ?_
      refine lv_imul hx hb dX7_back_33 ?_
      refine lv_iadd hx hb dX7_back_34 ?_
      refine lv_iconst (v := 0) hx hb dX7_back_35 (by decide) ?_
      obtain ⟨u_6, hc_7, h⟩ := obd_e h
      refine Gcv (wr := [(h_isKept, .inl (cyZ, 2, .inl isKept))]) (va_runV (As := [.int ((1368 : Int32) + ((152 : Int32) * x0)), .int (0 : Int32)]) (rest := []) ⟨hx, hb, hml, hown, hts⟩ (tX7_copyRow l dC dI cyI cyJ cyZ cyO H.size h_th h_row (.int undos) (.ref h_isKept) v_th_text v_th_length v_th_sizes v_th_values v_th_asked v_th_first v_th_behind v_th_readBits v_th_clauses v_th_doing v_th_numbers v_th_planWord v_th_addWord v_th_delWord v_th_fillWord v_th_probes v_th_links v_th_looks v_th_found v_th_isOver row ((1368 : Int32) + ((152 : Int32) * x0)) (0 : Int32) u_6 hc_7) (cwV 2 hts gX7_back_X7_copyRow rfl rfl rfl (by decide +kernel) ⟨Nat.le_of_ble_eq_true rfl, Nat.le_of_ble_eq_true rfl⟩) (GpreV hP hD hK hN [0, 1] rfl (by decide) 7 0 rfl rfl rfl) rfl rfl hl.1 rfl (lv_room (Nat.le_of_ble_eq_true rfl)) dX7_back_36 ⟨Nat.zero_le _, Nat.zero_le _⟩) hP hD hS hA [0, 1] [2] rfl rfl (by decide) (by decide) (fun H locs hP hD hS => ?_)
      have hP : va_P (dC, dI) vwCl [(h_isKept, .inl (cyZ, 2, .inl isKept)), (h_th, .inr (7, [.ref h_row, .int undos, .ref h_isKept, v_th_text, v_th_length, v_th_sizes, v_th_values, v_th_asked, v_th_first, v_th_behind, v_th_readBits, v_th_clauses, v_th_doing, v_th_numbers, v_th_planWord, v_th_addWord, v_th_delWord, v_th_fillWord, v_th_probes, v_th_links, v_th_looks, v_th_found, v_th_isOver])), (h_row, .inl (cyI, 1824, .inl u_6))] H := hP
      have hD : va_D A [(h_isKept, .inl (cyZ, 2, .inl isKept)), (h_th, .inr (7, [.ref h_row, .int undos, .ref h_isKept, v_th_text, v_th_length, v_th_sizes, v_th_values, v_th_asked, v_th_first, v_th_behind, v_th_readBits, v_th_clauses, v_th_doing, v_th_numbers, v_th_planWord, v_th_addWord, v_th_delWord, v_th_fillWord, v_th_probes, v_th_links, v_th_looks, v_th_found, v_th_isOver])), (h_row, .inl (cyI, 1824, .inl u_6))] := hD
      refine lv_aload_n hx hb dX7_back_39 rfl (lv_at hl 0 rfl) ?_
      refine lv_iconst (v := 0) hx hb dX7_back_40 (by decide) ?_
      refine va_put (D := (dC, dI)) (ci := 7) (v := .int (0 : Int32)) (ty := .int) (C := RX7) (T := TX7) (N := 23) hx hb hts (fun _ hw => List.mem_cons_of_mem _ (List.mem_append_right _ hw)) tyX7 tyX7_ok nmX7 hown hK hP hD hS 1 rfl rfl 1 (by decide) (hts (.fieldLink RX7 148 "PrefixIndexModel" "undos" "I") (List.mem_of_getElem? (i := 2) rfl)) (fun _ h9 => h9) rfl (by decide +kernel) rfl rfl (Nat.le_of_ble_eq_true rfl) dX7_back_41 (fun H locs hP hD hS => ?_)
      have hP : va_P (dC, dI) vwCl [(h_isKept, .inl (cyZ, 2, .inl isKept)), (h_th, .inr (7, [.ref h_row, .int (0 : Int32), .ref h_isKept, v_th_text, v_th_length, v_th_sizes, v_th_values, v_th_asked, v_th_first, v_th_behind, v_th_readBits, v_th_clauses, v_th_doing, v_th_numbers, v_th_planWord, v_th_addWord, v_th_delWord, v_th_fillWord, v_th_probes, v_th_links, v_th_looks, v_th_found, v_th_isOver])), (h_row, .inl (cyI, 1824, .inl u_6))] H := hP
      have hD : va_D A [(h_isKept, .inl (cyZ, 2, .inl isKept)), (h_th, .inr (7, [.ref h_row, .int (0 : Int32), .ref h_isKept, v_th_text, v_th_length, v_th_sizes, v_th_values, v_th_asked, v_th_first, v_th_behind, v_th_readBits, v_th_clauses, v_th_doing, v_th_numbers, v_th_planWord, v_th_addWord, v_th_delWord, v_th_fillWord, v_th_probes, v_th_links, v_th_looks, v_th_found, v_th_isOver])), (h_row, .inl (cyI, 1824, .inl u_6))] := hD
      refine lv_aload_n hx hb dX7_back_44 rfl (lv_at hl 0 rfl) ?_
      refine va_get (D := (dC, dI)) (ci := 7) (v := .ref h_row) (C := RX7) (T := TX7) (N := 23) hx hb hts (fun _ hw => List.mem_cons_of_mem _ (List.mem_append_right _ hw)) hown hK hP 1 rfl rfl 0 (by decide) (hts (.fieldLink RX7 7 "PrefixIndexModel" "row" "[I") (List.mem_of_getElem? (i := 3) rfl)) (fun _ h9 => h9) rfl dX7_back_45 ?_
      refine lv_iconst (v := 2) hx hb dX7_back_48 (by decide) ?_
      obtain ⟨hi_8, h⟩ := oin_e h
      refine va_iald hx hb hK hP 2 0 rfl rfl hi_8 dX7_back_49 ?_
      obtain rfl := Option.some.inj h
      have hP := hP.sub (ws' := [(h_th, .inr (7, [.ref h_row, .int (0 : Int32), .ref h_isKept, v_th_text, v_th_length, v_th_sizes, v_th_values, v_th_asked, v_th_first, v_th_behind, v_th_readBits, v_th_clauses, v_th_doing, v_th_numbers, v_th_planWord, v_th_addWord, v_th_delWord, v_th_fillWord, v_th_probes, v_th_links, v_th_looks, v_th_found, v_th_isOver])), (h_row, .inl (cyI, 1824, .inl u_6)), (h_isKept, .inl (cyZ, 2, .inl isKept))]) [1, 2, 0] rfl
      have hD := hD.sub (ws' := [(h_th, .inr (7, [.ref h_row, .int (0 : Int32), .ref h_isKept, v_th_text, v_th_length, v_th_sizes, v_th_values, v_th_asked, v_th_first, v_th_behind, v_th_readBits, v_th_clauses, v_th_doing, v_th_numbers, v_th_planWord, v_th_addWord, v_th_delWord, v_th_fillWord, v_th_probes, v_th_links, v_th_looks, v_th_found, v_th_isOver])), (h_row, .inl (cyI, 1824, .inl u_6)), (h_isKept, .inl (cyZ, 2, .inl isKept))]) [1, 2, 0] (by decide) rfl
      exact hret _ _ _ _ dX7_back_50 hP hD hS
    · have h := og_ite_t c_5 h
      refine lv_bipush (v := (-4)) hx hb dX7_back_22 (by decide) ?_
      obtain rfl := Option.some.inj h
      exact hret _ _ _ _ dX7_back_24 hP hD hS
  · have h := og_ite_t c_3 h
    refine lv_bipush (v := (-2)) hx hb dX7_back_10 (by decide) ?_
    obtain rfl := Option.some.inj h
    exact hret _ _ _ _ dX7_back_12 hP hD hS

def fX7_has (row : (Nat → Int32)) (x0 : Int32) : Option (Int32) := obd (fX7_isNumber row x0) fun u_1 => obd (if u_1 = 0 then (some (-3 : Int32)) else (obd (fX7_isKey row (0 : Int32) x0) fun u_5 => if u_5 = 0 then (some (0 : Int32)) else (some (1 : Int32)))) fun w_4 => some w_4

set_option maxHeartbeats 4000000 in
set_option maxRecDepth 100000 in
theorem tX7_has (l : Launch) (dC : Nat → ClassId) (dI : Nat → Nat → Nat) (cyI cyJ cyZ cyO : ClassId) (sz : Nat) (h_th h_row : Nat) (v_th_undos : Value) (v_th_isKept : Value) (v_th_text : Value) (v_th_length : Value) (v_th_sizes : Value) (v_th_values : Value) (v_th_asked : Value) (v_th_first : Value) (v_th_behind : Value) (v_th_readBits : Value) (v_th_clauses : Value) (v_th_doing : Value) (v_th_numbers : Value) (v_th_planWord : Value) (v_th_addWord : Value) (v_th_delWord : Value) (v_th_fillWord : Value) (v_th_probes : Value) (v_th_links : Value) (v_th_looks : Value) (v_th_found : Value) (v_th_isOver : Value) (row : (Nat → Int32)) (x0 : Int32) (u : Int32) (hf : fX7_has row x0 = some u) : Met l yX7_has wsX7_has ({ frames := 2, cells := 0, slots := 0, locals := 46 }) (va_Pc [.ref h_th, .int x0] (GP (dC, dI) (T4 cyI cyJ cyZ cyO) sz [(h_th, .inr (7, [.ref h_row, v_th_undos, v_th_isKept, v_th_text, v_th_length, v_th_sizes, v_th_values, v_th_asked, v_th_first, v_th_behind, v_th_readBits, v_th_clauses, v_th_doing, v_th_numbers, v_th_planWord, v_th_addWord, v_th_delWord, v_th_fillWord, v_th_probes, v_th_links, v_th_looks, v_th_found, v_th_isOver])), (h_row, .inl (cyI, 1824, .inl row))])) (va_Qi (fun (r : Int32) (_ : Unit) => r = u) (GB (dC, dI) [(h_th, .inr (7, [.ref h_row, v_th_undos, v_th_isKept, v_th_text, v_th_length, v_th_sizes, v_th_values, v_th_asked, v_th_first, v_th_behind, v_th_readBits, v_th_clauses, v_th_doing, v_th_numbers, v_th_planWord, v_th_addWord, v_th_delWord, v_th_fillWord, v_th_probes, v_th_links, v_th_looks, v_th_found, v_th_isOver])), (h_row, .inl (cyI, 1824, .inl row))] (va_A [(h_th, .inr (7, [.ref h_row, v_th_undos, v_th_isKept, v_th_text, v_th_length, v_th_sizes, v_th_values, v_th_asked, v_th_first, v_th_behind, v_th_readBits, v_th_clauses, v_th_doing, v_th_numbers, v_th_planWord, v_th_addWord, v_th_delWord, v_th_fillWord, v_th_probes, v_th_links, v_th_looks, v_th_found, v_th_isOver])), (h_row, .inl (cyI, 1824, .inl row))] sz)) (va_A [(h_th, .inr (7, [.ref h_row, v_th_undos, v_th_isKept, v_th_text, v_th_length, v_th_sizes, v_th_values, v_th_asked, v_th_first, v_th_behind, v_th_readBits, v_th_clauses, v_th_doing, v_th_numbers, v_th_planWord, v_th_addWord, v_th_delWord, v_th_fillWord, v_th_probes, v_th_links, v_th_looks, v_th_found, v_th_isOver])), (h_row, .inl (cyI, 1824, .inl row))] sz)) 0 0 (va_A [(h_th, .inr (7, [.ref h_row, v_th_undos, v_th_isKept, v_th_text, v_th_length, v_th_sizes, v_th_values, v_th_asked, v_th_first, v_th_behind, v_th_readBits, v_th_clauses, v_th_doing, v_th_numbers, v_th_planWord, v_th_addWord, v_th_delWord, v_th_fillWord, v_th_probes, v_th_links, v_th_looks, v_th_found, v_th_isOver])), (h_row, .inl (cyI, 1824, .inl row))] sz) := by
  refine GMetI (by decide) rfl (Nat.le_of_ble_eq_true rfl) ?_
  intro p e s m args below meth c A Q ls hx hb hml hts hown hN hK hA hret hP hD hS hl
  have h := hf
  clear hf
  unfold fX7_has at h
  have hown : s.vm.findClass RX7 = some m.cls := hown
  have hl : lv_has ls 2 [(0, .ref h_th), (1, .int x0)] := hl
  refine lv_aload_n hx hb dX7_has_0 rfl (lv_at hl 0 rfl) ?_
  refine lv_iload_n hx hb dX7_has_1 rfl (lv_at hl 1 rfl) ?_
  obtain ⟨u_1, hc_2, h⟩ := obd_e h
  refine Gci (wr := []) (va_runV (As := [.int x0]) (rest := []) ⟨hx, hb, hml, hown, hts⟩ (tX7_isNumber l dC dI cyI cyJ cyZ cyO s.heap.size h_th h_row v_th_undos v_th_isKept v_th_text v_th_length v_th_sizes v_th_values v_th_asked v_th_first v_th_behind v_th_readBits v_th_clauses v_th_doing v_th_numbers v_th_planWord v_th_addWord v_th_delWord v_th_fillWord v_th_probes v_th_links v_th_looks v_th_found v_th_isOver row x0 u_1 hc_2) (cwV 1 hts gX7_has_X7_isNumber rfl rfl rfl (by decide +kernel) ⟨Nat.le_of_ble_eq_true rfl, Nat.le_of_ble_eq_true rfl⟩) (GpreV hP hD hK hN [0, 1] rfl (by decide) 7 0 rfl rfl rfl) rfl rfl hl.1 rfl (lv_room (Nat.le_of_ble_eq_true rfl)) dX7_has_2 ⟨Nat.zero_le _, Nat.zero_le _⟩) hP hD hS hA [0, 1] [] rfl rfl (by decide) (by decide) (fun H locs hP hD hS => ?_)
  have hP : va_P (dC, dI) vwCl [(h_th, .inr (7, [.ref h_row, v_th_undos, v_th_isKept, v_th_text, v_th_length, v_th_sizes, v_th_values, v_th_asked, v_th_first, v_th_behind, v_th_readBits, v_th_clauses, v_th_doing, v_th_numbers, v_th_planWord, v_th_addWord, v_th_delWord, v_th_fillWord, v_th_probes, v_th_links, v_th_looks, v_th_found, v_th_isOver])), (h_row, .inl (cyI, 1824, .inl row))] H := hP
  have hD : va_D A [(h_th, .inr (7, [.ref h_row, v_th_undos, v_th_isKept, v_th_text, v_th_length, v_th_sizes, v_th_values, v_th_asked, v_th_first, v_th_behind, v_th_readBits, v_th_clauses, v_th_doing, v_th_numbers, v_th_planWord, v_th_addWord, v_th_delWord, v_th_fillWord, v_th_probes, v_th_links, v_th_looks, v_th_found, v_th_isOver])), (h_row, .inl (cyI, 1824, .inl row))] := hD
  obtain ⟨w_4, hm_8, h⟩ := obd_e h
  have J : ∀ (H : Heap) (locs : List Loc) (ls : Array Slot), va_P (dC, dI) vwCl [(h_th, .inr (7, [.ref h_row, v_th_undos, v_th_isKept, v_th_text, v_th_length, v_th_sizes, v_th_values, v_th_asked, v_th_first, v_th_behind, v_th_readBits, v_th_clauses, v_th_doing, v_th_numbers, v_th_planWord, v_th_addWord, v_th_delWord, v_th_fillWord, v_th_probes, v_th_links, v_th_looks, v_th_found, v_th_isOver])), (h_row, .inl (cyI, 1824, .inl row))] H → va_D A [(h_th, .inr (7, [.ref h_row, v_th_undos, v_th_isKept, v_th_text, v_th_length, v_th_sizes, v_th_values, v_th_asked, v_th_first, v_th_behind, v_th_readBits, v_th_clauses, v_th_doing, v_th_numbers, v_th_planWord, v_th_addWord, v_th_delWord, v_th_fillWord, v_th_probes, v_th_links, v_th_looks, v_th_found, v_th_isOver])), (h_row, .inl (cyI, 1824, .inl row))] → va_S A s.heap H locs → lv_has ls 2 [] → W p l e ({ frames := 2, cells := 0, slots := 0, locals := 46 }) s m args below meth c H locs 0 0 Q (F0 m 27 ls [.int w_4]) := by
    intro H locs ls hP hD hS hl
    obtain rfl := Option.some.inj h
    exact hret _ _ _ _ dX7_has_27 hP hD hS
  replace h := hm_8
  refine lv_if_ne (tgt := 13) hx hb dX7_has_5 (by decide) (fun c_3 => ?_) (fun c_3 => ?_)
  · have h := og_ite_f c_3 h
    refine lv_aload_n hx hb dX7_has_13 rfl (lv_at hl 0 rfl) ?_
    refine lv_iconst (v := 0) hx hb dX7_has_14 (by decide) ?_
    refine lv_iload_n hx hb dX7_has_15 rfl (lv_at hl 1 rfl) ?_
    obtain ⟨u_5, hc_6, h⟩ := obd_e h
    refine Gci (wr := []) (va_runV (As := [.int (0 : Int32), .int x0]) (rest := []) ⟨hx, hb, hml, hown, hts⟩ (tX7_isKey l dC dI cyI cyJ cyZ cyO H.size h_th h_row v_th_undos v_th_isKept v_th_text v_th_length v_th_sizes v_th_values v_th_asked v_th_first v_th_behind v_th_readBits v_th_clauses v_th_doing v_th_numbers v_th_planWord v_th_addWord v_th_delWord v_th_fillWord v_th_probes v_th_links v_th_looks v_th_found v_th_isOver row (0 : Int32) x0 u_5 hc_6) (cwV 2 hts gX7_has_X7_isKey rfl rfl rfl (by decide +kernel) ⟨Nat.le_of_ble_eq_true rfl, Nat.le_of_ble_eq_true rfl⟩) (GpreV hP hD hK hN [0, 1] rfl (by decide) 7 0 rfl rfl rfl) rfl rfl hl.1 rfl (lv_room (Nat.le_of_ble_eq_true rfl)) dX7_has_16 ⟨Nat.zero_le _, Nat.zero_le _⟩) hP hD hS hA [0, 1] [] rfl rfl (by decide) (by decide) (fun H locs hP hD hS => ?_)
    have hP : va_P (dC, dI) vwCl [(h_th, .inr (7, [.ref h_row, v_th_undos, v_th_isKept, v_th_text, v_th_length, v_th_sizes, v_th_values, v_th_asked, v_th_first, v_th_behind, v_th_readBits, v_th_clauses, v_th_doing, v_th_numbers, v_th_planWord, v_th_addWord, v_th_delWord, v_th_fillWord, v_th_probes, v_th_links, v_th_looks, v_th_found, v_th_isOver])), (h_row, .inl (cyI, 1824, .inl row))] H := hP
    have hD : va_D A [(h_th, .inr (7, [.ref h_row, v_th_undos, v_th_isKept, v_th_text, v_th_length, v_th_sizes, v_th_values, v_th_asked, v_th_first, v_th_behind, v_th_readBits, v_th_clauses, v_th_doing, v_th_numbers, v_th_planWord, v_th_addWord, v_th_delWord, v_th_fillWord, v_th_probes, v_th_links, v_th_looks, v_th_found, v_th_isOver])), (h_row, .inl (cyI, 1824, .inl row))] := hD
    refine lv_if_eq (tgt := 26) hx hb dX7_has_19 (by decide) (fun c_7 => ?_) (fun c_7 => ?_)
    · have h := og_ite_t c_7 h
      refine lv_iconst (v := 0) hx hb dX7_has_26 (by decide) ?_
      obtain rfl := Option.some.inj h
      exact J _ _ _ hP hD hS (lv_sub hl [] rfl)
    · have h := og_ite_f c_7 h
      refine lv_iconst (v := 1) hx hb dX7_has_22 (by decide) ?_
      refine lv_goto (tgt := 27) hx hb dX7_has_23 (by decide) ?_
      obtain rfl := Option.some.inj h
      exact J _ _ _ hP hD hS (lv_sub hl [] rfl)
  · have h := og_ite_t c_3 h
    refine lv_bipush (v := (-3)) hx hb dX7_has_8 (by decide) ?_
    refine lv_goto (tgt := 27) hx hb dX7_has_10 (by decide) ?_
    obtain rfl := Option.some.inj h
    exact J _ _ _ hP hD hS (lv_sub hl [] rfl)
