section LAW
variable {p : Program} {l : Launch} {e : Env} {s : State} {m : MethodId} {below : List Frame} {meth : Method} {c : Code} {H : Heap} {locs : List Loc} {Q : State → Prop} {b L i h0 h1 : Nat} {xs : Nat → Int32} {ls : Array Slot} {dC : Nat → ClassId} {dI : Nat → Nat → Nat} {cyI cyJ cyZ cyO : ClassId} {q r : Nat → Nat} {adK adV : Nat → Nat}
theorem gtL {i L : Nat} (hi : i ≤ 3000) (hL : L ≤ 2560) (h : ¬ (Int32.ofNat L - 5) < nI i) : i + 5 ≤ L := by
  by_cases c : i + 5 ≤ L
  · exact c
  · refine absurd ?_ h
    have e : ((Int32.ofNat L : Int32) - 5).toInt = (L : Int) - 5 := pk_sub_toInt (a := L) (b := 5) (by omega) (by omega)
    rw [Int32.lt_iff_toInt_lt, e, nI_toInt (by omega)]
    omega
set_option maxHeartbeats 4000000 in
set_option maxRecDepth 100000 in
theorem law_loop (C : LC p s m c b L xs dC dI cyI cyJ cyZ cyO adK adV) (kE : ∀ (H1 : Heap) (locs1 : List Loc) (ls1 : Array Slot), va_S (LA s) s.heap H1 locs1 → W p l e room_1 s m #[Value.ref b] below meth c H1 locs1 600000 7302250 Q (F0 m 1069 ls1 [])) : ∀ (n i : Nat), L < i + n → i ≤ L → ∀ (H : Heap) (locs : List Loc) (ls : Array Slot), HI (dC, dI) cyI cyJ cyZ cyO (LA s) h0 h1 q r H → va_S (LA s) s.heap H locs → lv_has ls 4 [(3, .int (nI i)), (2, .ref h1), (1, .ref h0), (0, .ref b)] → W p l e room_1 s m #[Value.ref b] below meth c H locs 600000 7302250 Q (F0 m 18 ls []) := by
  intro n
  induction n with
  | zero => intro i g1 g2; omega
  | succ n ih =>
    intro i g1 g2 H locs ls hI hS hl
    have C0 := C
    obtain ⟨hx, hb, hml, hown, hts, hK, hN, hXs, hX, hbl, hL⟩ := C0
    refine lv_iload_n hx hb dL_law_18 rfl (lv_at hl 0 rfl) ?_
    refine lv_aload_n hx hb dL_law_19 rfl (lv_at hl 3 rfl) ?_
    refine va_slen (A := LA s) hx hb hX hbl (Nat.not_le.mpr hbl) hS dL_law_20 ?_
    refine lv_iconst (v := 5) hx hb dL_law_21 (by decide +kernel) ?_
    refine lv_isub hx hb dL_law_22 ?_
    refine lv_icmp_gt (tgt := 1069) hx hb dL_law_23 (by decide) (fun _ => kE _ _ _ hS) (fun cg => ?_)
    have hi : i + 5 ≤ L := gtL (by omega) hL cg
    refine lv_aload_n hx hb dL_law_26 rfl (lv_at hl 3 rfl) ?_
    refine lv_iload_n hx hb dL_law_27 rfl (lv_at hl 0 rfl) ?_
    refine va_sld (A := LA s) hx hb hX hbl (Nat.not_le.mpr hbl) hS (i := nI i) (vp_in_nI (by omega) (by omega)) dL_law_28 ?_
    refine lv_bipush (v := 31) hx hb dL_law_29 (by decide +kernel) ?_
    refine lv_iand hx hb dL_law_31 ?_
    obtain ⟨k, hk, ek⟩ := pk_andE (xs (nI i).toNatClampNeg) (m := 31) 5 (by decide +kernel)
    rw [ek]
    have hk : k < 32 := hk
    have K : ∀ (H1 : Heap) (locs1 : List Loc), HI (dC, dI) cyI cyJ cyZ cyO (LA s) h0 h1 q r H1 → va_S (LA s) s.heap H1 locs1 → W p l e room_1 s m #[Value.ref b] below meth c H1 locs1 600000 7302250 Q (F0 m 1063 ls []) := by
      intro H1 locs1 hI1 hS1
      refine lv_iinc (v := nI (i + 5)) (lv' := [(3, .int (nI (i + 5))), (2, .ref h1), (1, .ref h0), (0, .ref b)]) hx hb dL_law_1063 hl (k := 0) rfl (by rw [show Int32.ofInt 5 = nI 5 by decide +kernel]; exact nI_add i 5) (by decide) rfl (fun ls hl => ?_)
      refine lv_goto (tgt := 18) hx hb dL_law_1066 (by decide) ?_
      exact ih (i + 5) (by omega) hi H1 locs1 ls hI1 hS1 hl
    have hk32 : k = 0 ∨ k = 1 ∨ k = 2 ∨ k = 3 ∨ k = 4 ∨ k = 5 ∨ k = 6 ∨ k = 7 ∨ k = 8 ∨ k = 9 ∨ k = 10 ∨ k = 11 ∨ k = 12 ∨ k = 13 ∨ k = 14 ∨ k = 15 ∨ k = 16 ∨ k = 17 ∨ k = 18 ∨ k = 19 ∨ k = 20 ∨ k = 21 ∨ k = 22 ∨ k = 23 ∨ k = 24 ∨ k = 25 ∨ k = 26 ∨ k = 27 ∨ k = 28 ∨ k = 29 ∨ k = 30 ∨ k = 31 := by omega
    rcases hk32 with rfl | rfl | rfl | rfl | rfl | rfl | rfl | rfl | rfl | rfl | rfl | rfl | rfl | rfl | rfl | rfl | rfl | rfl | rfl | rfl | rfl | rfl | rfl | rfl | rfl | rfl | rfl | rfl | rfl | rfl | rfl | rfl
    · exact lv_tableIn (off := 144) (tgt := 176) hx hb dL_law_32 (by decide +kernel) (by decide +kernel) (by decide +kernel) (by decide) (cs_write C hi hl hI hS K)
    · exact lv_tableIn (off := 167) (tgt := 199) hx hb dL_law_32 (by decide +kernel) (by decide +kernel) (by decide +kernel) (by decide) (cs_erase C hi hl hI hS K)
    · exact lv_tableIn (off := 180) (tgt := 212) hx hb dL_law_32 (by decide +kernel) (by decide +kernel) (by decide +kernel) (by decide) (cs_fault C hi hl hI hS K)
    · exact lv_tableIn (off := 193) (tgt := 225) hx hb dL_law_32 (by decide +kernel) (by decide +kernel) (by decide +kernel) (by decide) (cs_read C hi hl hI hS K)
    · exact lv_tableIn (off := 206) (tgt := 238) hx hb dL_law_32 (by decide +kernel) (by decide +kernel) (by decide +kernel) (by decide) (cs_add C hi hl hI hS K)
    · exact lv_tableIn (off := 229) (tgt := 261) hx hb dL_law_32 (by decide +kernel) (by decide +kernel) (by decide +kernel) (by decide) (cs_remove C hi hl hI hS K)
    · exact lv_tableIn (off := 252) (tgt := 284) hx hb dL_law_32 (by decide +kernel) (by decide +kernel) (by decide +kernel) (by decide) (cs_undo C hi hl hI hS K)
    · exact lv_tableIn (off := 265) (tgt := 297) hx hb dL_law_32 (by decide +kernel) (by decide +kernel) (by decide +kernel) (by decide) (cs_keep C hi hl hI hS K)
    · exact lv_tableIn (off := 288) (tgt := 320) hx hb dL_law_32 (by decide +kernel) (by decide +kernel) (by decide +kernel) (by decide) (cs_back C hi hl hI hS K)
    · exact lv_tableIn (off := 311) (tgt := 343) hx hb dL_law_32 (by decide +kernel) (by decide +kernel) (by decide +kernel) (by decide) (cs_has C hi hl hI hS K)
    · exact lv_tableIn (off := 334) (tgt := 366) hx hb dL_law_32 (by decide +kernel) (by decide +kernel) (by decide +kernel) (by decide) (cs_near C hi hl hI hS K)
    · exact lv_tableIn (off := 367) (tgt := 399) hx hb dL_law_32 (by decide +kernel) (by decide +kernel) (by decide +kernel) (by decide) (cs_rank C hi hl hI hS K)
    · exact lv_tableIn (off := 390) (tgt := 422) hx hb dL_law_32 (by decide +kernel) (by decide +kernel) (by decide +kernel) (by decide) (cs_ranked C hi hl hI hS K)
    · exact lv_tableIn (off := 413) (tgt := 445) hx hb dL_law_32 (by decide +kernel) (by decide +kernel) (by decide +kernel) (by decide) (cs_search C hi hl hI hS K)
    · exact lv_tableIn (off := 446) (tgt := 478) hx hb dL_law_32 (by decide +kernel) (by decide +kernel) (by decide +kernel) (by decide) (cs_bucket C hi hl hI hS K)
    · exact lv_tableIn (off := 479) (tgt := 511) hx hb dL_law_32 (by decide +kernel) (by decide +kernel) (by decide +kernel) (by decide) (cs_level C hi hl hI hS K)
    · exact lv_tableIn (off := 502) (tgt := 534) hx hb dL_law_32 (by decide +kernel) (by decide +kernel) (by decide +kernel) (by decide) (cs_marks C hi hl hI hS K)
    · exact lv_tableIn (off := 535) (tgt := 567) hx hb dL_law_32 (by decide +kernel) (by decide +kernel) (by decide +kernel) (by decide) (cs_under C hi hl hI hS K)
    · exact lv_tableIn (off := 578) (tgt := 610) hx hb dL_law_32 (by decide +kernel) (by decide +kernel) (by decide +kernel) (by decide) (cs_sweep C hi hl hI hS K)
    · exact lv_tableIn (off := 621) (tgt := 653) hx hb dL_law_32 (by decide +kernel) (by decide +kernel) (by decide +kernel) (by decide) (cs_flood C hi hl hI hS K)
    · exact lv_tableIn (off := 674) (tgt := 706) hx hb dL_law_32 (by decide +kernel) (by decide +kernel) (by decide +kernel) (by decide) (cs_dearest C hi hl hI hS K)
    · exact lv_tableIn (off := 697) (tgt := 729) hx hb dL_law_32 (by decide +kernel) (by decide +kernel) (by decide +kernel) (by decide) (cs_mean C hi hl hI hS K)
    · exact lv_tableIn (off := 720) (tgt := 752) hx hb dL_law_32 (by decide +kernel) (by decide +kernel) (by decide +kernel) (by decide) (cs_spread C hi hl hI hS K)
    · exact lv_tableIn (off := 753) (tgt := 785) hx hb dL_law_32 (by decide +kernel) (by decide +kernel) (by decide +kernel) (by decide) (cs_row C hi hl hI hS K)
    · exact lv_tableIn (off := 786) (tgt := 818) hx hb dL_law_32 (by decide +kernel) (by decide +kernel) (by decide +kernel) (by decide) (cs_set C hi hl hI hS K)
    · exact lv_tableIn (off := 829) (tgt := 861) hx hb dL_law_32 (by decide +kernel) (by decide +kernel) (by decide +kernel) (by decide) (cs_work C hi hl hI hS K)
    · exact lv_tableIn (off := 882) (tgt := 914) hx hb dL_law_32 (by decide +kernel) (by decide +kernel) (by decide +kernel) (by decide) (cs_bits C hi hl hI hS K)
    · exact lv_tableIn (off := 915) (tgt := 947) hx hb dL_law_32 (by decide +kernel) (by decide +kernel) (by decide +kernel) (by decide) (cs_sum C hi hl hI hS K)
    · exact lv_tableIn (off := 938) (tgt := 970) hx hb dL_law_32 (by decide +kernel) (by decide +kernel) (by decide +kernel) (by decide) (cs_load C hi hl hI hS K)
    · exact lv_tableIn (off := 971) (tgt := 1003) hx hb dL_law_32 (by decide +kernel) (by decide +kernel) (by decide +kernel) (by decide) (cs_drop C hi hl hI hS K)
    · exact lv_tableIn (off := 994) (tgt := 1026) hx hb dL_law_32 (by decide +kernel) (by decide +kernel) (by decide +kernel) (by decide) (cs_asked C hi hl hI hS K)
    · exact lv_tableIn (off := 1008) (tgt := 1040) hx hb dL_law_32 (by decide +kernel) (by decide +kernel) (by decide +kernel) (by decide) (cs_count C hi hl hI hS K)
end LAW
