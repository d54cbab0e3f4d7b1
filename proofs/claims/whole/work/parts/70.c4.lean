section LAW
variable {p : Program} {l : Launch} {e : Env} {s : State} {m : MethodId} {below : List Frame} {meth : Method} {c : Code} {H : Heap} {locs : List Loc} {Q : State → Prop} {b L i h0 h1 : Nat} {xs : Nat → Int32} {ls : Array Slot} {dC : Nat → ClassId} {dI : Nat → Nat → Nat} {cyI cyJ cyZ cyO : ClassId} {q r : Nat → Nat} {adK adV : Nat → Nat}
set_option maxHeartbeats 4000000 in
set_option maxRecDepth 100000 in
theorem cs_sweep (C : LC p s m c b L xs dC dI cyI cyJ cyZ cyO adK adV) (hi : i + 5 ≤ L) (hl : lv_has ls 4 [(3, .int (nI i)), (2, .ref h1), (1, .ref h0), (0, .ref b)]) (hI : HI (dC, dI) cyI cyJ cyZ cyO (LA s) h0 h1 q r H) (hS : va_S (LA s) s.heap H locs) (kk : ∀ (H1 : Heap) (locs1 : List Loc), HI (dC, dI) cyI cyJ cyZ cyO (LA s) h0 h1 q r H1 → va_S (LA s) s.heap H1 locs1 → W p l e room_1 s m #[Value.ref b] below meth c H1 locs1 600000 7302250 Q (F0 m 1063 ls [])) : W p l e room_1 s m #[Value.ref b] below meth c H locs 600000 7302250 Q (F0 m 610 ls []) := by
  have C0 := C
  obtain ⟨hx, hb, hml, hown, hts, hK, hN, hXs, hX, hbl, hL⟩ := C
  have hA : ∀ q : Nat, s.heap.size ≤ q → LA s q := fun _ h => h
  obtain ⟨now, trial, next, held, ring, full, cop, f1, f2, f3, f4, f5, cl, sc, sb, spl, sts, stk, le, ki, nu, pl, ln, told, undos, isKept, te, ml, si, va, fi, be, rb, cc, dg, mnu, pw, aw, dw, fw, pr, li, lo, fo, ov, row, hP, hD, hNo, hPa, hKe, hT, hWo, hR, hov⟩ := hI
  obtain ⟨⟨zb, zs, zn, zm, zp, zj, zK, zM⟩, zO, zC, zr⟩ := hNo
  have hNo : NowI now row := ⟨_, zO, zC, zr⟩
  have hB := toBoth zO zC zr
  refine lv_aload_n hx hb dL_law_610 rfl (lv_at hl 2 rfl) ?_
  refine ld_arg (k := 1) C0 hi hl hS (by decide) (by decide +kernel) dL_law_611 dL_law_612 dL_law_613 dL_law_614 dL_law_615 ?_
  refine ld_arg (k := 2) C0 hi hl hS (by decide) (by decide +kernel) dL_law_616 dL_law_617 dL_law_618 dL_law_619 dL_law_620 ?_
  refine ld_arg (k := 3) C0 hi hl hS (by decide) (by decide +kernel) dL_law_621 dL_law_622 dL_law_623 dL_law_624 dL_law_625 ?_
  obtain ⟨r0, v, row1, e6, e7, hso⟩ := eq_sweep hB trial.1 trial.2.1 trial.2.2.1 trial.2.2.2.1 trial.2.2.2.2.1 trial.2.2.2.2.2.1 trial.2.2.2.2.2.2.1 trial.2.2.2.2.2.2.2 (xs (i + 1)) (xs (i + 2)) (xs (i + 3))
  refine Gj (va_runV (As := [.int (xs (i + 1)), .int (xs (i + 2)), .int (xs (i + 3))]) (rest := []) ⟨hx, hb, hml, hown, hts⟩ (tX6_sweep l dC dI cyI cyJ cyZ cyO H.size h0 (q 1) (q 4) (q 0) (q 2) (q 3) (q 5) (.ref (q 6)) (.ref (q 32)) (.ref (q 41)) (.ref (q 42)) (.ref (q 46)) (.long told) now.1 now.2.1 now.2.2.1 now.2.2.2.1 now.2.2.2.2.1 now.2.2.2.2.2.1 now.2.2.2.2.2.2.1 now.2.2.2.2.2.2.2 trial.1 trial.2.1 trial.2.2.1 trial.2.2.2.1 trial.2.2.2.2.1 trial.2.2.2.2.2.1 trial.2.2.2.2.2.2.1 trial.2.2.2.2.2.2.2 (xs (i + 1)) (xs (i + 2)) (xs (i + 3)) ((r0, v)) e6) (cwV 3 hts gL_law_X6_sweep rfl rfl rfl (by decide +kernel) ⟨Nat.le_of_ble_eq_true rfl, Nat.le_of_ble_eq_true rfl⟩) (GpreV hP hD hK hN [0, 2, 1, 3, 5, 4, 6] rfl (by decide) 6 0 rfl rfl rfl) rfl rfl hl.1 rfl (lv_room (Nat.le_of_ble_eq_true rfl)) dL_law_626 ⟨Nat.le_of_ble_eq_true rfl, Nat.le_of_ble_eq_true rfl⟩) hP hD hS hA [0, 2, 1, 3, 5, 4, 6] rfl rfl (fun H locs hP hD hS => ?_)
  have hP : va_P (dC, dI) vwCl (WD cyI cyJ cyZ cyO h0 h1 q r now v next held ring full cop f1 f2 f3 f4 f5 cl sc sb spl sts stk le ki nu pl ln told undos isKept te ml si va told fi be rb cc dg mnu pw aw dw fw pr li lo fo ov row) H := hP
  have hD : va_D (LA s) (WD cyI cyJ cyZ cyO h0 h1 q r now v next held ring full cop f1 f2 f3 f4 f5 cl sc sb spl sts stk le ki nu pl ln told undos isKept te ml si va told fi be rb cc dg mnu pw aw dw fw pr li lo fo ov row) := hD
  refine lv_aload_n hx hb dL_law_629 rfl (lv_at hl 1 rfl) ?_
  refine ld_arg (k := 1) C0 hi hl hS (by decide) (by decide +kernel) dL_law_630 dL_law_631 dL_law_632 dL_law_633 dL_law_634 ?_
  refine ld_arg (k := 2) C0 hi hl hS (by decide) (by decide +kernel) dL_law_635 dL_law_636 dL_law_637 dL_law_638 dL_law_639 ?_
  refine ld_arg (k := 3) C0 hi hl hS (by decide) (by decide +kernel) dL_law_640 dL_law_641 dL_law_642 dL_law_643 dL_law_644 ?_
  refine Gj (va_runV (As := [.int (xs (i + 1)), .int (xs (i + 2)), .int (xs (i + 3))]) (rest := [.int r0]) ⟨hx, hb, hml, hown, hts⟩ (tX7_sweep l dC dI cyI cyJ cyZ cyO H.size h1 (r 9) (.int undos) (.ref (r 0)) (.ref (r 1)) (.int ml) (.ref (r 2)) (.ref (r 3)) (.long told) (.int fi) (.int be) (.int rb) (.int cc) (.int dg) (.ref (r 4)) (.ref (r 5)) (.ref (r 6)) (.ref (r 7)) (.ref (r 8)) (.int pr) (.int li) (.int lo) (.int fo) (.int ov) row (xs (i + 1)) (xs (i + 2)) (xs (i + 3)) ((r0, row1)) e7) (cwV 3 hts gL_law_X7_sweep rfl rfl rfl (by decide +kernel) ⟨Nat.le_of_ble_eq_true rfl, Nat.le_of_ble_eq_true rfl⟩) (GpreV hP hD hK hN [59, 60] rfl (by decide) 7 0 rfl rfl rfl) rfl rfl hl.1 rfl (lv_room (Nat.le_of_ble_eq_true rfl)) dL_law_645 ⟨Nat.le_of_ble_eq_true rfl, Nat.le_of_ble_eq_true rfl⟩) hP hD hS hA [59, 60] rfl rfl (fun H locs hP hD hS => ?_)
  have hP : va_P (dC, dI) vwCl (WD cyI cyJ cyZ cyO h0 h1 q r now v next held ring full cop f1 f2 f3 f4 f5 cl sc sb spl sts stk le ki nu pl ln told undos isKept te ml si va told fi be rb cc dg mnu pw aw dw fw pr li lo fo ov row1) H := hP
  have hD : va_D (LA s) (WD cyI cyJ cyZ cyO h0 h1 q r now v next held ring full cop f1 f2 f3 f4 f5 cl sc sb spl sts stk le ki nu pl ln told undos isKept te ml si va told fi be rb cc dg mnu pw aw dw fw pr li lo fo ov row1) := hD
  refine lv_icmp_eq (tgt := 1063) hx hb dL_law_648 (by decide) (fun _ => ?_) (fun c9 => absurd rfl c9)
  exact kk _ _ ⟨now, v, next, held, ring, full, cop, f1, f2, f3, f4, f5, cl, sc, sb, spl, sts, stk, le, ki, nu, pl, ln, told, undos, isKept, te, ml, si, va, fi, be, rb, cc, dg, mnu, pw, aw, dw, fw, pr, li, lo, fo, ov, row1, hP, hD, NowI_row hNo (fun i9 h9 => hso i9 (by omega)), PastI_row hPa (fun i9 _ h9 => hso i9 (by omega)), KeptI_row hKe (fun i9 _ h9 => hso i9 (by omega)), hT, hWo, hR, hov⟩ hS
set_option maxHeartbeats 4000000 in
set_option maxRecDepth 100000 in
theorem cs_flood (C : LC p s m c b L xs dC dI cyI cyJ cyZ cyO adK adV) (hi : i + 5 ≤ L) (hl : lv_has ls 4 [(3, .int (nI i)), (2, .ref h1), (1, .ref h0), (0, .ref b)]) (hI : HI (dC, dI) cyI cyJ cyZ cyO (LA s) h0 h1 q r H) (hS : va_S (LA s) s.heap H locs) (kk : ∀ (H1 : Heap) (locs1 : List Loc), HI (dC, dI) cyI cyJ cyZ cyO (LA s) h0 h1 q r H1 → va_S (LA s) s.heap H1 locs1 → W p l e room_1 s m #[Value.ref b] below meth c H1 locs1 600000 7302250 Q (F0 m 1063 ls [])) : W p l e room_1 s m #[Value.ref b] below meth c H locs 600000 7302250 Q (F0 m 653 ls []) := by
  have C0 := C
  obtain ⟨hx, hb, hml, hown, hts, hK, hN, hXs, hX, hbl, hL⟩ := C
  have hA : ∀ q : Nat, s.heap.size ≤ q → LA s q := fun _ h => h
  obtain ⟨now, trial, next, held, ring, full, cop, f1, f2, f3, f4, f5, cl, sc, sb, spl, sts, stk, le, ki, nu, pl, ln, told, undos, isKept, te, ml, si, va, fi, be, rb, cc, dg, mnu, pw, aw, dw, fw, pr, li, lo, fo, ov, row, hP, hD, hNo, hPa, hKe, hT, hWo, hR, hov⟩ := hI
  obtain ⟨⟨zb, zs, zn, zm, zp, zj, zK, zM⟩, zO, zC, zr⟩ := hNo
  have hNo : NowI now row := ⟨_, zO, zC, zr⟩
  have hB := toBoth zO zC zr
  refine lv_aload_n hx hb dL_law_653 rfl (lv_at hl 2 rfl) ?_
  refine ld_arg (k := 1) C0 hi hl hS (by decide) (by decide +kernel) dL_law_654 dL_law_655 dL_law_656 dL_law_657 dL_law_658 ?_
  refine ld_arg (k := 2) C0 hi hl hS (by decide) (by decide +kernel) dL_law_659 dL_law_660 dL_law_661 dL_law_662 dL_law_663 ?_
  refine ld_arg (k := 3) C0 hi hl hS (by decide) (by decide +kernel) dL_law_664 dL_law_665 dL_law_666 dL_law_667 dL_law_668 ?_
  refine ld_arg (k := 4) C0 hi hl hS (by decide) (by decide +kernel) dL_law_669 dL_law_670 dL_law_671 dL_law_672 dL_law_673 ?_
  obtain ⟨r0, v, row1, e6, e7, hso⟩ := eq_flood hB trial.1 trial.2.1 trial.2.2.1 trial.2.2.2.1 trial.2.2.2.2.1 trial.2.2.2.2.2.1 trial.2.2.2.2.2.2.1 trial.2.2.2.2.2.2.2 (xs (i + 1)) (xs (i + 2)) (xs (i + 3)) (xs (i + 4))
  refine Gj (va_runV (As := [.int (xs (i + 1)), .int (xs (i + 2)), .int (xs (i + 3)), .int (xs (i + 4))]) (rest := []) ⟨hx, hb, hml, hown, hts⟩ (tX6_flood l dC dI cyI cyJ cyZ cyO H.size h0 (q 1) (q 4) (q 0) (q 2) (q 3) (q 5) (.ref (q 6)) (.ref (q 32)) (.ref (q 41)) (.ref (q 42)) (.ref (q 46)) (.long told) now.1 now.2.1 now.2.2.1 now.2.2.2.1 now.2.2.2.2.1 now.2.2.2.2.2.1 now.2.2.2.2.2.2.1 now.2.2.2.2.2.2.2 trial.1 trial.2.1 trial.2.2.1 trial.2.2.2.1 trial.2.2.2.2.1 trial.2.2.2.2.2.1 trial.2.2.2.2.2.2.1 trial.2.2.2.2.2.2.2 (xs (i + 1)) (xs (i + 2)) (xs (i + 3)) (xs (i + 4)) ((r0, v)) e6) (cwV 4 hts gL_law_X6_flood rfl rfl rfl (by decide +kernel) ⟨Nat.le_of_ble_eq_true rfl, Nat.le_of_ble_eq_true rfl⟩) (GpreV hP hD hK hN [0, 2, 1, 3, 5, 4, 6] rfl (by decide) 6 0 rfl rfl rfl) rfl rfl hl.1 rfl (lv_room (Nat.le_of_ble_eq_true rfl)) dL_law_674 ⟨Nat.le_of_ble_eq_true rfl, Nat.le_of_ble_eq_true rfl⟩) hP hD hS hA [0, 2, 1, 3, 5, 4, 6] rfl rfl (fun H locs hP hD hS => ?_)
  have hP : va_P (dC, dI) vwCl (WD cyI cyJ cyZ cyO h0 h1 q r now v next held ring full cop f1 f2 f3 f4 f5 cl sc sb spl sts stk le ki nu pl ln told undos isKept te ml si va told fi be rb cc dg mnu pw aw dw fw pr li lo fo ov row) H := hP
  have hD : va_D (LA s) (WD cyI cyJ cyZ cyO h0 h1 q r now v next held ring full cop f1 f2 f3 f4 f5 cl sc sb spl sts stk le ki nu pl ln told undos isKept te ml si va told fi be rb cc dg mnu pw aw dw fw pr li lo fo ov row) := hD
  refine lv_aload_n hx hb dL_law_677 rfl (lv_at hl 1 rfl) ?_
  refine ld_arg (k := 1) C0 hi hl hS (by decide) (by decide +kernel) dL_law_678 dL_law_679 dL_law_680 dL_law_681 dL_law_682 ?_
  refine ld_arg (k := 2) C0 hi hl hS (by decide) (by decide +kernel) dL_law_683 dL_law_684 dL_law_685 dL_law_686 dL_law_687 ?_
  refine ld_arg (k := 3) C0 hi hl hS (by decide) (by decide +kernel) dL_law_688 dL_law_689 dL_law_690 dL_law_691 dL_law_692 ?_
  refine ld_arg (k := 4) C0 hi hl hS (by decide) (by decide +kernel) dL_law_693 dL_law_694 dL_law_695 dL_law_696 dL_law_697 ?_
  refine Gj (va_runV (As := [.int (xs (i + 1)), .int (xs (i + 2)), .int (xs (i + 3)), .int (xs (i + 4))]) (rest := [.int r0]) ⟨hx, hb, hml, hown, hts⟩ (tX7_flood l dC dI cyI cyJ cyZ cyO H.size h1 (r 9) (.int undos) (.ref (r 0)) (.ref (r 1)) (.int ml) (.ref (r 2)) (.ref (r 3)) (.long told) (.int fi) (.int be) (.int rb) (.int cc) (.int dg) (.ref (r 4)) (.ref (r 5)) (.ref (r 6)) (.ref (r 7)) (.ref (r 8)) (.int pr) (.int li) (.int lo) (.int fo) (.int ov) row (xs (i + 1)) (xs (i + 2)) (xs (i + 3)) (xs (i + 4)) ((r0, row1)) e7) (cwV 4 hts gL_law_X7_flood rfl rfl rfl (by decide +kernel) ⟨Nat.le_of_ble_eq_true rfl, Nat.le_of_ble_eq_true rfl⟩) (GpreV hP hD hK hN [59, 60] rfl (by decide) 7 0 rfl rfl rfl) rfl rfl hl.1 rfl (lv_room (Nat.le_of_ble_eq_true rfl)) dL_law_698 ⟨Nat.le_of_ble_eq_true rfl, Nat.le_of_ble_eq_true rfl⟩) hP hD hS hA [59, 60] rfl rfl (fun H locs hP hD hS => ?_)
  have hP : va_P (dC, dI) vwCl (WD cyI cyJ cyZ cyO h0 h1 q r now v next held ring full cop f1 f2 f3 f4 f5 cl sc sb spl sts stk le ki nu pl ln told undos isKept te ml si va told fi be rb cc dg mnu pw aw dw fw pr li lo fo ov row1) H := hP
  have hD : va_D (LA s) (WD cyI cyJ cyZ cyO h0 h1 q r now v next held ring full cop f1 f2 f3 f4 f5 cl sc sb spl sts stk le ki nu pl ln told undos isKept te ml si va told fi be rb cc dg mnu pw aw dw fw pr li lo fo ov row1) := hD
  refine lv_icmp_eq (tgt := 1063) hx hb dL_law_701 (by decide) (fun _ => ?_) (fun c9 => absurd rfl c9)
  exact kk _ _ ⟨now, v, next, held, ring, full, cop, f1, f2, f3, f4, f5, cl, sc, sb, spl, sts, stk, le, ki, nu, pl, ln, told, undos, isKept, te, ml, si, va, fi, be, rb, cc, dg, mnu, pw, aw, dw, fw, pr, li, lo, fo, ov, row1, hP, hD, NowI_row hNo (fun i9 h9 => hso i9 (by omega)), PastI_row hPa (fun i9 _ h9 => hso i9 (by omega)), KeptI_row hKe (fun i9 _ h9 => hso i9 (by omega)), hT, hWo, hR, hov⟩ hS
set_option maxHeartbeats 4000000 in
set_option maxRecDepth 100000 in
theorem cs_row (C : LC p s m c b L xs dC dI cyI cyJ cyZ cyO adK adV) (hi : i + 5 ≤ L) (hl : lv_has ls 4 [(3, .int (nI i)), (2, .ref h1), (1, .ref h0), (0, .ref b)]) (hI : HI (dC, dI) cyI cyJ cyZ cyO (LA s) h0 h1 q r H) (hS : va_S (LA s) s.heap H locs) (kk : ∀ (H1 : Heap) (locs1 : List Loc), HI (dC, dI) cyI cyJ cyZ cyO (LA s) h0 h1 q r H1 → va_S (LA s) s.heap H1 locs1 → W p l e room_1 s m #[Value.ref b] below meth c H1 locs1 600000 7302250 Q (F0 m 1063 ls [])) : W p l e room_1 s m #[Value.ref b] below meth c H locs 600000 7302250 Q (F0 m 785 ls []) := by
  have C0 := C
  obtain ⟨hx, hb, hml, hown, hts, hK, hN, hXs, hX, hbl, hL⟩ := C
  have hA : ∀ q : Nat, s.heap.size ≤ q → LA s q := fun _ h => h
  obtain ⟨now, trial, next, held, ring, full, cop, f1, f2, f3, f4, f5, cl, sc, sb, spl, sts, stk, le, ki, nu, pl, ln, told, undos, isKept, te, ml, si, va, fi, be, rb, cc, dg, mnu, pw, aw, dw, fw, pr, li, lo, fo, ov, row, hP, hD, hNo, hPa, hKe, hT, hWo, hR, hov⟩ := hI
  refine lv_aload_n hx hb dL_law_785 rfl (lv_at hl 2 rfl) ?_
  refine ld_arg (k := 1) C0 hi hl hS (by decide) (by decide +kernel) dL_law_786 dL_law_787 dL_law_788 dL_law_789 dL_law_790 ?_
  refine ld_arg (k := 2) C0 hi hl hS (by decide) (by decide +kernel) dL_law_791 dL_law_792 dL_law_793 dL_law_794 dL_law_795 ?_
  obtain ⟨r0, pl1, ln1, si1, va1, e6, e7, hR1⟩ := eq_row hR (xs (i + 1)) (xs (i + 2))
  refine Gj (va_runV (As := [.int (xs (i + 1)), .int (xs (i + 2))]) (rest := []) ⟨hx, hb, hml, hown, hts⟩ (tX6_row l dC dI cyI cyJ cyZ cyO H.size h0 (q 46) (q 47) (q 48) (.ref (q 1)) (.ref (q 4)) (.ref (q 6)) (.ref (q 32)) (.ref (q 41)) (.ref (q 42)) (.long told) pl ln (xs (i + 1)) (xs (i + 2)) ((r0, pl1, ln1)) e6) (cwV 2 hts gL_law_X6_row rfl rfl rfl (by decide +kernel) ⟨Nat.le_of_ble_eq_true rfl, Nat.le_of_ble_eq_true rfl⟩) (GpreV hP hD hK hN [0, 47, 48, 49] rfl (by decide) 6 0 rfl rfl rfl) rfl rfl hl.1 rfl (lv_room (Nat.le_of_ble_eq_true rfl)) dL_law_796 ⟨Nat.le_of_ble_eq_true rfl, Nat.le_of_ble_eq_true rfl⟩) hP hD hS hA [0, 47, 48, 49] rfl rfl (fun H locs hP hD hS => ?_)
  have hP : va_P (dC, dI) vwCl (WD cyI cyJ cyZ cyO h0 h1 q r now trial next held ring full cop f1 f2 f3 f4 f5 cl sc sb spl sts stk le ki nu pl1 ln1 told undos isKept te ml si va told fi be rb cc dg mnu pw aw dw fw pr li lo fo ov row) H := hP
  have hD : va_D (LA s) (WD cyI cyJ cyZ cyO h0 h1 q r now trial next held ring full cop f1 f2 f3 f4 f5 cl sc sb spl sts stk le ki nu pl1 ln1 told undos isKept te ml si va told fi be rb cc dg mnu pw aw dw fw pr li lo fo ov row) := hD
  refine lv_aload_n hx hb dL_law_799 rfl (lv_at hl 1 rfl) ?_
  refine ld_arg (k := 1) C0 hi hl hS (by decide) (by decide +kernel) dL_law_800 dL_law_801 dL_law_802 dL_law_803 dL_law_804 ?_
  refine ld_arg (k := 2) C0 hi hl hS (by decide) (by decide +kernel) dL_law_805 dL_law_806 dL_law_807 dL_law_808 dL_law_809 ?_
  refine Gj (va_runV (As := [.int (xs (i + 1)), .int (xs (i + 2))]) (rest := [.int r0]) ⟨hx, hb, hml, hown, hts⟩ (tX7_row l dC dI cyI cyJ cyZ cyO H.size h1 (r 2) (r 3) (.ref (r 9)) (.int undos) (.ref (r 0)) (.ref (r 1)) (.int ml) (.long told) (.int fi) (.int be) (.int rb) (.int cc) (.int dg) (.ref (r 4)) (.ref (r 5)) (.ref (r 6)) (.ref (r 7)) (.ref (r 8)) (.int pr) (.int li) (.int lo) (.int fo) (.int ov) si va (xs (i + 1)) (xs (i + 2)) ((r0, si1, va1)) e7) (cwV 2 hts gL_law_X7_row rfl rfl rfl (by decide +kernel) ⟨Nat.le_of_ble_eq_true rfl, Nat.le_of_ble_eq_true rfl⟩) (GpreV hP hD hK hN [59, 52, 53] rfl (by decide) 7 0 rfl rfl rfl) rfl rfl hl.1 rfl (lv_room (Nat.le_of_ble_eq_true rfl)) dL_law_810 ⟨Nat.le_of_ble_eq_true rfl, Nat.le_of_ble_eq_true rfl⟩) hP hD hS hA [59, 52, 53] rfl rfl (fun H locs hP hD hS => ?_)
  have hP : va_P (dC, dI) vwCl (WD cyI cyJ cyZ cyO h0 h1 q r now trial next held ring full cop f1 f2 f3 f4 f5 cl sc sb spl sts stk le ki nu pl1 ln1 told undos isKept te ml si1 va1 told fi be rb cc dg mnu pw aw dw fw pr li lo fo ov row) H := hP
  have hD : va_D (LA s) (WD cyI cyJ cyZ cyO h0 h1 q r now trial next held ring full cop f1 f2 f3 f4 f5 cl sc sb spl sts stk le ki nu pl1 ln1 told undos isKept te ml si1 va1 told fi be rb cc dg mnu pw aw dw fw pr li lo fo ov row) := hD
  refine lv_icmp_eq (tgt := 1063) hx hb dL_law_813 (by decide) (fun _ => ?_) (fun c9 => absurd rfl c9)
  exact kk _ _ ⟨now, trial, next, held, ring, full, cop, f1, f2, f3, f4, f5, cl, sc, sb, spl, sts, stk, le, ki, nu, pl1, ln1, told, undos, isKept, te, ml, si1, va1, fi, be, rb, cc, dg, mnu, pw, aw, dw, fw, pr, li, lo, fo, ov, row, hP, hD, hNo, hPa, hKe, hT, hWo, hR1, hov⟩ hS
set_option maxHeartbeats 4000000 in
set_option maxRecDepth 100000 in
theorem cs_set (C : LC p s m c b L xs dC dI cyI cyJ cyZ cyO adK adV) (hi : i + 5 ≤ L) (hl : lv_has ls 4 [(3, .int (nI i)), (2, .ref h1), (1, .ref h0), (0, .ref b)]) (hI : HI (dC, dI) cyI cyJ cyZ cyO (LA s) h0 h1 q r H) (hS : va_S (LA s) s.heap H locs) (kk : ∀ (H1 : Heap) (locs1 : List Loc), HI (dC, dI) cyI cyJ cyZ cyO (LA s) h0 h1 q r H1 → va_S (LA s) s.heap H1 locs1 → W p l e room_1 s m #[Value.ref b] below meth c H1 locs1 600000 7302250 Q (F0 m 1063 ls [])) : W p l e room_1 s m #[Value.ref b] below meth c H locs 600000 7302250 Q (F0 m 818 ls []) := by
  have C0 := C
  obtain ⟨hx, hb, hml, hown, hts, hK, hN, hXs, hX, hbl, hL⟩ := C
  have hA : ∀ q : Nat, s.heap.size ≤ q → LA s q := fun _ h => h
  obtain ⟨now, trial, next, held, ring, full, cop, f1, f2, f3, f4, f5, cl, sc, sb, spl, sts, stk, le, ki, nu, pl, ln, told, undos, isKept, te, ml, si, va, fi, be, rb, cc, dg, mnu, pw, aw, dw, fw, pr, li, lo, fo, ov, row, hP, hD, hNo, hPa, hKe, hT, hWo, hR, hov⟩ := hI
  refine lv_aload_n hx hb dL_law_818 rfl (lv_at hl 2 rfl) ?_
  refine ld_arg (k := 1) C0 hi hl hS (by decide) (by decide +kernel) dL_law_819 dL_law_820 dL_law_821 dL_law_822 dL_law_823 ?_
  refine ld_arg (k := 2) C0 hi hl hS (by decide) (by decide +kernel) dL_law_824 dL_law_825 dL_law_826 dL_law_827 dL_law_828 ?_
  refine ld_arg (k := 3) C0 hi hl hS (by decide) (by decide +kernel) dL_law_829 dL_law_830 dL_law_831 dL_law_832 dL_law_833 ?_
  obtain ⟨r0, pl1, va1, e6, e7, hR1⟩ := eq_set hR (xs (i + 1)) (xs (i + 2)) (xs (i + 3))
  refine Gj (va_runV (As := [.int (xs (i + 1)), .int (xs (i + 2)), .int (xs (i + 3))]) (rest := []) ⟨hx, hb, hml, hown, hts⟩ (tX6_set l dC dI cyI cyJ cyZ cyO H.size h0 (q 46) (q 47) (q 48) (.ref (q 1)) (.ref (q 4)) (.ref (q 6)) (.ref (q 32)) (.ref (q 41)) (.ref (q 42)) (.long told) pl ln (xs (i + 1)) (xs (i + 2)) (xs (i + 3)) ((r0, pl1)) e6) (cwV 3 hts gL_law_X6_set rfl rfl rfl (by decide +kernel) ⟨Nat.le_of_ble_eq_true rfl, Nat.le_of_ble_eq_true rfl⟩) (GpreV hP hD hK hN [0, 47, 48, 49] rfl (by decide) 6 0 rfl rfl rfl) rfl rfl hl.1 rfl (lv_room (Nat.le_of_ble_eq_true rfl)) dL_law_834 ⟨Nat.le_of_ble_eq_true rfl, Nat.le_of_ble_eq_true rfl⟩) hP hD hS hA [0, 47, 48, 49] rfl rfl (fun H locs hP hD hS => ?_)
  have hP : va_P (dC, dI) vwCl (WD cyI cyJ cyZ cyO h0 h1 q r now trial next held ring full cop f1 f2 f3 f4 f5 cl sc sb spl sts stk le ki nu pl1 ln told undos isKept te ml si va told fi be rb cc dg mnu pw aw dw fw pr li lo fo ov row) H := hP
  have hD : va_D (LA s) (WD cyI cyJ cyZ cyO h0 h1 q r now trial next held ring full cop f1 f2 f3 f4 f5 cl sc sb spl sts stk le ki nu pl1 ln told undos isKept te ml si va told fi be rb cc dg mnu pw aw dw fw pr li lo fo ov row) := hD
  refine lv_aload_n hx hb dL_law_837 rfl (lv_at hl 1 rfl) ?_
  refine ld_arg (k := 1) C0 hi hl hS (by decide) (by decide +kernel) dL_law_838 dL_law_839 dL_law_840 dL_law_841 dL_law_842 ?_
  refine ld_arg (k := 2) C0 hi hl hS (by decide) (by decide +kernel) dL_law_843 dL_law_844 dL_law_845 dL_law_846 dL_law_847 ?_
  refine ld_arg (k := 3) C0 hi hl hS (by decide) (by decide +kernel) dL_law_848 dL_law_849 dL_law_850 dL_law_851 dL_law_852 ?_
  refine Gj (va_runV (As := [.int (xs (i + 1)), .int (xs (i + 2)), .int (xs (i + 3))]) (rest := [.int r0]) ⟨hx, hb, hml, hown, hts⟩ (tX7_set l dC dI cyI cyJ cyZ cyO H.size h1 (r 2) (r 3) (.ref (r 9)) (.int undos) (.ref (r 0)) (.ref (r 1)) (.int ml) (.long told) (.int fi) (.int be) (.int rb) (.int cc) (.int dg) (.ref (r 4)) (.ref (r 5)) (.ref (r 6)) (.ref (r 7)) (.ref (r 8)) (.int pr) (.int li) (.int lo) (.int fo) (.int ov) si va (xs (i + 1)) (xs (i + 2)) (xs (i + 3)) ((r0, va1)) e7) (cwV 3 hts gL_law_X7_set rfl rfl rfl (by decide +kernel) ⟨Nat.le_of_ble_eq_true rfl, Nat.le_of_ble_eq_true rfl⟩) (GpreV hP hD hK hN [59, 52, 53] rfl (by decide) 7 0 rfl rfl rfl) rfl rfl hl.1 rfl (lv_room (Nat.le_of_ble_eq_true rfl)) dL_law_853 ⟨Nat.le_of_ble_eq_true rfl, Nat.le_of_ble_eq_true rfl⟩) hP hD hS hA [59, 52, 53] rfl rfl (fun H locs hP hD hS => ?_)
  have hP : va_P (dC, dI) vwCl (WD cyI cyJ cyZ cyO h0 h1 q r now trial next held ring full cop f1 f2 f3 f4 f5 cl sc sb spl sts stk le ki nu pl1 ln told undos isKept te ml si va1 told fi be rb cc dg mnu pw aw dw fw pr li lo fo ov row) H := hP
  have hD : va_D (LA s) (WD cyI cyJ cyZ cyO h0 h1 q r now trial next held ring full cop f1 f2 f3 f4 f5 cl sc sb spl sts stk le ki nu pl1 ln told undos isKept te ml si va1 told fi be rb cc dg mnu pw aw dw fw pr li lo fo ov row) := hD
  refine lv_icmp_eq (tgt := 1063) hx hb dL_law_856 (by decide) (fun _ => ?_) (fun c9 => absurd rfl c9)
  exact kk _ _ ⟨now, trial, next, held, ring, full, cop, f1, f2, f3, f4, f5, cl, sc, sb, spl, sts, stk, le, ki, nu, pl1, ln, told, undos, isKept, te, ml, si, va1, fi, be, rb, cc, dg, mnu, pw, aw, dw, fw, pr, li, lo, fo, ov, row, hP, hD, hNo, hPa, hKe, hT, hWo, hR1, hov⟩ hS
set_option maxHeartbeats 4000000 in
set_option maxRecDepth 100000 in
theorem cs_work (C : LC p s m c b L xs dC dI cyI cyJ cyZ cyO adK adV) (hi : i + 5 ≤ L) (hl : lv_has ls 4 [(3, .int (nI i)), (2, .ref h1), (1, .ref h0), (0, .ref b)]) (hI : HI (dC, dI) cyI cyJ cyZ cyO (LA s) h0 h1 q r H) (hS : va_S (LA s) s.heap H locs) (kk : ∀ (H1 : Heap) (locs1 : List Loc), HI (dC, dI) cyI cyJ cyZ cyO (LA s) h0 h1 q r H1 → va_S (LA s) s.heap H1 locs1 → W p l e room_1 s m #[Value.ref b] below meth c H1 locs1 600000 7302250 Q (F0 m 1063 ls [])) : W p l e room_1 s m #[Value.ref b] below meth c H locs 600000 7302250 Q (F0 m 861 ls []) := by
  have C0 := C
  obtain ⟨hx, hb, hml, hown, hts, hK, hN, hXs, hX, hbl, hL⟩ := C
  have hA : ∀ q : Nat, s.heap.size ≤ q → LA s q := fun _ h => h
  obtain ⟨now, trial, next, held, ring, full, cop, f1, f2, f3, f4, f5, cl, sc, sb, spl, sts, stk, le, ki, nu, pl, ln, told, undos, isKept, te, ml, si, va, fi, be, rb, cc, dg, mnu, pw, aw, dw, fw, pr, li, lo, fo, ov, row, hP, hD, hNo, hPa, hKe, hT, hWo, hR, hov⟩ := hI
  refine lv_aload_n hx hb dL_law_861 rfl (lv_at hl 2 rfl) ?_
  refine ld_arg (k := 1) C0 hi hl hS (by decide) (by decide +kernel) dL_law_862 dL_law_863 dL_law_864 dL_law_865 dL_law_866 ?_
  refine ld_arg (k := 2) C0 hi hl hS (by decide) (by decide +kernel) dL_law_867 dL_law_868 dL_law_869 dL_law_870 dL_law_871 ?_
  refine ld_arg (k := 3) C0 hi hl hS (by decide) (by decide +kernel) dL_law_872 dL_law_873 dL_law_874 dL_law_875 dL_law_876 ?_
  refine ld_arg (k := 4) C0 hi hl hS (by decide) (by decide +kernel) dL_law_877 dL_law_878 dL_law_879 dL_law_880 dL_law_881 ?_
  obtain ⟨r0, t1, o1, pl1, va1, e6, e7, hR1, ho1⟩ := eq_work hR told ov (xs (i + 1)) (xs (i + 2)) (xs (i + 3)) (xs (i + 4))
  have hov1 : o1 = 0 ∨ o1 = 1 := by
    rcases ho1 with rfl | h9
    · exact hov
    · exact h9
  refine Gj (va_runV (As := [.int (xs (i + 1)), .int (xs (i + 2)), .int (xs (i + 3)), .int (xs (i + 4))]) (rest := []) ⟨hx, hb, hml, hown, hts⟩ (tX6_work l dC dI cyI cyJ cyZ cyO H.size h0 (q 46) (q 47) (q 48) (.ref (q 1)) (.ref (q 4)) (.ref (q 6)) (.ref (q 32)) (.ref (q 41)) (.ref (q 42)) told pl ln (xs (i + 1)) (xs (i + 2)) (xs (i + 3)) (xs (i + 4)) ((r0, t1, pl1)) e6) (cwV 4 hts gL_law_X6_work rfl rfl rfl (by decide +kernel) ⟨Nat.le_of_ble_eq_true rfl, Nat.le_of_ble_eq_true rfl⟩) (GpreV hP hD hK hN [0, 47, 48, 49] rfl (by decide) 6 0 rfl rfl rfl) rfl rfl hl.1 rfl (lv_room (Nat.le_of_ble_eq_true rfl)) dL_law_882 ⟨Nat.le_of_ble_eq_true rfl, Nat.le_of_ble_eq_true rfl⟩) hP hD hS hA [0, 47, 48, 49] rfl rfl (fun H locs hP hD hS => ?_)
  have hP : va_P (dC, dI) vwCl (WD cyI cyJ cyZ cyO h0 h1 q r now trial next held ring full cop f1 f2 f3 f4 f5 cl sc sb spl sts stk le ki nu pl1 ln t1 undos isKept te ml si va told fi be rb cc dg mnu pw aw dw fw pr li lo fo ov row) H := hP
  have hD : va_D (LA s) (WD cyI cyJ cyZ cyO h0 h1 q r now trial next held ring full cop f1 f2 f3 f4 f5 cl sc sb spl sts stk le ki nu pl1 ln t1 undos isKept te ml si va told fi be rb cc dg mnu pw aw dw fw pr li lo fo ov row) := hD
  refine lv_aload_n hx hb dL_law_885 rfl (lv_at hl 1 rfl) ?_
  refine ld_arg (k := 1) C0 hi hl hS (by decide) (by decide +kernel) dL_law_886 dL_law_887 dL_law_888 dL_law_889 dL_law_890 ?_
  refine ld_arg (k := 2) C0 hi hl hS (by decide) (by decide +kernel) dL_law_891 dL_law_892 dL_law_893 dL_law_894 dL_law_895 ?_
  refine ld_arg (k := 3) C0 hi hl hS (by decide) (by decide +kernel) dL_law_896 dL_law_897 dL_law_898 dL_law_899 dL_law_900 ?_
  refine ld_arg (k := 4) C0 hi hl hS (by decide) (by decide +kernel) dL_law_901 dL_law_902 dL_law_903 dL_law_904 dL_law_905 ?_
  refine Gj (va_runV (As := [.int (xs (i + 1)), .int (xs (i + 2)), .int (xs (i + 3)), .int (xs (i + 4))]) (rest := [.int r0]) ⟨hx, hb, hml, hown, hts⟩ (tX7_work l dC dI cyI cyJ cyZ cyO H.size h1 (r 2) (r 3) (.ref (r 9)) (.int undos) (.ref (r 0)) (.ref (r 1)) (.int ml) (.int fi) (.int be) (.int rb) (.int cc) (.int dg) (.ref (r 4)) (.ref (r 5)) (.ref (r 6)) (.ref (r 7)) (.ref (r 8)) (.int pr) (.int li) (.int lo) (.int fo) told ov si va (xs (i + 1)) (xs (i + 2)) (xs (i + 3)) (xs (i + 4)) ((r0, t1, o1, va1)) e7) (cwV 4 hts gL_law_X7_work rfl rfl rfl (by decide +kernel) ⟨Nat.le_of_ble_eq_true rfl, Nat.le_of_ble_eq_true rfl⟩) (GpreV hP hD hK hN [59, 52, 53] rfl (by decide) 7 0 rfl rfl rfl) rfl rfl hl.1 rfl (lv_room (Nat.le_of_ble_eq_true rfl)) dL_law_906 ⟨Nat.le_of_ble_eq_true rfl, Nat.le_of_ble_eq_true rfl⟩) hP hD hS hA [59, 52, 53] rfl rfl (fun H locs hP hD hS => ?_)
  have hP : va_P (dC, dI) vwCl (WD cyI cyJ cyZ cyO h0 h1 q r now trial next held ring full cop f1 f2 f3 f4 f5 cl sc sb spl sts stk le ki nu pl1 ln t1 undos isKept te ml si va1 t1 fi be rb cc dg mnu pw aw dw fw pr li lo fo o1 row) H := hP
  have hD : va_D (LA s) (WD cyI cyJ cyZ cyO h0 h1 q r now trial next held ring full cop f1 f2 f3 f4 f5 cl sc sb spl sts stk le ki nu pl1 ln t1 undos isKept te ml si va1 t1 fi be rb cc dg mnu pw aw dw fw pr li lo fo o1 row) := hD
  refine lv_icmp_eq (tgt := 1063) hx hb dL_law_909 (by decide) (fun _ => ?_) (fun c9 => absurd rfl c9)
  exact kk _ _ ⟨now, trial, next, held, ring, full, cop, f1, f2, f3, f4, f5, cl, sc, sb, spl, sts, stk, le, ki, nu, pl1, ln, t1, undos, isKept, te, ml, si, va1, fi, be, rb, cc, dg, mnu, pw, aw, dw, fw, pr, li, lo, fo, o1, row, hP, hD, hNo, hPa, hKe, hT, hWo, hR1, hov1⟩ hS
set_option maxHeartbeats 4000000 in
set_option maxRecDepth 100000 in
theorem cs_bits (C : LC p s m c b L xs dC dI cyI cyJ cyZ cyO adK adV) (hi : i + 5 ≤ L) (hl : lv_has ls 4 [(3, .int (nI i)), (2, .ref h1), (1, .ref h0), (0, .ref b)]) (hI : HI (dC, dI) cyI cyJ cyZ cyO (LA s) h0 h1 q r H) (hS : va_S (LA s) s.heap H locs) (kk : ∀ (H1 : Heap) (locs1 : List Loc), HI (dC, dI) cyI cyJ cyZ cyO (LA s) h0 h1 q r H1 → va_S (LA s) s.heap H1 locs1 → W p l e room_1 s m #[Value.ref b] below meth c H1 locs1 600000 7302250 Q (F0 m 1063 ls [])) : W p l e room_1 s m #[Value.ref b] below meth c H locs 600000 7302250 Q (F0 m 914 ls []) := by
  have C0 := C
  obtain ⟨hx, hb, hml, hown, hts, hK, hN, hXs, hX, hbl, hL⟩ := C
  have hA : ∀ q : Nat, s.heap.size ≤ q → LA s q := fun _ h => h
  obtain ⟨now, trial, next, held, ring, full, cop, f1, f2, f3, f4, f5, cl, sc, sb, spl, sts, stk, le, ki, nu, pl, ln, told, undos, isKept, te, ml, si, va, fi, be, rb, cc, dg, mnu, pw, aw, dw, fw, pr, li, lo, fo, ov, row, hP, hD, hNo, hPa, hKe, hT, hWo, hR, hov⟩ := hI
  refine lv_aload_n hx hb dL_law_914 rfl (lv_at hl 2 rfl) ?_
  refine ld_arg (k := 1) C0 hi hl hS (by decide) (by decide +kernel) dL_law_915 dL_law_916 dL_law_917 dL_law_918 dL_law_919 ?_
  refine ld_arg (k := 2) C0 hi hl hS (by decide) (by decide +kernel) dL_law_920 dL_law_921 dL_law_922 dL_law_923 dL_law_924 ?_
  obtain ⟨r0, t1, e6, e7⟩ := eq_bits hR told (xs (i + 1)) (xs (i + 2))
  refine Gj (va_runV (As := [.int (xs (i + 1)), .int (xs (i + 2))]) (rest := []) ⟨hx, hb, hml, hown, hts⟩ (tX6_bits l dC dI cyI cyJ cyZ cyO H.size h0 (q 46) (q 47) (q 48) (.ref (q 1)) (.ref (q 4)) (.ref (q 6)) (.ref (q 32)) (.ref (q 41)) (.ref (q 42)) told pl ln (xs (i + 1)) (xs (i + 2)) ((r0, t1)) e6) (cwV 2 hts gL_law_X6_bits rfl rfl rfl (by decide +kernel) ⟨Nat.le_of_ble_eq_true rfl, Nat.le_of_ble_eq_true rfl⟩) (GpreV hP hD hK hN [0, 47, 48, 49] rfl (by decide) 6 0 rfl rfl rfl) rfl rfl hl.1 rfl (lv_room (Nat.le_of_ble_eq_true rfl)) dL_law_925 ⟨Nat.le_of_ble_eq_true rfl, Nat.le_of_ble_eq_true rfl⟩) hP hD hS hA [0, 47, 48, 49] rfl rfl (fun H locs hP hD hS => ?_)
  have hP : va_P (dC, dI) vwCl (WD cyI cyJ cyZ cyO h0 h1 q r now trial next held ring full cop f1 f2 f3 f4 f5 cl sc sb spl sts stk le ki nu pl ln t1 undos isKept te ml si va told fi be rb cc dg mnu pw aw dw fw pr li lo fo ov row) H := hP
  have hD : va_D (LA s) (WD cyI cyJ cyZ cyO h0 h1 q r now trial next held ring full cop f1 f2 f3 f4 f5 cl sc sb spl sts stk le ki nu pl ln t1 undos isKept te ml si va told fi be rb cc dg mnu pw aw dw fw pr li lo fo ov row) := hD
  refine lv_aload_n hx hb dL_law_928 rfl (lv_at hl 1 rfl) ?_
  refine ld_arg (k := 1) C0 hi hl hS (by decide) (by decide +kernel) dL_law_929 dL_law_930 dL_law_931 dL_law_932 dL_law_933 ?_
  refine ld_arg (k := 2) C0 hi hl hS (by decide) (by decide +kernel) dL_law_934 dL_law_935 dL_law_936 dL_law_937 dL_law_938 ?_
  refine Gj (va_runV (As := [.int (xs (i + 1)), .int (xs (i + 2))]) (rest := [.int r0]) ⟨hx, hb, hml, hown, hts⟩ (tX7_bits l dC dI cyI cyJ cyZ cyO H.size h1 (r 2) (r 3) (.ref (r 9)) (.int undos) (.ref (r 0)) (.ref (r 1)) (.int ml) (.int fi) (.int be) (.int rb) (.int cc) (.int dg) (.ref (r 4)) (.ref (r 5)) (.ref (r 6)) (.ref (r 7)) (.ref (r 8)) (.int pr) (.int li) (.int lo) (.int fo) (.int ov) told si va (xs (i + 1)) (xs (i + 2)) ((r0, t1)) e7) (cwV 2 hts gL_law_X7_bits rfl rfl rfl (by decide +kernel) ⟨Nat.le_of_ble_eq_true rfl, Nat.le_of_ble_eq_true rfl⟩) (GpreV hP hD hK hN [59, 52, 53] rfl (by decide) 7 0 rfl rfl rfl) rfl rfl hl.1 rfl (lv_room (Nat.le_of_ble_eq_true rfl)) dL_law_939 ⟨Nat.le_of_ble_eq_true rfl, Nat.le_of_ble_eq_true rfl⟩) hP hD hS hA [59, 52, 53] rfl rfl (fun H locs hP hD hS => ?_)
  have hP : va_P (dC, dI) vwCl (WD cyI cyJ cyZ cyO h0 h1 q r now trial next held ring full cop f1 f2 f3 f4 f5 cl sc sb spl sts stk le ki nu pl ln t1 undos isKept te ml si va t1 fi be rb cc dg mnu pw aw dw fw pr li lo fo ov row) H := hP
  have hD : va_D (LA s) (WD cyI cyJ cyZ cyO h0 h1 q r now trial next held ring full cop f1 f2 f3 f4 f5 cl sc sb spl sts stk le ki nu pl ln t1 undos isKept te ml si va t1 fi be rb cc dg mnu pw aw dw fw pr li lo fo ov row) := hD
  refine lv_icmp_eq (tgt := 1063) hx hb dL_law_942 (by decide) (fun _ => ?_) (fun c9 => absurd rfl c9)
  exact kk _ _ ⟨now, trial, next, held, ring, full, cop, f1, f2, f3, f4, f5, cl, sc, sb, spl, sts, stk, le, ki, nu, pl, ln, t1, undos, isKept, te, ml, si, va, fi, be, rb, cc, dg, mnu, pw, aw, dw, fw, pr, li, lo, fo, ov, row, hP, hD, hNo, hPa, hKe, hT, hWo, hR, hov⟩ hS
set_option maxHeartbeats 4000000 in
set_option maxRecDepth 100000 in
theorem cs_sum (C : LC p s m c b L xs dC dI cyI cyJ cyZ cyO adK adV) (hi : i + 5 ≤ L) (hl : lv_has ls 4 [(3, .int (nI i)), (2, .ref h1), (1, .ref h0), (0, .ref b)]) (hI : HI (dC, dI) cyI cyJ cyZ cyO (LA s) h0 h1 q r H) (hS : va_S (LA s) s.heap H locs) (kk : ∀ (H1 : Heap) (locs1 : List Loc), HI (dC, dI) cyI cyJ cyZ cyO (LA s) h0 h1 q r H1 → va_S (LA s) s.heap H1 locs1 → W p l e room_1 s m #[Value.ref b] below meth c H1 locs1 600000 7302250 Q (F0 m 1063 ls [])) : W p l e room_1 s m #[Value.ref b] below meth c H locs 600000 7302250 Q (F0 m 947 ls []) := by
  have C0 := C
  obtain ⟨hx, hb, hml, hown, hts, hK, hN, hXs, hX, hbl, hL⟩ := C
  have hA : ∀ q : Nat, s.heap.size ≤ q → LA s q := fun _ h => h
  obtain ⟨now, trial, next, held, ring, full, cop, f1, f2, f3, f4, f5, cl, sc, sb, spl, sts, stk, le, ki, nu, pl, ln, told, undos, isKept, te, ml, si, va, fi, be, rb, cc, dg, mnu, pw, aw, dw, fw, pr, li, lo, fo, ov, row, hP, hD, hNo, hPa, hKe, hT, hWo, hR, hov⟩ := hI
  refine lv_aload_n hx hb dL_law_947 rfl (lv_at hl 2 rfl) ?_
  refine ld_arg (k := 1) C0 hi hl hS (by decide) (by decide +kernel) dL_law_948 dL_law_949 dL_law_950 dL_law_951 dL_law_952 ?_
  obtain ⟨r0, t1, o1, e6, e7, ho1⟩ := eq_sum hR told ov (xs (i + 1)) hov
  refine Gj (va_runV (As := [.int (xs (i + 1))]) (rest := []) ⟨hx, hb, hml, hown, hts⟩ (tX6_sum l dC dI cyI cyJ cyZ cyO H.size h0 (q 46) (q 47) (q 48) (.ref (q 1)) (.ref (q 4)) (.ref (q 6)) (.ref (q 32)) (.ref (q 41)) (.ref (q 42)) told pl ln (xs (i + 1)) ((r0, t1)) e6) (cwV 1 hts gL_law_X6_sum rfl rfl rfl (by decide +kernel) ⟨Nat.le_of_ble_eq_true rfl, Nat.le_of_ble_eq_true rfl⟩) (GpreV hP hD hK hN [0, 47, 48, 49] rfl (by decide) 6 0 rfl rfl rfl) rfl rfl hl.1 rfl (lv_room (Nat.le_of_ble_eq_true rfl)) dL_law_953 ⟨Nat.le_of_ble_eq_true rfl, Nat.le_of_ble_eq_true rfl⟩) hP hD hS hA [0, 47, 48, 49] rfl rfl (fun H locs hP hD hS => ?_)
  have hP : va_P (dC, dI) vwCl (WD cyI cyJ cyZ cyO h0 h1 q r now trial next held ring full cop f1 f2 f3 f4 f5 cl sc sb spl sts stk le ki nu pl ln t1 undos isKept te ml si va told fi be rb cc dg mnu pw aw dw fw pr li lo fo ov row) H := hP
  have hD : va_D (LA s) (WD cyI cyJ cyZ cyO h0 h1 q r now trial next held ring full cop f1 f2 f3 f4 f5 cl sc sb spl sts stk le ki nu pl ln t1 undos isKept te ml si va told fi be rb cc dg mnu pw aw dw fw pr li lo fo ov row) := hD
  refine lv_aload_n hx hb dL_law_956 rfl (lv_at hl 1 rfl) ?_
  refine ld_arg (k := 1) C0 hi hl hS (by decide) (by decide +kernel) dL_law_957 dL_law_958 dL_law_959 dL_law_960 dL_law_961 ?_
  refine Gj (va_runV (As := [.int (xs (i + 1))]) (rest := [.int r0]) ⟨hx, hb, hml, hown, hts⟩ (tX7_sum l dC dI cyI cyJ cyZ cyO H.size h1 (r 2) (r 3) (.ref (r 9)) (.int undos) (.ref (r 0)) (.ref (r 1)) (.int ml) (.int fi) (.int be) (.int rb) (.int cc) (.int dg) (.ref (r 4)) (.ref (r 5)) (.ref (r 6)) (.ref (r 7)) (.ref (r 8)) (.int pr) (.int li) (.int lo) (.int fo) told ov si va (xs (i + 1)) ((r0, t1, o1)) e7) (cwV 1 hts gL_law_X7_sum rfl rfl rfl (by decide +kernel) ⟨Nat.le_of_ble_eq_true rfl, Nat.le_of_ble_eq_true rfl⟩) (GpreV hP hD hK hN [59, 52, 53] rfl (by decide) 7 0 rfl rfl rfl) rfl rfl hl.1 rfl (lv_room (Nat.le_of_ble_eq_true rfl)) dL_law_962 ⟨Nat.le_of_ble_eq_true rfl, Nat.le_of_ble_eq_true rfl⟩) hP hD hS hA [59, 52, 53] rfl rfl (fun H locs hP hD hS => ?_)
  have hP : va_P (dC, dI) vwCl (WD cyI cyJ cyZ cyO h0 h1 q r now trial next held ring full cop f1 f2 f3 f4 f5 cl sc sb spl sts stk le ki nu pl ln t1 undos isKept te ml si va t1 fi be rb cc dg mnu pw aw dw fw pr li lo fo o1 row) H := hP
  have hD : va_D (LA s) (WD cyI cyJ cyZ cyO h0 h1 q r now trial next held ring full cop f1 f2 f3 f4 f5 cl sc sb spl sts stk le ki nu pl ln t1 undos isKept te ml si va t1 fi be rb cc dg mnu pw aw dw fw pr li lo fo o1 row) := hD
  refine lv_icmp_eq (tgt := 1063) hx hb dL_law_965 (by decide) (fun _ => ?_) (fun c9 => absurd rfl c9)
  exact kk _ _ ⟨now, trial, next, held, ring, full, cop, f1, f2, f3, f4, f5, cl, sc, sb, spl, sts, stk, le, ki, nu, pl, ln, t1, undos, isKept, te, ml, si, va, fi, be, rb, cc, dg, mnu, pw, aw, dw, fw, pr, li, lo, fo, o1, row, hP, hD, hNo, hPa, hKe, hT, hWo, hR, ho1⟩ hS
set_option maxHeartbeats 4000000 in
set_option maxRecDepth 100000 in
theorem cs_load (C : LC p s m c b L xs dC dI cyI cyJ cyZ cyO adK adV) (hi : i + 5 ≤ L) (hl : lv_has ls 4 [(3, .int (nI i)), (2, .ref h1), (1, .ref h0), (0, .ref b)]) (hI : HI (dC, dI) cyI cyJ cyZ cyO (LA s) h0 h1 q r H) (hS : va_S (LA s) s.heap H locs) (kk : ∀ (H1 : Heap) (locs1 : List Loc), HI (dC, dI) cyI cyJ cyZ cyO (LA s) h0 h1 q r H1 → va_S (LA s) s.heap H1 locs1 → W p l e room_1 s m #[Value.ref b] below meth c H1 locs1 600000 7302250 Q (F0 m 1063 ls [])) : W p l e room_1 s m #[Value.ref b] below meth c H locs 600000 7302250 Q (F0 m 970 ls []) := by
  have C0 := C
  obtain ⟨hx, hb, hml, hown, hts, hK, hN, hXs, hX, hbl, hL⟩ := C
  have hA : ∀ q : Nat, s.heap.size ≤ q → LA s q := fun _ h => h
  obtain ⟨now, trial, next, held, ring, full, cop, f1, f2, f3, f4, f5, cl, sc, sb, spl, sts, stk, le, ki, nu, pl, ln, told, undos, isKept, te, ml, si, va, fi, be, rb, cc, dg, mnu, pw, aw, dw, fw, pr, li, lo, fo, ov, row, hP, hD, hNo, hPa, hKe, hT, hWo, hR, hov⟩ := hI
  obtain ⟨⟨zb, zs, zn, zm, zp, zj, zK, zM⟩, zO, zC, zr⟩ := hNo
  have hNo : NowI now row := ⟨_, zO, zC, zr⟩
  have hB := toBoth zO zC zr
  refine lv_aload_n hx hb dL_law_970 rfl (lv_at hl 2 rfl) ?_
  refine ld_arg (k := 1) C0 hi hl hS (by decide) (by decide +kernel) dL_law_971 dL_law_972 dL_law_973 dL_law_974 dL_law_975 ?_
  refine ld_arg (k := 2) C0 hi hl hS (by decide) (by decide +kernel) dL_law_976 dL_law_977 dL_law_978 dL_law_979 dL_law_980 ?_
  obtain ⟨r0, pl1, va1, e6, e7, hR1⟩ := eq_load hB hR (xs (i + 1)) (xs (i + 2))
  refine Gj (va_runV (As := [.int (xs (i + 1)), .int (xs (i + 2))]) (rest := []) ⟨hx, hb, hml, hown, hts⟩ (tX6_load l dC dI cyI cyJ cyZ cyO H.size h0 (q 1) (q 46) (q 0) (q 47) (q 48) (.ref (q 4)) (.ref (q 6)) (.ref (q 32)) (.ref (q 41)) (.ref (q 42)) (.long told) (.ref (q 2)) (.int now.1) (.int now.2.1) (.int now.2.2.2.1) (.int now.2.2.2.2.1) (.int now.2.2.2.2.2.1) now.2.2.1 now.2.2.2.2.2.2.1 pl ln (xs (i + 1)) (xs (i + 2)) ((r0, pl1)) e6) (cwV 2 hts gL_law_X6_load rfl rfl rfl (by decide +kernel) ⟨Nat.le_of_ble_eq_true rfl, Nat.le_of_ble_eq_true rfl⟩) (GpreV hP hD hK hN [0, 2, 1, 47, 48, 49] rfl (by decide) 6 0 rfl rfl rfl) rfl rfl hl.1 rfl (lv_room (Nat.le_of_ble_eq_true rfl)) dL_law_981 ⟨Nat.le_of_ble_eq_true rfl, Nat.le_of_ble_eq_true rfl⟩) hP hD hS hA [0, 2, 1, 47, 48, 49] rfl rfl (fun H locs hP hD hS => ?_)
  have hP : va_P (dC, dI) vwCl (WD cyI cyJ cyZ cyO h0 h1 q r now trial next held ring full cop f1 f2 f3 f4 f5 cl sc sb spl sts stk le ki nu pl1 ln told undos isKept te ml si va told fi be rb cc dg mnu pw aw dw fw pr li lo fo ov row) H := hP
  have hD : va_D (LA s) (WD cyI cyJ cyZ cyO h0 h1 q r now trial next held ring full cop f1 f2 f3 f4 f5 cl sc sb spl sts stk le ki nu pl1 ln told undos isKept te ml si va told fi be rb cc dg mnu pw aw dw fw pr li lo fo ov row) := hD
  refine lv_aload_n hx hb dL_law_984 rfl (lv_at hl 1 rfl) ?_
  refine ld_arg (k := 1) C0 hi hl hS (by decide) (by decide +kernel) dL_law_985 dL_law_986 dL_law_987 dL_law_988 dL_law_989 ?_
  refine ld_arg (k := 2) C0 hi hl hS (by decide) (by decide +kernel) dL_law_990 dL_law_991 dL_law_992 dL_law_993 dL_law_994 ?_
  refine Gj (va_runV (As := [.int (xs (i + 1)), .int (xs (i + 2))]) (rest := [.int r0]) ⟨hx, hb, hml, hown, hts⟩ (tX7_load l dC dI cyI cyJ cyZ cyO H.size h1 (r 9) (r 2) (r 3) (.int undos) (.ref (r 0)) (.ref (r 1)) (.int ml) (.long told) (.int fi) (.int be) (.int rb) (.int cc) (.int dg) (.ref (r 4)) (.ref (r 5)) (.ref (r 6)) (.ref (r 7)) (.ref (r 8)) (.int pr) (.int li) (.int lo) (.int fo) (.int ov) row si va (xs (i + 1)) (xs (i + 2)) ((r0, va1)) e7) (cwV 2 hts gL_law_X7_load rfl rfl rfl (by decide +kernel) ⟨Nat.le_of_ble_eq_true rfl, Nat.le_of_ble_eq_true rfl⟩) (GpreV hP hD hK hN [59, 60, 52, 53] rfl (by decide) 7 0 rfl rfl rfl) rfl rfl hl.1 rfl (lv_room (Nat.le_of_ble_eq_true rfl)) dL_law_995 ⟨Nat.le_of_ble_eq_true rfl, Nat.le_of_ble_eq_true rfl⟩) hP hD hS hA [59, 60, 52, 53] rfl rfl (fun H locs hP hD hS => ?_)
  have hP : va_P (dC, dI) vwCl (WD cyI cyJ cyZ cyO h0 h1 q r now trial next held ring full cop f1 f2 f3 f4 f5 cl sc sb spl sts stk le ki nu pl1 ln told undos isKept te ml si va1 told fi be rb cc dg mnu pw aw dw fw pr li lo fo ov row) H := hP
  have hD : va_D (LA s) (WD cyI cyJ cyZ cyO h0 h1 q r now trial next held ring full cop f1 f2 f3 f4 f5 cl sc sb spl sts stk le ki nu pl1 ln told undos isKept te ml si va1 told fi be rb cc dg mnu pw aw dw fw pr li lo fo ov row) := hD
  refine lv_icmp_eq (tgt := 1063) hx hb dL_law_998 (by decide) (fun _ => ?_) (fun c9 => absurd rfl c9)
  exact kk _ _ ⟨now, trial, next, held, ring, full, cop, f1, f2, f3, f4, f5, cl, sc, sb, spl, sts, stk, le, ki, nu, pl1, ln, told, undos, isKept, te, ml, si, va1, fi, be, rb, cc, dg, mnu, pw, aw, dw, fw, pr, li, lo, fo, ov, row, hP, hD, hNo, hPa, hKe, hT, hWo, hR1, hov⟩ hS
set_option maxHeartbeats 4000000 in
set_option maxRecDepth 100000 in
theorem cs_drop (C : LC p s m c b L xs dC dI cyI cyJ cyZ cyO adK adV) (hi : i + 5 ≤ L) (hl : lv_has ls 4 [(3, .int (nI i)), (2, .ref h1), (1, .ref h0), (0, .ref b)]) (hI : HI (dC, dI) cyI cyJ cyZ cyO (LA s) h0 h1 q r H) (hS : va_S (LA s) s.heap H locs) (kk : ∀ (H1 : Heap) (locs1 : List Loc), HI (dC, dI) cyI cyJ cyZ cyO (LA s) h0 h1 q r H1 → va_S (LA s) s.heap H1 locs1 → W p l e room_1 s m #[Value.ref b] below meth c H1 locs1 600000 7302250 Q (F0 m 1063 ls [])) : W p l e room_1 s m #[Value.ref b] below meth c H locs 600000 7302250 Q (F0 m 1003 ls []) := by
  have C0 := C
  obtain ⟨hx, hb, hml, hown, hts, hK, hN, hXs, hX, hbl, hL⟩ := C
  have hA : ∀ q : Nat, s.heap.size ≤ q → LA s q := fun _ h => h
  obtain ⟨now, trial, next, held, ring, full, cop, f1, f2, f3, f4, f5, cl, sc, sb, spl, sts, stk, le, ki, nu, pl, ln, told, undos, isKept, te, ml, si, va, fi, be, rb, cc, dg, mnu, pw, aw, dw, fw, pr, li, lo, fo, ov, row, hP, hD, hNo, hPa, hKe, hT, hWo, hR, hov⟩ := hI
  refine lv_aload_n hx hb dL_law_1003 rfl (lv_at hl 2 rfl) ?_
  refine ld_arg (k := 1) C0 hi hl hS (by decide) (by decide +kernel) dL_law_1004 dL_law_1005 dL_law_1006 dL_law_1007 dL_law_1008 ?_
  obtain ⟨r0, ln1, si1, e6, e7, hR1⟩ := eq_drop hR (xs (i + 1))
  refine Gj (va_runV (As := [.int (xs (i + 1))]) (rest := []) ⟨hx, hb, hml, hown, hts⟩ (tX6_drop l dC dI cyI cyJ cyZ cyO H.size h0 (q 46) (q 48) (.ref (q 1)) (.ref (q 4)) (.ref (q 6)) (.ref (q 32)) (.ref (q 41)) (.ref (q 42)) (.long told) (.ref (q 47)) ln (xs (i + 1)) ((r0, ln1)) e6) (cwV 1 hts gL_law_X6_drop rfl rfl rfl (by decide +kernel) ⟨Nat.le_of_ble_eq_true rfl, Nat.le_of_ble_eq_true rfl⟩) (GpreV hP hD hK hN [0, 47, 49] rfl (by decide) 6 0 rfl rfl rfl) rfl rfl hl.1 rfl (lv_room (Nat.le_of_ble_eq_true rfl)) dL_law_1009 ⟨Nat.le_of_ble_eq_true rfl, Nat.le_of_ble_eq_true rfl⟩) hP hD hS hA [0, 47, 49] rfl rfl (fun H locs hP hD hS => ?_)
  have hP : va_P (dC, dI) vwCl (WD cyI cyJ cyZ cyO h0 h1 q r now trial next held ring full cop f1 f2 f3 f4 f5 cl sc sb spl sts stk le ki nu pl ln1 told undos isKept te ml si va told fi be rb cc dg mnu pw aw dw fw pr li lo fo ov row) H := hP
  have hD : va_D (LA s) (WD cyI cyJ cyZ cyO h0 h1 q r now trial next held ring full cop f1 f2 f3 f4 f5 cl sc sb spl sts stk le ki nu pl ln1 told undos isKept te ml si va told fi be rb cc dg mnu pw aw dw fw pr li lo fo ov row) := hD
  refine lv_aload_n hx hb dL_law_1012 rfl (lv_at hl 1 rfl) ?_
  refine ld_arg (k := 1) C0 hi hl hS (by decide) (by decide +kernel) dL_law_1013 dL_law_1014 dL_law_1015 dL_law_1016 dL_law_1017 ?_
  refine Gj (va_runV (As := [.int (xs (i + 1))]) (rest := [.int r0]) ⟨hx, hb, hml, hown, hts⟩ (tX7_drop l dC dI cyI cyJ cyZ cyO H.size h1 (r 2) (.ref (r 9)) (.int undos) (.ref (r 0)) (.ref (r 1)) (.int ml) (.ref (r 3)) (.long told) (.int fi) (.int be) (.int rb) (.int cc) (.int dg) (.ref (r 4)) (.ref (r 5)) (.ref (r 6)) (.ref (r 7)) (.ref (r 8)) (.int pr) (.int li) (.int lo) (.int fo) (.int ov) si (xs (i + 1)) ((r0, si1)) e7) (cwV 1 hts gL_law_X7_drop rfl rfl rfl (by decide +kernel) ⟨Nat.le_of_ble_eq_true rfl, Nat.le_of_ble_eq_true rfl⟩) (GpreV hP hD hK hN [59, 52] rfl (by decide) 7 0 rfl rfl rfl) rfl rfl hl.1 rfl (lv_room (Nat.le_of_ble_eq_true rfl)) dL_law_1018 ⟨Nat.le_of_ble_eq_true rfl, Nat.le_of_ble_eq_true rfl⟩) hP hD hS hA [59, 52] rfl rfl (fun H locs hP hD hS => ?_)
  have hP : va_P (dC, dI) vwCl (WD cyI cyJ cyZ cyO h0 h1 q r now trial next held ring full cop f1 f2 f3 f4 f5 cl sc sb spl sts stk le ki nu pl ln1 told undos isKept te ml si1 va told fi be rb cc dg mnu pw aw dw fw pr li lo fo ov row) H := hP
  have hD : va_D (LA s) (WD cyI cyJ cyZ cyO h0 h1 q r now trial next held ring full cop f1 f2 f3 f4 f5 cl sc sb spl sts stk le ki nu pl ln1 told undos isKept te ml si1 va told fi be rb cc dg mnu pw aw dw fw pr li lo fo ov row) := hD
  refine lv_icmp_eq (tgt := 1063) hx hb dL_law_1021 (by decide) (fun _ => ?_) (fun c9 => absurd rfl c9)
  exact kk _ _ ⟨now, trial, next, held, ring, full, cop, f1, f2, f3, f4, f5, cl, sc, sb, spl, sts, stk, le, ki, nu, pl, ln1, told, undos, isKept, te, ml, si1, va, fi, be, rb, cc, dg, mnu, pw, aw, dw, fw, pr, li, lo, fo, ov, row, hP, hD, hNo, hPa, hKe, hT, hWo, hR1, hov⟩ hS
end LAW
