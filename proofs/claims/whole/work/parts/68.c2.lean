section LAW
variable {p : Program} {l : Launch} {e : Env} {s : State} {m : MethodId} {below : List Frame} {meth : Method} {c : Code} {H : Heap} {locs : List Loc} {Q : State → Prop} {b L i h0 h1 : Nat} {xs : Nat → Int32} {ls : Array Slot} {dC : Nat → ClassId} {dI : Nat → Nat → Nat} {cyI cyJ cyZ cyO : ClassId} {q r : Nat → Nat} {adK adV : Nat → Nat}
set_option maxHeartbeats 4000000 in
set_option maxRecDepth 100000 in
theorem cs_level (C : LC p s m c b L xs dC dI cyI cyJ cyZ cyO adK adV) (hi : i + 5 ≤ L) (hl : lv_has ls 4 [(3, .int (nI i)), (2, .ref h1), (1, .ref h0), (0, .ref b)]) (hI : HI (dC, dI) cyI cyJ cyZ cyO (LA s) h0 h1 q r H) (hS : va_S (LA s) s.heap H locs) (kk : ∀ (H1 : Heap) (locs1 : List Loc), HI (dC, dI) cyI cyJ cyZ cyO (LA s) h0 h1 q r H1 → va_S (LA s) s.heap H1 locs1 → W p l e room_1 s m #[Value.ref b] below meth c H1 locs1 600000 7302250 Q (F0 m 1063 ls [])) : W p l e room_1 s m #[Value.ref b] below meth c H locs 600000 7302250 Q (F0 m 511 ls []) := by
  have C0 := C
  obtain ⟨hx, hb, hml, hown, hts, hK, hN, hXs, hX, hbl, hL⟩ := C
  have hA : ∀ q : Nat, s.heap.size ≤ q → LA s q := fun _ h => h
  obtain ⟨now, trial, next, held, ring, full, cop, f1, f2, f3, f4, f5, cl, sc, sb, spl, sts, stk, le, ki, nu, pl, ln, told, undos, isKept, te, ml, si, va, fi, be, rb, cc, dg, mnu, pw, aw, dw, fw, pr, li, lo, fo, ov, row, hP, hD, hNo, hPa, hKe, hT, hWo, hR, hov⟩ := hI
  obtain ⟨⟨zb, zs, zn, zm, zp, zj, zK, zM⟩, zO, zC, zr⟩ := hNo
  have hNo : NowI now row := ⟨_, zO, zC, zr⟩
  have hB := toBoth zO zC zr
  refine lv_aload_n hx hb dL_law_511 rfl (lv_at hl 2 rfl) ?_
  refine ld_arg (k := 1) C0 hi hl hS (by decide) (by decide +kernel) dL_law_512 dL_law_513 dL_law_514 dL_law_515 dL_law_516 ?_
  obtain ⟨r0, e6, e7⟩ := eq_level hB.lx (xs (i + 1))
  rw [← hB.2.1, ← hB.2.2.2.2.1] at e6
  refine Gj (va_runV (As := [.int (xs (i + 1))]) (rest := []) ⟨hx, hb, hml, hown, hts⟩ (tX6_level l dC dI cyI cyJ cyZ cyO H.size h0 (q 1) (q 2) (.ref (q 4)) (.ref (q 6)) (.ref (q 32)) (.ref (q 41)) (.ref (q 42)) (.ref (q 46)) (.long told) (.ref (q 0)) (.int now.2.1) (.int now.2.2.1) (.int now.2.2.2.2.1) (.int now.2.2.2.2.2.1) now.1 now.2.2.2.1 now.2.2.2.2.2.2.2 (xs (i + 1)) (r0) e6) (cwV 1 hts gL_law_X6_level rfl rfl rfl (by decide +kernel) ⟨Nat.le_of_ble_eq_true rfl, Nat.le_of_ble_eq_true rfl⟩) (GpreV hP hD hK hN [0, 2, 3] rfl (by decide) 6 0 rfl rfl rfl) rfl rfl hl.1 rfl (lv_room (Nat.le_of_ble_eq_true rfl)) dL_law_517 ⟨Nat.le_of_ble_eq_true rfl, Nat.le_of_ble_eq_true rfl⟩) hP hD hS hA [0, 2, 3] rfl rfl (fun H locs hP hD hS => ?_)
  have hP : va_P (dC, dI) vwCl (WD cyI cyJ cyZ cyO h0 h1 q r now trial next held ring full cop f1 f2 f3 f4 f5 cl sc sb spl sts stk le ki nu pl ln told undos isKept te ml si va told fi be rb cc dg mnu pw aw dw fw pr li lo fo ov row) H := hP
  have hD : va_D (LA s) (WD cyI cyJ cyZ cyO h0 h1 q r now trial next held ring full cop f1 f2 f3 f4 f5 cl sc sb spl sts stk le ki nu pl ln told undos isKept te ml si va told fi be rb cc dg mnu pw aw dw fw pr li lo fo ov row) := hD
  refine lv_aload_n hx hb dL_law_520 rfl (lv_at hl 1 rfl) ?_
  refine ld_arg (k := 1) C0 hi hl hS (by decide) (by decide +kernel) dL_law_521 dL_law_522 dL_law_523 dL_law_524 dL_law_525 ?_
  refine Gj (va_runV (As := [.int (xs (i + 1))]) (rest := [.int r0]) ⟨hx, hb, hml, hown, hts⟩ (tX7_level l dC dI cyI cyJ cyZ cyO H.size h1 (r 9) (.int undos) (.ref (r 0)) (.ref (r 1)) (.int ml) (.ref (r 2)) (.ref (r 3)) (.long told) (.int fi) (.int be) (.int rb) (.int cc) (.int dg) (.ref (r 4)) (.ref (r 5)) (.ref (r 6)) (.ref (r 7)) (.ref (r 8)) (.int pr) (.int li) (.int lo) (.int fo) (.int ov) row (xs (i + 1)) (r0) e7) (cwV 1 hts gL_law_X7_level rfl rfl rfl (by decide +kernel) ⟨Nat.le_of_ble_eq_true rfl, Nat.le_of_ble_eq_true rfl⟩) (GpreV hP hD hK hN [59, 60] rfl (by decide) 7 0 rfl rfl rfl) rfl rfl hl.1 rfl (lv_room (Nat.le_of_ble_eq_true rfl)) dL_law_526 ⟨Nat.le_of_ble_eq_true rfl, Nat.le_of_ble_eq_true rfl⟩) hP hD hS hA [59, 60] rfl rfl (fun H locs hP hD hS => ?_)
  have hP : va_P (dC, dI) vwCl (WD cyI cyJ cyZ cyO h0 h1 q r now trial next held ring full cop f1 f2 f3 f4 f5 cl sc sb spl sts stk le ki nu pl ln told undos isKept te ml si va told fi be rb cc dg mnu pw aw dw fw pr li lo fo ov row) H := hP
  have hD : va_D (LA s) (WD cyI cyJ cyZ cyO h0 h1 q r now trial next held ring full cop f1 f2 f3 f4 f5 cl sc sb spl sts stk le ki nu pl ln told undos isKept te ml si va told fi be rb cc dg mnu pw aw dw fw pr li lo fo ov row) := hD
  refine lv_icmp_eq (tgt := 1063) hx hb dL_law_529 (by decide) (fun _ => ?_) (fun c9 => absurd rfl c9)
  exact kk _ _ ⟨now, trial, next, held, ring, full, cop, f1, f2, f3, f4, f5, cl, sc, sb, spl, sts, stk, le, ki, nu, pl, ln, told, undos, isKept, te, ml, si, va, fi, be, rb, cc, dg, mnu, pw, aw, dw, fw, pr, li, lo, fo, ov, row, hP, hD, hNo, hPa, hKe, hT, hWo, hR, hov⟩ hS
set_option maxHeartbeats 4000000 in
set_option maxRecDepth 100000 in
theorem cs_marks (C : LC p s m c b L xs dC dI cyI cyJ cyZ cyO adK adV) (hi : i + 5 ≤ L) (hl : lv_has ls 4 [(3, .int (nI i)), (2, .ref h1), (1, .ref h0), (0, .ref b)]) (hI : HI (dC, dI) cyI cyJ cyZ cyO (LA s) h0 h1 q r H) (hS : va_S (LA s) s.heap H locs) (kk : ∀ (H1 : Heap) (locs1 : List Loc), HI (dC, dI) cyI cyJ cyZ cyO (LA s) h0 h1 q r H1 → va_S (LA s) s.heap H1 locs1 → W p l e room_1 s m #[Value.ref b] below meth c H1 locs1 600000 7302250 Q (F0 m 1063 ls [])) : W p l e room_1 s m #[Value.ref b] below meth c H locs 600000 7302250 Q (F0 m 534 ls []) := by
  have C0 := C
  obtain ⟨hx, hb, hml, hown, hts, hK, hN, hXs, hX, hbl, hL⟩ := C
  have hA : ∀ q : Nat, s.heap.size ≤ q → LA s q := fun _ h => h
  obtain ⟨now, trial, next, held, ring, full, cop, f1, f2, f3, f4, f5, cl, sc, sb, spl, sts, stk, le, ki, nu, pl, ln, told, undos, isKept, te, ml, si, va, fi, be, rb, cc, dg, mnu, pw, aw, dw, fw, pr, li, lo, fo, ov, row, hP, hD, hNo, hPa, hKe, hT, hWo, hR, hov⟩ := hI
  obtain ⟨⟨zb, zs, zn, zm, zp, zj, zK, zM⟩, zO, zC, zr⟩ := hNo
  have hNo : NowI now row := ⟨_, zO, zC, zr⟩
  have hB := toBoth zO zC zr
  refine lv_aload_n hx hb dL_law_534 rfl (lv_at hl 2 rfl) ?_
  refine ld_arg (k := 1) C0 hi hl hS (by decide) (by decide +kernel) dL_law_535 dL_law_536 dL_law_537 dL_law_538 dL_law_539 ?_
  refine ld_arg (k := 2) C0 hi hl hS (by decide) (by decide +kernel) dL_law_540 dL_law_541 dL_law_542 dL_law_543 dL_law_544 ?_
  obtain ⟨r0, e6, e7⟩ := eq_marks hB.lx (xs (i + 1)) (xs (i + 2))
  rw [← hB.2.1, ← hB.2.2.2.2.1] at e6
  refine Gj (va_runV (As := [.int (xs (i + 1)), .int (xs (i + 2))]) (rest := []) ⟨hx, hb, hml, hown, hts⟩ (tX6_marks l dC dI cyI cyJ cyZ cyO H.size h0 (q 1) (q 2) (.ref (q 4)) (.ref (q 6)) (.ref (q 32)) (.ref (q 41)) (.ref (q 42)) (.ref (q 46)) (.long told) (.ref (q 0)) (.int now.2.1) (.int now.2.2.1) (.int now.2.2.2.2.1) (.int now.2.2.2.2.2.1) now.1 now.2.2.2.1 now.2.2.2.2.2.2.2 (xs (i + 1)) (xs (i + 2)) (r0) e6) (cwV 2 hts gL_law_X6_marks rfl rfl rfl (by decide +kernel) ⟨Nat.le_of_ble_eq_true rfl, Nat.le_of_ble_eq_true rfl⟩) (GpreV hP hD hK hN [0, 2, 3] rfl (by decide) 6 0 rfl rfl rfl) rfl rfl hl.1 rfl (lv_room (Nat.le_of_ble_eq_true rfl)) dL_law_545 ⟨Nat.le_of_ble_eq_true rfl, Nat.le_of_ble_eq_true rfl⟩) hP hD hS hA [0, 2, 3] rfl rfl (fun H locs hP hD hS => ?_)
  have hP : va_P (dC, dI) vwCl (WD cyI cyJ cyZ cyO h0 h1 q r now trial next held ring full cop f1 f2 f3 f4 f5 cl sc sb spl sts stk le ki nu pl ln told undos isKept te ml si va told fi be rb cc dg mnu pw aw dw fw pr li lo fo ov row) H := hP
  have hD : va_D (LA s) (WD cyI cyJ cyZ cyO h0 h1 q r now trial next held ring full cop f1 f2 f3 f4 f5 cl sc sb spl sts stk le ki nu pl ln told undos isKept te ml si va told fi be rb cc dg mnu pw aw dw fw pr li lo fo ov row) := hD
  refine lv_aload_n hx hb dL_law_548 rfl (lv_at hl 1 rfl) ?_
  refine ld_arg (k := 1) C0 hi hl hS (by decide) (by decide +kernel) dL_law_549 dL_law_550 dL_law_551 dL_law_552 dL_law_553 ?_
  refine ld_arg (k := 2) C0 hi hl hS (by decide) (by decide +kernel) dL_law_554 dL_law_555 dL_law_556 dL_law_557 dL_law_558 ?_
  refine Gj (va_runV (As := [.int (xs (i + 1)), .int (xs (i + 2))]) (rest := [.int r0]) ⟨hx, hb, hml, hown, hts⟩ (tX7_marks l dC dI cyI cyJ cyZ cyO H.size h1 (r 9) (.int undos) (.ref (r 0)) (.ref (r 1)) (.int ml) (.ref (r 2)) (.ref (r 3)) (.long told) (.int fi) (.int be) (.int rb) (.int cc) (.int dg) (.ref (r 4)) (.ref (r 5)) (.ref (r 6)) (.ref (r 7)) (.ref (r 8)) (.int pr) (.int li) (.int lo) (.int fo) (.int ov) row (xs (i + 1)) (xs (i + 2)) (r0) e7) (cwV 2 hts gL_law_X7_marks rfl rfl rfl (by decide +kernel) ⟨Nat.le_of_ble_eq_true rfl, Nat.le_of_ble_eq_true rfl⟩) (GpreV hP hD hK hN [59, 60] rfl (by decide) 7 0 rfl rfl rfl) rfl rfl hl.1 rfl (lv_room (Nat.le_of_ble_eq_true rfl)) dL_law_559 ⟨Nat.le_of_ble_eq_true rfl, Nat.le_of_ble_eq_true rfl⟩) hP hD hS hA [59, 60] rfl rfl (fun H locs hP hD hS => ?_)
  have hP : va_P (dC, dI) vwCl (WD cyI cyJ cyZ cyO h0 h1 q r now trial next held ring full cop f1 f2 f3 f4 f5 cl sc sb spl sts stk le ki nu pl ln told undos isKept te ml si va told fi be rb cc dg mnu pw aw dw fw pr li lo fo ov row) H := hP
  have hD : va_D (LA s) (WD cyI cyJ cyZ cyO h0 h1 q r now trial next held ring full cop f1 f2 f3 f4 f5 cl sc sb spl sts stk le ki nu pl ln told undos isKept te ml si va told fi be rb cc dg mnu pw aw dw fw pr li lo fo ov row) := hD
  refine lv_icmp_eq (tgt := 1063) hx hb dL_law_562 (by decide) (fun _ => ?_) (fun c9 => absurd rfl c9)
  exact kk _ _ ⟨now, trial, next, held, ring, full, cop, f1, f2, f3, f4, f5, cl, sc, sb, spl, sts, stk, le, ki, nu, pl, ln, told, undos, isKept, te, ml, si, va, fi, be, rb, cc, dg, mnu, pw, aw, dw, fw, pr, li, lo, fo, ov, row, hP, hD, hNo, hPa, hKe, hT, hWo, hR, hov⟩ hS
set_option maxHeartbeats 4000000 in
set_option maxRecDepth 100000 in
theorem cs_under (C : LC p s m c b L xs dC dI cyI cyJ cyZ cyO adK adV) (hi : i + 5 ≤ L) (hl : lv_has ls 4 [(3, .int (nI i)), (2, .ref h1), (1, .ref h0), (0, .ref b)]) (hI : HI (dC, dI) cyI cyJ cyZ cyO (LA s) h0 h1 q r H) (hS : va_S (LA s) s.heap H locs) (kk : ∀ (H1 : Heap) (locs1 : List Loc), HI (dC, dI) cyI cyJ cyZ cyO (LA s) h0 h1 q r H1 → va_S (LA s) s.heap H1 locs1 → W p l e room_1 s m #[Value.ref b] below meth c H1 locs1 600000 7302250 Q (F0 m 1063 ls [])) : W p l e room_1 s m #[Value.ref b] below meth c H locs 600000 7302250 Q (F0 m 567 ls []) := by
  have C0 := C
  obtain ⟨hx, hb, hml, hown, hts, hK, hN, hXs, hX, hbl, hL⟩ := C
  have hA : ∀ q : Nat, s.heap.size ≤ q → LA s q := fun _ h => h
  obtain ⟨now, trial, next, held, ring, full, cop, f1, f2, f3, f4, f5, cl, sc, sb, spl, sts, stk, le, ki, nu, pl, ln, told, undos, isKept, te, ml, si, va, fi, be, rb, cc, dg, mnu, pw, aw, dw, fw, pr, li, lo, fo, ov, row, hP, hD, hNo, hPa, hKe, hT, hWo, hR, hov⟩ := hI
  obtain ⟨⟨zb, zs, zn, zm, zp, zj, zK, zM⟩, zO, zC, zr⟩ := hNo
  have hNo : NowI now row := ⟨_, zO, zC, zr⟩
  have hB := toBoth zO zC zr
  refine lv_aload_n hx hb dL_law_567 rfl (lv_at hl 2 rfl) ?_
  refine ld_arg (k := 1) C0 hi hl hS (by decide) (by decide +kernel) dL_law_568 dL_law_569 dL_law_570 dL_law_571 dL_law_572 ?_
  refine ld_arg (k := 2) C0 hi hl hS (by decide) (by decide +kernel) dL_law_573 dL_law_574 dL_law_575 dL_law_576 dL_law_577 ?_
  refine ld_arg (k := 3) C0 hi hl hS (by decide) (by decide +kernel) dL_law_578 dL_law_579 dL_law_580 dL_law_581 dL_law_582 ?_
  obtain ⟨r0, e6, e7⟩ := eq_under hB.lx (xs (i + 1)) (xs (i + 2)) (xs (i + 3))
  rw [← hB.2.1, ← hB.2.2.2.2.1] at e6
  refine Gj (va_runV (As := [.int (xs (i + 1)), .int (xs (i + 2)), .int (xs (i + 3))]) (rest := []) ⟨hx, hb, hml, hown, hts⟩ (tX6_under l dC dI cyI cyJ cyZ cyO H.size h0 (q 1) (q 2) (.ref (q 4)) (.ref (q 6)) (.ref (q 32)) (.ref (q 41)) (.ref (q 42)) (.ref (q 46)) (.long told) (.ref (q 0)) (.int now.2.1) (.int now.2.2.1) (.int now.2.2.2.2.1) (.int now.2.2.2.2.2.1) now.1 now.2.2.2.1 now.2.2.2.2.2.2.2 (xs (i + 1)) (xs (i + 2)) (xs (i + 3)) (r0) e6) (cwV 3 hts gL_law_X6_under rfl rfl rfl (by decide +kernel) ⟨Nat.le_of_ble_eq_true rfl, Nat.le_of_ble_eq_true rfl⟩) (GpreV hP hD hK hN [0, 2, 3] rfl (by decide) 6 0 rfl rfl rfl) rfl rfl hl.1 rfl (lv_room (Nat.le_of_ble_eq_true rfl)) dL_law_583 ⟨Nat.le_of_ble_eq_true rfl, Nat.le_of_ble_eq_true rfl⟩) hP hD hS hA [0, 2, 3] rfl rfl (fun H locs hP hD hS => ?_)
  have hP : va_P (dC, dI) vwCl (WD cyI cyJ cyZ cyO h0 h1 q r now trial next held ring full cop f1 f2 f3 f4 f5 cl sc sb spl sts stk le ki nu pl ln told undos isKept te ml si va told fi be rb cc dg mnu pw aw dw fw pr li lo fo ov row) H := hP
  have hD : va_D (LA s) (WD cyI cyJ cyZ cyO h0 h1 q r now trial next held ring full cop f1 f2 f3 f4 f5 cl sc sb spl sts stk le ki nu pl ln told undos isKept te ml si va told fi be rb cc dg mnu pw aw dw fw pr li lo fo ov row) := hD
  refine lv_aload_n hx hb dL_law_586 rfl (lv_at hl 1 rfl) ?_
  refine ld_arg (k := 1) C0 hi hl hS (by decide) (by decide +kernel) dL_law_587 dL_law_588 dL_law_589 dL_law_590 dL_law_591 ?_
  refine ld_arg (k := 2) C0 hi hl hS (by decide) (by decide +kernel) dL_law_592 dL_law_593 dL_law_594 dL_law_595 dL_law_596 ?_
  refine ld_arg (k := 3) C0 hi hl hS (by decide) (by decide +kernel) dL_law_597 dL_law_598 dL_law_599 dL_law_600 dL_law_601 ?_
  refine Gj (va_runV (As := [.int (xs (i + 1)), .int (xs (i + 2)), .int (xs (i + 3))]) (rest := [.int r0]) ⟨hx, hb, hml, hown, hts⟩ (tX7_under l dC dI cyI cyJ cyZ cyO H.size h1 (r 9) (.int undos) (.ref (r 0)) (.ref (r 1)) (.int ml) (.ref (r 2)) (.ref (r 3)) (.long told) (.int fi) (.int be) (.int rb) (.int cc) (.int dg) (.ref (r 4)) (.ref (r 5)) (.ref (r 6)) (.ref (r 7)) (.ref (r 8)) (.int pr) (.int li) (.int lo) (.int fo) (.int ov) row (xs (i + 1)) (xs (i + 2)) (xs (i + 3)) (r0) e7) (cwV 3 hts gL_law_X7_under rfl rfl rfl (by decide +kernel) ⟨Nat.le_of_ble_eq_true rfl, Nat.le_of_ble_eq_true rfl⟩) (GpreV hP hD hK hN [59, 60] rfl (by decide) 7 0 rfl rfl rfl) rfl rfl hl.1 rfl (lv_room (Nat.le_of_ble_eq_true rfl)) dL_law_602 ⟨Nat.le_of_ble_eq_true rfl, Nat.le_of_ble_eq_true rfl⟩) hP hD hS hA [59, 60] rfl rfl (fun H locs hP hD hS => ?_)
  have hP : va_P (dC, dI) vwCl (WD cyI cyJ cyZ cyO h0 h1 q r now trial next held ring full cop f1 f2 f3 f4 f5 cl sc sb spl sts stk le ki nu pl ln told undos isKept te ml si va told fi be rb cc dg mnu pw aw dw fw pr li lo fo ov row) H := hP
  have hD : va_D (LA s) (WD cyI cyJ cyZ cyO h0 h1 q r now trial next held ring full cop f1 f2 f3 f4 f5 cl sc sb spl sts stk le ki nu pl ln told undos isKept te ml si va told fi be rb cc dg mnu pw aw dw fw pr li lo fo ov row) := hD
  refine lv_icmp_eq (tgt := 1063) hx hb dL_law_605 (by decide) (fun _ => ?_) (fun c9 => absurd rfl c9)
  exact kk _ _ ⟨now, trial, next, held, ring, full, cop, f1, f2, f3, f4, f5, cl, sc, sb, spl, sts, stk, le, ki, nu, pl, ln, told, undos, isKept, te, ml, si, va, fi, be, rb, cc, dg, mnu, pw, aw, dw, fw, pr, li, lo, fo, ov, row, hP, hD, hNo, hPa, hKe, hT, hWo, hR, hov⟩ hS
set_option maxHeartbeats 4000000 in
set_option maxRecDepth 100000 in
theorem cs_spread (C : LC p s m c b L xs dC dI cyI cyJ cyZ cyO adK adV) (hi : i + 5 ≤ L) (hl : lv_has ls 4 [(3, .int (nI i)), (2, .ref h1), (1, .ref h0), (0, .ref b)]) (hI : HI (dC, dI) cyI cyJ cyZ cyO (LA s) h0 h1 q r H) (hS : va_S (LA s) s.heap H locs) (kk : ∀ (H1 : Heap) (locs1 : List Loc), HI (dC, dI) cyI cyJ cyZ cyO (LA s) h0 h1 q r H1 → va_S (LA s) s.heap H1 locs1 → W p l e room_1 s m #[Value.ref b] below meth c H1 locs1 600000 7302250 Q (F0 m 1063 ls [])) : W p l e room_1 s m #[Value.ref b] below meth c H locs 600000 7302250 Q (F0 m 752 ls []) := by
  have C0 := C
  obtain ⟨hx, hb, hml, hown, hts, hK, hN, hXs, hX, hbl, hL⟩ := C
  have hA : ∀ q : Nat, s.heap.size ≤ q → LA s q := fun _ h => h
  obtain ⟨now, trial, next, held, ring, full, cop, f1, f2, f3, f4, f5, cl, sc, sb, spl, sts, stk, le, ki, nu, pl, ln, told, undos, isKept, te, ml, si, va, fi, be, rb, cc, dg, mnu, pw, aw, dw, fw, pr, li, lo, fo, ov, row, hP, hD, hNo, hPa, hKe, hT, hWo, hR, hov⟩ := hI
  obtain ⟨⟨zb, zs, zn, zm, zp, zj, zK, zM⟩, zO, zC, zr⟩ := hNo
  have hNo : NowI now row := ⟨_, zO, zC, zr⟩
  have hB := toBoth zO zC zr
  refine lv_aload_n hx hb dL_law_752 rfl (lv_at hl 2 rfl) ?_
  refine ld_arg (k := 1) C0 hi hl hS (by decide) (by decide +kernel) dL_law_753 dL_law_754 dL_law_755 dL_law_756 dL_law_757 ?_
  refine ld_arg (k := 2) C0 hi hl hS (by decide) (by decide +kernel) dL_law_758 dL_law_759 dL_law_760 dL_law_761 dL_law_762 ?_
  obtain ⟨r0, e6, e7⟩ := eq_spread hB.lx (xs (i + 1)) (xs (i + 2))
  rw [← hB.2.1, ← hB.2.2.2.2.1] at e6
  refine Gj (va_runV (As := [.int (xs (i + 1)), .int (xs (i + 2))]) (rest := []) ⟨hx, hb, hml, hown, hts⟩ (tX6_spread l dC dI cyI cyJ cyZ cyO H.size h0 (q 1) (q 2) (.ref (q 4)) (.ref (q 6)) (.ref (q 32)) (.ref (q 41)) (.ref (q 42)) (.ref (q 46)) (.long told) (.ref (q 0)) (.int now.2.1) (.int now.2.2.1) (.int now.2.2.2.2.1) (.int now.2.2.2.2.2.1) now.1 now.2.2.2.1 now.2.2.2.2.2.2.2 (xs (i + 1)) (xs (i + 2)) (r0) e6) (cwV 2 hts gL_law_X6_spread rfl rfl rfl (by decide +kernel) ⟨Nat.le_of_ble_eq_true rfl, Nat.le_of_ble_eq_true rfl⟩) (GpreV hP hD hK hN [0, 2, 3] rfl (by decide) 6 0 rfl rfl rfl) rfl rfl hl.1 rfl (lv_room (Nat.le_of_ble_eq_true rfl)) dL_law_763 ⟨Nat.le_of_ble_eq_true rfl, Nat.le_of_ble_eq_true rfl⟩) hP hD hS hA [0, 2, 3] rfl rfl (fun H locs hP hD hS => ?_)
  have hP : va_P (dC, dI) vwCl (WD cyI cyJ cyZ cyO h0 h1 q r now trial next held ring full cop f1 f2 f3 f4 f5 cl sc sb spl sts stk le ki nu pl ln told undos isKept te ml si va told fi be rb cc dg mnu pw aw dw fw pr li lo fo ov row) H := hP
  have hD : va_D (LA s) (WD cyI cyJ cyZ cyO h0 h1 q r now trial next held ring full cop f1 f2 f3 f4 f5 cl sc sb spl sts stk le ki nu pl ln told undos isKept te ml si va told fi be rb cc dg mnu pw aw dw fw pr li lo fo ov row) := hD
  refine lv_aload_n hx hb dL_law_766 rfl (lv_at hl 1 rfl) ?_
  refine ld_arg (k := 1) C0 hi hl hS (by decide) (by decide +kernel) dL_law_767 dL_law_768 dL_law_769 dL_law_770 dL_law_771 ?_
  refine ld_arg (k := 2) C0 hi hl hS (by decide) (by decide +kernel) dL_law_772 dL_law_773 dL_law_774 dL_law_775 dL_law_776 ?_
  refine Gj (va_runV (As := [.int (xs (i + 1)), .int (xs (i + 2))]) (rest := [.int r0]) ⟨hx, hb, hml, hown, hts⟩ (tX7_spread l dC dI cyI cyJ cyZ cyO H.size h1 (r 9) (.int undos) (.ref (r 0)) (.ref (r 1)) (.int ml) (.ref (r 2)) (.ref (r 3)) (.long told) (.int fi) (.int be) (.int rb) (.int cc) (.int dg) (.ref (r 4)) (.ref (r 5)) (.ref (r 6)) (.ref (r 7)) (.ref (r 8)) (.int pr) (.int li) (.int lo) (.int fo) (.int ov) row (xs (i + 1)) (xs (i + 2)) (r0) e7) (cwV 2 hts gL_law_X7_spread rfl rfl rfl (by decide +kernel) ⟨Nat.le_of_ble_eq_true rfl, Nat.le_of_ble_eq_true rfl⟩) (GpreV hP hD hK hN [59, 60] rfl (by decide) 7 0 rfl rfl rfl) rfl rfl hl.1 rfl (lv_room (Nat.le_of_ble_eq_true rfl)) dL_law_777 ⟨Nat.le_of_ble_eq_true rfl, Nat.le_of_ble_eq_true rfl⟩) hP hD hS hA [59, 60] rfl rfl (fun H locs hP hD hS => ?_)
  have hP : va_P (dC, dI) vwCl (WD cyI cyJ cyZ cyO h0 h1 q r now trial next held ring full cop f1 f2 f3 f4 f5 cl sc sb spl sts stk le ki nu pl ln told undos isKept te ml si va told fi be rb cc dg mnu pw aw dw fw pr li lo fo ov row) H := hP
  have hD : va_D (LA s) (WD cyI cyJ cyZ cyO h0 h1 q r now trial next held ring full cop f1 f2 f3 f4 f5 cl sc sb spl sts stk le ki nu pl ln told undos isKept te ml si va told fi be rb cc dg mnu pw aw dw fw pr li lo fo ov row) := hD
  refine lv_icmp_eq (tgt := 1063) hx hb dL_law_780 (by decide) (fun _ => ?_) (fun c9 => absurd rfl c9)
  exact kk _ _ ⟨now, trial, next, held, ring, full, cop, f1, f2, f3, f4, f5, cl, sc, sb, spl, sts, stk, le, ki, nu, pl, ln, told, undos, isKept, te, ml, si, va, fi, be, rb, cc, dg, mnu, pw, aw, dw, fw, pr, li, lo, fo, ov, row, hP, hD, hNo, hPa, hKe, hT, hWo, hR, hov⟩ hS
set_option maxHeartbeats 4000000 in
set_option maxRecDepth 100000 in
theorem cs_search (C : LC p s m c b L xs dC dI cyI cyJ cyZ cyO adK adV) (hi : i + 5 ≤ L) (hl : lv_has ls 4 [(3, .int (nI i)), (2, .ref h1), (1, .ref h0), (0, .ref b)]) (hI : HI (dC, dI) cyI cyJ cyZ cyO (LA s) h0 h1 q r H) (hS : va_S (LA s) s.heap H locs) (kk : ∀ (H1 : Heap) (locs1 : List Loc), HI (dC, dI) cyI cyJ cyZ cyO (LA s) h0 h1 q r H1 → va_S (LA s) s.heap H1 locs1 → W p l e room_1 s m #[Value.ref b] below meth c H1 locs1 600000 7302250 Q (F0 m 1063 ls [])) : W p l e room_1 s m #[Value.ref b] below meth c H locs 600000 7302250 Q (F0 m 445 ls []) := by
  have C0 := C
  obtain ⟨hx, hb, hml, hown, hts, hK, hN, hXs, hX, hbl, hL⟩ := C
  have hA : ∀ q : Nat, s.heap.size ≤ q → LA s q := fun _ h => h
  obtain ⟨now, trial, next, held, ring, full, cop, f1, f2, f3, f4, f5, cl, sc, sb, spl, sts, stk, le, ki, nu, pl, ln, told, undos, isKept, te, ml, si, va, fi, be, rb, cc, dg, mnu, pw, aw, dw, fw, pr, li, lo, fo, ov, row, hP, hD, hNo, hPa, hKe, hT, hWo, hR, hov⟩ := hI
  obtain ⟨⟨zb, zs, zn, zm, zp, zj, zK, zM⟩, zO, zC, zr⟩ := hNo
  have hNo : NowI now row := ⟨_, zO, zC, zr⟩
  have hB := toBoth zO zC zr
  refine lv_aload_n hx hb dL_law_445 rfl (lv_at hl 2 rfl) ?_
  refine ld_arg (k := 1) C0 hi hl hS (by decide) (by decide +kernel) dL_law_446 dL_law_447 dL_law_448 dL_law_449 dL_law_450 ?_
  refine ld_arg (k := 2) C0 hi hl hS (by decide) (by decide +kernel) dL_law_451 dL_law_452 dL_law_453 dL_law_454 dL_law_455 ?_
  obtain ⟨r0, v, w, e6, e7⟩ := eq_search hB f1 f2 f3 f4 f5 pr li lo fo (xs (i + 1)) (xs (i + 2))
  refine Gj (va_runV (As := [.int (xs (i + 1)), .int (xs (i + 2))]) (rest := []) ⟨hx, hb, hml, hown, hts⟩ (tX6_search l dC dI cyI cyJ cyZ cyO H.size h0 (q 1) (q 41) (q 0) (q 2) (.ref (q 4)) (.ref (q 6)) (.ref (q 32)) (.ref (q 42)) (.ref (q 46)) (.long told) (.int now.2.1) (.int now.2.2.2.2.1) (.int now.2.2.2.2.2.1) now.1 now.2.2.1 now.2.2.2.1 now.2.2.2.2.2.2.1 now.2.2.2.2.2.2.2 f1 f2 f3 f4 f5 (xs (i + 1)) (xs (i + 2)) ((r0, v)) e6) (cwV 2 hts gL_law_X6_search rfl rfl rfl (by decide +kernel) ⟨Nat.le_of_ble_eq_true rfl, Nat.le_of_ble_eq_true rfl⟩) (GpreV hP hD hK hN [0, 2, 1, 3, 42] rfl (by decide) 6 0 rfl rfl rfl) rfl rfl hl.1 rfl (lv_room (Nat.le_of_ble_eq_true rfl)) dL_law_456 ⟨Nat.le_of_ble_eq_true rfl, Nat.le_of_ble_eq_true rfl⟩) hP hD hS hA [0, 2, 1, 3, 42] rfl rfl (fun H locs hP hD hS => ?_)
  have hP : va_P (dC, dI) vwCl (WD cyI cyJ cyZ cyO h0 h1 q r now trial next held ring full cop v.1 v.2.1 v.2.2.1 v.2.2.2.1 v.2.2.2.2 cl sc sb spl sts stk le ki nu pl ln told undos isKept te ml si va told fi be rb cc dg mnu pw aw dw fw pr li lo fo ov row) H := hP
  have hD : va_D (LA s) (WD cyI cyJ cyZ cyO h0 h1 q r now trial next held ring full cop v.1 v.2.1 v.2.2.1 v.2.2.2.1 v.2.2.2.2 cl sc sb spl sts stk le ki nu pl ln told undos isKept te ml si va told fi be rb cc dg mnu pw aw dw fw pr li lo fo ov row) := hD
  refine lv_aload_n hx hb dL_law_459 rfl (lv_at hl 1 rfl) ?_
  refine ld_arg (k := 1) C0 hi hl hS (by decide) (by decide +kernel) dL_law_460 dL_law_461 dL_law_462 dL_law_463 dL_law_464 ?_
  refine ld_arg (k := 2) C0 hi hl hS (by decide) (by decide +kernel) dL_law_465 dL_law_466 dL_law_467 dL_law_468 dL_law_469 ?_
  refine Gj (va_runV (As := [.int (xs (i + 1)), .int (xs (i + 2))]) (rest := [.int r0]) ⟨hx, hb, hml, hown, hts⟩ (tX7_search l dC dI cyI cyJ cyZ cyO H.size h1 (r 9) (.int undos) (.ref (r 0)) (.ref (r 1)) (.int ml) (.ref (r 2)) (.ref (r 3)) (.long told) (.int fi) (.int be) (.int rb) (.int cc) (.int dg) (.ref (r 4)) (.ref (r 5)) (.ref (r 6)) (.ref (r 7)) (.ref (r 8)) (.int ov) pr li lo fo row (xs (i + 1)) (xs (i + 2)) ((r0, w)) e7) (cwV 2 hts gL_law_X7_search rfl rfl rfl (by decide +kernel) ⟨Nat.le_of_ble_eq_true rfl, Nat.le_of_ble_eq_true rfl⟩) (GpreV hP hD hK hN [59, 60] rfl (by decide) 7 0 rfl rfl rfl) rfl rfl hl.1 rfl (lv_room (Nat.le_of_ble_eq_true rfl)) dL_law_470 ⟨Nat.le_of_ble_eq_true rfl, Nat.le_of_ble_eq_true rfl⟩) hP hD hS hA [59, 60] rfl rfl (fun H locs hP hD hS => ?_)
  have hP : va_P (dC, dI) vwCl (WD cyI cyJ cyZ cyO h0 h1 q r now trial next held ring full cop v.1 v.2.1 v.2.2.1 v.2.2.2.1 v.2.2.2.2 cl sc sb spl sts stk le ki nu pl ln told undos isKept te ml si va told fi be rb cc dg mnu pw aw dw fw w.1 w.2.1 w.2.2.1 w.2.2.2 ov row) H := hP
  have hD : va_D (LA s) (WD cyI cyJ cyZ cyO h0 h1 q r now trial next held ring full cop v.1 v.2.1 v.2.2.1 v.2.2.2.1 v.2.2.2.2 cl sc sb spl sts stk le ki nu pl ln told undos isKept te ml si va told fi be rb cc dg mnu pw aw dw fw w.1 w.2.1 w.2.2.1 w.2.2.2 ov row) := hD
  refine lv_icmp_eq (tgt := 1063) hx hb dL_law_473 (by decide) (fun _ => ?_) (fun c9 => absurd rfl c9)
  exact kk _ _ ⟨now, trial, next, held, ring, full, cop, v.1, v.2.1, v.2.2.1, v.2.2.2.1, v.2.2.2.2, cl, sc, sb, spl, sts, stk, le, ki, nu, pl, ln, told, undos, isKept, te, ml, si, va, fi, be, rb, cc, dg, mnu, pw, aw, dw, fw, w.1, w.2.1, w.2.2.1, w.2.2.2, ov, row, hP, hD, hNo, hPa, hKe, hT, hWo, hR, hov⟩ hS
set_option maxHeartbeats 4000000 in
set_option maxRecDepth 100000 in
theorem cs_dearest (C : LC p s m c b L xs dC dI cyI cyJ cyZ cyO adK adV) (hi : i + 5 ≤ L) (hl : lv_has ls 4 [(3, .int (nI i)), (2, .ref h1), (1, .ref h0), (0, .ref b)]) (hI : HI (dC, dI) cyI cyJ cyZ cyO (LA s) h0 h1 q r H) (hS : va_S (LA s) s.heap H locs) (kk : ∀ (H1 : Heap) (locs1 : List Loc), HI (dC, dI) cyI cyJ cyZ cyO (LA s) h0 h1 q r H1 → va_S (LA s) s.heap H1 locs1 → W p l e room_1 s m #[Value.ref b] below meth c H1 locs1 600000 7302250 Q (F0 m 1063 ls [])) : W p l e room_1 s m #[Value.ref b] below meth c H locs 600000 7302250 Q (F0 m 706 ls []) := by
  have C0 := C
  obtain ⟨hx, hb, hml, hown, hts, hK, hN, hXs, hX, hbl, hL⟩ := C
  have hA : ∀ q : Nat, s.heap.size ≤ q → LA s q := fun _ h => h
  obtain ⟨now, trial, next, held, ring, full, cop, f1, f2, f3, f4, f5, cl, sc, sb, spl, sts, stk, le, ki, nu, pl, ln, told, undos, isKept, te, ml, si, va, fi, be, rb, cc, dg, mnu, pw, aw, dw, fw, pr, li, lo, fo, ov, row, hP, hD, hNo, hPa, hKe, hT, hWo, hR, hov⟩ := hI
  obtain ⟨⟨zb, zs, zn, zm, zp, zj, zK, zM⟩, zO, zC, zr⟩ := hNo
  have hNo : NowI now row := ⟨_, zO, zC, zr⟩
  have hB := toBoth zO zC zr
  refine lv_aload_n hx hb dL_law_706 rfl (lv_at hl 2 rfl) ?_
  refine ld_arg (k := 1) C0 hi hl hS (by decide) (by decide +kernel) dL_law_707 dL_law_708 dL_law_709 dL_law_710 dL_law_711 ?_
  obtain ⟨r0, v, w, e6, e7⟩ := eq_dearest hB f1 f2 f3 f4 f5 pr li lo fo (xs (i + 1))
  refine Gj (va_runV (As := [.int (xs (i + 1))]) (rest := []) ⟨hx, hb, hml, hown, hts⟩ (tX6_dearest l dC dI cyI cyJ cyZ cyO H.size h0 (q 1) (q 41) (q 0) (q 2) (.ref (q 4)) (.ref (q 6)) (.ref (q 32)) (.ref (q 42)) (.ref (q 46)) (.long told) (.int now.2.1) (.int now.2.2.2.2.1) (.int now.2.2.2.2.2.1) now.1 now.2.2.1 now.2.2.2.1 now.2.2.2.2.2.2.1 now.2.2.2.2.2.2.2 f1 f2 f3 f4 f5 (xs (i + 1)) ((r0, v)) e6) (cwV 1 hts gL_law_X6_dearest rfl rfl rfl (by decide +kernel) ⟨Nat.le_of_ble_eq_true rfl, Nat.le_of_ble_eq_true rfl⟩) (GpreV hP hD hK hN [0, 2, 1, 3, 42] rfl (by decide) 6 0 rfl rfl rfl) rfl rfl hl.1 rfl (lv_room (Nat.le_of_ble_eq_true rfl)) dL_law_712 ⟨Nat.le_of_ble_eq_true rfl, Nat.le_of_ble_eq_true rfl⟩) hP hD hS hA [0, 2, 1, 3, 42] rfl rfl (fun H locs hP hD hS => ?_)
  have hP : va_P (dC, dI) vwCl (WD cyI cyJ cyZ cyO h0 h1 q r now trial next held ring full cop v.1 v.2.1 v.2.2.1 v.2.2.2.1 v.2.2.2.2 cl sc sb spl sts stk le ki nu pl ln told undos isKept te ml si va told fi be rb cc dg mnu pw aw dw fw pr li lo fo ov row) H := hP
  have hD : va_D (LA s) (WD cyI cyJ cyZ cyO h0 h1 q r now trial next held ring full cop v.1 v.2.1 v.2.2.1 v.2.2.2.1 v.2.2.2.2 cl sc sb spl sts stk le ki nu pl ln told undos isKept te ml si va told fi be rb cc dg mnu pw aw dw fw pr li lo fo ov row) := hD
  refine lv_aload_n hx hb dL_law_715 rfl (lv_at hl 1 rfl) ?_
  refine ld_arg (k := 1) C0 hi hl hS (by decide) (by decide +kernel) dL_law_716 dL_law_717 dL_law_718 dL_law_719 dL_law_720 ?_
  refine Gj (va_runV (As := [.int (xs (i + 1))]) (rest := [.int r0]) ⟨hx, hb, hml, hown, hts⟩ (tX7_dearest l dC dI cyI cyJ cyZ cyO H.size h1 (r 9) (.int undos) (.ref (r 0)) (.ref (r 1)) (.int ml) (.ref (r 2)) (.ref (r 3)) (.long told) (.int fi) (.int be) (.int rb) (.int cc) (.int dg) (.ref (r 4)) (.ref (r 5)) (.ref (r 6)) (.ref (r 7)) (.ref (r 8)) (.int ov) pr li lo fo row (xs (i + 1)) ((r0, w)) e7) (cwV 1 hts gL_law_X7_dearest rfl rfl rfl (by decide +kernel) ⟨Nat.le_of_ble_eq_true rfl, Nat.le_of_ble_eq_true rfl⟩) (GpreV hP hD hK hN [59, 60] rfl (by decide) 7 0 rfl rfl rfl) rfl rfl hl.1 rfl (lv_room (Nat.le_of_ble_eq_true rfl)) dL_law_721 ⟨Nat.le_of_ble_eq_true rfl, Nat.le_of_ble_eq_true rfl⟩) hP hD hS hA [59, 60] rfl rfl (fun H locs hP hD hS => ?_)
  have hP : va_P (dC, dI) vwCl (WD cyI cyJ cyZ cyO h0 h1 q r now trial next held ring full cop v.1 v.2.1 v.2.2.1 v.2.2.2.1 v.2.2.2.2 cl sc sb spl sts stk le ki nu pl ln told undos isKept te ml si va told fi be rb cc dg mnu pw aw dw fw w.1 w.2.1 w.2.2.1 w.2.2.2 ov row) H := hP
  have hD : va_D (LA s) (WD cyI cyJ cyZ cyO h0 h1 q r now trial next held ring full cop v.1 v.2.1 v.2.2.1 v.2.2.2.1 v.2.2.2.2 cl sc sb spl sts stk le ki nu pl ln told undos isKept te ml si va told fi be rb cc dg mnu pw aw dw fw w.1 w.2.1 w.2.2.1 w.2.2.2 ov row) := hD
  refine lv_icmp_eq (tgt := 1063) hx hb dL_law_724 (by decide) (fun _ => ?_) (fun c9 => absurd rfl c9)
  exact kk _ _ ⟨now, trial, next, held, ring, full, cop, v.1, v.2.1, v.2.2.1, v.2.2.2.1, v.2.2.2.2, cl, sc, sb, spl, sts, stk, le, ki, nu, pl, ln, told, undos, isKept, te, ml, si, va, fi, be, rb, cc, dg, mnu, pw, aw, dw, fw, w.1, w.2.1, w.2.2.1, w.2.2.2, ov, row, hP, hD, hNo, hPa, hKe, hT, hWo, hR, hov⟩ hS
set_option maxHeartbeats 4000000 in
set_option maxRecDepth 100000 in
theorem cs_mean (C : LC p s m c b L xs dC dI cyI cyJ cyZ cyO adK adV) (hi : i + 5 ≤ L) (hl : lv_has ls 4 [(3, .int (nI i)), (2, .ref h1), (1, .ref h0), (0, .ref b)]) (hI : HI (dC, dI) cyI cyJ cyZ cyO (LA s) h0 h1 q r H) (hS : va_S (LA s) s.heap H locs) (kk : ∀ (H1 : Heap) (locs1 : List Loc), HI (dC, dI) cyI cyJ cyZ cyO (LA s) h0 h1 q r H1 → va_S (LA s) s.heap H1 locs1 → W p l e room_1 s m #[Value.ref b] below meth c H1 locs1 600000 7302250 Q (F0 m 1063 ls [])) : W p l e room_1 s m #[Value.ref b] below meth c H locs 600000 7302250 Q (F0 m 729 ls []) := by
  have C0 := C
  obtain ⟨hx, hb, hml, hown, hts, hK, hN, hXs, hX, hbl, hL⟩ := C
  have hA : ∀ q : Nat, s.heap.size ≤ q → LA s q := fun _ h => h
  obtain ⟨now, trial, next, held, ring, full, cop, f1, f2, f3, f4, f5, cl, sc, sb, spl, sts, stk, le, ki, nu, pl, ln, told, undos, isKept, te, ml, si, va, fi, be, rb, cc, dg, mnu, pw, aw, dw, fw, pr, li, lo, fo, ov, row, hP, hD, hNo, hPa, hKe, hT, hWo, hR, hov⟩ := hI
  obtain ⟨⟨zb, zs, zn, zm, zp, zj, zK, zM⟩, zO, zC, zr⟩ := hNo
  have hNo : NowI now row := ⟨_, zO, zC, zr⟩
  have hB := toBoth zO zC zr
  refine lv_aload_n hx hb dL_law_729 rfl (lv_at hl 2 rfl) ?_
  refine ld_arg (k := 1) C0 hi hl hS (by decide) (by decide +kernel) dL_law_730 dL_law_731 dL_law_732 dL_law_733 dL_law_734 ?_
  obtain ⟨r0, v, w, e6, e7⟩ := eq_mean hB f1 f2 f3 f4 f5 pr li lo fo (xs (i + 1))
  refine Gj (va_runV (As := [.int (xs (i + 1))]) (rest := []) ⟨hx, hb, hml, hown, hts⟩ (tX6_mean l dC dI cyI cyJ cyZ cyO H.size h0 (q 1) (q 41) (q 0) (q 2) (.ref (q 4)) (.ref (q 6)) (.ref (q 32)) (.ref (q 42)) (.ref (q 46)) (.long told) (.int now.2.1) (.int now.2.2.2.2.1) (.int now.2.2.2.2.2.1) now.1 now.2.2.1 now.2.2.2.1 now.2.2.2.2.2.2.1 now.2.2.2.2.2.2.2 f1 f2 f3 f4 f5 (xs (i + 1)) ((r0, v)) e6) (cwV 1 hts gL_law_X6_mean rfl rfl rfl (by decide +kernel) ⟨Nat.le_of_ble_eq_true rfl, Nat.le_of_ble_eq_true rfl⟩) (GpreV hP hD hK hN [0, 2, 1, 3, 42] rfl (by decide) 6 0 rfl rfl rfl) rfl rfl hl.1 rfl (lv_room (Nat.le_of_ble_eq_true rfl)) dL_law_735 ⟨Nat.le_of_ble_eq_true rfl, Nat.le_of_ble_eq_true rfl⟩) hP hD hS hA [0, 2, 1, 3, 42] rfl rfl (fun H locs hP hD hS => ?_)
  have hP : va_P (dC, dI) vwCl (WD cyI cyJ cyZ cyO h0 h1 q r now trial next held ring full cop v.1 v.2.1 v.2.2.1 v.2.2.2.1 v.2.2.2.2 cl sc sb spl sts stk le ki nu pl ln told undos isKept te ml si va told fi be rb cc dg mnu pw aw dw fw pr li lo fo ov row) H := hP
  have hD : va_D (LA s) (WD cyI cyJ cyZ cyO h0 h1 q r now trial next held ring full cop v.1 v.2.1 v.2.2.1 v.2.2.2.1 v.2.2.2.2 cl sc sb spl sts stk le ki nu pl ln told undos isKept te ml si va told fi be rb cc dg mnu pw aw dw fw pr li lo fo ov row) := hD
  refine lv_aload_n hx hb dL_law_738 rfl (lv_at hl 1 rfl) ?_
  refine ld_arg (k := 1) C0 hi hl hS (by decide) (by decide +kernel) dL_law_739 dL_law_740 dL_law_741 dL_law_742 dL_law_743 ?_
  refine Gj (va_runV (As := [.int (xs (i + 1))]) (rest := [.int r0]) ⟨hx, hb, hml, hown, hts⟩ (tX7_mean l dC dI cyI cyJ cyZ cyO H.size h1 (r 9) (.int undos) (.ref (r 0)) (.ref (r 1)) (.int ml) (.ref (r 2)) (.ref (r 3)) (.long told) (.int fi) (.int be) (.int rb) (.int cc) (.int dg) (.ref (r 4)) (.ref (r 5)) (.ref (r 6)) (.ref (r 7)) (.ref (r 8)) (.int ov) pr li lo fo row (xs (i + 1)) ((r0, w)) e7) (cwV 1 hts gL_law_X7_mean rfl rfl rfl (by decide +kernel) ⟨Nat.le_of_ble_eq_true rfl, Nat.le_of_ble_eq_true rfl⟩) (GpreV hP hD hK hN [59, 60] rfl (by decide) 7 0 rfl rfl rfl) rfl rfl hl.1 rfl (lv_room (Nat.le_of_ble_eq_true rfl)) dL_law_744 ⟨Nat.le_of_ble_eq_true rfl, Nat.le_of_ble_eq_true rfl⟩) hP hD hS hA [59, 60] rfl rfl (fun H locs hP hD hS => ?_)
  have hP : va_P (dC, dI) vwCl (WD cyI cyJ cyZ cyO h0 h1 q r now trial next held ring full cop v.1 v.2.1 v.2.2.1 v.2.2.2.1 v.2.2.2.2 cl sc sb spl sts stk le ki nu pl ln told undos isKept te ml si va told fi be rb cc dg mnu pw aw dw fw w.1 w.2.1 w.2.2.1 w.2.2.2 ov row) H := hP
  have hD : va_D (LA s) (WD cyI cyJ cyZ cyO h0 h1 q r now trial next held ring full cop v.1 v.2.1 v.2.2.1 v.2.2.2.1 v.2.2.2.2 cl sc sb spl sts stk le ki nu pl ln told undos isKept te ml si va told fi be rb cc dg mnu pw aw dw fw w.1 w.2.1 w.2.2.1 w.2.2.2 ov row) := hD
  refine lv_icmp_eq (tgt := 1063) hx hb dL_law_747 (by decide) (fun _ => ?_) (fun c9 => absurd rfl c9)
  exact kk _ _ ⟨now, trial, next, held, ring, full, cop, v.1, v.2.1, v.2.2.1, v.2.2.2.1, v.2.2.2.2, cl, sc, sb, spl, sts, stk, le, ki, nu, pl, ln, told, undos, isKept, te, ml, si, va, fi, be, rb, cc, dg, mnu, pw, aw, dw, fw, w.1, w.2.1, w.2.2.1, w.2.2.2, ov, row, hP, hD, hNo, hPa, hKe, hT, hWo, hR, hov⟩ hS
end LAW
