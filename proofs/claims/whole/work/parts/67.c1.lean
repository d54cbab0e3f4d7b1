section LAW
variable {p : Program} {l : Launch} {e : Env} {s : State} {m : MethodId} {below : List Frame} {meth : Method} {c : Code} {H : Heap} {locs : List Loc} {Q : State → Prop} {b L i h0 h1 : Nat} {xs : Nat → Int32} {ls : Array Slot} {dC : Nat → ClassId} {dI : Nat → Nat → Nat} {cyI cyJ cyZ cyO : ClassId} {q r : Nat → Nat} {adK adV : Nat → Nat}
set_option maxHeartbeats 4000000 in
set_option maxRecDepth 100000 in
theorem cs_has (C : LC p s m c b L xs dC dI cyI cyJ cyZ cyO adK adV) (hi : i + 5 ≤ L) (hl : lv_has ls 4 [(3, .int (nI i)), (2, .ref h1), (1, .ref h0), (0, .ref b)]) (hI : HI (dC, dI) cyI cyJ cyZ cyO (LA s) h0 h1 q r H) (hS : va_S (LA s) s.heap H locs) (kk : ∀ (H1 : Heap) (locs1 : List Loc), HI (dC, dI) cyI cyJ cyZ cyO (LA s) h0 h1 q r H1 → va_S (LA s) s.heap H1 locs1 → W p l e room_1 s m #[Value.ref b] below meth c H1 locs1 600000 7302250 Q (F0 m 1063 ls [])) : W p l e room_1 s m #[Value.ref b] below meth c H locs 600000 7302250 Q (F0 m 343 ls []) := by
  have C0 := C
  obtain ⟨hx, hb, hml, hown, hts, hK, hN, hXs, hX, hbl, hL⟩ := C
  have hA : ∀ q : Nat, s.heap.size ≤ q → LA s q := fun _ h => h
  obtain ⟨now, trial, next, held, ring, full, cop, f1, f2, f3, f4, f5, cl, sc, sb, spl, sts, stk, le, ki, nu, pl, ln, told, undos, isKept, te, ml, si, va, fi, be, rb, cc, dg, mnu, pw, aw, dw, fw, pr, li, lo, fo, ov, row, hP, hD, hNo, hPa, hKe, hT, hWo, hR, hov⟩ := hI
  obtain ⟨⟨zb, zs, zn, zm, zp, zj, zK, zM⟩, zO, zC, zr⟩ := hNo
  have hNo : NowI now row := ⟨_, zO, zC, zr⟩
  have hB := toBoth zO zC zr
  refine lv_aload_n hx hb dL_law_343 rfl (lv_at hl 2 rfl) ?_
  refine ld_arg (k := 1) C0 hi hl hS (by decide) (by decide +kernel) dL_law_344 dL_law_345 dL_law_346 dL_law_347 dL_law_348 ?_
  obtain ⟨r0, e6, e7⟩ := eq_has hB (xs (i + 1))
  refine Gj (va_runV (As := [.int (xs (i + 1))]) (rest := []) ⟨hx, hb, hml, hown, hts⟩ (tX6_has l dC dI cyI cyJ cyZ cyO H.size h0 (q 1) (q 0) (.ref (q 4)) (.ref (q 6)) (.ref (q 32)) (.ref (q 41)) (.ref (q 42)) (.ref (q 46)) (.long told) (.ref (q 2)) (.int now.2.1) (.int now.2.2.2.1) (.int now.2.2.2.2.1) (.int now.2.2.2.2.2.1) now.1 now.2.2.1 now.2.2.2.2.2.2.1 (xs (i + 1)) (r0) e6) (cwV 1 hts gL_law_X6_has rfl rfl rfl (by decide +kernel) ⟨Nat.le_of_ble_eq_true rfl, Nat.le_of_ble_eq_true rfl⟩) (GpreV hP hD hK hN [0, 2, 1] rfl (by decide) 6 0 rfl rfl rfl) rfl rfl hl.1 rfl (lv_room (Nat.le_of_ble_eq_true rfl)) dL_law_349 ⟨Nat.le_of_ble_eq_true rfl, Nat.le_of_ble_eq_true rfl⟩) hP hD hS hA [0, 2, 1] rfl rfl (fun H locs hP hD hS => ?_)
  have hP : va_P (dC, dI) vwCl (WD cyI cyJ cyZ cyO h0 h1 q r now trial next held ring full cop f1 f2 f3 f4 f5 cl sc sb spl sts stk le ki nu pl ln told undos isKept te ml si va told fi be rb cc dg mnu pw aw dw fw pr li lo fo ov row) H := hP
  have hD : va_D (LA s) (WD cyI cyJ cyZ cyO h0 h1 q r now trial next held ring full cop f1 f2 f3 f4 f5 cl sc sb spl sts stk le ki nu pl ln told undos isKept te ml si va told fi be rb cc dg mnu pw aw dw fw pr li lo fo ov row) := hD
  refine lv_aload_n hx hb dL_law_352 rfl (lv_at hl 1 rfl) ?_
  refine ld_arg (k := 1) C0 hi hl hS (by decide) (by decide +kernel) dL_law_353 dL_law_354 dL_law_355 dL_law_356 dL_law_357 ?_
  refine Gj (va_runV (As := [.int (xs (i + 1))]) (rest := [.int r0]) ⟨hx, hb, hml, hown, hts⟩ (tX7_has l dC dI cyI cyJ cyZ cyO H.size h1 (r 9) (.int undos) (.ref (r 0)) (.ref (r 1)) (.int ml) (.ref (r 2)) (.ref (r 3)) (.long told) (.int fi) (.int be) (.int rb) (.int cc) (.int dg) (.ref (r 4)) (.ref (r 5)) (.ref (r 6)) (.ref (r 7)) (.ref (r 8)) (.int pr) (.int li) (.int lo) (.int fo) (.int ov) row (xs (i + 1)) (r0) e7) (cwV 1 hts gL_law_X7_has rfl rfl rfl (by decide +kernel) ⟨Nat.le_of_ble_eq_true rfl, Nat.le_of_ble_eq_true rfl⟩) (GpreV hP hD hK hN [59, 60] rfl (by decide) 7 0 rfl rfl rfl) rfl rfl hl.1 rfl (lv_room (Nat.le_of_ble_eq_true rfl)) dL_law_358 ⟨Nat.le_of_ble_eq_true rfl, Nat.le_of_ble_eq_true rfl⟩) hP hD hS hA [59, 60] rfl rfl (fun H locs hP hD hS => ?_)
  have hP : va_P (dC, dI) vwCl (WD cyI cyJ cyZ cyO h0 h1 q r now trial next held ring full cop f1 f2 f3 f4 f5 cl sc sb spl sts stk le ki nu pl ln told undos isKept te ml si va told fi be rb cc dg mnu pw aw dw fw pr li lo fo ov row) H := hP
  have hD : va_D (LA s) (WD cyI cyJ cyZ cyO h0 h1 q r now trial next held ring full cop f1 f2 f3 f4 f5 cl sc sb spl sts stk le ki nu pl ln told undos isKept te ml si va told fi be rb cc dg mnu pw aw dw fw pr li lo fo ov row) := hD
  refine lv_icmp_eq (tgt := 1063) hx hb dL_law_361 (by decide) (fun _ => ?_) (fun c9 => absurd rfl c9)
  exact kk _ _ ⟨now, trial, next, held, ring, full, cop, f1, f2, f3, f4, f5, cl, sc, sb, spl, sts, stk, le, ki, nu, pl, ln, told, undos, isKept, te, ml, si, va, fi, be, rb, cc, dg, mnu, pw, aw, dw, fw, pr, li, lo, fo, ov, row, hP, hD, hNo, hPa, hKe, hT, hWo, hR, hov⟩ hS
set_option maxHeartbeats 4000000 in
set_option maxRecDepth 100000 in
theorem cs_near (C : LC p s m c b L xs dC dI cyI cyJ cyZ cyO adK adV) (hi : i + 5 ≤ L) (hl : lv_has ls 4 [(3, .int (nI i)), (2, .ref h1), (1, .ref h0), (0, .ref b)]) (hI : HI (dC, dI) cyI cyJ cyZ cyO (LA s) h0 h1 q r H) (hS : va_S (LA s) s.heap H locs) (kk : ∀ (H1 : Heap) (locs1 : List Loc), HI (dC, dI) cyI cyJ cyZ cyO (LA s) h0 h1 q r H1 → va_S (LA s) s.heap H1 locs1 → W p l e room_1 s m #[Value.ref b] below meth c H1 locs1 600000 7302250 Q (F0 m 1063 ls [])) : W p l e room_1 s m #[Value.ref b] below meth c H locs 600000 7302250 Q (F0 m 366 ls []) := by
  have C0 := C
  obtain ⟨hx, hb, hml, hown, hts, hK, hN, hXs, hX, hbl, hL⟩ := C
  have hA : ∀ q : Nat, s.heap.size ≤ q → LA s q := fun _ h => h
  obtain ⟨now, trial, next, held, ring, full, cop, f1, f2, f3, f4, f5, cl, sc, sb, spl, sts, stk, le, ki, nu, pl, ln, told, undos, isKept, te, ml, si, va, fi, be, rb, cc, dg, mnu, pw, aw, dw, fw, pr, li, lo, fo, ov, row, hP, hD, hNo, hPa, hKe, hT, hWo, hR, hov⟩ := hI
  obtain ⟨⟨zb, zs, zn, zm, zp, zj, zK, zM⟩, zO, zC, zr⟩ := hNo
  have hNo : NowI now row := ⟨_, zO, zC, zr⟩
  have hB := toBoth zO zC zr
  refine lv_aload_n hx hb dL_law_366 rfl (lv_at hl 2 rfl) ?_
  refine ld_arg (k := 1) C0 hi hl hS (by decide) (by decide +kernel) dL_law_367 dL_law_368 dL_law_369 dL_law_370 dL_law_371 ?_
  refine ld_arg (k := 2) C0 hi hl hS (by decide) (by decide +kernel) dL_law_372 dL_law_373 dL_law_374 dL_law_375 dL_law_376 ?_
  obtain ⟨r0, e6, e7⟩ := eq_near hB (xs (i + 1)) (xs (i + 2))
  refine Gj (va_runV (As := [.int (xs (i + 1)), .int (xs (i + 2))]) (rest := []) ⟨hx, hb, hml, hown, hts⟩ (tX6_near l dC dI cyI cyJ cyZ cyO H.size h0 (q 1) (q 0) (.ref (q 4)) (.ref (q 6)) (.ref (q 32)) (.ref (q 41)) (.ref (q 42)) (.ref (q 46)) (.long told) (.ref (q 2)) (.int now.2.1) (.int now.2.2.2.1) (.int now.2.2.2.2.1) (.int now.2.2.2.2.2.1) now.1 now.2.2.1 now.2.2.2.2.2.2.1 (xs (i + 1)) (xs (i + 2)) (r0) e6) (cwV 2 hts gL_law_X6_near rfl rfl rfl (by decide +kernel) ⟨Nat.le_of_ble_eq_true rfl, Nat.le_of_ble_eq_true rfl⟩) (GpreV hP hD hK hN [0, 2, 1] rfl (by decide) 6 0 rfl rfl rfl) rfl rfl hl.1 rfl (lv_room (Nat.le_of_ble_eq_true rfl)) dL_law_377 ⟨Nat.le_of_ble_eq_true rfl, Nat.le_of_ble_eq_true rfl⟩) hP hD hS hA [0, 2, 1] rfl rfl (fun H locs hP hD hS => ?_)
  have hP : va_P (dC, dI) vwCl (WD cyI cyJ cyZ cyO h0 h1 q r now trial next held ring full cop f1 f2 f3 f4 f5 cl sc sb spl sts stk le ki nu pl ln told undos isKept te ml si va told fi be rb cc dg mnu pw aw dw fw pr li lo fo ov row) H := hP
  have hD : va_D (LA s) (WD cyI cyJ cyZ cyO h0 h1 q r now trial next held ring full cop f1 f2 f3 f4 f5 cl sc sb spl sts stk le ki nu pl ln told undos isKept te ml si va told fi be rb cc dg mnu pw aw dw fw pr li lo fo ov row) := hD
  refine lv_aload_n hx hb dL_law_380 rfl (lv_at hl 1 rfl) ?_
  refine ld_arg (k := 1) C0 hi hl hS (by decide) (by decide +kernel) dL_law_381 dL_law_382 dL_law_383 dL_law_384 dL_law_385 ?_
  refine ld_arg (k := 2) C0 hi hl hS (by decide) (by decide +kernel) dL_law_386 dL_law_387 dL_law_388 dL_law_389 dL_law_390 ?_
  refine Gj (va_runV (As := [.int (xs (i + 1)), .int (xs (i + 2))]) (rest := [.int r0]) ⟨hx, hb, hml, hown, hts⟩ (tX7_near l dC dI cyI cyJ cyZ cyO H.size h1 (r 9) (.int undos) (.ref (r 0)) (.ref (r 1)) (.int ml) (.ref (r 2)) (.ref (r 3)) (.long told) (.int fi) (.int be) (.int rb) (.int cc) (.int dg) (.ref (r 4)) (.ref (r 5)) (.ref (r 6)) (.ref (r 7)) (.ref (r 8)) (.int pr) (.int li) (.int lo) (.int fo) (.int ov) row (xs (i + 1)) (xs (i + 2)) (r0) e7) (cwV 2 hts gL_law_X7_near rfl rfl rfl (by decide +kernel) ⟨Nat.le_of_ble_eq_true rfl, Nat.le_of_ble_eq_true rfl⟩) (GpreV hP hD hK hN [59, 60] rfl (by decide) 7 0 rfl rfl rfl) rfl rfl hl.1 rfl (lv_room (Nat.le_of_ble_eq_true rfl)) dL_law_391 ⟨Nat.le_of_ble_eq_true rfl, Nat.le_of_ble_eq_true rfl⟩) hP hD hS hA [59, 60] rfl rfl (fun H locs hP hD hS => ?_)
  have hP : va_P (dC, dI) vwCl (WD cyI cyJ cyZ cyO h0 h1 q r now trial next held ring full cop f1 f2 f3 f4 f5 cl sc sb spl sts stk le ki nu pl ln told undos isKept te ml si va told fi be rb cc dg mnu pw aw dw fw pr li lo fo ov row) H := hP
  have hD : va_D (LA s) (WD cyI cyJ cyZ cyO h0 h1 q r now trial next held ring full cop f1 f2 f3 f4 f5 cl sc sb spl sts stk le ki nu pl ln told undos isKept te ml si va told fi be rb cc dg mnu pw aw dw fw pr li lo fo ov row) := hD
  refine lv_icmp_eq (tgt := 1063) hx hb dL_law_394 (by decide) (fun _ => ?_) (fun c9 => absurd rfl c9)
  exact kk _ _ ⟨now, trial, next, held, ring, full, cop, f1, f2, f3, f4, f5, cl, sc, sb, spl, sts, stk, le, ki, nu, pl, ln, told, undos, isKept, te, ml, si, va, fi, be, rb, cc, dg, mnu, pw, aw, dw, fw, pr, li, lo, fo, ov, row, hP, hD, hNo, hPa, hKe, hT, hWo, hR, hov⟩ hS
set_option maxHeartbeats 4000000 in
set_option maxRecDepth 100000 in
theorem cs_rank (C : LC p s m c b L xs dC dI cyI cyJ cyZ cyO adK adV) (hi : i + 5 ≤ L) (hl : lv_has ls 4 [(3, .int (nI i)), (2, .ref h1), (1, .ref h0), (0, .ref b)]) (hI : HI (dC, dI) cyI cyJ cyZ cyO (LA s) h0 h1 q r H) (hS : va_S (LA s) s.heap H locs) (kk : ∀ (H1 : Heap) (locs1 : List Loc), HI (dC, dI) cyI cyJ cyZ cyO (LA s) h0 h1 q r H1 → va_S (LA s) s.heap H1 locs1 → W p l e room_1 s m #[Value.ref b] below meth c H1 locs1 600000 7302250 Q (F0 m 1063 ls [])) : W p l e room_1 s m #[Value.ref b] below meth c H locs 600000 7302250 Q (F0 m 399 ls []) := by
  have C0 := C
  obtain ⟨hx, hb, hml, hown, hts, hK, hN, hXs, hX, hbl, hL⟩ := C
  have hA : ∀ q : Nat, s.heap.size ≤ q → LA s q := fun _ h => h
  obtain ⟨now, trial, next, held, ring, full, cop, f1, f2, f3, f4, f5, cl, sc, sb, spl, sts, stk, le, ki, nu, pl, ln, told, undos, isKept, te, ml, si, va, fi, be, rb, cc, dg, mnu, pw, aw, dw, fw, pr, li, lo, fo, ov, row, hP, hD, hNo, hPa, hKe, hT, hWo, hR, hov⟩ := hI
  obtain ⟨⟨zb, zs, zn, zm, zp, zj, zK, zM⟩, zO, zC, zr⟩ := hNo
  have hNo : NowI now row := ⟨_, zO, zC, zr⟩
  have hB := toBoth zO zC zr
  refine lv_aload_n hx hb dL_law_399 rfl (lv_at hl 2 rfl) ?_
  refine ld_arg (k := 1) C0 hi hl hS (by decide) (by decide +kernel) dL_law_400 dL_law_401 dL_law_402 dL_law_403 dL_law_404 ?_
  obtain ⟨r0, e6, e7⟩ := eq_rank hB (xs (i + 1))
  refine Gj (va_runV (As := [.int (xs (i + 1))]) (rest := []) ⟨hx, hb, hml, hown, hts⟩ (tX6_rank l dC dI cyI cyJ cyZ cyO H.size h0 (q 1) (q 0) (.ref (q 4)) (.ref (q 6)) (.ref (q 32)) (.ref (q 41)) (.ref (q 42)) (.ref (q 46)) (.long told) (.ref (q 2)) (.int now.2.1) (.int now.2.2.2.1) (.int now.2.2.2.2.1) (.int now.2.2.2.2.2.1) now.1 now.2.2.1 now.2.2.2.2.2.2.1 (xs (i + 1)) (r0) e6) (cwV 1 hts gL_law_X6_rank rfl rfl rfl (by decide +kernel) ⟨Nat.le_of_ble_eq_true rfl, Nat.le_of_ble_eq_true rfl⟩) (GpreV hP hD hK hN [0, 2, 1] rfl (by decide) 6 0 rfl rfl rfl) rfl rfl hl.1 rfl (lv_room (Nat.le_of_ble_eq_true rfl)) dL_law_405 ⟨Nat.le_of_ble_eq_true rfl, Nat.le_of_ble_eq_true rfl⟩) hP hD hS hA [0, 2, 1] rfl rfl (fun H locs hP hD hS => ?_)
  have hP : va_P (dC, dI) vwCl (WD cyI cyJ cyZ cyO h0 h1 q r now trial next held ring full cop f1 f2 f3 f4 f5 cl sc sb spl sts stk le ki nu pl ln told undos isKept te ml si va told fi be rb cc dg mnu pw aw dw fw pr li lo fo ov row) H := hP
  have hD : va_D (LA s) (WD cyI cyJ cyZ cyO h0 h1 q r now trial next held ring full cop f1 f2 f3 f4 f5 cl sc sb spl sts stk le ki nu pl ln told undos isKept te ml si va told fi be rb cc dg mnu pw aw dw fw pr li lo fo ov row) := hD
  refine lv_aload_n hx hb dL_law_408 rfl (lv_at hl 1 rfl) ?_
  refine ld_arg (k := 1) C0 hi hl hS (by decide) (by decide +kernel) dL_law_409 dL_law_410 dL_law_411 dL_law_412 dL_law_413 ?_
  refine Gj (va_runV (As := [.int (xs (i + 1))]) (rest := [.int r0]) ⟨hx, hb, hml, hown, hts⟩ (tX7_rank l dC dI cyI cyJ cyZ cyO H.size h1 (r 9) (.int undos) (.ref (r 0)) (.ref (r 1)) (.int ml) (.ref (r 2)) (.ref (r 3)) (.long told) (.int fi) (.int be) (.int rb) (.int cc) (.int dg) (.ref (r 4)) (.ref (r 5)) (.ref (r 6)) (.ref (r 7)) (.ref (r 8)) (.int pr) (.int li) (.int lo) (.int fo) (.int ov) row (xs (i + 1)) (r0) e7) (cwV 1 hts gL_law_X7_rank rfl rfl rfl (by decide +kernel) ⟨Nat.le_of_ble_eq_true rfl, Nat.le_of_ble_eq_true rfl⟩) (GpreV hP hD hK hN [59, 60] rfl (by decide) 7 0 rfl rfl rfl) rfl rfl hl.1 rfl (lv_room (Nat.le_of_ble_eq_true rfl)) dL_law_414 ⟨Nat.le_of_ble_eq_true rfl, Nat.le_of_ble_eq_true rfl⟩) hP hD hS hA [59, 60] rfl rfl (fun H locs hP hD hS => ?_)
  have hP : va_P (dC, dI) vwCl (WD cyI cyJ cyZ cyO h0 h1 q r now trial next held ring full cop f1 f2 f3 f4 f5 cl sc sb spl sts stk le ki nu pl ln told undos isKept te ml si va told fi be rb cc dg mnu pw aw dw fw pr li lo fo ov row) H := hP
  have hD : va_D (LA s) (WD cyI cyJ cyZ cyO h0 h1 q r now trial next held ring full cop f1 f2 f3 f4 f5 cl sc sb spl sts stk le ki nu pl ln told undos isKept te ml si va told fi be rb cc dg mnu pw aw dw fw pr li lo fo ov row) := hD
  refine lv_icmp_eq (tgt := 1063) hx hb dL_law_417 (by decide) (fun _ => ?_) (fun c9 => absurd rfl c9)
  exact kk _ _ ⟨now, trial, next, held, ring, full, cop, f1, f2, f3, f4, f5, cl, sc, sb, spl, sts, stk, le, ki, nu, pl, ln, told, undos, isKept, te, ml, si, va, fi, be, rb, cc, dg, mnu, pw, aw, dw, fw, pr, li, lo, fo, ov, row, hP, hD, hNo, hPa, hKe, hT, hWo, hR, hov⟩ hS
set_option maxHeartbeats 4000000 in
set_option maxRecDepth 100000 in
theorem cs_ranked (C : LC p s m c b L xs dC dI cyI cyJ cyZ cyO adK adV) (hi : i + 5 ≤ L) (hl : lv_has ls 4 [(3, .int (nI i)), (2, .ref h1), (1, .ref h0), (0, .ref b)]) (hI : HI (dC, dI) cyI cyJ cyZ cyO (LA s) h0 h1 q r H) (hS : va_S (LA s) s.heap H locs) (kk : ∀ (H1 : Heap) (locs1 : List Loc), HI (dC, dI) cyI cyJ cyZ cyO (LA s) h0 h1 q r H1 → va_S (LA s) s.heap H1 locs1 → W p l e room_1 s m #[Value.ref b] below meth c H1 locs1 600000 7302250 Q (F0 m 1063 ls [])) : W p l e room_1 s m #[Value.ref b] below meth c H locs 600000 7302250 Q (F0 m 422 ls []) := by
  have C0 := C
  obtain ⟨hx, hb, hml, hown, hts, hK, hN, hXs, hX, hbl, hL⟩ := C
  have hA : ∀ q : Nat, s.heap.size ≤ q → LA s q := fun _ h => h
  obtain ⟨now, trial, next, held, ring, full, cop, f1, f2, f3, f4, f5, cl, sc, sb, spl, sts, stk, le, ki, nu, pl, ln, told, undos, isKept, te, ml, si, va, fi, be, rb, cc, dg, mnu, pw, aw, dw, fw, pr, li, lo, fo, ov, row, hP, hD, hNo, hPa, hKe, hT, hWo, hR, hov⟩ := hI
  obtain ⟨⟨zb, zs, zn, zm, zp, zj, zK, zM⟩, zO, zC, zr⟩ := hNo
  have hNo : NowI now row := ⟨_, zO, zC, zr⟩
  have hB := toBoth zO zC zr
  refine lv_aload_n hx hb dL_law_422 rfl (lv_at hl 2 rfl) ?_
  refine ld_arg (k := 1) C0 hi hl hS (by decide) (by decide +kernel) dL_law_423 dL_law_424 dL_law_425 dL_law_426 dL_law_427 ?_
  obtain ⟨r0, e6, e7⟩ := eq_ranked hB (xs (i + 1))
  refine Gj (va_runV (As := [.int (xs (i + 1))]) (rest := []) ⟨hx, hb, hml, hown, hts⟩ (tX6_ranked l dC dI cyI cyJ cyZ cyO H.size h0 (q 1) (q 0) (.ref (q 4)) (.ref (q 6)) (.ref (q 32)) (.ref (q 41)) (.ref (q 42)) (.ref (q 46)) (.long told) (.ref (q 2)) (.int now.1) (.int now.2.1) (.int now.2.2.2.1) (.int now.2.2.2.2.1) (.int now.2.2.2.2.2.1) now.2.2.1 now.2.2.2.2.2.2.1 (xs (i + 1)) (r0) e6) (cwV 1 hts gL_law_X6_ranked rfl rfl rfl (by decide +kernel) ⟨Nat.le_of_ble_eq_true rfl, Nat.le_of_ble_eq_true rfl⟩) (GpreV hP hD hK hN [0, 2, 1] rfl (by decide) 6 0 rfl rfl rfl) rfl rfl hl.1 rfl (lv_room (Nat.le_of_ble_eq_true rfl)) dL_law_428 ⟨Nat.le_of_ble_eq_true rfl, Nat.le_of_ble_eq_true rfl⟩) hP hD hS hA [0, 2, 1] rfl rfl (fun H locs hP hD hS => ?_)
  have hP : va_P (dC, dI) vwCl (WD cyI cyJ cyZ cyO h0 h1 q r now trial next held ring full cop f1 f2 f3 f4 f5 cl sc sb spl sts stk le ki nu pl ln told undos isKept te ml si va told fi be rb cc dg mnu pw aw dw fw pr li lo fo ov row) H := hP
  have hD : va_D (LA s) (WD cyI cyJ cyZ cyO h0 h1 q r now trial next held ring full cop f1 f2 f3 f4 f5 cl sc sb spl sts stk le ki nu pl ln told undos isKept te ml si va told fi be rb cc dg mnu pw aw dw fw pr li lo fo ov row) := hD
  refine lv_aload_n hx hb dL_law_431 rfl (lv_at hl 1 rfl) ?_
  refine ld_arg (k := 1) C0 hi hl hS (by decide) (by decide +kernel) dL_law_432 dL_law_433 dL_law_434 dL_law_435 dL_law_436 ?_
  refine Gj (va_runV (As := [.int (xs (i + 1))]) (rest := [.int r0]) ⟨hx, hb, hml, hown, hts⟩ (tX7_ranked l dC dI cyI cyJ cyZ cyO H.size h1 (r 9) (.int undos) (.ref (r 0)) (.ref (r 1)) (.int ml) (.ref (r 2)) (.ref (r 3)) (.long told) (.int fi) (.int be) (.int rb) (.int cc) (.int dg) (.ref (r 4)) (.ref (r 5)) (.ref (r 6)) (.ref (r 7)) (.ref (r 8)) (.int pr) (.int li) (.int lo) (.int fo) (.int ov) row (xs (i + 1)) (r0) e7) (cwV 1 hts gL_law_X7_ranked rfl rfl rfl (by decide +kernel) ⟨Nat.le_of_ble_eq_true rfl, Nat.le_of_ble_eq_true rfl⟩) (GpreV hP hD hK hN [59, 60] rfl (by decide) 7 0 rfl rfl rfl) rfl rfl hl.1 rfl (lv_room (Nat.le_of_ble_eq_true rfl)) dL_law_437 ⟨Nat.le_of_ble_eq_true rfl, Nat.le_of_ble_eq_true rfl⟩) hP hD hS hA [59, 60] rfl rfl (fun H locs hP hD hS => ?_)
  have hP : va_P (dC, dI) vwCl (WD cyI cyJ cyZ cyO h0 h1 q r now trial next held ring full cop f1 f2 f3 f4 f5 cl sc sb spl sts stk le ki nu pl ln told undos isKept te ml si va told fi be rb cc dg mnu pw aw dw fw pr li lo fo ov row) H := hP
  have hD : va_D (LA s) (WD cyI cyJ cyZ cyO h0 h1 q r now trial next held ring full cop f1 f2 f3 f4 f5 cl sc sb spl sts stk le ki nu pl ln told undos isKept te ml si va told fi be rb cc dg mnu pw aw dw fw pr li lo fo ov row) := hD
  refine lv_icmp_eq (tgt := 1063) hx hb dL_law_440 (by decide) (fun _ => ?_) (fun c9 => absurd rfl c9)
  exact kk _ _ ⟨now, trial, next, held, ring, full, cop, f1, f2, f3, f4, f5, cl, sc, sb, spl, sts, stk, le, ki, nu, pl, ln, told, undos, isKept, te, ml, si, va, fi, be, rb, cc, dg, mnu, pw, aw, dw, fw, pr, li, lo, fo, ov, row, hP, hD, hNo, hPa, hKe, hT, hWo, hR, hov⟩ hS
set_option maxHeartbeats 4000000 in
set_option maxRecDepth 100000 in
theorem cs_bucket (C : LC p s m c b L xs dC dI cyI cyJ cyZ cyO adK adV) (hi : i + 5 ≤ L) (hl : lv_has ls 4 [(3, .int (nI i)), (2, .ref h1), (1, .ref h0), (0, .ref b)]) (hI : HI (dC, dI) cyI cyJ cyZ cyO (LA s) h0 h1 q r H) (hS : va_S (LA s) s.heap H locs) (kk : ∀ (H1 : Heap) (locs1 : List Loc), HI (dC, dI) cyI cyJ cyZ cyO (LA s) h0 h1 q r H1 → va_S (LA s) s.heap H1 locs1 → W p l e room_1 s m #[Value.ref b] below meth c H1 locs1 600000 7302250 Q (F0 m 1063 ls [])) : W p l e room_1 s m #[Value.ref b] below meth c H locs 600000 7302250 Q (F0 m 478 ls []) := by
  have C0 := C
  obtain ⟨hx, hb, hml, hown, hts, hK, hN, hXs, hX, hbl, hL⟩ := C
  have hA : ∀ q : Nat, s.heap.size ≤ q → LA s q := fun _ h => h
  obtain ⟨now, trial, next, held, ring, full, cop, f1, f2, f3, f4, f5, cl, sc, sb, spl, sts, stk, le, ki, nu, pl, ln, told, undos, isKept, te, ml, si, va, fi, be, rb, cc, dg, mnu, pw, aw, dw, fw, pr, li, lo, fo, ov, row, hP, hD, hNo, hPa, hKe, hT, hWo, hR, hov⟩ := hI
  obtain ⟨⟨zb, zs, zn, zm, zp, zj, zK, zM⟩, zO, zC, zr⟩ := hNo
  have hNo : NowI now row := ⟨_, zO, zC, zr⟩
  have hB := toBoth zO zC zr
  refine lv_aload_n hx hb dL_law_478 rfl (lv_at hl 2 rfl) ?_
  refine ld_arg (k := 1) C0 hi hl hS (by decide) (by decide +kernel) dL_law_479 dL_law_480 dL_law_481 dL_law_482 dL_law_483 ?_
  refine ld_arg (k := 2) C0 hi hl hS (by decide) (by decide +kernel) dL_law_484 dL_law_485 dL_law_486 dL_law_487 dL_law_488 ?_
  obtain ⟨r0, e6, e7⟩ := eq_bucket hB (xs (i + 1)) (xs (i + 2))
  refine Gj (va_runV (As := [.int (xs (i + 1)), .int (xs (i + 2))]) (rest := []) ⟨hx, hb, hml, hown, hts⟩ (tX6_bucket l dC dI cyI cyJ cyZ cyO H.size h0 (q 1) (q 0) (q 2) (.ref (q 4)) (.ref (q 6)) (.ref (q 32)) (.ref (q 41)) (.ref (q 42)) (.ref (q 46)) (.long told) (.int now.1) (.int now.2.1) (.int now.2.2.2.2.1) (.int now.2.2.2.2.2.1) now.2.2.1 now.2.2.2.1 now.2.2.2.2.2.2.1 now.2.2.2.2.2.2.2 (xs (i + 1)) (xs (i + 2)) (r0) e6) (cwV 2 hts gL_law_X6_bucket rfl rfl rfl (by decide +kernel) ⟨Nat.le_of_ble_eq_true rfl, Nat.le_of_ble_eq_true rfl⟩) (GpreV hP hD hK hN [0, 2, 1, 3] rfl (by decide) 6 0 rfl rfl rfl) rfl rfl hl.1 rfl (lv_room (Nat.le_of_ble_eq_true rfl)) dL_law_489 ⟨Nat.le_of_ble_eq_true rfl, Nat.le_of_ble_eq_true rfl⟩) hP hD hS hA [0, 2, 1, 3] rfl rfl (fun H locs hP hD hS => ?_)
  have hP : va_P (dC, dI) vwCl (WD cyI cyJ cyZ cyO h0 h1 q r now trial next held ring full cop f1 f2 f3 f4 f5 cl sc sb spl sts stk le ki nu pl ln told undos isKept te ml si va told fi be rb cc dg mnu pw aw dw fw pr li lo fo ov row) H := hP
  have hD : va_D (LA s) (WD cyI cyJ cyZ cyO h0 h1 q r now trial next held ring full cop f1 f2 f3 f4 f5 cl sc sb spl sts stk le ki nu pl ln told undos isKept te ml si va told fi be rb cc dg mnu pw aw dw fw pr li lo fo ov row) := hD
  refine lv_aload_n hx hb dL_law_492 rfl (lv_at hl 1 rfl) ?_
  refine ld_arg (k := 1) C0 hi hl hS (by decide) (by decide +kernel) dL_law_493 dL_law_494 dL_law_495 dL_law_496 dL_law_497 ?_
  refine ld_arg (k := 2) C0 hi hl hS (by decide) (by decide +kernel) dL_law_498 dL_law_499 dL_law_500 dL_law_501 dL_law_502 ?_
  refine Gj (va_runV (As := [.int (xs (i + 1)), .int (xs (i + 2))]) (rest := [.int r0]) ⟨hx, hb, hml, hown, hts⟩ (tX7_bucket l dC dI cyI cyJ cyZ cyO H.size h1 (r 9) (.int undos) (.ref (r 0)) (.ref (r 1)) (.int ml) (.ref (r 2)) (.ref (r 3)) (.long told) (.int fi) (.int be) (.int rb) (.int cc) (.int dg) (.ref (r 4)) (.ref (r 5)) (.ref (r 6)) (.ref (r 7)) (.ref (r 8)) (.int pr) (.int li) (.int lo) (.int fo) (.int ov) row (xs (i + 1)) (xs (i + 2)) (r0) e7) (cwV 2 hts gL_law_X7_bucket rfl rfl rfl (by decide +kernel) ⟨Nat.le_of_ble_eq_true rfl, Nat.le_of_ble_eq_true rfl⟩) (GpreV hP hD hK hN [59, 60] rfl (by decide) 7 0 rfl rfl rfl) rfl rfl hl.1 rfl (lv_room (Nat.le_of_ble_eq_true rfl)) dL_law_503 ⟨Nat.le_of_ble_eq_true rfl, Nat.le_of_ble_eq_true rfl⟩) hP hD hS hA [59, 60] rfl rfl (fun H locs hP hD hS => ?_)
  have hP : va_P (dC, dI) vwCl (WD cyI cyJ cyZ cyO h0 h1 q r now trial next held ring full cop f1 f2 f3 f4 f5 cl sc sb spl sts stk le ki nu pl ln told undos isKept te ml si va told fi be rb cc dg mnu pw aw dw fw pr li lo fo ov row) H := hP
  have hD : va_D (LA s) (WD cyI cyJ cyZ cyO h0 h1 q r now trial next held ring full cop f1 f2 f3 f4 f5 cl sc sb spl sts stk le ki nu pl ln told undos isKept te ml si va told fi be rb cc dg mnu pw aw dw fw pr li lo fo ov row) := hD
  refine lv_icmp_eq (tgt := 1063) hx hb dL_law_506 (by decide) (fun _ => ?_) (fun c9 => absurd rfl c9)
  exact kk _ _ ⟨now, trial, next, held, ring, full, cop, f1, f2, f3, f4, f5, cl, sc, sb, spl, sts, stk, le, ki, nu, pl, ln, told, undos, isKept, te, ml, si, va, fi, be, rb, cc, dg, mnu, pw, aw, dw, fw, pr, li, lo, fo, ov, row, hP, hD, hNo, hPa, hKe, hT, hWo, hR, hov⟩ hS
end LAW
