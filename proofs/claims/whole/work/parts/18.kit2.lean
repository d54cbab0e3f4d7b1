/-! ===== more of the general kit: copies, named numbers, references, String constants ===== -/
def ocp {α : Type} (sp dp n : Int32) (n0 n1 : Nat) (a : Option α) : Option α := if ¬ sp < 0 ∧ ¬ dp < 0 ∧ ¬ n < 0 ∧ sp.toNatClampNeg + n.toNatClampNeg ≤ n0 ∧ dp.toNatClampNeg + n.toNatClampNeg ≤ n1 then a else none
theorem ocp_e {α : Type} {sp dp n : Int32} {n0 n1 : Nat} {a : Option α} {r : α} (h : ocp sp dp n n0 n1 a = some r) : (¬ sp < 0 ∧ ¬ dp < 0 ∧ ¬ n < 0 ∧ sp.toNatClampNeg + n.toNatClampNeg ≤ n0 ∧ dp.toNatClampNeg + n.toNatClampNeg ≤ n1) ∧ a = some r := by
  unfold ocp at h
  by_cases c : ¬ sp < 0 ∧ ¬ dp < 0 ∧ ¬ n < 0 ∧ sp.toNatClampNeg + n.toNatClampNeg ≤ n0 ∧ dp.toNatClampNeg + n.toNatClampNeg ≤ n1
  · rw [if_pos c] at h; exact ⟨c, h⟩
  · rw [if_neg c] at h; cases h
theorem olet_n {α β : Type} {v : α} {k : α → Option β} {r : β} (h : olet v k = some r) {y : α} (e : y = v) : k y = some r := by rw [e]; exact h
section GK2
variable {p : Program} {l : Launch} {e : Env} {R : Room} {s : State} {m : MethodId} {args : Array Value} {below : List Frame} {meth : Method} {c : Code} {H : Heap} {locs : List Loc} {cells slots : Nat} {Q : State → Prop}
variable {pc : Nat} {ls : Array Slot} {rest st0 : List Value} {a : Array Value} {A : Nat → Prop} {H0 : Heap} {D : va_G} {ws wc wr w1 : va_W}
theorem W_rf {f : Nat → Option Nat} {k q : Nat} (hf : f k = some q) (kk : W p l e R s m args below meth c H locs cells slots Q (F0 m pc ls (.ref q :: rest))) : W p l e R s m args below meth c H locs cells slots Q (F0 m pc ls (va_rf (f k) :: rest)) := by
  rw [hf]
  exact kk
theorem Gcr {r0 : Nat} (hr : va_Run p l e R s m args below meth c H locs cells slots 0 0 (F0 m pc ls st0) rest (va_Qr (fun (_ : Unit) => True) (fun u ra t => ra = r0 ∧ GB D w1 (va_A wc H.size) u t) (va_A wc H.size) a) (va_A wc H.size)) (hP : va_P D vwCl ws H) (hD : va_D A ws) (hS : va_S A H0 H locs) (hA : ∀ q, H0.size ≤ q → A q) (isC isR : List Nat) (hC : isC.map (fun i => ws[i]?) = wc.map some) (hR : isR.map (fun i => ws[i]?) = wr.map some) (hn : va_nd isR = true) (hdis : ∀ i ∈ isR, i ∉ isC)
    (kk : ∀ (H1 : Heap) (locs1 : List Loc), va_P D vwCl (wr ++ w1) H1 → va_D A (wr ++ w1) → va_S A H0 H1 locs1 → W p l e R s m args below meth c H1 locs1 cells slots Q (F0 m (pc + 3) ls (.ref r0 :: rest))) : W p l e R s m args below meth c H locs cells slots Q (F0 m pc ls st0) := by
  have hFc := va_free (wc := wc) hD hS hA isC hC
  refine va_callr hr hS (fun q _ h => hFc q h) hFc (fun u ra t H1 locs1 ht hvm hw hB hz1 hk1 hS1 => ?_)
  obtain ⟨hra, hP1, hD1⟩ := hB
  rw [ht] at hP1
  obtain ⟨hP2, hD2⟩ := va_join (wr := wr) (w1 := w1) hP hD isC isR hC hR hn hdis hk1 hFc hP1 hD1
  subst hra
  exact kk H1 locs1 hP2 hD2 hS1
end GK2
/-- the String constants, and what the JDK's own code reads -/
def SX (adK adV : Nat → Nat) (A : Nat → Prop) (U : State) : Prop := vk_S 4 lenJS bytJS adK adV A U U.heap ∧ va_Z "java/lang/String" "COMPACT_STRINGS" "Z" (.int 1) A U U.heap ∧ va_Zq "jdk/internal/util/Preconditions" "SIOOBE_FORMATTER" "Ljava/util/function/BiFunction;" A U U.heap ∧ ∀ i : Nat, i < 4 → vk_R RX5 (jsR.getD i (0, "")).1 (jsR.getD i (0, "")).2 (adK i) U
theorem SX.step {adK adV : Nat → Nat} {A B : Nat → Prop} {s U : State} {H : Heap} {locs : List Loc} (h : SX adK adV A s) (hS : va_S A s.heap H locs) (hW : s.WarmedH U.vm) (hU : U.heap = H) (hAB : ∀ q, B q → A q) : SX adK adV B U := by
  obtain ⟨h1, h2, h3, h4⟩ := h
  refine ⟨?_, ?_, ?_, fun i hi => vk_R.warm hW (h4 i hi)⟩
  · rw [hU]; exact ((h1.moved hW.alike).kept hS.2.1).narrow hAB
  · rw [hU]; exact ((h2.moved hW.alike).kept hS.2.1).narrow hAB
  · rw [hU]; exact ((h3.moved hW.alike).kept hS.2.1).narrow hAB
theorem SX.same {adK adV : Nat → Nat} {A : Nat → Prop} {u U : State} (e : U.vm = u.vm) (eh : U.heap = u.heap) (h : SX adK adV A u) : SX adK adV A U := by
  obtain ⟨h1, h2, h3, h4⟩ := h
  have al : u.vm.Alike U.vm := by rw [e]; exact Vm.Alike.refl u.vm
  refine ⟨?_, ?_, ?_, fun i hi => vk_R.same e (h4 i hi)⟩
  · rw [eh]; exact h1.moved al
  · rw [eh]; exact h2.moved al
  · rw [eh]; exact h3.moved al
def GPs (adK adV : Nat → Nat) (D : va_G) (tys : List (ClassId × FieldType)) (sz : Nat) (ws : va_W) : State → Prop := fun U => GP D tys sz ws U ∧ SX adK adV (va_A ws sz) U
theorem GPs.blind {adK adV : Nat → Nat} {D : va_G} {tys : List (ClassId × FieldType)} {sz : Nat} {ws : va_W} {av : List Value} : FrameBlind (va_Pc av (GPs adK adV D tys sz ws)) := fun a U g mk q => by
  obtain ⟨q0, q1, q2⟩ := q
  exact ⟨q0, (GP.blind (av := av) a U g mk ⟨q0, q1⟩).2, SX.same (u := U) (U := U.calling g mk a) rfl rfl q2⟩
theorem GpreVs {adK adV : Nat → Nat} {s : State} {H : Heap} {C : String} {b : Addr} {D : va_G} {tys : List (ClassId × FieldType)} {ws wc : va_W} {A : Nat → Prop} {As : List Value} {locs : List Loc} (hX : SX adK adV A s) (hS : va_S A s.heap H locs) (hA : ∀ q, s.heap.size ≤ q → A q) (hP : va_P D vwCl ws H) (hD : va_D A ws) (hK : va_K D vwCl tys s) (hN : NW s) (isC : List Nat) (hC : isC.map (fun i => ws[i]?) = wc.map some) (hn : va_nd isC = true) (hrc : ∃ cell : Cell, H[b]? = some cell ∧ cell.vm.isStatics = false ∧ s.vm.findClass C = some cell.cls) : PreV s H C b (va_Pc (.ref b :: As) (GPs adK adV D tys H.size wc)) As := by
  have hP' := hP.sub (ws' := wc) isC (fm_of_map hC)
  have hD' := hD.sub (ws' := wc) isC hn hC
  exact ⟨GPs.blind, hrc, fun U hU hW => ⟨rfl, ⟨by rw [hU], by rw [hU]; exact hP', va_K.moved hW.alike hK, hD'.weaken (fun _ _ _ _ => trivial), hN.warm hW⟩, hX.step hS hW hU (va_free (wc := wc) hD hS hA isC hC)⟩⟩
theorem GpreSs {adK adV : Nat → Nat} {s : State} {H : Heap} {D : va_G} {tys : List (ClassId × FieldType)} {ws wc : va_W} {A : Nat → Prop} {As : List Value} {locs : List Loc} (hX : SX adK adV A s) (hS : va_S A s.heap H locs) (hA : ∀ q, s.heap.size ≤ q → A q) (hP : va_P D vwCl ws H) (hD : va_D A ws) (hK : va_K D vwCl tys s) (hN : NW s) (isC : List Nat) (hC : isC.map (fun i => ws[i]?) = wc.map some) (hn : va_nd isC = true) : PreS s H (va_Pc As (GPs adK adV D tys H.size wc)) As := by
  have hP' := hP.sub (ws' := wc) isC (fm_of_map hC)
  have hD' := hD.sub (ws' := wc) isC hn hC
  exact ⟨GPs.blind, fun U hU hW => ⟨rfl, ⟨by rw [hU], by rw [hU]; exact hP', va_K.moved hW.alike hK, hD'.weaken (fun _ _ _ _ => trivial), hN.warm hW⟩, hX.step hS hW hU (va_free (wc := wc) hD hS hA isC hC)⟩⟩
section GM2
variable {l : Launch} {y : MethodName} {ws ws' : List Cond} {rm : Room} {D : va_G} {tys : List (ClassId × FieldType)} {cells cells' : va_W} {av : List Value} {sz : Nat} {cc : ByteArray} {maxL : Nat} {adK adV : Nat → Nat}
theorem GMetXs {r0 : Int32} {ty : FieldType} (hy : plainName y.cls = true) (hw : ws = Cond.code y cc maxL (some ty) :: ws') (hmx : (lg_sl av).length ≤ maxL)
    (body : ∀ (p : Program) (e : Env) (s : State) (m : MethodId) (args : Array Value) (below : List Frame) (meth : Method) (c : Code) (A : Nat → Prop) (Q : State → Prop) (ls : Array Slot), p.tables.exec = Jvm.exec → c.code = cc → c.maxLocals = maxL → (∀ w ∈ ws, w.before args s = true) → s.vm.findClass y.cls = some m.cls → NW s → va_K D vwCl tys s → (∀ q, s.heap.size ≤ q → A q) → SX adK adV A s →
      (∀ (pc : Nat) (ls : Array Slot) (H : Heap) (locs : List Loc), decode cc pc = .ok (.ireturn, 1) → narrow ty (.int r0) = .int r0 → va_P D vwCl cells' H → va_D A cells' → va_S A s.heap H locs → W p l e rm s m args below meth c H locs 0 0 Q (F0 m pc ls [.int r0])) →
      va_P D vwCl cells s.heap → va_D A cells → va_S A s.heap s.heap [] → lv_has ls maxL (lv_args 0 av) → W p l e rm s m args below meth c s.heap [] 0 0 Q (F0 m 0 ls [])) :
    Met l y ws rm (va_Pc av (GPs adK adV D tys sz cells)) (va_Qi (fun (r : Int32) (_ : Unit) => r = r0) (GB D cells' (va_A cells sz)) (va_A cells sz)) 0 0 (va_A cells sz) := by
  refine Met.ofW (cc := cc) (maxL := maxL) (ret := some ty) hy hw ?_
  intro p e s m args below meth c s₁ B hml hv
  obtain ⟨rfl, ⟨hsz, hP, hK, hD0, hN⟩, hX⟩ := hv
  subst hsz
  rw [lg_entry_eq]
  refine body p e s m _ below meth c (va_A cells s.heap.size) _ _ B.exec B.bytes hml (atoms_spec (ws := ws) B.pre) (findClass_of_methodNamed B.named) hN hK (fun q h => Or.inr h) hX ?_ hP (hD0.self (sz := s.heap.size)) va_S.rf (lv_entry av hmx)
  intro pc ls H locs hd hz hP' hD' hS'
  exact W.zret (v := r0) (ty := ty) B.exec B.bytes B.returns hz (fun t ht hW => ⟨⟨r0, (), rfl, rfl, by rw [ht]; exact hP', hD'⟩, hS'.F ht⟩) hS'.2.2 hd (hlocks := B.notSynchronized)
theorem GMetVs (hy : plainName y.cls = true) (hw : ws = Cond.code y cc maxL none :: ws') (hmx : (lg_sl av).length ≤ maxL)
    (body : ∀ (p : Program) (e : Env) (s : State) (m : MethodId) (args : Array Value) (below : List Frame) (meth : Method) (c : Code) (A : Nat → Prop) (Q : State → Prop) (ls : Array Slot), p.tables.exec = Jvm.exec → c.code = cc → c.maxLocals = maxL → (∀ w ∈ ws, w.before args s = true) → s.vm.findClass y.cls = some m.cls → NW s → va_K D vwCl tys s → (∀ q, s.heap.size ≤ q → A q) → SX adK adV A s →
      (∀ (pc : Nat) (ls : Array Slot) (H : Heap) (locs : List Loc), decode cc pc = .ok (.return_, 1) → va_P D vwCl cells' H → va_D A cells' → va_S A s.heap H locs → W p l e rm s m args below meth c H locs 0 0 Q (F0 m pc ls [])) →
      va_P D vwCl cells s.heap → va_D A cells → va_S A s.heap s.heap [] → lv_has ls maxL (lv_args 0 av) → W p l e rm s m args below meth c s.heap [] 0 0 Q (F0 m 0 ls [])) :
    Met l y ws rm (va_Pc av (GPs adK adV D tys sz cells)) (va_Qv (fun (_ : Unit) => True) (GB D cells' (va_A cells sz)) (va_A cells sz)) 0 0 (va_A cells sz) := by
  refine Met.ofW (cc := cc) (maxL := maxL) (ret := none) hy hw ?_
  intro p e s m args below meth c s₁ B hml hv
  obtain ⟨rfl, ⟨hsz, hP, hK, hD0, hN⟩, hX⟩ := hv
  subst hsz
  rw [lg_entry_eq]
  refine body p e s m _ below meth c (va_A cells s.heap.size) _ _ B.exec B.bytes hml (atoms_spec (ws := ws) B.pre) (findClass_of_methodNamed B.named) hN hK (fun q h => Or.inr h) hX ?_ hP (hD0.self (sz := s.heap.size)) va_S.rf (lv_entry av hmx)
  intro pc ls H locs hd hP' hD' hS'
  exact W.vret B.exec B.bytes B.returns (fun t ht hW => ⟨⟨(), rfl, trivial, by rw [ht]; exact hP', hD'⟩, hS'.F ht⟩) hS'.2.2 hd (hlocks := B.notSynchronized)
theorem GMetR {r0 : Nat} {rt : FieldType} (hrt : (∃ n, rt = .object n) ∨ ∃ t, rt = .array t) (hy : plainName y.cls = true) (hw : ws = Cond.code y cc maxL (some rt) :: ws') (hmx : (lg_sl av).length ≤ maxL)
    (body : ∀ (p : Program) (e : Env) (s : State) (m : MethodId) (args : Array Value) (below : List Frame) (meth : Method) (c : Code) (A : Nat → Prop) (Q : State → Prop) (ls : Array Slot), p.tables.exec = Jvm.exec → c.code = cc → c.maxLocals = maxL → (∀ w ∈ ws, w.before args s = true) → s.vm.findClass y.cls = some m.cls → NW s → va_K D vwCl tys s → (∀ q, s.heap.size ≤ q → A q) →
      (∀ (pc : Nat) (ls : Array Slot) (H : Heap) (locs : List Loc), decode cc pc = .ok (.areturn, 1) → va_P D vwCl cells' H → va_D A cells' → va_S A s.heap H locs → W p l e rm s m args below meth c H locs 0 0 Q (F0 m pc ls [.ref r0])) →
      va_P D vwCl cells s.heap → va_D A cells → va_S A s.heap s.heap [] → lv_has ls maxL (lv_args 0 av) → W p l e rm s m args below meth c s.heap [] 0 0 Q (F0 m 0 ls [])) :
    Met l y ws rm (va_Pc av (GP D tys sz cells)) (va_Qr (fun (_ : Unit) => True) (fun u ra t => ra = r0 ∧ GB D cells' (va_A cells sz) u t) (va_A cells sz)) 0 0 (va_A cells sz) := by
  refine Met.ofW (cc := cc) (maxL := maxL) (ret := some rt) hy hw ?_
  intro p e s m args below meth c s₁ B hml hv
  obtain ⟨rfl, hsz, hP, hK, hD0, hN⟩ := hv
  subst hsz
  rw [lg_entry_eq]
  refine body p e s m _ below meth c (va_A cells s.heap.size) _ _ B.exec B.bytes hml (atoms_spec (ws := ws) B.pre) (findClass_of_methodNamed B.named) hN hK (fun q h => Or.inr h) ?_ hP (hD0.self (sz := s.heap.size)) va_S.rf (lv_entry av hmx)
  intro pc ls H locs hd hP' hD' hS'
  exact W.aret (v := .ref r0) B.exec B.bytes B.returns hrt (Or.inr ⟨r0, rfl⟩) (fun t ht hW => ⟨⟨(), r0, rfl, trivial, rfl, by rw [ht]; exact hP', hD'⟩, hS'.F ht⟩) hS'.2.2 hd (hlocks := B.notSynchronized)
end GM2
