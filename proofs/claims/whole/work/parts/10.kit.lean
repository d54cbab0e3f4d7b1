/-! ===== a general contract, a general call: worlds in, worlds out ===== -/
theorem og_ite_t {α : Type} {c : Prop} [Decidable c] {a b r : α} (hc : c) (h : (if c then a else b) = r) : a = r := by rw [if_pos hc] at h; exact h
theorem og_ite_f {α : Type} {c : Prop} [Decidable c] {a b r : α} (hc : ¬ c) (h : (if c then a else b) = r) : b = r := by rw [if_neg hc] at h; exact h
/-- a place in range, or nothing -/
def oin {α : Type} (i : Int32) (n : Nat) (a : Option α) : Option α := if i < 0 ∨ n ≤ i.toNatClampNeg then none else a
theorem oin_e {α : Type} {i : Int32} {n : Nat} {a : Option α} {r : α} (h : oin i n a = some r) : vp_in i n ∧ a = some r := by
  unfold oin at h
  by_cases c : i < 0 ∨ n ≤ i.toNatClampNeg
  · rw [if_pos c] at h; cases h
  · rw [if_neg c] at h; exact ⟨c, h⟩
/-- a divisor that isn't 0, or nothing -/
def onz {α : Type} (y : Int32) (a : Option α) : Option α := if y = 0 then none else a
theorem onz_e {α : Type} {y : Int32} {a : Option α} {r : α} (h : onz y a = some r) : ¬ y = 0 ∧ a = some r := by
  unfold onz at h
  by_cases c : y = 0
  · rw [if_pos c] at h; cases h
  · rw [if_neg c] at h; exact ⟨c, h⟩
def onzl {α : Type} (y : Int64) (a : Option α) : Option α := if y = 0 then none else a
theorem onzl_e {α : Type} {y : Int64} {a : Option α} {r : α} (h : onzl y a = some r) : ¬ y = 0 ∧ a = some r := by
  unfold onzl at h
  by_cases c : y = 0
  · rw [if_pos c] at h; cases h
  · rw [if_neg c] at h; exact ⟨c, h⟩
/-- a truth value, or nothing -/
def obl {α : Type} (v : Int32) (a : Option α) : Option α := if v = 0 ∨ v = 1 then a else none
theorem obl_e {α : Type} {v : Int32} {a : Option α} {r : α} (h : obl v a = some r) : (v = 0 ∨ v = 1) ∧ a = some r := by
  unfold obl at h
  by_cases c : v = 0 ∨ v = 1
  · rw [if_pos c] at h; exact ⟨c, h⟩
  · rw [if_neg c] at h; cases h
theorem obl_n {v : Int32} (h : v = 0 ∨ v = 1) : narrow .boolean (.int v) = .int v := by rcases h with rfl | rfl <;> rfl
theorem obl_v {v : Int32} (h : v = 0 ∨ v = 1) : vp_nar .boolean v = v := by rcases h with rfl | rfl <;> rfl
/-- a call's answer, and what comes behind it -/
def obd {α β : Type} (x : Option α) (k : α → Option β) : Option β := match x with
  | none => none
  | some a => k a
theorem obd_e {α β : Type} {x : Option α} {k : α → Option β} {r : β} (h : obd x k = some r) : ∃ u, x = some u ∧ k u = some r := by
  cases x with
  | none => cases h
  | some a => exact ⟨a, rfl, h⟩
theorem obd_s {α β : Type} (a : α) (k : α → Option β) : obd (some a) k = k a := rfl
/-- a named number -/
def olet {α β : Type} (v : α) (k : α → Option β) : Option β := k v
theorem olet_e {α β : Type} {v : α} {k : α → Option β} {r : β} (h : olet v k = some r) : ∃ x, x = v ∧ k x = some r := ⟨v, rfl, h⟩
/-- a loop that may return in its middle -/
def obe {α β : Type} (x : Option (α ⊕ β)) (k : α → Option β) : Option β := match x with
  | none => none
  | some (.inl a) => k a
  | some (.inr b) => some b
theorem obe_e {α β : Type} {x : Option (α ⊕ β)} {k : α → Option β} {r : β} (h : obe x k = some r) : ∃ w, x = some w ∧ (∀ u, w = .inl u → k u = some r) ∧ (∀ b, w = .inr b → b = r) := by
  cases x with
  | none => cases h
  | some w =>
    cases w with
    | inl a => exact ⟨_, rfl, fun u e => by cases e; exact h, fun b e => by cases e⟩
    | inr b => exact ⟨_, rfl, fun u e => (by cases e), fun b' e => by cases e; exact Option.some.inj h⟩
/-- the same inside a loop -/
def obx {α β γ : Type} (x : Option (α ⊕ β)) (k : α → Option (γ ⊕ β)) : Option (γ ⊕ β) := match x with
  | none => none
  | some (.inl a) => k a
  | some (.inr b) => some (.inr b)
theorem obx_e {α β γ : Type} {x : Option (α ⊕ β)} {k : α → Option (γ ⊕ β)} {r : γ ⊕ β} (h : obx x k = some r) : ∃ w, x = some w ∧ (∀ u, w = .inl u → k u = some r) ∧ (∀ b, w = .inr b → r = .inr b) := by
  cases x with
  | none => cases h
  | some w =>
    cases w with
    | inl a => exact ⟨_, rfl, fun u e => by cases e; exact h, fun b e => by cases e⟩
    | inr b => exact ⟨_, rfl, fun u e => (by cases e), fun b' e => by cases e; exact (Option.some.inj h).symm⟩
theorem sw_ne {x k : Int32} (h : ¬ x = k) : x.toInt ≠ k.toInt := fun e => h (Int32.toInt_inj.mp e)
/-- what the tables say of private members of nest mates, at a state -/
def NW (U : State) : Prop := (∀ q ∈ nwFs, va_Nw (.fieldLinkNest q.1 q.2.1 q.2.2.1 q.2.2.2.1 q.2.2.2.2.1 q.2.2.2.2.2) U) ∧ (∀ q ∈ nwMs, va_Nw (.methodLinkNest q.1 q.2.1 q.2.2.1 q.2.2.2) U)
theorem NW.warm {s U : State} (hW : s.WarmedH U.vm) (h : NW s) : NW U := ⟨fun q hq => va_Nw.warmF hW (h.1 q hq), fun q hq => va_Nw.warmM hW (h.2 q hq)⟩
theorem NW.same {u U : State} (e : u.vm = U.vm) (h : NW u) : NW U := ⟨fun q hq => va_Nw.same rfl e (h.1 q hq), fun q hq => va_Nw.same rfl e (h.2 q hq)⟩
theorem NW.f {U : State} (h : NW U) (i : Nat) {q : String × Nat × String × String × String × String} (hq : nwFs[i]? = some q) {A : Array Value} : (Cond.fieldLinkNest q.1 q.2.1 q.2.2.1 q.2.2.2.1 q.2.2.2.2.1 q.2.2.2.2.2).before A U = true := va_Nw.use rfl (h.1 q (List.mem_of_getElem? hq))
theorem NW.m {U : State} (h : NW U) (i : Nat) {q : String × Nat × MethodName × String} (hq : nwMs[i]? = some q) : va_Nw (.methodLinkNest q.1 q.2.1 q.2.2.1 q.2.2.2) U := h.2 q (List.mem_of_getElem? hq)
def GP (D : va_G) (tys : List (ClassId × FieldType)) (sz : Nat) (ws : va_W) : State → Prop := fun U => U.heap.size = sz ∧ va_P D vwCl ws U.heap ∧ va_K D vwCl tys U ∧ va_D (fun _ => True) ws ∧ NW U
def GB (D : va_G) (w1 : va_W) (A : Nat → Prop) : Unit → State → Prop := fun _ t => va_P D vwCl w1 t.heap ∧ va_D A w1
abbrev T4 (cyI cyJ cyZ cyO : ClassId) : List (ClassId × FieldType) := [(cyI, .int), (cyJ, .long), (cyZ, .boolean), (cyO, .object RX0)]
theorem GP.blind {D : va_G} {tys : List (ClassId × FieldType)} {sz : Nat} {ws : va_W} {av : List Value} : FrameBlind (va_Pc av (GP D tys sz ws)) := fun a U g mk q => by
  obtain ⟨q0, q1, qP, qK, qD, qN⟩ := q
  exact ⟨q0, q1, qP, va_K.moved (u := U) (U := U.calling g mk a) (Vm.Alike.refl U.vm) qK, qD, NW.same rfl qN⟩
theorem fm_of_map {α β : Type} {f : α → Option β} : ∀ {l : List α} {w : List β}, l.map f = w.map some → l.filterMap f = w
  | [], [], _ => rfl
  | [], _ :: _, h => by simp at h
  | _ :: _, [], h => by simp at h
  | a :: l, b :: w, h => by
    simp only [List.map_cons, List.cons.injEq] at h
    rw [List.filterMap_cons, h.1, fm_of_map h.2]
theorem GpreV {s : State} {H : Heap} {C : String} {b : Addr} {D : va_G} {tys : List (ClassId × FieldType)} {ws wc : va_W} {A : Nat → Prop} {As : List Value} (hP : va_P D vwCl ws H) (hD : va_D A ws) (hK : va_K D vwCl tys s) (hN : NW s) (isC : List Nat) (hC : isC.map (fun i => ws[i]?) = wc.map some) (hn : va_nd isC = true) (ci q0 : Nat) {q : vw_C} {fs : List Value} (hc : vwCl[ci]? = some q) (he : wc[q0]? = some (b, .inr (ci, fs))) (hq : q.1 = C) : PreV s H C b (va_Pc (.ref b :: As) (GP D tys H.size wc)) As := by
  have hP' := hP.sub (ws' := wc) isC (fm_of_map hC)
  have hD' := hD.sub (ws' := wc) isC hn hC
  subst hq
  exact ⟨GP.blind, va_recv hK hP' hc he, fun U hU hW => ⟨rfl, by rw [hU], by rw [hU]; exact hP', va_K.moved hW.alike hK, hD'.weaken (fun _ _ _ _ => trivial), hN.warm hW⟩⟩
theorem GpreS {s : State} {H : Heap} {D : va_G} {tys : List (ClassId × FieldType)} {ws wc : va_W} {A : Nat → Prop} {As : List Value} (hP : va_P D vwCl ws H) (hD : va_D A ws) (hK : va_K D vwCl tys s) (hN : NW s) (isC : List Nat) (hC : isC.map (fun i => ws[i]?) = wc.map some) (hn : va_nd isC = true) : PreS s H (va_Pc As (GP D tys H.size wc)) As := by
  have hP' := hP.sub (ws' := wc) isC (fm_of_map hC)
  have hD' := hD.sub (ws' := wc) isC hn hC
  exact ⟨GP.blind, fun U hU hW => ⟨rfl, by rw [hU], by rw [hU]; exact hP', va_K.moved hW.alike hK, hD'.weaken (fun _ _ _ _ => trivial), hN.warm hW⟩⟩
section GC
variable {p : Program} {l : Launch} {e : Env} {R : Room} {s : State} {m : MethodId} {args : Array Value} {below : List Frame} {meth : Method} {c : Code} {H : Heap} {locs : List Loc} {cells slots : Nat} {Q : State → Prop}
variable {pc : Nat} {ls : Array Slot} {rest st0 : List Value} {a : Array Value} {A : Nat → Prop} {H0 : Heap} {D : va_G} {ws wc wr w1 : va_W}
theorem Gci {r0 : Int32} (hr : va_Run p l e R s m args below meth c H locs cells slots 0 0 (F0 m pc ls st0) rest (va_Qi (fun (r : Int32) (_ : Unit) => r = r0) (GB D w1 (va_A wc H.size)) (va_A wc H.size) a) (va_A wc H.size)) (hP : va_P D vwCl ws H) (hD : va_D A ws) (hS : va_S A H0 H locs) (hA : ∀ q, H0.size ≤ q → A q) (isC isR : List Nat) (hC : isC.map (fun i => ws[i]?) = wc.map some) (hR : isR.map (fun i => ws[i]?) = wr.map some) (hn : va_nd isR = true) (hdis : ∀ i ∈ isR, i ∉ isC)
    (kk : ∀ (H1 : Heap) (locs1 : List Loc), va_P D vwCl (wr ++ w1) H1 → va_D A (wr ++ w1) → va_S A H0 H1 locs1 → W p l e R s m args below meth c H1 locs1 cells slots Q (F0 m (pc + 3) ls (.int r0 :: rest))) : W p l e R s m args below meth c H locs cells slots Q (F0 m pc ls st0) := by
  have hFc := va_free (wc := wc) hD hS hA isC hC
  refine va_calli hr hS (fun q _ h => hFc q h) hFc (fun r u t H1 locs1 ht hvm hw hB hz1 hk1 hS1 => ?_)
  obtain ⟨hP1, hD1⟩ := hB
  rw [ht] at hP1
  obtain ⟨hP2, hD2⟩ := va_join (wr := wr) (w1 := w1) hP hD isC isR hC hR hn hdis hk1 hFc hP1 hD1
  subst hw
  exact kk H1 locs1 hP2 hD2 hS1
theorem Gcl {r0 : Int64} (hr : va_Run p l e R s m args below meth c H locs cells slots 0 0 (F0 m pc ls st0) rest (va_Ql (fun (r : Int64) (_ : Unit) => r = r0) (GB D w1 (va_A wc H.size)) (va_A wc H.size) a) (va_A wc H.size)) (hP : va_P D vwCl ws H) (hD : va_D A ws) (hS : va_S A H0 H locs) (hA : ∀ q, H0.size ≤ q → A q) (isC isR : List Nat) (hC : isC.map (fun i => ws[i]?) = wc.map some) (hR : isR.map (fun i => ws[i]?) = wr.map some) (hn : va_nd isR = true) (hdis : ∀ i ∈ isR, i ∉ isC)
    (kk : ∀ (H1 : Heap) (locs1 : List Loc), va_P D vwCl (wr ++ w1) H1 → va_D A (wr ++ w1) → va_S A H0 H1 locs1 → W p l e R s m args below meth c H1 locs1 cells slots Q (F0 m (pc + 3) ls (.long r0 :: rest))) : W p l e R s m args below meth c H locs cells slots Q (F0 m pc ls st0) := by
  have hFc := va_free (wc := wc) hD hS hA isC hC
  refine va_calll hr hS (fun q _ h => hFc q h) hFc (fun r u t H1 locs1 ht hvm hw hB hz1 hk1 hS1 => ?_)
  obtain ⟨hP1, hD1⟩ := hB
  rw [ht] at hP1
  obtain ⟨hP2, hD2⟩ := va_join (wr := wr) (w1 := w1) hP hD isC isR hC hR hn hdis hk1 hFc hP1 hD1
  subst hw
  exact kk H1 locs1 hP2 hD2 hS1
theorem Gcv (hr : va_Run p l e R s m args below meth c H locs cells slots 0 0 (F0 m pc ls st0) rest (va_Qv (fun (_ : Unit) => True) (GB D w1 (va_A wc H.size)) (va_A wc H.size) a) (va_A wc H.size)) (hP : va_P D vwCl ws H) (hD : va_D A ws) (hS : va_S A H0 H locs) (hA : ∀ q, H0.size ≤ q → A q) (isC isR : List Nat) (hC : isC.map (fun i => ws[i]?) = wc.map some) (hR : isR.map (fun i => ws[i]?) = wr.map some) (hn : va_nd isR = true) (hdis : ∀ i ∈ isR, i ∉ isC)
    (kk : ∀ (H1 : Heap) (locs1 : List Loc), va_P D vwCl (wr ++ w1) H1 → va_D A (wr ++ w1) → va_S A H0 H1 locs1 → W p l e R s m args below meth c H1 locs1 cells slots Q (F0 m (pc + 3) ls rest)) : W p l e R s m args below meth c H locs cells slots Q (F0 m pc ls st0) := by
  have hFc := va_free (wc := wc) hD hS hA isC hC
  refine va_callv hr hS (fun q _ h => hFc q h) hFc (fun u t H1 locs1 ht hvm hw hB hz1 hk1 hS1 => ?_)
  obtain ⟨hP1, hD1⟩ := hB
  rw [ht] at hP1
  obtain ⟨hP2, hD2⟩ := va_join (wr := wr) (w1 := w1) hP hD isC isR hC hR hn hdis hk1 hFc hP1 hD1
  exact kk H1 locs1 hP2 hD2 hS1
end GC
section GM
variable {l : Launch} {y : MethodName} {ws ws' : List Cond} {rm : Room} {D : va_G} {tys : List (ClassId × FieldType)} {cells cells' : va_W} {av : List Value} {sz : Nat} {cc : ByteArray} {maxL : Nat}
theorem GMetI {r0 : Int32} (hy : plainName y.cls = true) (hw : ws = Cond.code y cc maxL (some .int) :: ws') (hmx : (lg_sl av).length ≤ maxL)
    (body : ∀ (p : Program) (e : Env) (s : State) (m : MethodId) (args : Array Value) (below : List Frame) (meth : Method) (c : Code) (A : Nat → Prop) (Q : State → Prop) (ls : Array Slot), p.tables.exec = Jvm.exec → c.code = cc → c.maxLocals = maxL → (∀ w ∈ ws, w.before args s = true) → s.vm.findClass y.cls = some m.cls → NW s → va_K D vwCl tys s → (∀ q, s.heap.size ≤ q → A q) →
      (∀ (pc : Nat) (ls : Array Slot) (H : Heap) (locs : List Loc), decode cc pc = .ok (.ireturn, 1) → va_P D vwCl cells' H → va_D A cells' → va_S A s.heap H locs → W p l e rm s m args below meth c H locs 0 0 Q (F0 m pc ls [.int r0])) →
      va_P D vwCl cells s.heap → va_D A cells → va_S A s.heap s.heap [] → lv_has ls maxL (lv_args 0 av) → W p l e rm s m args below meth c s.heap [] 0 0 Q (F0 m 0 ls [])) :
    Met l y ws rm (va_Pc av (GP D tys sz cells)) (va_Qi (fun (r : Int32) (_ : Unit) => r = r0) (GB D cells' (va_A cells sz)) (va_A cells sz)) 0 0 (va_A cells sz) := by
  refine Met.ofW (cc := cc) (maxL := maxL) (ret := (some .int)) hy hw ?_
  intro p e s m args below meth c s₁ B hml hv
  obtain ⟨rfl, hsz, hP, hK, hD0, hN⟩ := hv
  subst hsz
  rw [lg_entry_eq]
  refine body p e s m _ below meth c (va_A cells s.heap.size) _ _ B.exec B.bytes hml (atoms_spec (ws := ws) B.pre) (findClass_of_methodNamed B.named) hN hK (fun q h => Or.inr h) ?_ hP (hD0.self (sz := s.heap.size)) va_S.rf (lv_entry av hmx)
  intro pc ls H locs hd hP' hD' hS'
  exact W.iret (v := r0) B.exec B.bytes B.returns (fun t ht hW => ⟨⟨r0, (), rfl, rfl, by rw [ht]; exact hP', hD'⟩, hS'.F ht⟩) hS'.2.2 hd (hlocks := B.notSynchronized)
theorem GMetZ {r0 : Int32} (hy : plainName y.cls = true) (hw : ws = Cond.code y cc maxL (some .boolean) :: ws') (hmx : (lg_sl av).length ≤ maxL)
    (body : ∀ (p : Program) (e : Env) (s : State) (m : MethodId) (args : Array Value) (below : List Frame) (meth : Method) (c : Code) (A : Nat → Prop) (Q : State → Prop) (ls : Array Slot), p.tables.exec = Jvm.exec → c.code = cc → c.maxLocals = maxL → (∀ w ∈ ws, w.before args s = true) → s.vm.findClass y.cls = some m.cls → NW s → va_K D vwCl tys s → (∀ q, s.heap.size ≤ q → A q) →
      (∀ (pc : Nat) (ls : Array Slot) (H : Heap) (locs : List Loc), decode cc pc = .ok (.ireturn, 1) → (r0 = 0 ∨ r0 = 1) → va_P D vwCl cells' H → va_D A cells' → va_S A s.heap H locs → W p l e rm s m args below meth c H locs 0 0 Q (F0 m pc ls [.int r0])) →
      va_P D vwCl cells s.heap → va_D A cells → va_S A s.heap s.heap [] → lv_has ls maxL (lv_args 0 av) → W p l e rm s m args below meth c s.heap [] 0 0 Q (F0 m 0 ls [])) :
    Met l y ws rm (va_Pc av (GP D tys sz cells)) (va_Qi (fun (r : Int32) (_ : Unit) => r = r0) (GB D cells' (va_A cells sz)) (va_A cells sz)) 0 0 (va_A cells sz) := by
  refine Met.ofW (cc := cc) (maxL := maxL) (ret := (some .boolean)) hy hw ?_
  intro p e s m args below meth c s₁ B hml hv
  obtain ⟨rfl, hsz, hP, hK, hD0, hN⟩ := hv
  subst hsz
  rw [lg_entry_eq]
  refine body p e s m _ below meth c (va_A cells s.heap.size) _ _ B.exec B.bytes hml (atoms_spec (ws := ws) B.pre) (findClass_of_methodNamed B.named) hN hK (fun q h => Or.inr h) ?_ hP (hD0.self (sz := s.heap.size)) va_S.rf (lv_entry av hmx)
  intro pc ls H locs hd hz hP' hD' hS'
  exact W.zret (v := r0) (ty := .boolean) B.exec B.bytes B.returns (obl_n hz) (fun t ht hW => ⟨⟨r0, (), rfl, rfl, by rw [ht]; exact hP', hD'⟩, hS'.F ht⟩) hS'.2.2 hd (hlocks := B.notSynchronized)
theorem GMetL {r0 : Int64} (hy : plainName y.cls = true) (hw : ws = Cond.code y cc maxL (some .long) :: ws') (hmx : (lg_sl av).length ≤ maxL)
    (body : ∀ (p : Program) (e : Env) (s : State) (m : MethodId) (args : Array Value) (below : List Frame) (meth : Method) (c : Code) (A : Nat → Prop) (Q : State → Prop) (ls : Array Slot), p.tables.exec = Jvm.exec → c.code = cc → c.maxLocals = maxL → (∀ w ∈ ws, w.before args s = true) → s.vm.findClass y.cls = some m.cls → NW s → va_K D vwCl tys s → (∀ q, s.heap.size ≤ q → A q) →
      (∀ (pc : Nat) (ls : Array Slot) (H : Heap) (locs : List Loc), decode cc pc = .ok (.lreturn, 1) → va_P D vwCl cells' H → va_D A cells' → va_S A s.heap H locs → W p l e rm s m args below meth c H locs 0 0 Q (F0 m pc ls [.long r0])) →
      va_P D vwCl cells s.heap → va_D A cells → va_S A s.heap s.heap [] → lv_has ls maxL (lv_args 0 av) → W p l e rm s m args below meth c s.heap [] 0 0 Q (F0 m 0 ls [])) :
    Met l y ws rm (va_Pc av (GP D tys sz cells)) (va_Ql (fun (r : Int64) (_ : Unit) => r = r0) (GB D cells' (va_A cells sz)) (va_A cells sz)) 0 0 (va_A cells sz) := by
  refine Met.ofW (cc := cc) (maxL := maxL) (ret := (some .long)) hy hw ?_
  intro p e s m args below meth c s₁ B hml hv
  obtain ⟨rfl, hsz, hP, hK, hD0, hN⟩ := hv
  subst hsz
  rw [lg_entry_eq]
  refine body p e s m _ below meth c (va_A cells s.heap.size) _ _ B.exec B.bytes hml (atoms_spec (ws := ws) B.pre) (findClass_of_methodNamed B.named) hN hK (fun q h => Or.inr h) ?_ hP (hD0.self (sz := s.heap.size)) va_S.rf (lv_entry av hmx)
  intro pc ls H locs hd hP' hD' hS'
  exact W.lret (v := r0) B.exec B.bytes B.returns (fun t ht hW => ⟨⟨r0, (), rfl, rfl, by rw [ht]; exact hP', hD'⟩, hS'.F ht⟩) hS'.2.2 hd (hlocks := B.notSynchronized)
theorem GMetV (hy : plainName y.cls = true) (hw : ws = Cond.code y cc maxL none :: ws') (hmx : (lg_sl av).length ≤ maxL)
    (body : ∀ (p : Program) (e : Env) (s : State) (m : MethodId) (args : Array Value) (below : List Frame) (meth : Method) (c : Code) (A : Nat → Prop) (Q : State → Prop) (ls : Array Slot), p.tables.exec = Jvm.exec → c.code = cc → c.maxLocals = maxL → (∀ w ∈ ws, w.before args s = true) → s.vm.findClass y.cls = some m.cls → NW s → va_K D vwCl tys s → (∀ q, s.heap.size ≤ q → A q) →
      (∀ (pc : Nat) (ls : Array Slot) (H : Heap) (locs : List Loc), decode cc pc = .ok (.return_, 1) → va_P D vwCl cells' H → va_D A cells' → va_S A s.heap H locs → W p l e rm s m args below meth c H locs 0 0 Q (F0 m pc ls [])) →
      va_P D vwCl cells s.heap → va_D A cells → va_S A s.heap s.heap [] → lv_has ls maxL (lv_args 0 av) → W p l e rm s m args below meth c s.heap [] 0 0 Q (F0 m 0 ls [])) :
    Met l y ws rm (va_Pc av (GP D tys sz cells)) (va_Qv (fun (_ : Unit) => True) (GB D cells' (va_A cells sz)) (va_A cells sz)) 0 0 (va_A cells sz) := by
  refine Met.ofW (cc := cc) (maxL := maxL) (ret := none) hy hw ?_
  intro p e s m args below meth c s₁ B hml hv
  obtain ⟨rfl, hsz, hP, hK, hD0, hN⟩ := hv
  subst hsz
  rw [lg_entry_eq]
  refine body p e s m _ below meth c (va_A cells s.heap.size) _ _ B.exec B.bytes hml (atoms_spec (ws := ws) B.pre) (findClass_of_methodNamed B.named) hN hK (fun q h => Or.inr h) ?_ hP (hD0.self (sz := s.heap.size)) va_S.rf (lv_entry av hmx)
  intro pc ls H locs hd hP' hD' hS'
  exact W.vret B.exec B.bytes B.returns (fun t ht hW => ⟨⟨(), rfl, trivial, by rw [ht]; exact hP', hD'⟩, hS'.F ht⟩) hS'.2.2 hd (hlocks := B.notSynchronized)
end GM
