/-! the law's world: class and reference side by side; a call changes its own cells in their places -/
def pset : va_W → List Nat → va_W → va_W
  | w, [], _ => w
  | w, _ :: _, [] => w
  | w, i :: is, x :: xs => pset (w.set i x) is xs
theorem pset_e : ∀ (is : List Nat) (xs w : va_W) (k : Nat) (q : Nat × va_E), xs.length = is.length → (pset w is xs)[k]? = some q → (k ∉ is ∧ w[k]? = some q) ∨ ∃ j : Nat, is[j]? = some k ∧ xs[j]? = some q
  | [], xs, w, k, q, _, h => Or.inl ⟨List.not_mem_nil, by rw [pset] at h; exact h⟩
  | i :: is, [], w, k, q, hl, h => by simp at hl
  | i :: is, x :: xs, w, k, q, hl, h => by
    rw [pset] at h
    rcases pset_e is xs (w.set i x) k q (by simpa using hl) h with ⟨h1, h2⟩ | ⟨j, h1, h2⟩
    · by_cases e : i = k
      · subst e
        refine Or.inr ⟨0, rfl, ?_⟩
        have hlt : i < (w.set i x).length := (List.getElem?_eq_some_iff.mp h2).1
        rw [List.length_set] at hlt
        rw [List.getElem?_set_self hlt] at h2
        exact h2
      · rw [List.getElem?_set_ne e] at h2
        refine Or.inl ⟨fun m => ?_, h2⟩
        rcases List.mem_cons.mp m with r | r
        · exact e r.symm
        · exact h1 r
    · exact Or.inr ⟨j + 1, h1, h2⟩
theorem va_inp {A0 : Nat → Prop} {D : va_G} {cl : List vw_C} {ws wc w1 : va_W} {H H1 : Heap} (hP : va_P D cl ws H) (hD : va_D A0 ws) (isC : List Nat) (hC : isC.map (fun i => ws[i]?) = wc.map some) (hl : w1.length = isC.length)
    (hk : ∀ q : Nat, q < H.size → ¬ va_A wc H.size q → H1[q]? = H[q]?) (hF : ∀ q, va_A wc H.size q → A0 q) (hP1 : va_P D cl w1 H1) (hD1 : va_D (va_A wc H.size) w1) : va_P D cl (pset ws isC w1) H1 ∧ va_D A0 (pset ws isC w1) := by
  have apart : ∀ (k : Nat) (q : Nat × va_E), k ∉ isC → ws[k]? = some q → q.1 < H.size ∧ ¬ va_A wc H.size q.1 := by
    intro k q hn hq
    have hlt := (hP k q hq).lt
    refine ⟨hlt, fun h => ?_⟩
    rcases h with ⟨k2, e, h⟩ | h
    · have h1 : (isC.map (fun i => ws[i]?))[k2]? = some (some (q.1, e)) := by rw [hC, List.getElem?_map, h]; rfl
      rw [List.getElem?_map] at h1
      cases hi : isC[k2]? with
      | none => rw [hi] at h1; cases h1
      | some i =>
        rw [hi] at h1
        have h2 : ws[i]? = some (q.1, e) := Option.some.inj h1
        have h3 : k = i := hD.1 k i q (q.1, e) hq h2 rfl
        exact hn (by rw [h3]; exact List.mem_of_getElem? hi)
    · exact absurd hlt (Nat.not_lt.mpr h)
  refine ⟨fun k q hq => ?_, fun i j x y hx hy hxy => ?_, fun k q hq => ?_⟩
  · rcases pset_e isC w1 ws k q hl hq with ⟨h1, h2⟩ | ⟨j, h1, h2⟩
    · obtain ⟨g1, g2⟩ := apart k q h1 h2
      exact (hP k q h2).kept (hk q.1 g1 g2)
    · exact hP1 j q h2
  · rcases pset_e isC w1 ws i x hl hx with ⟨a1, a2⟩ | ⟨a, a1, a2⟩
    · rcases pset_e isC w1 ws j y hl hy with ⟨b1, b2⟩ | ⟨b, b1, b2⟩
      · exact hD.1 i j x y a2 b2 hxy
      · exact absurd (by rw [hxy]; exact hD1.2 b y b2) (apart i x a1 a2).2
    · rcases pset_e isC w1 ws j y hl hy with ⟨b1, b2⟩ | ⟨b, b1, b2⟩
      · exact absurd (by rw [← hxy]; exact hD1.2 a x a2) (apart j y b1 b2).2
      · have hab : a = b := hD1.1 a b x y a2 b2 hxy
        subst hab
        exact Option.some.inj (a1.symm.trans b1)
  · rcases pset_e isC w1 ws k q hl hq with ⟨h1, h2⟩ | ⟨j, h1, h2⟩
    · exact hD.2 k q h2
    · exact hF q.1 (hD1.2 j q h2)
section GJ
variable {p : Program} {l : Launch} {e : Env} {R : Room} {s : State} {m : MethodId} {args : Array Value} {below : List Frame} {meth : Method} {c : Code} {H : Heap} {locs : List Loc} {cells slots : Nat} {Q : State → Prop}
variable {pc : Nat} {ls : Array Slot} {rest st0 : List Value} {a : Array Value} {A : Nat → Prop} {H0 : Heap} {D : va_G} {ws wc w1 : va_W}
theorem Gj {r0 : Int32} (hr : va_Run p l e R s m args below meth c H locs cells slots 0 0 (F0 m pc ls st0) rest (va_Qi (fun (r : Int32) (_ : Unit) => r = r0) (GB D w1 (va_A wc H.size)) (va_A wc H.size) a) (va_A wc H.size)) (hP : va_P D vwCl ws H) (hD : va_D A ws) (hS : va_S A H0 H locs) (hA : ∀ q, H0.size ≤ q → A q) (isC : List Nat) (hC : isC.map (fun i => ws[i]?) = wc.map some) (hl : w1.length = isC.length)
    (kk : ∀ (H1 : Heap) (locs1 : List Loc), va_P D vwCl (pset ws isC w1) H1 → va_D A (pset ws isC w1) → va_S A H0 H1 locs1 → W p l e R s m args below meth c H1 locs1 cells slots Q (F0 m (pc + 3) ls (.int r0 :: rest))) : W p l e R s m args below meth c H locs cells slots Q (F0 m pc ls st0) := by
  have hFc := va_free (wc := wc) hD hS hA isC hC
  refine va_calli hr hS (fun q _ h => hFc q h) hFc (fun r u t H1 locs1 ht hvm hw hB hz1 hk1 hS1 => ?_)
  obtain ⟨hP1, hD1⟩ := hB
  rw [ht] at hP1
  obtain ⟨hP2, hD2⟩ := va_inp (w1 := w1) hP hD isC hC hl hk1 hFc hP1 hD1
  subst hw
  exact kk H1 locs1 hP2 hD2 hS1
theorem Gjl {r0 : Int64} (hr : va_Run p l e R s m args below meth c H locs cells slots 0 0 (F0 m pc ls st0) rest (va_Ql (fun (r : Int64) (_ : Unit) => r = r0) (GB D w1 (va_A wc H.size)) (va_A wc H.size) a) (va_A wc H.size)) (hP : va_P D vwCl ws H) (hD : va_D A ws) (hS : va_S A H0 H locs) (hA : ∀ q, H0.size ≤ q → A q) (isC : List Nat) (hC : isC.map (fun i => ws[i]?) = wc.map some) (hl : w1.length = isC.length)
    (kk : ∀ (H1 : Heap) (locs1 : List Loc), va_P D vwCl (pset ws isC w1) H1 → va_D A (pset ws isC w1) → va_S A H0 H1 locs1 → W p l e R s m args below meth c H1 locs1 cells slots Q (F0 m (pc + 3) ls (.long r0 :: rest))) : W p l e R s m args below meth c H locs cells slots Q (F0 m pc ls st0) := by
  have hFc := va_free (wc := wc) hD hS hA isC hC
  refine va_calll hr hS (fun q _ h => hFc q h) hFc (fun r u t H1 locs1 ht hvm hw hB hz1 hk1 hS1 => ?_)
  obtain ⟨hP1, hD1⟩ := hB
  rw [ht] at hP1
  obtain ⟨hP2, hD2⟩ := va_inp (w1 := w1) hP hD isC hC hl hk1 hFc hP1 hD1
  subst hw
  exact kk H1 locs1 hP2 hD2 hS1
end GJ
