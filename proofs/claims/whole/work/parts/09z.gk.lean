/-! a call, with the world behind it given by its places: cheaper to look at than one that is written place by place -/
theorem gk_after {A : Nat → Prop} {D : va_G} {cl : List vw_C} {ws wc wo ws' : va_W} {H H1 : Heap} (hP : va_P D cl ws H) (hD : va_D A ws) (isC isR : List Nat) (hC : isC.map (fun i => ws[i]?) = wc.map some) (hadr : wo.map Prod.fst = wc.map Prod.fst) (hC' : isC.map (fun i => ws'[i]?) = wo.map some) (hR' : isR.map (fun i => ws'[i]?) = isR.map (fun i => ws[i]?)) {N : Nat} (hN : ws'.length = N) (hcov : ∀ k, k < N → k ∈ isC ∨ k ∈ isR)
    (hk : ∀ q : Nat, q < H.size → ¬ va_A wc H.size q → H1[q]? = H[q]?) (hP1 : va_P D cl wo H1) : va_P D cl ws' H1 ∧ va_D A ws' := by
  have get : ∀ {l : List Nat} {w : va_W} {v : va_W}, l.map (fun i => w[i]?) = v.map some → ∀ (j : Nat) (q : Nat × va_E), v[j]? = some q → ∃ i, l[j]? = some i ∧ w[i]? = some q := by
    intro l w v hC j q hq
    have h1 : (l.map (fun i => w[i]?))[j]? = some (some q) := by rw [hC, List.getElem?_map, hq]; rfl
    rw [List.getElem?_map] at h1
    cases hi : l[j]? with
    | none => rw [hi] at h1; cases h1
    | some i => rw [hi] at h1; exact ⟨i, rfl, Option.some.inj h1⟩
  have back : ∀ (k : Nat) (q : Nat × va_E), k ∈ isC → ws'[k]? = some q → ∃ j : Nat, isC[j]? = some k ∧ wo[j]? = some q := by
    intro k q hkm hq
    obtain ⟨j, hj⟩ := List.getElem?_of_mem hkm
    refine ⟨j, hj, ?_⟩
    have h1 : (isC.map (fun i => ws'[i]?))[j]? = some (some q) := by rw [List.getElem?_map, hj]; show some (ws'[k]?) = _; rw [hq]
    rw [hC', List.getElem?_map] at h1
    cases hw : wo[j]? with
    | none => rw [hw] at h1; cases h1
    | some x => rw [hw] at h1; exact congrArg some (Option.some.inj (Option.some.inj h1))
  have same : ∀ (k : Nat), k ∈ isR → ws'[k]? = ws[k]? := by
    intro k hkm
    obtain ⟨j, hj⟩ := List.getElem?_of_mem hkm
    have h1 : (isR.map (fun i => ws'[i]?))[j]? = (isR.map (fun i => ws[i]?))[j]? := by rw [hR']
    rw [List.getElem?_map, List.getElem?_map, hj] at h1
    exact Option.some.inj h1
  have adr : ∀ (j : Nat) (q : Nat × va_E), wo[j]? = some q → ∃ e, wc[j]? = some (q.1, e) := by
    intro j q hq
    have h1 : (wc.map Prod.fst)[j]? = some q.1 := by rw [← hadr, List.getElem?_map, hq]; rfl
    rw [List.getElem?_map] at h1
    cases hi : wc[j]? with
    | none => rw [hi] at h1; cases h1
    | some x => rw [hi] at h1; exact ⟨x.2, by rw [← Option.some.inj h1]⟩
  have lt : ∀ (k : Nat) (q : Nat × va_E), ws'[k]? = some q → k < N := by
    intro k q hq
    rw [← hN]
    exact (List.getElem?_eq_some_iff.mp hq).1
  have base : ∀ (k : Nat) (q : Nat × va_E), ws'[k]? = some q → ∃ e, ws[k]? = some (q.1, e) := by
    intro k q hq
    by_cases hkC : k ∈ isC
    · obtain ⟨j, h1, h2⟩ := back k q hkC hq
      obtain ⟨e, h3⟩ := adr j q h2
      obtain ⟨i, h4, h5⟩ := get hC j _ h3
      rw [h1] at h4
      cases h4
      exact ⟨e, h5⟩
    · rcases hcov k (lt k q hq) with h | h
      · exact absurd h hkC
      · rw [same k h] at hq
        exact ⟨q.2, hq⟩
  refine ⟨fun k q hq => ?_, fun i j x y hx hy hxy => ?_, fun k q hq => ?_⟩
  · by_cases hkC : k ∈ isC
    · obtain ⟨j, h1, h2⟩ := back k q hkC hq
      exact hP1 j q h2
    · rcases hcov k (lt k q hq) with h | h
      · exact absurd h hkC
      · have h2 := hq
        rw [same k h] at h2
        have hw := hP k q h2
        refine hw.kept (hk q.1 hw.lt ?_)
        rintro (⟨j, e, h3⟩ | h3)
        · obtain ⟨i, h4, h5⟩ := get hC j _ h3
          have := hD.1 k i q (q.1, e) h2 h5 rfl
          subst this
          exact hkC (List.mem_of_getElem? h4)
        · exact absurd hw.lt (Nat.not_lt.mpr h3)
  · obtain ⟨e1, g1⟩ := base i x hx
    obtain ⟨e2, g2⟩ := base j y hy
    exact hD.1 i j _ _ g1 g2 hxy
  · obtain ⟨e, g⟩ := base k q hq
    exact hD.2 k (q.1, e) g
section GKC
variable {p : Program} {l : Launch} {e : Env} {R : Room} {s : State} {m : MethodId} {args : Array Value} {below : List Frame} {meth : Method} {c : Code} {H : Heap} {locs : List Loc} {cells slots : Nat} {Q : State → Prop}
variable {pc : Nat} {ls : Array Slot} {rest st0 st' : List Value} {a : Array Value} {A : Nat → Prop} {D : va_G} {ws wc wo ws' : va_W} {r : Option Value} {tys : List (ClassId × FieldType)}
theorem gk_go (hr : va_Run p l e R s m args below meth c H locs cells slots 0 0 (F0 m pc ls st0) rest (fk_Q D wo r (va_A wc H.size) a) (va_A wc H.size)) (hP : va_P D vwCl ws H) (hD : va_D A ws) (hS : va_S A s.heap H locs) (hA : ∀ q, s.heap.size ≤ q → A q) (isC isR : List Nat) (hC : isC.map (fun i => ws[i]?) = wc.map some) (hadr : wo.map Prod.fst = wc.map Prod.fst) (hC' : isC.map (fun i => ws'[i]?) = wo.map some) (hR' : isR.map (fun i => ws'[i]?) = isR.map (fun i => ws[i]?)) {N : Nat} (hN : ws'.length = N) (hcov : ∀ k, k < N → k ∈ isC ∨ k ∈ isR) (hst : r.toList ++ rest = st')
    (kk : ∀ (H1 : Heap) (locs1 : List Loc), va_P D vwCl ws' H1 → va_D A ws' → va_S A s.heap H1 locs1 → W p l e R s m args below meth c H1 locs1 cells slots Q (F0 m (pc + 3) ls st')) : W p l e R s m args below meth c H locs cells slots Q (F0 m pc ls st0) := by
  intro T hT X
  have hF := va_free (wc := wc) hD hS hA isC hC
  obtain ⟨v, st₀, t, T', L, h0, X', hL, e1, e2, ⟨hv, hp, hz, hk⟩, st⟩ := hr T hT X
  cases hv
  rw [h0] at hz hk
  have hk' : ∀ q : Nat, q < H.size → ¬ va_A wc H.size q → T'.heap[q]? = H[q]? := fun q h1 h2 => by rw [e1]; exact hk q h1 h2
  obtain ⟨g1, g2⟩ := gk_after hP hD isC isR hC hadr hC' hR' hN hcov hk' (by rw [e1]; exact hp)
  subst hst
  obtain ⟨t2, a1, b1⟩ := kk T'.heap (locs ++ L) g1 g2 ⟨Nat.le_trans hS.1 (by rw [e1]; exact hz), fun q h1 h2 => by
      rw [hk' q (Nat.lt_of_lt_of_le h1 hS.1) (fun z => h2 (hF q z))]; exact hS.2.1 q h1 h2, fun q hq => by
      rcases List.mem_append.mp hq with h | h
      · exact hS.2.2 q h
      · exact hF _ (hL q h)⟩ T' rfl X'
  exact ⟨t2, st t2 a1, b1⟩
variable {y : MethodName} {bytes cc : ByteArray} {maxL nL n index : Nat} {ret : Option FieldType} {wy : List Cond} {rm : Room} {Ts : List Cond} {own C : String} {b : Addr} {As : List Value}
theorem gk_V (S : CallFix p m c cc nL s args Ts own) (hM : fk l y wy rm D tys (.ref b :: As) wc wo r) (cw : CallW R s args own C index y bytes maxL ret wy rm 0 0 n) (hK : va_K D vwCl tys s) (hN : fk_N s) (hrec : ∃ cell : Cell, H[b]? = some cell ∧ cell.vm.isStatics = false ∧ s.vm.findClass C = some cell.cls)
    (hP : va_P D vwCl ws H) (hD : va_D A ws) (hS : va_S A s.heap H locs) (hA : ∀ q, s.heap.size ≤ q → A q) (isC isR : List Nat) (hnd : va_nd isC = true) (hC : isC.map (fun i => ws[i]?) = wc.map some) (hadr : wo.map Prod.fst = wc.map Prod.fst) (hC' : isC.map (fun i => ws'[i]?) = wo.map some) (hR' : isR.map (fun i => ws'[i]?) = isR.map (fun i => ws[i]?)) {N : Nat} (hlen : ws'.length = N) (hcov : ∀ k, k < N → k ∈ isC ∨ k ∈ isR) (hst : r.toList ++ rest = st')
    (hn : As.length = n) (hsize : ls.size = nL) (hstk : st0 = As.reverse ++ .ref b :: rest) (hro : (rest.map fun v => v.category).sum ≤ 8) (hf : cells ≤ R.cells ∧ slots ≤ R.slots) (hdg : decode cc pc = .ok (.invokevirtual index, 3))
    (kk : ∀ (H1 : Heap) (locs1 : List Loc), va_P D vwCl ws' H1 → va_D A ws' → va_S A s.heap H1 locs1 → W p l e R s m args below meth c H1 locs1 cells slots Q (F0 m (pc + 3) ls st')) : W p l e R s m args below meth c H locs cells slots Q (F0 m pc ls st0) :=
  gk_go (va_runV (As := As) (rest := rest) S (hM H.size) cw ⟨fk_blind, hrec, fk_start hM hK hN hP hD isC hnd hC⟩ rfl hn hsize hstk (lv_room hro) hdg hf) hP hD hS hA isC isR hC hadr hC' hR' hlen hcov hst kk
theorem gk_S (S : CallFix p m c cc nL s args Ts own) (hM : fk l y wy rm D tys As wc wo r) (cw : CallB R s args own index y bytes maxL ret wy rm 0 0 n ∧ (Cond.static y).before args s = true) (hK : va_K D vwCl tys s) (hN : fk_N s)
    (hP : va_P D vwCl ws H) (hD : va_D A ws) (hS : va_S A s.heap H locs) (hA : ∀ q, s.heap.size ≤ q → A q) (isC isR : List Nat) (hnd : va_nd isC = true) (hC : isC.map (fun i => ws[i]?) = wc.map some) (hadr : wo.map Prod.fst = wc.map Prod.fst) (hC' : isC.map (fun i => ws'[i]?) = wo.map some) (hR' : isR.map (fun i => ws'[i]?) = isR.map (fun i => ws[i]?)) {N : Nat} (hlen : ws'.length = N) (hcov : ∀ k, k < N → k ∈ isC ∨ k ∈ isR) (hst : r.toList ++ rest = st')
    (hn : As.length = n) (hsize : ls.size = nL) (hstk : st0 = As.reverse ++ rest) (hro : (rest.map fun v => v.category).sum ≤ 8) (hf : cells ≤ R.cells ∧ slots ≤ R.slots) (hdg : decode cc pc = .ok (.invokestatic index, 3))
    (kk : ∀ (H1 : Heap) (locs1 : List Loc), va_P D vwCl ws' H1 → va_D A ws' → va_S A s.heap H1 locs1 → W p l e R s m args below meth c H1 locs1 cells slots Q (F0 m (pc + 3) ls st')) : W p l e R s m args below meth c H locs cells slots Q (F0 m pc ls st0) :=
  gk_go (va_runS (As := As) (rest := rest) S (hM H.size) cw ⟨fk_blind, fk_start hM hK hN hP hD isC hnd hC⟩ rfl hn hsize hstk (lv_room hro) hdg hf) hP hD hS hA isC isR hC hadr hC' hR' hlen hcov hst kk
theorem gk_U {x : MethodName} {owner : String} (S : CallFix p m c cc nL s args Ts own) (hM : fk l y wy rm D tys (.ref b :: As) wc wo r) (cw : va_CU R s args own C owner index x y bytes maxL ret wy rm 0 0 n) (hK : va_K D vwCl tys s) (hN : fk_N s) (hrec : ∃ cell : Cell, H[b]? = some cell ∧ cell.vm.isStatics = false ∧ s.vm.findClass C = some cell.cls)
    (hP : va_P D vwCl ws H) (hD : va_D A ws) (hS : va_S A s.heap H locs) (hA : ∀ q, s.heap.size ≤ q → A q) (isC isR : List Nat) (hnd : va_nd isC = true) (hC : isC.map (fun i => ws[i]?) = wc.map some) (hadr : wo.map Prod.fst = wc.map Prod.fst) (hC' : isC.map (fun i => ws'[i]?) = wo.map some) (hR' : isR.map (fun i => ws'[i]?) = isR.map (fun i => ws[i]?)) {N : Nat} (hlen : ws'.length = N) (hcov : ∀ k, k < N → k ∈ isC ∨ k ∈ isR) (hst : r.toList ++ rest = st')
    (hn : As.length = n) (hsize : ls.size = nL) (hstk : st0 = As.reverse ++ .ref b :: rest) (hro : (rest.map fun v => v.category).sum ≤ 8) (hf : cells ≤ R.cells ∧ slots ≤ R.slots) (hdg : decode cc pc = .ok (.invokevirtual index, 3))
    (kk : ∀ (H1 : Heap) (locs1 : List Loc), va_P D vwCl ws' H1 → va_D A ws' → va_S A s.heap H1 locs1 → W p l e R s m args below meth c H1 locs1 cells slots Q (F0 m (pc + 3) ls st')) : W p l e R s m args below meth c H locs cells slots Q (F0 m pc ls st0) :=
  gk_go (va_runU (As := As) (rest := rest) S (hM H.size) cw ⟨fk_blind, hrec, fk_start hM hK hN hP hD isC hnd hC⟩ rfl hn hsize hstk (lv_room hro) hdg hf) hP hD hS hA isC isR hC hadr hC' hR' hlen hcov hst kk
theorem gk_SU {cC : ClassId} (hat : ClassAt s C cC) (S : CallFix p m c cc nL s args Ts own) (hM : fk l y wy rm D tys (.ref b :: As) wc wo r) (cw : va_CS R s args own index y bytes maxL ret wy rm 0 0 n) (hK : va_K D vwCl tys s) (hN : fk_N s) (hrec : ∃ cell : Cell, H[b]? = some cell ∧ cell.vm.isStatics = false ∧ s.vm.findClass C = some cell.cls)
    (hP : va_P D vwCl ws H) (hD : va_D A ws) (hS : va_S A s.heap H locs) (hA : ∀ q, s.heap.size ≤ q → A q) (isC isR : List Nat) (hnd : va_nd isC = true) (hC : isC.map (fun i => ws[i]?) = wc.map some) (hadr : wo.map Prod.fst = wc.map Prod.fst) (hC' : isC.map (fun i => ws'[i]?) = wo.map some) (hR' : isR.map (fun i => ws'[i]?) = isR.map (fun i => ws[i]?)) {N : Nat} (hlen : ws'.length = N) (hcov : ∀ k, k < N → k ∈ isC ∨ k ∈ isR) (hst : r.toList ++ rest = st')
    (hn : As.length = n) (hsize : ls.size = nL) (hstk : st0 = As.reverse ++ .ref b :: rest) (hro : (rest.map fun v => v.category).sum ≤ 8) (hf : cells ≤ R.cells ∧ slots ≤ R.slots) (hdg : decode cc pc = .ok (.invokespecial index, 3))
    (kk : ∀ (H1 : Heap) (locs1 : List Loc), va_P D vwCl ws' H1 → va_D A ws' → va_S A s.heap H1 locs1 → W p l e R s m args below meth c H1 locs1 cells slots Q (F0 m (pc + 3) ls st')) : W p l e R s m args below meth c H locs cells slots Q (F0 m pc ls st0) :=
  gk_go (va_runSU hat (As := As) (rest := rest) S (hM H.size) cw ⟨fk_blind, hrec, fk_start hM hK hN hP hD isC hnd hC⟩ rfl hn hsize hstk (lv_room hro) hdg hf) hP hD hS hA isC isR hC hadr hC' hR' hlen hcov hst kk
end GKC
