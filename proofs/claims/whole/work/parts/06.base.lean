/-! the frame of all contracts here: a method whose answer and whose world behind it are given; no cell is made -/
theorem fk_g {α : Type} {c : Prop} {i : Decidable c} {A : Option α} {z : α} (h : @ite (Option α) c i none A = some z) : ¬ c ∧ A = some z := by
  by_cases hc : c
  · rw [if_pos hc] at h; cases h
  · rw [if_neg hc] at h; exact ⟨hc, h⟩
theorem fk_t {α : Type} {c : Prop} {i : Decidable c} {A B : Option α} {z : α} (hc : c) (h : @ite (Option α) c i A B = some z) : A = some z := by
  rw [if_pos hc] at h; exact h
theorem fk_f {α : Type} {c : Prop} {i : Decidable c} {A B : Option α} {z : α} (hc : ¬ c) (h : @ite (Option α) c i A B = some z) : B = some z := by
  rw [if_neg hc] at h; exact h
theorem fk_b {α β : Type} {X : Option α} {F : α → Option β} {z : β} (h : Option.bind X F = some z) : ∃ r, X = some r ∧ F r = some z := by
  cases X with
  | none => cases h
  | some r => exact ⟨r, rfl, h⟩
theorem fk_z01 {r : Int32} (h : ¬ ¬ r &&& 1 = r) : narrow .boolean (.int r) = .int r := by
  have h := Classical.not_not.mp h
  show Value.int (r &&& 1) = .int r
  rw [h]
def fk_N (U : State) : Prop := va_Nw (.methodLinkNest RX4 74 yX11_hasBit "LetByTheBirds") U
def fk_Pre (D : va_G) (tys : List (ClassId × FieldType)) (avs : List Value) (wi : va_W) (sz : Nat) : Array Value → State → Prop := va_Pc avs (fun U => U.heap.size = sz ∧ va_P D vwCl wi U.heap ∧ va_K D vwCl tys U ∧ va_D (fun _ => True) wi ∧ fk_N U)
theorem fk_blind {D : va_G} {tys : List (ClassId × FieldType)} {avs : List Value} {wi : va_W} {sz : Nat} : FrameBlind (fk_Pre D tys avs wi sz) := fun a U g mk q => by
  obtain ⟨q0, q1, qP, qK, qD, qN⟩ := q
  exact ⟨q0, q1, qP, va_K.moved (u := U) (U := U.calling g mk a) (Vm.Alike.refl U.vm) qK, qD, va_Nw.same rfl rfl qN⟩
def fk_Q (D : va_G) (wo : va_W) (r : Option Value) (A : Nat → Prop) : Array Value → State → Outcome → State → Prop := fun _ st oc t => oc = .returned r ∧ va_P D vwCl wo t.heap ∧ va_F A st t
/-- the contract: from the world wi with these arguments it answers r, and the world is wo -/
def fk (l : Launch) (y : MethodName) (ws : List Cond) (rm : Room) (D : va_G) (tys : List (ClassId × FieldType)) (avs : List Value) (wi wo : va_W) (r : Option Value) : Prop :=
  ∀ sz : Nat, Met l y ws rm (fk_Pre D tys avs wi sz) (fk_Q D wo r (va_A wi sz)) 0 0 (va_A wi sz)
/-- what a method's body may use at any place -/
def fk_C (p : Program) (s : State) (m : MethodId) (meth : Method) (c : Code) (args : Array Value) (cc : ByteArray) (maxL : Nat) (ret : Option FieldType) (ws : List Cond) (own : String) (D : va_G) (tys : List (ClassId × FieldType)) (A : Nat → Prop) : Prop :=
  p.tables.exec = Jvm.exec ∧ c.code = cc ∧ c.maxLocals = maxL ∧ s.vm.findClass own = some m.cls ∧ (∀ w ∈ ws, w.before args s = true) ∧ meth.sig.returnType = ret ∧ meth.locks = false ∧ va_K D vwCl tys s ∧ fk_N s ∧ ∀ q, s.heap.size ≤ q → A q
/-- a method's end -/
def fk_E (D : va_G) (wo : va_W) (r : Option Value) (A : Nat → Prop) (below : List Frame) (args : Array Value) (s : State) : State → Prop := MQ below (fk_Q D wo r A) args s 0 0 A
def fk_set : va_W → List Nat → va_W → va_W
  | ws, i :: is, c :: cs => fk_set (ws.set i c) is cs
  | ws, _, _ => ws
theorem fk_set_get : ∀ (is : List Nat) (ws wo : va_W), wo.length = is.length → ∀ (k : Nat) (q : Nat × va_E), (fk_set ws is wo)[k]? = some q → (∃ j : Nat, is[j]? = some k ∧ wo[j]? = some q) ∨ (k ∉ is ∧ ws[k]? = some q)
  | [], ws, wo, hlen, k, q, h => by
    cases wo with
    | nil => exact Or.inr ⟨by simp, h⟩
    | cons c cs => simp at hlen
  | i :: is, ws, wo, hlen, k, q, h => by
    cases wo with
    | nil => simp at hlen
    | cons c cs =>
      have hlen : cs.length = is.length := by simpa using hlen
      rcases fk_set_get is (ws.set i c) cs hlen k q h with ⟨j, h1, h2⟩ | ⟨h1, h2⟩
      · exact Or.inl ⟨j + 1, by simpa using h1, by simpa using h2⟩
      · by_cases hk : k = i
        · subst hk
          rw [List.getElem?_set] at h2
          simp only [if_true] at h2
          split at h2
          · exact Or.inl ⟨0, by simp, by simpa using h2⟩
          · cases h2
        · rw [List.getElem?_set_ne (fun e => hk e.symm)] at h2
          exact Or.inr ⟨by simp [hk, h1], h2⟩
theorem fk_after {A : Nat → Prop} {D : va_G} {cl : List vw_C} {ws wc wo : va_W} {H H1 : Heap} (hP : va_P D cl ws H) (hD : va_D A ws) (isC : List Nat) (hC : isC.map (fun i => ws[i]?) = wc.map some) (hadr : wo.map Prod.fst = wc.map Prod.fst)
    (hk : ∀ q : Nat, q < H.size → ¬ va_A wc H.size q → H1[q]? = H[q]?) (hP1 : va_P D cl wo H1) : va_P D cl (fk_set ws isC wo) H1 ∧ va_D A (fk_set ws isC wo) := by
  have hl1 : wc.length = isC.length := by have := congrArg List.length hC; simpa using this.symm
  have hl2 : wo.length = wc.length := by have := congrArg List.length hadr; simpa using this
  have hlen : wo.length = isC.length := hl2.trans hl1
  have atC : ∀ (j : Nat) (q : Nat × va_E), wc[j]? = some q → ∃ i, isC[j]? = some i ∧ ws[i]? = some q := by
    intro j q hq
    have h1 : (isC.map (fun i => ws[i]?))[j]? = some (some q) := by rw [hC, List.getElem?_map, hq]; rfl
    rw [List.getElem?_map] at h1
    cases hi : isC[j]? with
    | none => rw [hi] at h1; cases h1
    | some i => rw [hi] at h1; exact ⟨i, rfl, Option.some.inj h1⟩
  have adr : ∀ (j : Nat) (q : Nat × va_E), wo[j]? = some q → ∃ e, wc[j]? = some (q.1, e) := by
    intro j q hq
    have h1 : (wc.map Prod.fst)[j]? = some q.1 := by rw [← hadr, List.getElem?_map, hq]; rfl
    rw [List.getElem?_map] at h1
    cases hi : wc[j]? with
    | none => rw [hi] at h1; cases h1
    | some x => rw [hi] at h1; exact ⟨x.2, by rw [← Option.some.inj h1]⟩
  have base : ∀ (k : Nat) (q : Nat × va_E), (fk_set ws isC wo)[k]? = some q → ∃ e, ws[k]? = some (q.1, e) := by
    intro k q hq
    rcases fk_set_get isC ws wo hlen k q hq with ⟨j, h1, h2⟩ | ⟨-, h2⟩
    · obtain ⟨e, h3⟩ := adr j q h2
      obtain ⟨i, h4, h5⟩ := atC j _ h3
      rw [h1] at h4
      cases h4
      exact ⟨e, h5⟩
    · exact ⟨q.2, h2⟩
  refine ⟨fun k q hq => ?_, fun i j x y hx hy hxy => ?_, fun k q hq => ?_⟩
  · rcases fk_set_get isC ws wo hlen k q hq with ⟨j, h1, h2⟩ | ⟨h1, h2⟩
    · exact hP1 j q h2
    · have hw := hP k q h2
      refine hw.kept (hk q.1 hw.lt ?_)
      rintro (⟨j, e, h3⟩ | h3)
      · obtain ⟨i, h4, h5⟩ := atC j _ h3
        have := hD.1 k i q (q.1, e) h2 h5 rfl
        subst this
        exact h1 (List.mem_of_getElem? h4)
      · exact absurd hw.lt (Nat.not_lt.mpr h3)
  · obtain ⟨e1, g1⟩ := base i x hx
    obtain ⟨e2, g2⟩ := base j y hy
    exact hD.1 i j _ _ g1 g2 hxy
  · obtain ⟨e, g⟩ := base k q hq
    exact hD.2 k (q.1, e) g
section FKC
variable {p : Program} {l : Launch} {e : Env} {R : Room} {s : State} {m : MethodId} {args : Array Value} {below : List Frame} {meth : Method} {c : Code} {H : Heap} {locs : List Loc} {cells slots : Nat} {Q : State → Prop}
variable {pc : Nat} {ls : Array Slot} {rest st0 st' : List Value} {a : Array Value} {A : Nat → Prop} {D : va_G} {ws wc wo ws' : va_W} {r : Option Value} {tys : List (ClassId × FieldType)}
theorem fk_go (hr : va_Run p l e R s m args below meth c H locs cells slots 0 0 (F0 m pc ls st0) rest (fk_Q D wo r (va_A wc H.size) a) (va_A wc H.size)) (hP : va_P D vwCl ws H) (hD : va_D A ws) (hS : va_S A s.heap H locs) (hA : ∀ q, s.heap.size ≤ q → A q) (isC : List Nat) (hC : isC.map (fun i => ws[i]?) = wc.map some) (hadr : wo.map Prod.fst = wc.map Prod.fst) (hw : fk_set ws isC wo = ws') (hst : r.toList ++ rest = st')
    (kk : ∀ (H1 : Heap) (locs1 : List Loc), va_P D vwCl ws' H1 → va_D A ws' → va_S A s.heap H1 locs1 → W p l e R s m args below meth c H1 locs1 cells slots Q (F0 m (pc + 3) ls st')) : W p l e R s m args below meth c H locs cells slots Q (F0 m pc ls st0) := by
  intro T hT X
  have hF := va_free (wc := wc) hD hS hA isC hC
  obtain ⟨v, st₀, t, T', L, h0, X', hL, e1, e2, ⟨hv, hp, hz, hk⟩, st⟩ := hr T hT X
  cases hv
  rw [h0] at hz hk
  have hk' : ∀ q : Nat, q < H.size → ¬ va_A wc H.size q → T'.heap[q]? = H[q]? := fun q h1 h2 => by rw [e1]; exact hk q h1 h2
  obtain ⟨g1, g2⟩ := fk_after hP hD isC hC hadr hk' (by rw [e1]; exact hp)
  subst hw; subst hst
  obtain ⟨t2, a1, b1⟩ := kk T'.heap (locs ++ L) g1 g2 ⟨Nat.le_trans hS.1 (by rw [e1]; exact hz), fun q h1 h2 => by
      rw [hk' q (Nat.lt_of_lt_of_le h1 hS.1) (fun z => h2 (hF q z))]; exact hS.2.1 q h1 h2, fun q hq => by
      rcases List.mem_append.mp hq with h | h
      · exact hS.2.2 q h
      · exact hF _ (hL q h)⟩ T' rfl X'
  exact ⟨t2, st t2 a1, b1⟩
theorem fk_start {y : MethodName} {wy : List Cond} {rm : Room} {avs : List Value} (hM : fk l y wy rm D tys avs wc wo r) (hK : va_K D vwCl tys s) (hN : fk_N s) (hP : va_P D vwCl ws H) (hD : va_D A ws) (isC : List Nat) (hn : va_nd isC = true) (hC : isC.map (fun i => ws[i]?) = wc.map some) :
    ∀ U : State, U.heap = H → s.WarmedH U.vm → fk_Pre D tys avs wc H.size avs.toArray U := by
  intro U hU hW
  refine ⟨rfl, by rw [hU], ?_, va_K.moved hW.alike hK, (hD.sub isC hn hC).weaken (fun _ _ _ _ => trivial), va_Nw.warmM hW hN⟩
  rw [hU]
  intro k q hk
  have h1 : (isC.map (fun i => ws[i]?))[k]? = some (some q) := by rw [hC, List.getElem?_map, hk]; rfl
  rw [List.getElem?_map] at h1
  cases hi : isC[k]? with
  | none => rw [hi] at h1; cases h1
  | some i => rw [hi] at h1; exact hP i q (Option.some.inj h1)
variable {y : MethodName} {bytes cc : ByteArray} {maxL nL n index : Nat} {ret : Option FieldType} {wy : List Cond} {rm : Room} {Ts : List Cond} {own C : String} {b : Addr} {As : List Value}
theorem fk_V (S : CallFix p m c cc nL s args Ts own) (hM : fk l y wy rm D tys (.ref b :: As) wc wo r) (cw : CallW R s args own C index y bytes maxL ret wy rm 0 0 n) (hK : va_K D vwCl tys s) (hN : fk_N s) (hrec : ∃ cell : Cell, H[b]? = some cell ∧ cell.vm.isStatics = false ∧ s.vm.findClass C = some cell.cls)
    (hP : va_P D vwCl ws H) (hD : va_D A ws) (hS : va_S A s.heap H locs) (hA : ∀ q, s.heap.size ≤ q → A q) (isC : List Nat) (hnd : va_nd isC = true) (hC : isC.map (fun i => ws[i]?) = wc.map some) (hadr : wo.map Prod.fst = wc.map Prod.fst) (hw : fk_set ws isC wo = ws') (hst : r.toList ++ rest = st')
    (hn : As.length = n) (hsize : ls.size = nL) (hstk : st0 = As.reverse ++ .ref b :: rest) (hro : (rest.map fun v => v.category).sum ≤ 8) (hf : cells ≤ R.cells ∧ slots ≤ R.slots) (hdg : decode cc pc = .ok (.invokevirtual index, 3))
    (kk : ∀ (H1 : Heap) (locs1 : List Loc), va_P D vwCl ws' H1 → va_D A ws' → va_S A s.heap H1 locs1 → W p l e R s m args below meth c H1 locs1 cells slots Q (F0 m (pc + 3) ls st')) : W p l e R s m args below meth c H locs cells slots Q (F0 m pc ls st0) :=
  fk_go (va_runV (As := As) (rest := rest) S (hM H.size) cw ⟨fk_blind, hrec, fk_start hM hK hN hP hD isC hnd hC⟩ rfl hn hsize hstk (lv_room hro) hdg hf) hP hD hS hA isC hC hadr hw hst kk
theorem fk_S (S : CallFix p m c cc nL s args Ts own) (hM : fk l y wy rm D tys As wc wo r) (cw : CallB R s args own index y bytes maxL ret wy rm 0 0 n ∧ (Cond.static y).before args s = true) (hK : va_K D vwCl tys s) (hN : fk_N s)
    (hP : va_P D vwCl ws H) (hD : va_D A ws) (hS : va_S A s.heap H locs) (hA : ∀ q, s.heap.size ≤ q → A q) (isC : List Nat) (hnd : va_nd isC = true) (hC : isC.map (fun i => ws[i]?) = wc.map some) (hadr : wo.map Prod.fst = wc.map Prod.fst) (hw : fk_set ws isC wo = ws') (hst : r.toList ++ rest = st')
    (hn : As.length = n) (hsize : ls.size = nL) (hstk : st0 = As.reverse ++ rest) (hro : (rest.map fun v => v.category).sum ≤ 8) (hf : cells ≤ R.cells ∧ slots ≤ R.slots) (hdg : decode cc pc = .ok (.invokestatic index, 3))
    (kk : ∀ (H1 : Heap) (locs1 : List Loc), va_P D vwCl ws' H1 → va_D A ws' → va_S A s.heap H1 locs1 → W p l e R s m args below meth c H1 locs1 cells slots Q (F0 m (pc + 3) ls st')) : W p l e R s m args below meth c H locs cells slots Q (F0 m pc ls st0) :=
  fk_go (va_runS (As := As) (rest := rest) S (hM H.size) cw ⟨fk_blind, fk_start hM hK hN hP hD isC hnd hC⟩ rfl hn hsize hstk (lv_room hro) hdg hf) hP hD hS hA isC hC hadr hw hst kk
theorem fk_SN {host : String} (S : CallFix p m c cc nL s args Ts own) (hM : fk l y wy rm D tys As wc wo r) (cw : va_CN R s args own index y host bytes maxL ret wy rm 0 0 n ∧ (Cond.static y).before args s = true ∧ True) (hK : va_K D vwCl tys s) (hN : fk_N s)
    (hP : va_P D vwCl ws H) (hD : va_D A ws) (hS : va_S A s.heap H locs) (hA : ∀ q, s.heap.size ≤ q → A q) (isC : List Nat) (hnd : va_nd isC = true) (hC : isC.map (fun i => ws[i]?) = wc.map some) (hadr : wo.map Prod.fst = wc.map Prod.fst) (hw : fk_set ws isC wo = ws') (hst : r.toList ++ rest = st')
    (hn : As.length = n) (hsize : ls.size = nL) (hstk : st0 = As.reverse ++ rest) (hro : (rest.map fun v => v.category).sum ≤ 8) (hf : cells ≤ R.cells ∧ slots ≤ R.slots) (hdg : decode cc pc = .ok (.invokestatic index, 3))
    (kk : ∀ (H1 : Heap) (locs1 : List Loc), va_P D vwCl ws' H1 → va_D A ws' → va_S A s.heap H1 locs1 → W p l e R s m args below meth c H1 locs1 cells slots Q (F0 m (pc + 3) ls st')) : W p l e R s m args below meth c H locs cells slots Q (F0 m pc ls st0) :=
  fk_go (va_runSN (As := As) (rest := rest) S (hM H.size) cw ⟨fk_blind, fk_start hM hK hN hP hD isC hnd hC⟩ rfl hn hsize hstk (lv_room hro) hdg hf) hP hD hS hA isC hC hadr hw hst kk
theorem fk_U {x : MethodName} {owner : String} (S : CallFix p m c cc nL s args Ts own) (hM : fk l y wy rm D tys (.ref b :: As) wc wo r) (cw : va_CU R s args own C owner index x y bytes maxL ret wy rm 0 0 n) (hK : va_K D vwCl tys s) (hN : fk_N s) (hrec : ∃ cell : Cell, H[b]? = some cell ∧ cell.vm.isStatics = false ∧ s.vm.findClass C = some cell.cls)
    (hP : va_P D vwCl ws H) (hD : va_D A ws) (hS : va_S A s.heap H locs) (hA : ∀ q, s.heap.size ≤ q → A q) (isC : List Nat) (hnd : va_nd isC = true) (hC : isC.map (fun i => ws[i]?) = wc.map some) (hadr : wo.map Prod.fst = wc.map Prod.fst) (hw : fk_set ws isC wo = ws') (hst : r.toList ++ rest = st')
    (hn : As.length = n) (hsize : ls.size = nL) (hstk : st0 = As.reverse ++ .ref b :: rest) (hro : (rest.map fun v => v.category).sum ≤ 8) (hf : cells ≤ R.cells ∧ slots ≤ R.slots) (hdg : decode cc pc = .ok (.invokevirtual index, 3))
    (kk : ∀ (H1 : Heap) (locs1 : List Loc), va_P D vwCl ws' H1 → va_D A ws' → va_S A s.heap H1 locs1 → W p l e R s m args below meth c H1 locs1 cells slots Q (F0 m (pc + 3) ls st')) : W p l e R s m args below meth c H locs cells slots Q (F0 m pc ls st0) :=
  fk_go (va_runU (As := As) (rest := rest) S (hM H.size) cw ⟨fk_blind, hrec, fk_start hM hK hN hP hD isC hnd hC⟩ rfl hn hsize hstk (lv_room hro) hdg hf) hP hD hS hA isC hC hadr hw hst kk
theorem fk_SU {cC : ClassId} (hat : ClassAt s C cC) (S : CallFix p m c cc nL s args Ts own) (hM : fk l y wy rm D tys (.ref b :: As) wc wo r) (cw : va_CS R s args own index y bytes maxL ret wy rm 0 0 n) (hK : va_K D vwCl tys s) (hN : fk_N s) (hrec : ∃ cell : Cell, H[b]? = some cell ∧ cell.vm.isStatics = false ∧ s.vm.findClass C = some cell.cls)
    (hP : va_P D vwCl ws H) (hD : va_D A ws) (hS : va_S A s.heap H locs) (hA : ∀ q, s.heap.size ≤ q → A q) (isC : List Nat) (hnd : va_nd isC = true) (hC : isC.map (fun i => ws[i]?) = wc.map some) (hadr : wo.map Prod.fst = wc.map Prod.fst) (hw : fk_set ws isC wo = ws') (hst : r.toList ++ rest = st')
    (hn : As.length = n) (hsize : ls.size = nL) (hstk : st0 = As.reverse ++ .ref b :: rest) (hro : (rest.map fun v => v.category).sum ≤ 8) (hf : cells ≤ R.cells ∧ slots ≤ R.slots) (hdg : decode cc pc = .ok (.invokespecial index, 3))
    (kk : ∀ (H1 : Heap) (locs1 : List Loc), va_P D vwCl ws' H1 → va_D A ws' → va_S A s.heap H1 locs1 → W p l e R s m args below meth c H1 locs1 cells slots Q (F0 m (pc + 3) ls st')) : W p l e R s m args below meth c H locs cells slots Q (F0 m pc ls st0) :=
  fk_go (va_runSU hat (As := As) (rest := rest) S (hM H.size) cw ⟨fk_blind, hrec, fk_start hM hK hN hP hD isC hnd hC⟩ rfl hn hsize hstk (lv_room hro) hdg hf) hP hD hS hA isC hC hadr hw hst kk
theorem fk_ri {v : Int32} {ls : Array Slot} (hx : p.tables.exec = Jvm.exec) (hb : c.code = cc) (hr : meth.sig.returnType = some .int) (hlocks : meth.locks = false) (hP : va_P D vwCl ws H) (hS : va_S A s.heap H locs) (hdg : decode cc pc = .ok (.ireturn, 1)) :
    W p l e R s m args below meth c H locs 0 0 (fk_E D ws (some (.int v)) A below args s) (F0 m pc ls [.int v]) :=
  W.iret (Qc := fk_Q D ws (some (.int v)) A) hx hb hr (fun t ht _ => ⟨rfl, by rw [ht]; exact hP, hS.F ht⟩) hS.2.2 hdg hlocks
theorem fk_rz {v : Int32} {ls : Array Slot} (hn : narrow .boolean (.int v) = .int v) (hx : p.tables.exec = Jvm.exec) (hb : c.code = cc) (hr : meth.sig.returnType = some .boolean) (hlocks : meth.locks = false) (hP : va_P D vwCl ws H) (hS : va_S A s.heap H locs) (hdg : decode cc pc = .ok (.ireturn, 1)) :
    W p l e R s m args below meth c H locs 0 0 (fk_E D ws (some (.int v)) A below args s) (F0 m pc ls [.int v]) :=
  W.zret (Qc := fk_Q D ws (some (.int v)) A) hx hb hr hn (fun t ht _ => ⟨rfl, by rw [ht]; exact hP, hS.F ht⟩) hS.2.2 hdg hlocks
theorem fk_rl {v : Int64} {ls : Array Slot} (hx : p.tables.exec = Jvm.exec) (hb : c.code = cc) (hr : meth.sig.returnType = some .long) (hlocks : meth.locks = false) (hP : va_P D vwCl ws H) (hS : va_S A s.heap H locs) (hdg : decode cc pc = .ok (.lreturn, 1)) :
    W p l e R s m args below meth c H locs 0 0 (fk_E D ws (some (.long v)) A below args s) (F0 m pc ls [.long v]) :=
  W.lret (Qc := fk_Q D ws (some (.long v)) A) hx hb hr (fun t ht _ => ⟨rfl, by rw [ht]; exact hP, hS.F ht⟩) hS.2.2 hdg hlocks
theorem fk_rv {ls : Array Slot} (hx : p.tables.exec = Jvm.exec) (hb : c.code = cc) (hr : meth.sig.returnType = none) (hlocks : meth.locks = false) (hP : va_P D vwCl ws H) (hS : va_S A s.heap H locs) (hdg : decode cc pc = .ok (.return_, 1)) :
    W p l e R s m args below meth c H locs 0 0 (fk_E D ws none A below args s) (F0 m pc ls []) :=
  W.vret (Qc := fk_Q D ws none A) hx hb hr (fun t ht _ => ⟨rfl, by rw [ht]; exact hP, hS.F ht⟩) hS.2.2 hdg hlocks
end FKC
/-- a contract out of the walk from its entry -/
theorem fk_of {l : Launch} {y : MethodName} {ws ws' : List Cond} {rm : Room} {D : va_G} {tys : List (ClassId × FieldType)} {avs : List Value} {wi wo : va_W} {r : Option Value} {cc : ByteArray} {maxL : Nat} {ret : Option FieldType} (hy : plainName y.cls = true) (hw : ws = Cond.code y cc maxL ret :: ws') (hlen : (lg_sl avs).length ≤ maxL)
    (body : ∀ (p : Program) (e : Env) (s : State) (m : MethodId) (below : List Frame) (meth : Method) (c : Code) (A : Nat → Prop), fk_C p s m meth c avs.toArray cc maxL ret ws y.cls D tys A → va_P D vwCl wi s.heap → va_D A wi → va_S A s.heap s.heap [] → ∀ ls : Array Slot, lv_has ls maxL (lv_args 0 avs) →
      W p l e rm s m avs.toArray below meth c s.heap [] 0 0 (fk_E D wo r A below avs.toArray s) (F0 m 0 ls [])) : fk l y ws rm D tys avs wi wo r := by
  intro sz
  refine Met.ofW (cc := cc) (maxL := maxL) (ret := ret) hy hw ?_
  intro p e s m args below meth c s₁ B hml hv
  obtain ⟨rfl, hsz, hP, hK, hD0, hN⟩ := hv
  subst hsz
  have hl := lv_entry avs (n := maxL) hlen
  rw [lg_entry_eq]
  exact body p e s m below meth c (va_A wi s.heap.size) ⟨B.exec, B.bytes, hml, findClass_of_methodNamed B.named, atoms_spec (ws := ws) B.pre, B.returns, B.notSynchronized, hK, hN, fun q h => Or.inr h⟩ hP hD0.self va_S.rf _ hl
