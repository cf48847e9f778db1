/-! the constructors -/
section CTR
variable {p : Program} {l : Launch} {e : Env} {R : Room} {s : State} {m : MethodId} {args : Array Value} {below : List Frame} {meth : Method} {c : Code} {H : Heap} {locs : List Loc} {cells slots : Nat} {Q : State → Prop}
variable {pc : Nat} {ls : Array Slot} {rest st0 st' : List Value} {a : Array Value} {A : Nat → Prop} {D : va_G} {ws : va_W} {tys : List (ClassId × FieldType)} {cc : ByteArray} {mc ms : Nat}
theorem ck_newI (hexec : p.tables.exec = Jvm.exec) (hb : c.code = cc) (harr : (Cond.arrayClass .int).before args s = true) (hK : va_K D vwCl tys s) (t0 : Nat) {cI : ClassId} (ht : tys[t0]? = some (cI, .int)) (hP : va_P D vwCl ws H) (hD : va_D A ws) (hS : va_S A s.heap H locs) (hA : ∀ q, s.heap.size ≤ q → A q)
    {n : Int32} {N' : Nat} (hn : ¬ n < 0) (hN : n.toNatClampNeg = N') (hbytes : N' * 4 ≤ 536870912) (hcells : cells + 1 ≤ R.cells) (hslots : slots + N' ≤ R.slots) (hdg : decode cc pc = .ok (.newarray .int, 2))
    (kk : ∀ (q : Nat) (H1 : Heap), va_P D vwCl (ws ++ [(q, .inl (cI, N', .inl (fun _ => 0)))]) H1 → va_D A (ws ++ [(q, .inl (cI, N', .inl (fun _ => 0)))]) → va_S A s.heap H1 locs →
      W p l e R s m args below meth c H1 locs (cells + 1) (slots + N') Q (F0 m (pc + 2) ls (.ref q :: rest))) : W p l e R s m args below meth c H locs cells slots Q (F0 m pc ls (.int n :: rest)) := by
  refine va_newa (atype := .int) (ty := .int) hexec hb harr rfl hK hP hD hS hA (a0 := (N', .inl (fun _ => 0))) (fun _ => rfl) hn hN hbytes hcells hslots hdg (fun q cA H1 hK1 hP1 hD1 hS1 => ?_)
  have e1 := va_nm_int (hK1.2 tys.length (cA, .int) (by rw [List.getElem?_append_right (Nat.le_refl _), Nat.sub_self]; rfl)).2
  have e2 := va_nm_int (hK.2 t0 _ ht).2
  cases Option.some.inj (e1.symm.trans e2)
  exact kk q H1 hP1 hD1 hS1
theorem ck_newQ (hexec : p.tables.exec = Jvm.exec) (hb : c.code = cc) {own C : String} {index : Nat} (hown : s.vm.findClass own = some m.cls) (hclink : (Cond.classLink own index C).before args s = true) (hover : va_AO C s) (hK : va_K D vwCl tys s) (t0 : Nat) {cT : ClassId} (ht : tys[t0]? = some (cT, .object C)) (hP : va_P D vwCl ws H) (hD : va_D A ws) (hS : va_S A s.heap H locs) (hA : ∀ q, s.heap.size ≤ q → A q)
    {n : Int32} {N' : Nat} (hn : ¬ n < 0) (hN : n.toNatClampNeg = N') (hbytes : N' * 4 ≤ 536870912) (hcells : cells + 1 ≤ R.cells) (hslots : slots + N' ≤ R.slots) (hdg : decode cc pc = .ok (.anewarray index, 3))
    (kk : ∀ (q : Nat) (H1 : Heap), va_P D vwCl (ws ++ [(q, .inl (cT, N', .inr (.inr (.inr (.inr (fun _ => none))))))]) H1 → va_D A (ws ++ [(q, .inl (cT, N', .inr (.inr (.inr (.inr (fun _ => none))))))]) → va_S A s.heap H1 locs →
      W p l e R s m args below meth c H1 locs (cells + 1) (slots + N') Q (F0 m (pc + 3) ls (.ref q :: rest))) : W p l e R s m args below meth c H locs cells slots Q (F0 m pc ls (.int n :: rest)) := by
  refine va_newq hexec hb hown hclink hover hK hP hD hS hA hn hN hbytes hcells hslots hdg (fun q cA H1 hK1 hP1 hD1 hS1 => ?_)
  have e1 := va_nmO (hK1.2 tys.length (cA, .object C) (by rw [List.getElem?_append_right (Nat.le_refl _), Nat.sub_self]; rfl)).2 rfl
  have e2 := va_nmO (hK.2 t0 _ ht).2 rfl
  cases Option.some.inj (e1.symm.trans e2)
  exact kk q H1 hP1 hD1 hS1
/-- behind a constructor that writes nothing -/
theorem ct_call0 (hr : va_Run p l e R s m args below meth c H locs cells slots 0 0 (F0 m pc ls st0) rest (va_Qv (fun _ : Unit => True) (fun _ _ => True) (xk_A H.size) a) (xk_A H.size)) (hP : va_P D vwCl ws H) (hS : va_S A s.heap H locs) (hA : ∀ q, s.heap.size ≤ q → A q)
    (kk : ∀ (H1 : Heap) (locs1 : List Loc), va_P D vwCl ws H1 → va_S A s.heap H1 locs1 → W p l e R s m args below meth c H1 locs1 cells slots Q (F0 m (pc + 3) ls rest)) : W p l e R s m args below meth c H locs cells slots Q (F0 m pc ls st0) :=
  va_callv hr hS (fun q _ hq => hA q (Nat.le_trans hS.1 hq)) (fun q hq => hA q (Nat.le_trans hS.1 hq)) (fun _ _ H1 locs1 _ _ _ _ _ hk hS1 => kk H1 locs1 (xk_keep hP hk) hS1)
/-- behind a constructor of the last cell of the world -/
theorem ct_call {S : Type} {wo : S → va_W} {post : S → Prop} {Y : va_W} {x0 : Nat × va_E} (hr : va_Run p l e R s m args below meth c H locs cells slots mc ms (F0 m pc ls st0) rest (va_Qv post (fun u t => va_P D vwCl (wo u) t.heap ∧ va_D (va_A [x0] H.size) (wo u)) (va_A [x0] H.size) a) (va_A [x0] H.size)) (hP : va_P D vwCl (Y ++ [x0]) H) (hD : va_D A (Y ++ [x0])) (hS : va_S A s.heap H locs) (hA : ∀ q, s.heap.size ≤ q → A q)
    (kk : ∀ (u : S) (H1 : Heap) (locs1 : List Loc), post u → va_P D vwCl (Y ++ wo u) H1 → va_D A (Y ++ wo u) → va_S A s.heap H1 locs1 → W p l e R s m args below meth c H1 locs1 (cells + mc) (slots + ms) Q (F0 m (pc + 3) ls rest)) : W p l e R s m args below meth c H locs cells slots Q (F0 m pc ls st0) := by
  have hPw := hk_P.mp hP
  have hd := hk_D.mp hD
  have hF : ∀ q, va_A [x0] H.size q → A q := fun q hq => by
    rcases hk_A.mp hq with h | h
    · rw [List.mem_singleton.mp h]
      exact hd.2 x0 (List.mem_append_right _ List.mem_cons_self)
    · exact hA q (Nat.le_trans hS.1 h)
  have hn := hd.1
  rw [List.map_append, List.nodup_append] at hn
  obtain ⟨n1, -, n3⟩ := hn
  have hY : ∀ q ∈ Y, ¬ va_A [x0] H.size q.1 := fun q hq h => by
    rcases hk_A.mp h with h | h
    · exact n3 _ (List.mem_map_of_mem (f := Prod.fst) hq) _ h rfl
    · exact absurd (hPw q (List.mem_append_left _ hq)).lt (Nat.not_lt.mpr h)
  refine va_callv hr hS (fun q _ h => hF q h) hF (fun u t H1 locs1 ht _ hp hB _ hk hS1 => ?_)
  obtain ⟨hP1, hD1⟩ := hB
  rw [ht] at hP1
  have hd1 := hk_D.mp hD1
  refine kk u H1 locs1 hp (hk_P.mpr (fun q hq => ?_)) (hk_D.mpr ⟨?_, fun q hq => ?_⟩) hS1
  · rcases List.mem_append.mp hq with h | h
    · have hw := hPw q (List.mem_append_left _ h)
      exact hw.kept (hk q.1 hw.lt (hY q h))
    · exact hk_P.mp hP1 q h
  · rw [List.map_append, List.nodup_append]
    refine ⟨n1, hd1.1, fun x hx y hy hxy => ?_⟩
    obtain ⟨q, hq, rfl⟩ := List.mem_map.mp hx
    obtain ⟨r, hr, rfl⟩ := List.mem_map.mp hy
    exact hY q hq (by rw [hxy]; exact hd1.2 r hr)
  · rcases List.mem_append.mp hq with h | h
    · exact hd.2 q (List.mem_append_left _ h)
    · exact hF _ (hd1.2 q h)
end CTR
def kq (l : Launch) (y : MethodName) (ws : List Cond) (rm : Room) (h : Nat) : Prop := ∀ sz : Nat, Met l y ws rm (va_Pc [.ref h] (fun U => U.heap.size = sz ∧ xk_B U)) (va_Qv (fun _ : Unit => True) (fun _ _ => True) (xk_A sz)) 0 0 (xk_A sz)
theorem kq_blind {h sz : Nat} : FrameBlind (va_Pc [.ref h] (fun U => U.heap.size = sz ∧ xk_B U)) := fun a U g mk q => by
  obtain ⟨q0, q1, qB⟩ := q
  exact ⟨q0, q1, xk_B.same (u := U) (U := U.calling g mk a) rfl qB⟩
def ct_Pc (D : va_G) (tys : List (ClassId × FieldType)) (avs : List Value) (wi : va_W) (sz : Nat) : Array Value → State → Prop := va_Pc avs (fun U => U.heap.size = sz ∧ va_P D vwCl wi U.heap ∧ va_K D vwCl tys U ∧ va_D (fun _ => True) wi ∧ xk_B U)
theorem ct_blind {D : va_G} {tys : List (ClassId × FieldType)} {avs : List Value} {wi : va_W} {sz : Nat} : FrameBlind (ct_Pc D tys avs wi sz) := fun a U g mk q => by
  obtain ⟨q0, q1, qP, qK, qD, qB⟩ := q
  exact ⟨q0, q1, qP, va_K.moved (u := U) (U := U.calling g mk a) (Vm.Alike.refl U.vm) qK, qD, xk_B.same (u := U) (U := U.calling g mk a) rfl qB⟩
def ct {S : Type} (l : Launch) (y : MethodName) (ws : List Cond) (rm : Room) (D : va_G) (tys : List (ClassId × FieldType)) (avs : List Value) (x0 : Nat × va_E) (post : S → Prop) (wo : S → va_W) (mc ms : Nat) : Prop :=
  ∀ sz : Nat, Met l y ws rm (ct_Pc D tys avs [x0] sz) (va_Qv post (fun u t => va_P D vwCl (wo u) t.heap ∧ va_D (va_A [x0] sz) (wo u)) (va_A [x0] sz)) mc ms (va_A [x0] sz)
theorem ct_start {D : va_G} {tys : List (ClassId × FieldType)} {avs : List Value} {s : State} {H : Heap} {A : Nat → Prop} {Y : va_W} {x0 : Nat × va_E} (hK : va_K D vwCl tys s) (hB : xk_B s) (hP : va_P D vwCl (Y ++ [x0]) H) : ∀ U : State, U.heap = H → s.WarmedH U.vm → ct_Pc D tys avs [x0] H.size avs.toArray U := by
  intro U hU hW
  refine ⟨rfl, by rw [hU], ?_, va_K.moved hW.alike hK, hk_D.mpr ⟨by simp, fun _ _ => trivial⟩, hB.warm hW⟩
  rw [hU]
  exact hk_P.mpr (fun q hq => hk_P.mp hP q (List.mem_append_right _ hq))
set_option maxRecDepth 100000 in
set_option maxHeartbeats 4000000 in
theorem kq_X8 (l : Launch) (h : Nat) : kq l yX8_init wsX8_init ({ frames := 1, cells := 0, slots := 0, locals := 12 } : Room) h := by
  intro sz
  refine Met.ofW (cc := cX8_init) (maxL := 1) (ret := none) (by decide) rfl ?_
  intro p e s m args below meth c s₁ B hml hv
  obtain ⟨rfl, hsz, hB⟩ := hv
  subst hsz
  have hx := B.exec
  have hb := B.bytes
  have hr := B.returns
  have hts := atoms_spec (ws := wsX8_init) B.pre
  have hown : s.vm.findClass RX8 = some m.cls := findClass_of_methodNamed B.named
  have hlocks := B.notSynchronized
  have hin : meth.name = "<init>" := (name_of_methodNamed B.named B.method).1
  have hS : va_S (xk_A s.heap.size) s.heap s.heap [] := va_S.rf
  have hl := lv_entry ([.ref h]) (n := 1) (Nat.le_of_ble_eq_true rfl)
  rw [lg_entry_eq]
  generalize (lg_sl ([.ref h]) ++ List.replicate (1 - (lg_sl ([.ref h])).length) Slot.unset).toArray = ls at hl ⊢
  have hl : lv_has ls 1 [(0, .ref h)] := hl
  refine lv_aload_n hx hb dX8_init_0 rfl (lv_at hl 0 rfl) ?_
  refine W.objInit hx hb hown (hts (.methodLink RX8 1 objectInit) (List.mem_of_getElem? (i := 1) rfl)) (hts (.instanceMethod objectInit) (List.mem_of_getElem? (i := 2) rfl)) (hts (.code objectInit ⟨#[0xb1]⟩ 1 none) (List.mem_of_getElem? (i := 3) rfl)) rfl (by rw [hml]; exact hl.1) rfl dX8_init_1 (Nat.le_of_ble_eq_true rfl) (Nat.le_of_ble_eq_true rfl) ?_
  refine W.eq (g2 := F0 m 4 ls []) rfl ?_
  exact W.vret (Qc := va_Qv (fun _ : Unit => True) (fun _ _ => True) (xk_A s.heap.size)) hx hb hr (fun t ht hW => ⟨⟨(), rfl, trivial, trivial⟩, hS.F ht⟩) hS.2.2 dX8_init_4 hlocks
set_option maxRecDepth 100000 in
set_option maxHeartbeats 4000000 in
theorem kq_X1 (l : Launch) (h : Nat) : kq l yX1_init wsX1_init ({ frames := 2, cells := 0, slots := 0, locals := 32 } : Room) h := by
  intro sz
  refine Met.ofW (cc := cX1_init) (maxL := 1) (ret := none) (by decide) rfl ?_
  intro p e s m args below meth c s₁ B hml hv
  obtain ⟨rfl, hsz, hB⟩ := hv
  subst hsz
  have hx := B.exec
  have hb := B.bytes
  have hr := B.returns
  have hts := atoms_spec (ws := wsX1_init) B.pre
  have hown : s.vm.findClass RX1 = some m.cls := findClass_of_methodNamed B.named
  have hlocks := B.notSynchronized
  have hin : meth.name = "<init>" := (name_of_methodNamed B.named B.method).1
  have hS : va_S (xk_A s.heap.size) s.heap s.heap [] := va_S.rf
  have hl := lv_entry ([.ref h]) (n := 1) (Nat.le_of_ble_eq_true rfl)
  rw [lg_entry_eq]
  generalize (lg_sl ([.ref h]) ++ List.replicate (1 - (lg_sl ([.ref h])).length) Slot.unset).toArray = ls at hl ⊢
  have hl : lv_has ls 1 [(0, .ref h)] := hl
  refine lv_aload_n hx hb dX1_init_0 rfl (lv_at hl 0 rfl) ?_
  refine va_callv (va_runIN (As := []) (rest := []) ⟨hx, hb, hml, hown, hts⟩ (kq_X8 l h s.heap.size) ⟨va_cnB 0 hts gX1_init_X8_init_n1 rfl rfl rfl (hB.nw (i := 10) rfl) (hts (.initialized RX8) (List.mem_of_getElem? (i := 2) rfl)) (by decide +kernel) ⟨Nat.le_of_ble_eq_true rfl, Nat.le_of_ble_eq_true rfl⟩, rfl, hts (.instanceMethod yX8_init) (List.mem_of_getElem? (i := 1) rfl)⟩ ⟨kq_blind, fun U hU hW => ⟨rfl, by rw [hU], hB.warm hW⟩⟩ rfl rfl hl.1 rfl (lv_room (Nat.le_of_ble_eq_true rfl)) dX1_init_1 ⟨Nat.zero_le _, Nat.zero_le _⟩) hS (fun q _ h => h) (fun q h => h) (fun u t H1 locs1 ht hvm hw hB1 hz1 hk1 hS => ?_)
  exact W.vret (Qc := va_Qv (fun _ : Unit => True) (fun _ _ => True) (xk_A s.heap.size)) hx hb hr (fun t ht hW => ⟨⟨(), rfl, trivial, trivial⟩, hS.F ht⟩) hS.2.2 dX1_init_4 hlocks
set_option maxRecDepth 100000 in
set_option maxHeartbeats 4000000 in
theorem kq_X0 (l : Launch) (h : Nat) : kq l yX0_init wsX0_init ({ frames := 2, cells := 0, slots := 0, locals := 32 } : Room) h := by
  intro sz
  refine Met.ofW (cc := cX0_init) (maxL := 1) (ret := none) (by decide) rfl ?_
  intro p e s m args below meth c s₁ B hml hv
  obtain ⟨rfl, hsz, hB⟩ := hv
  subst hsz
  have hx := B.exec
  have hb := B.bytes
  have hr := B.returns
  have hts := atoms_spec (ws := wsX0_init) B.pre
  have hown : s.vm.findClass RX0 = some m.cls := findClass_of_methodNamed B.named
  have hlocks := B.notSynchronized
  have hin : meth.name = "<init>" := (name_of_methodNamed B.named B.method).1
  have hS : va_S (xk_A s.heap.size) s.heap s.heap [] := va_S.rf
  have hl := lv_entry ([.ref h]) (n := 1) (Nat.le_of_ble_eq_true rfl)
  rw [lg_entry_eq]
  generalize (lg_sl ([.ref h]) ++ List.replicate (1 - (lg_sl ([.ref h])).length) Slot.unset).toArray = ls at hl ⊢
  have hl : lv_has ls 1 [(0, .ref h)] := hl
  refine lv_aload_n hx hb dX0_init_0 rfl (lv_at hl 0 rfl) ?_
  refine va_callv (va_runIN (As := []) (rest := []) ⟨hx, hb, hml, hown, hts⟩ (kq_X8 l h s.heap.size) ⟨va_cnB 0 hts gX0_init_X8_init_n1 rfl rfl rfl (hB.nw (i := 11) rfl) (hts (.initialized RX8) (List.mem_of_getElem? (i := 2) rfl)) (by decide +kernel) ⟨Nat.le_of_ble_eq_true rfl, Nat.le_of_ble_eq_true rfl⟩, rfl, hts (.instanceMethod yX8_init) (List.mem_of_getElem? (i := 1) rfl)⟩ ⟨kq_blind, fun U hU hW => ⟨rfl, by rw [hU], hB.warm hW⟩⟩ rfl rfl hl.1 rfl (lv_room (Nat.le_of_ble_eq_true rfl)) dX0_init_1 ⟨Nat.zero_le _, Nat.zero_le _⟩) hS (fun q _ h => h) (fun q h => h) (fun u t H1 locs1 ht hvm hw hB1 hz1 hk1 hS => ?_)
  exact W.vret (Qc := va_Qv (fun _ : Unit => True) (fun _ _ => True) (xk_A s.heap.size)) hx hb hr (fun t ht hW => ⟨⟨(), rfl, trivial, trivial⟩, hS.F ht⟩) hS.2.2 dX0_init_4 hlocks
set_option maxRecDepth 100000 in
set_option maxHeartbeats 4000000 in
theorem kq_X3 (l : Launch) (h : Nat) : kq l yX3_init wsX3_init ({ frames := 2, cells := 0, slots := 0, locals := 32 } : Room) h := by
  intro sz
  refine Met.ofW (cc := cX3_init) (maxL := 1) (ret := none) (by decide) rfl ?_
  intro p e s m args below meth c s₁ B hml hv
  obtain ⟨rfl, hsz, hB⟩ := hv
  subst hsz
  have hx := B.exec
  have hb := B.bytes
  have hr := B.returns
  have hts := atoms_spec (ws := wsX3_init) B.pre
  have hown : s.vm.findClass RX3 = some m.cls := findClass_of_methodNamed B.named
  have hlocks := B.notSynchronized
  have hin : meth.name = "<init>" := (name_of_methodNamed B.named B.method).1
  have hS : va_S (xk_A s.heap.size) s.heap s.heap [] := va_S.rf
  have hl := lv_entry ([.ref h]) (n := 1) (Nat.le_of_ble_eq_true rfl)
  rw [lg_entry_eq]
  generalize (lg_sl ([.ref h]) ++ List.replicate (1 - (lg_sl ([.ref h])).length) Slot.unset).toArray = ls at hl ⊢
  have hl : lv_has ls 1 [(0, .ref h)] := hl
  refine lv_aload_n hx hb dX3_init_0 rfl (lv_at hl 0 rfl) ?_
  refine va_callv (va_runIN (As := []) (rest := []) ⟨hx, hb, hml, hown, hts⟩ (kq_X8 l h s.heap.size) ⟨va_cnB 0 hts gX3_init_X8_init_n1 rfl rfl rfl (hB.nw (i := 12) rfl) (hts (.initialized RX8) (List.mem_of_getElem? (i := 2) rfl)) (by decide +kernel) ⟨Nat.le_of_ble_eq_true rfl, Nat.le_of_ble_eq_true rfl⟩, rfl, hts (.instanceMethod yX8_init) (List.mem_of_getElem? (i := 1) rfl)⟩ ⟨kq_blind, fun U hU hW => ⟨rfl, by rw [hU], hB.warm hW⟩⟩ rfl rfl hl.1 rfl (lv_room (Nat.le_of_ble_eq_true rfl)) dX3_init_1 ⟨Nat.zero_le _, Nat.zero_le _⟩) hS (fun q _ h => h) (fun q h => h) (fun u t H1 locs1 ht hvm hw hB1 hz1 hk1 hS => ?_)
  exact W.vret (Qc := va_Qv (fun _ : Unit => True) (fun _ _ => True) (xk_A s.heap.size)) hx hb hr (fun t ht hW => ⟨⟨(), rfl, trivial, trivial⟩, hS.F ht⟩) hS.2.2 dX3_init_4 hlocks
set_option maxRecDepth 100000 in
set_option maxHeartbeats 4000000 in
theorem kq_X6 (l : Launch) (h : Nat) : kq l yX6_init wsX6_init ({ frames := 3, cells := 0, slots := 0, locals := 52 } : Room) h := by
  intro sz
  refine Met.ofW (cc := cX6_init) (maxL := 1) (ret := none) (by decide) rfl ?_
  intro p e s m args below meth c s₁ B hml hv
  obtain ⟨rfl, hsz, hB⟩ := hv
  subst hsz
  have hx := B.exec
  have hb := B.bytes
  have hr := B.returns
  have hts := atoms_spec (ws := wsX6_init) B.pre
  have hown : s.vm.findClass RX6 = some m.cls := findClass_of_methodNamed B.named
  have hlocks := B.notSynchronized
  have hin : meth.name = "<init>" := (name_of_methodNamed B.named B.method).1
  have hS : va_S (xk_A s.heap.size) s.heap s.heap [] := va_S.rf
  have hl := lv_entry ([.ref h]) (n := 1) (Nat.le_of_ble_eq_true rfl)
  rw [lg_entry_eq]
  generalize (lg_sl ([.ref h]) ++ List.replicate (1 - (lg_sl ([.ref h])).length) Slot.unset).toArray = ls at hl ⊢
  have hl : lv_has ls 1 [(0, .ref h)] := hl
  refine lv_aload_n hx hb dX6_init_0 rfl (lv_at hl 0 rfl) ?_
  refine va_callv (va_runIN (As := []) (rest := []) ⟨hx, hb, hml, hown, hts⟩ (kq_X0 l h s.heap.size) ⟨va_cnB 0 hts gX6_init_X0_init_n1 rfl rfl rfl (hB.nw (i := 13) rfl) (hts (.initialized RX0) (List.mem_of_getElem? (i := 2) rfl)) (by decide +kernel) ⟨Nat.le_of_ble_eq_true rfl, Nat.le_of_ble_eq_true rfl⟩, rfl, hts (.instanceMethod yX0_init) (List.mem_of_getElem? (i := 1) rfl)⟩ ⟨kq_blind, fun U hU hW => ⟨rfl, by rw [hU], hB.warm hW⟩⟩ rfl rfl hl.1 rfl (lv_room (Nat.le_of_ble_eq_true rfl)) dX6_init_1 ⟨Nat.zero_le _, Nat.zero_le _⟩) hS (fun q _ h => h) (fun q h => h) (fun u t H1 locs1 ht hvm hw hB1 hz1 hk1 hS => ?_)
  exact W.vret (Qc := va_Qv (fun _ : Unit => True) (fun _ _ => True) (xk_A s.heap.size)) hx hb hr (fun t ht hW => ⟨⟨(), rfl, trivial, trivial⟩, hS.F ht⟩) hS.2.2 dX6_init_4 hlocks
set_option maxRecDepth 100000 in
set_option maxHeartbeats 4000000 in
theorem kq_X10 (l : Launch) (h : Nat) : kq l yX10_init wsX10_init ({ frames := 3, cells := 0, slots := 0, locals := 52 } : Room) h := by
  intro sz
  refine Met.ofW (cc := cX10_init) (maxL := 1) (ret := none) (by decide) rfl ?_
  intro p e s m args below meth c s₁ B hml hv
  obtain ⟨rfl, hsz, hB⟩ := hv
  subst hsz
  have hx := B.exec
  have hb := B.bytes
  have hr := B.returns
  have hts := atoms_spec (ws := wsX10_init) B.pre
  have hown : s.vm.findClass RX10 = some m.cls := findClass_of_methodNamed B.named
  have hlocks := B.notSynchronized
  have hin : meth.name = "<init>" := (name_of_methodNamed B.named B.method).1
  have hS : va_S (xk_A s.heap.size) s.heap s.heap [] := va_S.rf
  have hl := lv_entry ([.ref h]) (n := 1) (Nat.le_of_ble_eq_true rfl)
  rw [lg_entry_eq]
  generalize (lg_sl ([.ref h]) ++ List.replicate (1 - (lg_sl ([.ref h])).length) Slot.unset).toArray = ls at hl ⊢
  have hl : lv_has ls 1 [(0, .ref h)] := hl
  refine lv_aload_n hx hb dX10_init_0 rfl (lv_at hl 0 rfl) ?_
  refine va_callv (va_runIN (As := []) (rest := []) ⟨hx, hb, hml, hown, hts⟩ (kq_X1 l h s.heap.size) ⟨va_cnB 0 hts gX10_init_X1_init_n1 rfl rfl rfl (hB.nw (i := 14) rfl) (hts (.initialized RX1) (List.mem_of_getElem? (i := 2) rfl)) (by decide +kernel) ⟨Nat.le_of_ble_eq_true rfl, Nat.le_of_ble_eq_true rfl⟩, rfl, hts (.instanceMethod yX1_init) (List.mem_of_getElem? (i := 1) rfl)⟩ ⟨kq_blind, fun U hU hW => ⟨rfl, by rw [hU], hB.warm hW⟩⟩ rfl rfl hl.1 rfl (lv_room (Nat.le_of_ble_eq_true rfl)) dX10_init_1 ⟨Nat.zero_le _, Nat.zero_le _⟩) hS (fun q _ h => h) (fun q h => h) (fun u t H1 locs1 ht hvm hw hB1 hz1 hk1 hS => ?_)
  exact W.vret (Qc := va_Qv (fun _ : Unit => True) (fun _ _ => True) (xk_A s.heap.size)) hx hb hr (fun t ht hW => ⟨⟨(), rfl, trivial, trivial⟩, hS.F ht⟩) hS.2.2 dX10_init_4 hlocks
set_option maxRecDepth 100000 in
set_option maxHeartbeats 4000000 in
theorem kq_X5 (l : Launch) (h : Nat) : kq l yX5_init wsX5_init ({ frames := 3, cells := 0, slots := 0, locals := 52 } : Room) h := by
  intro sz
  refine Met.ofW (cc := cX5_init) (maxL := 1) (ret := none) (by decide) rfl ?_
  intro p e s m args below meth c s₁ B hml hv
  obtain ⟨rfl, hsz, hB⟩ := hv
  subst hsz
  have hx := B.exec
  have hb := B.bytes
  have hr := B.returns
  have hts := atoms_spec (ws := wsX5_init) B.pre
  have hown : s.vm.findClass RX5 = some m.cls := findClass_of_methodNamed B.named
  have hlocks := B.notSynchronized
  have hin : meth.name = "<init>" := (name_of_methodNamed B.named B.method).1
  have hS : va_S (xk_A s.heap.size) s.heap s.heap [] := va_S.rf
  have hl := lv_entry ([.ref h]) (n := 1) (Nat.le_of_ble_eq_true rfl)
  rw [lg_entry_eq]
  generalize (lg_sl ([.ref h]) ++ List.replicate (1 - (lg_sl ([.ref h])).length) Slot.unset).toArray = ls at hl ⊢
  have hl : lv_has ls 1 [(0, .ref h)] := hl
  refine lv_aload_n hx hb dX5_init_0 rfl (lv_at hl 0 rfl) ?_
  refine va_callv (va_runIN (As := []) (rest := []) ⟨hx, hb, hml, hown, hts⟩ (kq_X3 l h s.heap.size) ⟨va_cnB 0 hts gX5_init_X3_init_n1 rfl rfl rfl (hB.nw (i := 15) rfl) (hts (.initialized RX3) (List.mem_of_getElem? (i := 2) rfl)) (by decide +kernel) ⟨Nat.le_of_ble_eq_true rfl, Nat.le_of_ble_eq_true rfl⟩, rfl, hts (.instanceMethod yX3_init) (List.mem_of_getElem? (i := 1) rfl)⟩ ⟨kq_blind, fun U hU hW => ⟨rfl, by rw [hU], hB.warm hW⟩⟩ rfl rfl hl.1 rfl (lv_room (Nat.le_of_ble_eq_true rfl)) dX5_init_1 ⟨Nat.zero_le _, Nat.zero_le _⟩) hS (fun q _ h => h) (fun q h => h) (fun u t H1 locs1 ht hvm hw hB1 hz1 hk1 hS => ?_)
  exact W.vret (Qc := va_Qv (fun _ : Unit => True) (fun _ _ => True) (xk_A s.heap.size)) hx hb hr (fun t ht hW => ⟨⟨(), rfl, trivial, trivial⟩, hS.F ht⟩) hS.2.2 dX5_init_4 hlocks
set_option maxRecDepth 100000 in
set_option maxHeartbeats 4000000 in
theorem kq_X2 (l : Launch) (h : Nat) : kq l yX2_init wsX2_init ({ frames := 4, cells := 0, slots := 0, locals := 72 } : Room) h := by
  intro sz
  refine Met.ofW (cc := cX2_init) (maxL := 1) (ret := none) (by decide) rfl ?_
  intro p e s m args below meth c s₁ B hml hv
  obtain ⟨rfl, hsz, hB⟩ := hv
  subst hsz
  have hx := B.exec
  have hb := B.bytes
  have hr := B.returns
  have hts := atoms_spec (ws := wsX2_init) B.pre
  have hown : s.vm.findClass RX2 = some m.cls := findClass_of_methodNamed B.named
  have hlocks := B.notSynchronized
  have hin : meth.name = "<init>" := (name_of_methodNamed B.named B.method).1
  have hS : va_S (xk_A s.heap.size) s.heap s.heap [] := va_S.rf
  have hl := lv_entry ([.ref h]) (n := 1) (Nat.le_of_ble_eq_true rfl)
  rw [lg_entry_eq]
  generalize (lg_sl ([.ref h]) ++ List.replicate (1 - (lg_sl ([.ref h])).length) Slot.unset).toArray = ls at hl ⊢
  have hl : lv_has ls 1 [(0, .ref h)] := hl
  refine lv_aload_n hx hb dX2_init_0 rfl (lv_at hl 0 rfl) ?_
  refine va_callv (va_runIN (As := []) (rest := []) ⟨hx, hb, hml, hown, hts⟩ (kq_X6 l h s.heap.size) ⟨va_cnB 0 hts gX2_init_X6_init_n1 rfl rfl rfl (hB.nw (i := 16) rfl) (hts (.initialized RX6) (List.mem_of_getElem? (i := 2) rfl)) (by decide +kernel) ⟨Nat.le_of_ble_eq_true rfl, Nat.le_of_ble_eq_true rfl⟩, rfl, hts (.instanceMethod yX6_init) (List.mem_of_getElem? (i := 1) rfl)⟩ ⟨kq_blind, fun U hU hW => ⟨rfl, by rw [hU], hB.warm hW⟩⟩ rfl rfl hl.1 rfl (lv_room (Nat.le_of_ble_eq_true rfl)) dX2_init_1 ⟨Nat.zero_le _, Nat.zero_le _⟩) hS (fun q _ h => h) (fun q h => h) (fun u t H1 locs1 ht hvm hw hB1 hz1 hk1 hS => ?_)
  exact W.vret (Qc := va_Qv (fun _ : Unit => True) (fun _ _ => True) (xk_A s.heap.size)) hx hb hr (fun t ht hW => ⟨⟨(), rfl, trivial, trivial⟩, hS.F ht⟩) hS.2.2 dX2_init_4 hlocks
theorem in_X7_init_X7 : ∀ w ∈ wsX70, w ∈ wsX7_init := by decide +kernel
def ctS (cI : ClassId) (h q : Nat) : va_W := [(h, .inr (7, [.int 0, .int 0, .int 0, .int 0, .int 0, .ref q])), (q, .inl (cI, 100, .inl (fun _ => 0)))]
set_option maxRecDepth 100000 in
set_option maxHeartbeats 8000000 in
theorem ct_X7 (l : Launch) (D : va_G) (cI cT cS : ClassId) (h : Nat) : ct l yX7_init wsX7_init ({ frames := 1, cells := 1, slots := 100, locals := 12 } : Room) D [(cI, .int), (cT, .object "LetByTheBirds$Tenant"), (cS, .object "LetByTheBirds$Shelf")] [.ref h] (h, .inr (7, [.int 0, .int 0, .int 0, .int 0, .int 0, .null])) (fun _ : Nat => True) (fun q => ctS cI h q) 1 100 := by
  intro sz
  refine Met.ofW (cc := cX7_init) (maxL := 1) (ret := none) (by decide) rfl ?_
  intro p e s m args below meth c s₁ B hml hv
  obtain ⟨rfl, hsz, hP, hK, hD0, hB⟩ := hv
  subst hsz
  have hx := B.exec
  have hb := B.bytes
  have hr := B.returns
  have hts := atoms_spec (ws := wsX7_init) B.pre
  have hown : s.vm.findClass RX7 = some m.cls := findClass_of_methodNamed B.named
  have hlocks := B.notSynchronized
  have hin : meth.name = "<init>" := (name_of_methodNamed B.named B.method).1
  have hD := hD0.self (sz := s.heap.size)
  generalize hAe : va_A [(h, .inr (7, [.int 0, .int 0, .int 0, .int 0, .int 0, .null]))] s.heap.size = A at hD ⊢
  have hA : ∀ q : Nat, s.heap.size ≤ q → A q := fun q h => by rw [← hAe]; exact Or.inr h
  have hS : va_S A s.heap s.heap [] := va_S.rf
  have hl := lv_entry ([.ref h]) (n := 1) (Nat.le_of_ble_eq_true rfl)
  rw [lg_entry_eq]
  generalize (lg_sl ([.ref h]) ++ List.replicate (1 - (lg_sl ([.ref h])).length) Slot.unset).toArray = ls at hl ⊢
  have hl : lv_has ls 1 [(0, .ref h)] := hl
  refine lv_aload_n hx hb dX7_init_0 rfl (lv_at hl 0 rfl) ?_
  refine W.objInit hx hb hown (hts (.methodLink RX7 3 objectInit) (List.mem_of_getElem? (i := 1) rfl)) (hts (.instanceMethod objectInit) (List.mem_of_getElem? (i := 2) rfl)) (hts (.code objectInit ⟨#[0xb1]⟩ 1 none) (List.mem_of_getElem? (i := 3) rfl)) rfl (by rw [hml]; exact hl.1) rfl dX7_init_1 (Nat.le_of_ble_eq_true rfl) (Nat.le_of_ble_eq_true rfl) ?_
  refine W.eq (g2 := F0 m 4 ls []) rfl ?_
  refine lv_aload_n hx hb dX7_init_4 rfl (lv_at hl 0 rfl) ?_
  refine lv_iconst (v := (0 : Int32)) hx hb dX7_init_5 (by decide) ?_
  refine va_put (D := D) (ci := 7) (v := .int 0) (ty := .int) (C := RX7) (T := TX7) (N := 6) hx hb hts in_X7_init_X7 tyX7 tyX7_ok nmX7 hown hK hP hD hS 0 rfl rfl 0 (by decide) (hts (.fieldLink RX7 11 "LetByTheBirds$Shelf" "holds" "I") (List.mem_of_getElem? (i := 4) rfl)) (fun _ h9 => h9) rfl (by decide +kernel) rfl rfl (Nat.le_of_ble_eq_true rfl) dX7_init_6 (fun H locs hP hD hS => ?_)
  have hP : va_P D vwCl [(h, .inr (7, [.int 0, .int 0, .int 0, .int 0, .int 0, .null]))] H := hP
  have hD : va_D A [(h, .inr (7, [.int 0, .int 0, .int 0, .int 0, .int 0, .null]))] := hD
  refine lv_aload_n hx hb dX7_init_9 rfl (lv_at hl 0 rfl) ?_
  refine lv_iconst (v := (0 : Int32)) hx hb dX7_init_10 (by decide) ?_
  refine va_put (D := D) (ci := 7) (v := .int 0) (ty := .int) (C := RX7) (T := TX7) (N := 6) hx hb hts in_X7_init_X7 tyX7 tyX7_ok nmX7 hown hK hP hD hS 0 rfl rfl 1 (by decide) (hts (.fieldLink RX7 15 "LetByTheBirds$Shelf" "kind" "I") (List.mem_of_getElem? (i := 5) rfl)) (fun _ h9 => h9) rfl (by decide +kernel) rfl rfl (Nat.le_of_ble_eq_true rfl) dX7_init_11 (fun H locs hP hD hS => ?_)
  have hP : va_P D vwCl [(h, .inr (7, [.int 0, .int 0, .int 0, .int 0, .int 0, .null]))] H := hP
  have hD : va_D A [(h, .inr (7, [.int 0, .int 0, .int 0, .int 0, .int 0, .null]))] := hD
  refine lv_aload_n hx hb dX7_init_14 rfl (lv_at hl 0 rfl) ?_
  refine lv_iconst (v := (0 : Int32)) hx hb dX7_init_15 (by decide) ?_
  refine va_put (D := D) (ci := 7) (v := .int 0) (ty := .int) (C := RX7) (T := TX7) (N := 6) hx hb hts in_X7_init_X7 tyX7 tyX7_ok nmX7 hown hK hP hD hS 0 rfl rfl 2 (by decide) (hts (.fieldLink RX7 18 "LetByTheBirds$Shelf" "figure" "I") (List.mem_of_getElem? (i := 6) rfl)) (fun _ h9 => h9) rfl (by decide +kernel) rfl rfl (Nat.le_of_ble_eq_true rfl) dX7_init_16 (fun H locs hP hD hS => ?_)
  have hP : va_P D vwCl [(h, .inr (7, [.int 0, .int 0, .int 0, .int 0, .int 0, .null]))] H := hP
  have hD : va_D A [(h, .inr (7, [.int 0, .int 0, .int 0, .int 0, .int 0, .null]))] := hD
  refine lv_aload_n hx hb dX7_init_19 rfl (lv_at hl 0 rfl) ?_
  refine lv_iconst (v := (0 : Int32)) hx hb dX7_init_20 (by decide) ?_
  refine va_put (D := D) (ci := 7) (v := .int 0) (ty := .int) (C := RX7) (T := TX7) (N := 6) hx hb hts in_X7_init_X7 tyX7 tyX7_ok nmX7 hown hK hP hD hS 0 rfl rfl 3 (by decide) (hts (.fieldLink RX7 21 "LetByTheBirds$Shelf" "sort" "I") (List.mem_of_getElem? (i := 7) rfl)) (fun _ h9 => h9) rfl (by decide +kernel) rfl rfl (Nat.le_of_ble_eq_true rfl) dX7_init_21 (fun H locs hP hD hS => ?_)
  have hP : va_P D vwCl [(h, .inr (7, [.int 0, .int 0, .int 0, .int 0, .int 0, .null]))] H := hP
  have hD : va_D A [(h, .inr (7, [.int 0, .int 0, .int 0, .int 0, .int 0, .null]))] := hD
  refine lv_aload_n hx hb dX7_init_24 rfl (lv_at hl 0 rfl) ?_
  refine lv_iconst (v := (0 : Int32)) hx hb dX7_init_25 (by decide) ?_
  refine va_put (D := D) (ci := 7) (v := .int 0) (ty := .int) (C := RX7) (T := TX7) (N := 6) hx hb hts in_X7_init_X7 tyX7 tyX7_ok nmX7 hown hK hP hD hS 0 rfl rfl 4 (by decide) (hts (.fieldLink RX7 24 "LetByTheBirds$Shelf" "size" "I") (List.mem_of_getElem? (i := 8) rfl)) (fun _ h9 => h9) rfl (by decide +kernel) rfl rfl (Nat.le_of_ble_eq_true rfl) dX7_init_26 (fun H locs hP hD hS => ?_)
  have hP : va_P D vwCl [(h, .inr (7, [.int 0, .int 0, .int 0, .int 0, .int 0, .null]))] H := hP
  have hD : va_D A [(h, .inr (7, [.int 0, .int 0, .int 0, .int 0, .int 0, .null]))] := hD
  refine lv_aload_n hx hb dX7_init_29 rfl (lv_at hl 0 rfl) ?_
  refine lv_bipush (v := (100 : Int32)) hx hb dX7_init_30 (by decide) ?_
  refine ck_newI hx hb (hts (.arrayClass .int) (List.mem_of_getElem? (i := 9) rfl)) hK 0 rfl hP hD hS hA (N' := 100) (by decide) (by decide) (by decide) (Nat.le_of_ble_eq_true rfl) (Nat.le_of_ble_eq_true rfl) dX7_init_32 (fun q H hP hD hS => ?_)
  have hP : va_P D vwCl [(h, .inr (7, [.int 0, .int 0, .int 0, .int 0, .int 0, .null])), (q, .inl (cI, 100, .inl (fun _ => 0)))] H := hP
  have hD : va_D A [(h, .inr (7, [.int 0, .int 0, .int 0, .int 0, .int 0, .null])), (q, .inl (cI, 100, .inl (fun _ => 0)))] := hD
  refine va_putF (D := D) (ci := 7) (v := .ref q) (ty := .array .int) (C := RX7) (T := TX7) (N := 6) hx hb hts in_X7_init_X7 tyX7 tyX7_ok nmX7 hown hK hP hD hS 0 rfl rfl 5 (by decide) (hts (.fieldLink RX7 27 "LetByTheBirds$Shelf" "elements" "[I") (List.mem_of_getElem? (i := 10) rfl)) (fun _ h9 => h9) rfl hin rfl (by decide +kernel) rfl rfl (Nat.le_of_ble_eq_true rfl) dX7_init_34 (fun H locs hP hD hS => ?_)
  have hP : va_P D vwCl (ctS cI h q) H := hP
  have hD : va_D A (ctS cI h q) := hD
  exact W.vret (Qc := va_Qv (fun _ : Nat => True) (fun u t => va_P D vwCl (ctS cI h u) t.heap ∧ va_D A (ctS cI h u)) A) hx hb hr (fun t ht hW => ⟨⟨q, rfl, trivial, by rw [ht]; exact hP, hD⟩, hS.F ht⟩) hS.2.2 dX7_init_37 hlocks
theorem in_X4_init_X4 : ∀ w ∈ wsX40, w ∈ wsX4_init := by decide +kernel
def ctI (cI cT : ClassId) (h : Nat) (q kd : Nat → Nat) : va_W := [(h, .inr (4, [.ref (q 0), .ref (q 1), .ref (q 2), .ref (q 3), .ref (q 4), .int 0, .int 0, .int 40, .int 3, .int 0])), (q 0, .inl (cT, 8, .inr (.inr (.inr (.inr (fun k => some (kd k))))))), (q 1, .inl (cI, 7, .inl (fun _ => 0))), (q 2, .inl (cI, 7, .inl (fun _ => 0))), (q 3, .inl (cI, 7, .inl (fun _ => 0))), (q 4, .inl (cI, 7, .inl (fun _ => 0))), (kd 0, .inr (8, [])), (kd 1, .inr (1, [])), (kd 2, .inr (0, [])), (kd 3, .inr (3, [])), (kd 4, .inr (6, [])), (kd 5, .inr (9, [])), (kd 6, .inr (5, [])), (kd 7, .inr (2, []))]
/-- what a row of references holds, told place by place -/
theorem ct_row {D : va_G} {cl : List vw_C} {H : Heap} {a : Nat} {cA : ClassId} {n : Nat} {f g : Nat → Option Nat} {X Y : va_W} (hP : va_P D cl (X ++ (a, .inl (cA, n, .inr (.inr (.inr (.inr f))))) :: Y) H) (h : ∀ j, j < n → f j = g j) : va_P D cl (X ++ (a, .inl (cA, n, .inr (.inr (.inr (.inr g))))) :: Y) H := by
  have hPw := hk_P.mp hP
  refine hk_P.mpr (fun q hq => ?_)
  rcases List.mem_append.mp hq with hq | hq
  · exact hPw q (List.mem_append_left _ hq)
  · rcases List.mem_cons.mp hq with rfl | hq
    · have h1 : H[a]? = some (arrV cA n (fun j => va_rf (f j))) := hPw _ (List.mem_append_right _ List.mem_cons_self)
      show H[a]? = some (arrV cA n (fun j => va_rf (g j)))
      rw [h1]
      unfold arrV
      rw [show (fun j : Fin n => va_rf (f j.val)) = (fun j : Fin n => va_rf (g j.val)) from funext (fun j => by rw [h j.val j.isLt])]
    · exact hPw q (List.mem_append_right _ (List.mem_cons_of_mem _ hq))
theorem ct_rowD {A : Nat → Prop} {a : Nat} {e e' : va_E} {X Y : va_W} (hD : va_D A (X ++ (a, e) :: Y)) : va_D A (X ++ (a, e') :: Y) := by
  have hd := hk_D.mp hD
  refine hk_D.mpr ⟨by simpa using hd.1, fun q hq => ?_⟩
  rcases List.mem_append.mp hq with hq | hq
  · exact hd.2 q (List.mem_append_left _ hq)
  · rcases List.mem_cons.mp hq with rfl | hq
    · exact hd.2 (a, e) (List.mem_append_right _ List.mem_cons_self)
    · exact hd.2 q (List.mem_append_right _ (List.mem_cons_of_mem _ hq))
set_option maxRecDepth 100000 in
set_option maxHeartbeats 16000000 in
theorem ct_X4 (l : Launch) (D : va_G) (cI cT cS : ClassId) (h : Nat) : ct l yX4_init wsX4_init ({ frames := 5, cells := 13, slots := 36, locals := 92 } : Room) D [(cI, .int), (cT, .object "LetByTheBirds$Tenant"), (cS, .object "LetByTheBirds$Shelf")] [.ref h] (h, .inr (4, [.null, .null, .null, .null, .null, .int 0, .int 0, .int 0, .int 0, .int 0])) (fun _ : (Nat → Nat) × (Nat → Nat) => True) (fun u => ctI cI cT h u.1 u.2) 13 36 := by
  intro sz
  refine Met.ofW (cc := cX4_init) (maxL := 1) (ret := none) (by decide) rfl ?_
  intro p e s m args below meth c s₁ B hml hv
  obtain ⟨rfl, hsz, hP, hK, hD0, hB⟩ := hv
  subst hsz
  have hx := B.exec
  have hb := B.bytes
  have hr := B.returns
  have hts := atoms_spec (ws := wsX4_init) B.pre
  have hown : s.vm.findClass RX4 = some m.cls := findClass_of_methodNamed B.named
  have hlocks := B.notSynchronized
  have hin : meth.name = "<init>" := (name_of_methodNamed B.named B.method).1
  have hD := hD0.self (sz := s.heap.size)
  generalize hAe : va_A [(h, .inr (4, [.null, .null, .null, .null, .null, .int 0, .int 0, .int 0, .int 0, .int 0]))] s.heap.size = A at hD ⊢
  have hA : ∀ q : Nat, s.heap.size ≤ q → A q := fun q h => by rw [← hAe]; exact Or.inr h
  have hS : va_S A s.heap s.heap [] := va_S.rf
  have hl := lv_entry ([.ref h]) (n := 1) (Nat.le_of_ble_eq_true rfl)
  rw [lg_entry_eq]
  generalize (lg_sl ([.ref h]) ++ List.replicate (1 - (lg_sl ([.ref h])).length) Slot.unset).toArray = ls at hl ⊢
  have hl : lv_has ls 1 [(0, .ref h)] := hl
  refine lv_aload_n hx hb dX4_init_0 rfl (lv_at hl 0 rfl) ?_
  refine W.objInit hx hb hown (hts (.methodLink RX4 3 objectInit) (List.mem_of_getElem? (i := 1) rfl)) (hts (.instanceMethod objectInit) (List.mem_of_getElem? (i := 2) rfl)) (hts (.code objectInit ⟨#[0xb1]⟩ 1 none) (List.mem_of_getElem? (i := 3) rfl)) rfl (by rw [hml]; exact hl.1) rfl dX4_init_1 (Nat.le_of_ble_eq_true rfl) (Nat.le_of_ble_eq_true rfl) ?_
  refine W.eq (g2 := F0 m 4 ls []) rfl ?_
  refine lv_aload_n hx hb dX4_init_4 rfl (lv_at hl 0 rfl) ?_
  refine lv_bipush (v := (8 : Int32)) hx hb dX4_init_5 (by decide) ?_
  refine ck_newQ (C := "LetByTheBirds$Tenant") hx hb hown (hts (.classLink RX4 9 RX8) (List.mem_of_getElem? (i := 4) rfl)) hB.2.1 hK 1 rfl hP hD hS hA (N' := 8) (by decide) (by decide) (by decide) (Nat.le_of_ble_eq_true rfl) (Nat.le_of_ble_eq_true rfl) dX4_init_7 (fun qa H hP hD hS => ?_)
  obtain ⟨f0, hf0⟩ : ∃ f : Nat → Option Nat, f = fun _ => none := ⟨_, rfl⟩
  rw [← hf0] at hP hD
  have hP : va_P D vwCl [(h, .inr (4, [.null, .null, .null, .null, .null, .int 0, .int 0, .int 0, .int 0, .int 0])), (qa, .inl (cT, 8, .inr (.inr (.inr (.inr f0)))))] H := hP
  have hD : va_D A [(h, .inr (4, [.null, .null, .null, .null, .null, .int 0, .int 0, .int 0, .int 0, .int 0])), (qa, .inl (cT, 8, .inr (.inr (.inr (.inr f0)))))] := hD
  refine lv_dup hx hb dX4_init_10 rfl ?_
  refine lv_iconst (v := (0 : Int32)) hx hb dX4_init_11 (by decide) ?_
  refine va_new (ci := 8) (fs := []) (C := RX8) (T := TX8) (N := 0) hx hb hts (fun w hw => nomatch hw) tyX8 tyX8_ok hown (hts (.classLink RX4 9 RX8) (List.mem_of_getElem? (i := 4) rfl)) (hts (.instantiable RX8 0) (List.mem_of_getElem? (i := 5) rfl)) (hts (.initialized RX8) (List.mem_of_getElem? (i := 6) rfl)) hK hP hD hS hA rfl (fun j hj => absurd hj (Nat.not_lt_zero j)) (Nat.le_of_ble_eq_true rfl) (Nat.le_of_ble_eq_true rfl) dX4_init_12 (fun k0 H hP hD hS => ?_)
  have hP : va_P D vwCl [(h, .inr (4, [.null, .null, .null, .null, .null, .int 0, .int 0, .int 0, .int 0, .int 0])), (qa, .inl (cT, 8, .inr (.inr (.inr (.inr f0))))), (k0, .inr (8, []))] H := hP
  have hD : va_D A [(h, .inr (4, [.null, .null, .null, .null, .null, .int 0, .int 0, .int 0, .int 0, .int 0])), (qa, .inl (cT, 8, .inr (.inr (.inr (.inr f0))))), (k0, .inr (8, []))] := hD
  refine lv_dup hx hb dX4_init_15 rfl ?_
  refine ct_call0 (va_runIN (As := []) (rest := [.ref k0, .int 0, .ref qa, .ref qa, .ref h]) ⟨hx, hb, hml, hown, hts⟩ (kq_X8 l k0 H.size) ⟨va_cnB 0 hts gX4_init_X8_init_n11 rfl rfl rfl (hB.nw (i := 2) rfl) (hts (.initialized RX8) (List.mem_of_getElem? (i := 6) rfl)) (by decide +kernel) ⟨Nat.le_of_ble_eq_true rfl, Nat.le_of_ble_eq_true rfl⟩, rfl, hts (.instanceMethod yX8_init) (List.mem_of_getElem? (i := 39) rfl)⟩ ⟨kq_blind, fun U hU hW => ⟨rfl, by rw [hU], hB.warm hW⟩⟩ rfl rfl hl.1 rfl (lv_room (Nat.le_of_ble_eq_true rfl)) dX4_init_16 ⟨Nat.le_of_ble_eq_true rfl, Nat.le_of_ble_eq_true rfl⟩) hP hS hA (fun H locs hP hS => ?_)
  refine va_astq hx hb hK hP hD hS 1 1 2 8 rfl rfl rfl rfl (show vp_in (0 : Int32) 8 by unfold vp_in; decide) dX4_init_19 (fun H locs hP hD hS => ?_)
  obtain ⟨f1, hf1⟩ : ∃ f : Nat → Option Nat, f = va_up f0 (0 : Int32).toNatClampNeg (some k0) := ⟨_, rfl⟩
  rw [← hf1] at hP hD
  have hP : va_P D vwCl [(h, .inr (4, [.null, .null, .null, .null, .null, .int 0, .int 0, .int 0, .int 0, .int 0])), (qa, .inl (cT, 8, .inr (.inr (.inr (.inr f1))))), (k0, .inr (8, []))] H := hP
  have hD : va_D A [(h, .inr (4, [.null, .null, .null, .null, .null, .int 0, .int 0, .int 0, .int 0, .int 0])), (qa, .inl (cT, 8, .inr (.inr (.inr (.inr f1))))), (k0, .inr (8, []))] := hD
  refine lv_dup hx hb dX4_init_20 rfl ?_
  refine lv_iconst (v := (1 : Int32)) hx hb dX4_init_21 (by decide) ?_
  refine va_new (ci := 1) (fs := []) (C := RX1) (T := TX1) (N := 0) hx hb hts (fun w hw => nomatch hw) tyX1 tyX1_ok hown (hts (.classLink RX4 12 RX1) (List.mem_of_getElem? (i := 7) rfl)) (hts (.instantiable RX1 0) (List.mem_of_getElem? (i := 8) rfl)) (hts (.initialized RX1) (List.mem_of_getElem? (i := 9) rfl)) hK hP hD hS hA rfl (fun j hj => absurd hj (Nat.not_lt_zero j)) (Nat.le_of_ble_eq_true rfl) (Nat.le_of_ble_eq_true rfl) dX4_init_22 (fun k1 H hP hD hS => ?_)
  have hP : va_P D vwCl [(h, .inr (4, [.null, .null, .null, .null, .null, .int 0, .int 0, .int 0, .int 0, .int 0])), (qa, .inl (cT, 8, .inr (.inr (.inr (.inr f1))))), (k0, .inr (8, [])), (k1, .inr (1, []))] H := hP
  have hD : va_D A [(h, .inr (4, [.null, .null, .null, .null, .null, .int 0, .int 0, .int 0, .int 0, .int 0])), (qa, .inl (cT, 8, .inr (.inr (.inr (.inr f1))))), (k0, .inr (8, [])), (k1, .inr (1, []))] := hD
  refine lv_dup hx hb dX4_init_25 rfl ?_
  refine ct_call0 (va_runIN (As := []) (rest := [.ref k1, .int 1, .ref qa, .ref qa, .ref h]) ⟨hx, hb, hml, hown, hts⟩ (kq_X1 l k1 H.size) ⟨va_cnB 0 hts gX4_init_X1_init_n14 rfl rfl rfl (hB.nw (i := 3) rfl) (hts (.initialized RX1) (List.mem_of_getElem? (i := 9) rfl)) (by decide +kernel) ⟨Nat.le_of_ble_eq_true rfl, Nat.le_of_ble_eq_true rfl⟩, rfl, hts (.instanceMethod yX1_init) (List.mem_of_getElem? (i := 42) rfl)⟩ ⟨kq_blind, fun U hU hW => ⟨rfl, by rw [hU], hB.warm hW⟩⟩ rfl rfl hl.1 rfl (lv_room (Nat.le_of_ble_eq_true rfl)) dX4_init_26 ⟨Nat.le_of_ble_eq_true rfl, Nat.le_of_ble_eq_true rfl⟩) hP hS hA (fun H locs hP hS => ?_)
  refine va_astqO hx hb hK hP hD hS 1 1 3 1 (r := (RX1, TX1, 0)) rfl rfl (hB.nw (i := 17) rfl) rfl rfl (show vp_in (1 : Int32) 8 by unfold vp_in; decide) dX4_init_29 (fun H locs hP hD hS => ?_)
  obtain ⟨f2, hf2⟩ : ∃ f : Nat → Option Nat, f = va_up f1 (1 : Int32).toNatClampNeg (some k1) := ⟨_, rfl⟩
  rw [← hf2] at hP hD
  have hP : va_P D vwCl [(h, .inr (4, [.null, .null, .null, .null, .null, .int 0, .int 0, .int 0, .int 0, .int 0])), (qa, .inl (cT, 8, .inr (.inr (.inr (.inr f2))))), (k0, .inr (8, [])), (k1, .inr (1, []))] H := hP
  have hD : va_D A [(h, .inr (4, [.null, .null, .null, .null, .null, .int 0, .int 0, .int 0, .int 0, .int 0])), (qa, .inl (cT, 8, .inr (.inr (.inr (.inr f2))))), (k0, .inr (8, [])), (k1, .inr (1, []))] := hD
  refine lv_dup hx hb dX4_init_30 rfl ?_
  refine lv_iconst (v := (2 : Int32)) hx hb dX4_init_31 (by decide) ?_
  refine va_new (ci := 0) (fs := []) (C := RX0) (T := TX0) (N := 0) hx hb hts (fun w hw => nomatch hw) tyX0 tyX0_ok hown (hts (.classLink RX4 15 RX0) (List.mem_of_getElem? (i := 10) rfl)) (hts (.instantiable RX0 0) (List.mem_of_getElem? (i := 11) rfl)) (hts (.initialized RX0) (List.mem_of_getElem? (i := 12) rfl)) hK hP hD hS hA rfl (fun j hj => absurd hj (Nat.not_lt_zero j)) (Nat.le_of_ble_eq_true rfl) (Nat.le_of_ble_eq_true rfl) dX4_init_32 (fun k2 H hP hD hS => ?_)
  have hP : va_P D vwCl [(h, .inr (4, [.null, .null, .null, .null, .null, .int 0, .int 0, .int 0, .int 0, .int 0])), (qa, .inl (cT, 8, .inr (.inr (.inr (.inr f2))))), (k0, .inr (8, [])), (k1, .inr (1, [])), (k2, .inr (0, []))] H := hP
  have hD : va_D A [(h, .inr (4, [.null, .null, .null, .null, .null, .int 0, .int 0, .int 0, .int 0, .int 0])), (qa, .inl (cT, 8, .inr (.inr (.inr (.inr f2))))), (k0, .inr (8, [])), (k1, .inr (1, [])), (k2, .inr (0, []))] := hD
  refine lv_dup hx hb dX4_init_35 rfl ?_
  refine ct_call0 (va_runIN (As := []) (rest := [.ref k2, .int 2, .ref qa, .ref qa, .ref h]) ⟨hx, hb, hml, hown, hts⟩ (kq_X0 l k2 H.size) ⟨va_cnB 0 hts gX4_init_X0_init_n17 rfl rfl rfl (hB.nw (i := 4) rfl) (hts (.initialized RX0) (List.mem_of_getElem? (i := 12) rfl)) (by decide +kernel) ⟨Nat.le_of_ble_eq_true rfl, Nat.le_of_ble_eq_true rfl⟩, rfl, hts (.instanceMethod yX0_init) (List.mem_of_getElem? (i := 44) rfl)⟩ ⟨kq_blind, fun U hU hW => ⟨rfl, by rw [hU], hB.warm hW⟩⟩ rfl rfl hl.1 rfl (lv_room (Nat.le_of_ble_eq_true rfl)) dX4_init_36 ⟨Nat.le_of_ble_eq_true rfl, Nat.le_of_ble_eq_true rfl⟩) hP hS hA (fun H locs hP hS => ?_)
  refine va_astqO hx hb hK hP hD hS 1 1 4 0 (r := (RX0, TX0, 0)) rfl rfl (hB.nw (i := 18) rfl) rfl rfl (show vp_in (2 : Int32) 8 by unfold vp_in; decide) dX4_init_39 (fun H locs hP hD hS => ?_)
  obtain ⟨f3, hf3⟩ : ∃ f : Nat → Option Nat, f = va_up f2 (2 : Int32).toNatClampNeg (some k2) := ⟨_, rfl⟩
  rw [← hf3] at hP hD
  have hP : va_P D vwCl [(h, .inr (4, [.null, .null, .null, .null, .null, .int 0, .int 0, .int 0, .int 0, .int 0])), (qa, .inl (cT, 8, .inr (.inr (.inr (.inr f3))))), (k0, .inr (8, [])), (k1, .inr (1, [])), (k2, .inr (0, []))] H := hP
  have hD : va_D A [(h, .inr (4, [.null, .null, .null, .null, .null, .int 0, .int 0, .int 0, .int 0, .int 0])), (qa, .inl (cT, 8, .inr (.inr (.inr (.inr f3))))), (k0, .inr (8, [])), (k1, .inr (1, [])), (k2, .inr (0, []))] := hD
  refine lv_dup hx hb dX4_init_40 rfl ?_
  refine lv_iconst (v := (3 : Int32)) hx hb dX4_init_41 (by decide) ?_
  refine va_new (ci := 3) (fs := []) (C := RX3) (T := TX3) (N := 0) hx hb hts (fun w hw => nomatch hw) tyX3 tyX3_ok hown (hts (.classLink RX4 18 RX3) (List.mem_of_getElem? (i := 13) rfl)) (hts (.instantiable RX3 0) (List.mem_of_getElem? (i := 14) rfl)) (hts (.initialized RX3) (List.mem_of_getElem? (i := 15) rfl)) hK hP hD hS hA rfl (fun j hj => absurd hj (Nat.not_lt_zero j)) (Nat.le_of_ble_eq_true rfl) (Nat.le_of_ble_eq_true rfl) dX4_init_42 (fun k3 H hP hD hS => ?_)
  have hP : va_P D vwCl [(h, .inr (4, [.null, .null, .null, .null, .null, .int 0, .int 0, .int 0, .int 0, .int 0])), (qa, .inl (cT, 8, .inr (.inr (.inr (.inr f3))))), (k0, .inr (8, [])), (k1, .inr (1, [])), (k2, .inr (0, [])), (k3, .inr (3, []))] H := hP
  have hD : va_D A [(h, .inr (4, [.null, .null, .null, .null, .null, .int 0, .int 0, .int 0, .int 0, .int 0])), (qa, .inl (cT, 8, .inr (.inr (.inr (.inr f3))))), (k0, .inr (8, [])), (k1, .inr (1, [])), (k2, .inr (0, [])), (k3, .inr (3, []))] := hD
  refine lv_dup hx hb dX4_init_45 rfl ?_
  refine ct_call0 (va_runIN (As := []) (rest := [.ref k3, .int 3, .ref qa, .ref qa, .ref h]) ⟨hx, hb, hml, hown, hts⟩ (kq_X3 l k3 H.size) ⟨va_cnB 0 hts gX4_init_X3_init_n20 rfl rfl rfl (hB.nw (i := 5) rfl) (hts (.initialized RX3) (List.mem_of_getElem? (i := 15) rfl)) (by decide +kernel) ⟨Nat.le_of_ble_eq_true rfl, Nat.le_of_ble_eq_true rfl⟩, rfl, hts (.instanceMethod yX3_init) (List.mem_of_getElem? (i := 46) rfl)⟩ ⟨kq_blind, fun U hU hW => ⟨rfl, by rw [hU], hB.warm hW⟩⟩ rfl rfl hl.1 rfl (lv_room (Nat.le_of_ble_eq_true rfl)) dX4_init_46 ⟨Nat.le_of_ble_eq_true rfl, Nat.le_of_ble_eq_true rfl⟩) hP hS hA (fun H locs hP hS => ?_)
  refine va_astqO hx hb hK hP hD hS 1 1 5 3 (r := (RX3, TX3, 0)) rfl rfl (hB.nw (i := 19) rfl) rfl rfl (show vp_in (3 : Int32) 8 by unfold vp_in; decide) dX4_init_49 (fun H locs hP hD hS => ?_)
  obtain ⟨f4, hf4⟩ : ∃ f : Nat → Option Nat, f = va_up f3 (3 : Int32).toNatClampNeg (some k3) := ⟨_, rfl⟩
  rw [← hf4] at hP hD
  have hP : va_P D vwCl [(h, .inr (4, [.null, .null, .null, .null, .null, .int 0, .int 0, .int 0, .int 0, .int 0])), (qa, .inl (cT, 8, .inr (.inr (.inr (.inr f4))))), (k0, .inr (8, [])), (k1, .inr (1, [])), (k2, .inr (0, [])), (k3, .inr (3, []))] H := hP
  have hD : va_D A [(h, .inr (4, [.null, .null, .null, .null, .null, .int 0, .int 0, .int 0, .int 0, .int 0])), (qa, .inl (cT, 8, .inr (.inr (.inr (.inr f4))))), (k0, .inr (8, [])), (k1, .inr (1, [])), (k2, .inr (0, [])), (k3, .inr (3, []))] := hD
  refine lv_dup hx hb dX4_init_50 rfl ?_
  refine lv_iconst (v := (4 : Int32)) hx hb dX4_init_51 (by decide) ?_
  refine va_new (ci := 6) (fs := []) (C := RX6) (T := TX6) (N := 0) hx hb hts (fun w hw => nomatch hw) tyX6 tyX6_ok hown (hts (.classLink RX4 21 RX6) (List.mem_of_getElem? (i := 16) rfl)) (hts (.instantiable RX6 0) (List.mem_of_getElem? (i := 17) rfl)) (hts (.initialized RX6) (List.mem_of_getElem? (i := 18) rfl)) hK hP hD hS hA rfl (fun j hj => absurd hj (Nat.not_lt_zero j)) (Nat.le_of_ble_eq_true rfl) (Nat.le_of_ble_eq_true rfl) dX4_init_52 (fun k4 H hP hD hS => ?_)
  have hP : va_P D vwCl [(h, .inr (4, [.null, .null, .null, .null, .null, .int 0, .int 0, .int 0, .int 0, .int 0])), (qa, .inl (cT, 8, .inr (.inr (.inr (.inr f4))))), (k0, .inr (8, [])), (k1, .inr (1, [])), (k2, .inr (0, [])), (k3, .inr (3, [])), (k4, .inr (6, []))] H := hP
  have hD : va_D A [(h, .inr (4, [.null, .null, .null, .null, .null, .int 0, .int 0, .int 0, .int 0, .int 0])), (qa, .inl (cT, 8, .inr (.inr (.inr (.inr f4))))), (k0, .inr (8, [])), (k1, .inr (1, [])), (k2, .inr (0, [])), (k3, .inr (3, [])), (k4, .inr (6, []))] := hD
  refine lv_dup hx hb dX4_init_55 rfl ?_
  refine ct_call0 (va_runIN (As := []) (rest := [.ref k4, .int 4, .ref qa, .ref qa, .ref h]) ⟨hx, hb, hml, hown, hts⟩ (kq_X6 l k4 H.size) ⟨va_cnB 0 hts gX4_init_X6_init_n23 rfl rfl rfl (hB.nw (i := 6) rfl) (hts (.initialized RX6) (List.mem_of_getElem? (i := 18) rfl)) (by decide +kernel) ⟨Nat.le_of_ble_eq_true rfl, Nat.le_of_ble_eq_true rfl⟩, rfl, hts (.instanceMethod yX6_init) (List.mem_of_getElem? (i := 48) rfl)⟩ ⟨kq_blind, fun U hU hW => ⟨rfl, by rw [hU], hB.warm hW⟩⟩ rfl rfl hl.1 rfl (lv_room (Nat.le_of_ble_eq_true rfl)) dX4_init_56 ⟨Nat.le_of_ble_eq_true rfl, Nat.le_of_ble_eq_true rfl⟩) hP hS hA (fun H locs hP hS => ?_)
  refine va_astqO hx hb hK hP hD hS 1 1 6 6 (r := (RX6, TX6, 0)) rfl rfl (hB.nw (i := 20) rfl) rfl rfl (show vp_in (4 : Int32) 8 by unfold vp_in; decide) dX4_init_59 (fun H locs hP hD hS => ?_)
  obtain ⟨f5, hf5⟩ : ∃ f : Nat → Option Nat, f = va_up f4 (4 : Int32).toNatClampNeg (some k4) := ⟨_, rfl⟩
  rw [← hf5] at hP hD
  have hP : va_P D vwCl [(h, .inr (4, [.null, .null, .null, .null, .null, .int 0, .int 0, .int 0, .int 0, .int 0])), (qa, .inl (cT, 8, .inr (.inr (.inr (.inr f5))))), (k0, .inr (8, [])), (k1, .inr (1, [])), (k2, .inr (0, [])), (k3, .inr (3, [])), (k4, .inr (6, []))] H := hP
  have hD : va_D A [(h, .inr (4, [.null, .null, .null, .null, .null, .int 0, .int 0, .int 0, .int 0, .int 0])), (qa, .inl (cT, 8, .inr (.inr (.inr (.inr f5))))), (k0, .inr (8, [])), (k1, .inr (1, [])), (k2, .inr (0, [])), (k3, .inr (3, [])), (k4, .inr (6, []))] := hD
  refine lv_dup hx hb dX4_init_60 rfl ?_
  refine lv_iconst (v := (5 : Int32)) hx hb dX4_init_61 (by decide) ?_
  refine va_new (ci := 9) (fs := []) (C := RX10) (T := TX10) (N := 0) hx hb hts (fun w hw => nomatch hw) tyX10 tyX10_ok hown (hts (.classLink RX4 24 RX10) (List.mem_of_getElem? (i := 19) rfl)) (hts (.instantiable RX10 0) (List.mem_of_getElem? (i := 20) rfl)) (hts (.initialized RX10) (List.mem_of_getElem? (i := 21) rfl)) hK hP hD hS hA rfl (fun j hj => absurd hj (Nat.not_lt_zero j)) (Nat.le_of_ble_eq_true rfl) (Nat.le_of_ble_eq_true rfl) dX4_init_62 (fun k5 H hP hD hS => ?_)
  have hP : va_P D vwCl [(h, .inr (4, [.null, .null, .null, .null, .null, .int 0, .int 0, .int 0, .int 0, .int 0])), (qa, .inl (cT, 8, .inr (.inr (.inr (.inr f5))))), (k0, .inr (8, [])), (k1, .inr (1, [])), (k2, .inr (0, [])), (k3, .inr (3, [])), (k4, .inr (6, [])), (k5, .inr (9, []))] H := hP
  have hD : va_D A [(h, .inr (4, [.null, .null, .null, .null, .null, .int 0, .int 0, .int 0, .int 0, .int 0])), (qa, .inl (cT, 8, .inr (.inr (.inr (.inr f5))))), (k0, .inr (8, [])), (k1, .inr (1, [])), (k2, .inr (0, [])), (k3, .inr (3, [])), (k4, .inr (6, [])), (k5, .inr (9, []))] := hD
  refine lv_dup hx hb dX4_init_65 rfl ?_
  refine ct_call0 (va_runIN (As := []) (rest := [.ref k5, .int 5, .ref qa, .ref qa, .ref h]) ⟨hx, hb, hml, hown, hts⟩ (kq_X10 l k5 H.size) ⟨va_cnB 0 hts gX4_init_X10_init_n26 rfl rfl rfl (hB.nw (i := 7) rfl) (hts (.initialized RX10) (List.mem_of_getElem? (i := 21) rfl)) (by decide +kernel) ⟨Nat.le_of_ble_eq_true rfl, Nat.le_of_ble_eq_true rfl⟩, rfl, hts (.instanceMethod yX10_init) (List.mem_of_getElem? (i := 50) rfl)⟩ ⟨kq_blind, fun U hU hW => ⟨rfl, by rw [hU], hB.warm hW⟩⟩ rfl rfl hl.1 rfl (lv_room (Nat.le_of_ble_eq_true rfl)) dX4_init_66 ⟨Nat.le_of_ble_eq_true rfl, Nat.le_of_ble_eq_true rfl⟩) hP hS hA (fun H locs hP hS => ?_)
  refine va_astqO hx hb hK hP hD hS 1 1 7 9 (r := (RX10, TX10, 0)) rfl rfl (hB.nw (i := 21) rfl) rfl rfl (show vp_in (5 : Int32) 8 by unfold vp_in; decide) dX4_init_69 (fun H locs hP hD hS => ?_)
  obtain ⟨f6, hf6⟩ : ∃ f : Nat → Option Nat, f = va_up f5 (5 : Int32).toNatClampNeg (some k5) := ⟨_, rfl⟩
  rw [← hf6] at hP hD
  have hP : va_P D vwCl [(h, .inr (4, [.null, .null, .null, .null, .null, .int 0, .int 0, .int 0, .int 0, .int 0])), (qa, .inl (cT, 8, .inr (.inr (.inr (.inr f6))))), (k0, .inr (8, [])), (k1, .inr (1, [])), (k2, .inr (0, [])), (k3, .inr (3, [])), (k4, .inr (6, [])), (k5, .inr (9, []))] H := hP
  have hD : va_D A [(h, .inr (4, [.null, .null, .null, .null, .null, .int 0, .int 0, .int 0, .int 0, .int 0])), (qa, .inl (cT, 8, .inr (.inr (.inr (.inr f6))))), (k0, .inr (8, [])), (k1, .inr (1, [])), (k2, .inr (0, [])), (k3, .inr (3, [])), (k4, .inr (6, [])), (k5, .inr (9, []))] := hD
  refine lv_dup hx hb dX4_init_70 rfl ?_
  refine lv_bipush (v := (6 : Int32)) hx hb dX4_init_71 (by decide) ?_
  refine va_new (ci := 5) (fs := []) (C := RX5) (T := TX5) (N := 0) hx hb hts (fun w hw => nomatch hw) tyX5 tyX5_ok hown (hts (.classLink RX4 27 RX5) (List.mem_of_getElem? (i := 22) rfl)) (hts (.instantiable RX5 0) (List.mem_of_getElem? (i := 23) rfl)) (hts (.initialized RX5) (List.mem_of_getElem? (i := 24) rfl)) hK hP hD hS hA rfl (fun j hj => absurd hj (Nat.not_lt_zero j)) (Nat.le_of_ble_eq_true rfl) (Nat.le_of_ble_eq_true rfl) dX4_init_73 (fun k6 H hP hD hS => ?_)
  have hP : va_P D vwCl [(h, .inr (4, [.null, .null, .null, .null, .null, .int 0, .int 0, .int 0, .int 0, .int 0])), (qa, .inl (cT, 8, .inr (.inr (.inr (.inr f6))))), (k0, .inr (8, [])), (k1, .inr (1, [])), (k2, .inr (0, [])), (k3, .inr (3, [])), (k4, .inr (6, [])), (k5, .inr (9, [])), (k6, .inr (5, []))] H := hP
  have hD : va_D A [(h, .inr (4, [.null, .null, .null, .null, .null, .int 0, .int 0, .int 0, .int 0, .int 0])), (qa, .inl (cT, 8, .inr (.inr (.inr (.inr f6))))), (k0, .inr (8, [])), (k1, .inr (1, [])), (k2, .inr (0, [])), (k3, .inr (3, [])), (k4, .inr (6, [])), (k5, .inr (9, [])), (k6, .inr (5, []))] := hD
  refine lv_dup hx hb dX4_init_76 rfl ?_
  refine ct_call0 (va_runIN (As := []) (rest := [.ref k6, .int 6, .ref qa, .ref qa, .ref h]) ⟨hx, hb, hml, hown, hts⟩ (kq_X5 l k6 H.size) ⟨va_cnB 0 hts gX4_init_X5_init_n29 rfl rfl rfl (hB.nw (i := 8) rfl) (hts (.initialized RX5) (List.mem_of_getElem? (i := 24) rfl)) (by decide +kernel) ⟨Nat.le_of_ble_eq_true rfl, Nat.le_of_ble_eq_true rfl⟩, rfl, hts (.instanceMethod yX5_init) (List.mem_of_getElem? (i := 52) rfl)⟩ ⟨kq_blind, fun U hU hW => ⟨rfl, by rw [hU], hB.warm hW⟩⟩ rfl rfl hl.1 rfl (lv_room (Nat.le_of_ble_eq_true rfl)) dX4_init_77 ⟨Nat.le_of_ble_eq_true rfl, Nat.le_of_ble_eq_true rfl⟩) hP hS hA (fun H locs hP hS => ?_)
  refine va_astqO hx hb hK hP hD hS 1 1 8 5 (r := (RX5, TX5, 0)) rfl rfl (hB.nw (i := 22) rfl) rfl rfl (show vp_in (6 : Int32) 8 by unfold vp_in; decide) dX4_init_80 (fun H locs hP hD hS => ?_)
  obtain ⟨f7, hf7⟩ : ∃ f : Nat → Option Nat, f = va_up f6 (6 : Int32).toNatClampNeg (some k6) := ⟨_, rfl⟩
  rw [← hf7] at hP hD
  have hP : va_P D vwCl [(h, .inr (4, [.null, .null, .null, .null, .null, .int 0, .int 0, .int 0, .int 0, .int 0])), (qa, .inl (cT, 8, .inr (.inr (.inr (.inr f7))))), (k0, .inr (8, [])), (k1, .inr (1, [])), (k2, .inr (0, [])), (k3, .inr (3, [])), (k4, .inr (6, [])), (k5, .inr (9, [])), (k6, .inr (5, []))] H := hP
  have hD : va_D A [(h, .inr (4, [.null, .null, .null, .null, .null, .int 0, .int 0, .int 0, .int 0, .int 0])), (qa, .inl (cT, 8, .inr (.inr (.inr (.inr f7))))), (k0, .inr (8, [])), (k1, .inr (1, [])), (k2, .inr (0, [])), (k3, .inr (3, [])), (k4, .inr (6, [])), (k5, .inr (9, [])), (k6, .inr (5, []))] := hD
  refine lv_dup hx hb dX4_init_81 rfl ?_
  refine lv_bipush (v := (7 : Int32)) hx hb dX4_init_82 (by decide) ?_
  refine va_new (ci := 2) (fs := []) (C := RX2) (T := TX2) (N := 0) hx hb hts (fun w hw => nomatch hw) tyX2 tyX2_ok hown (hts (.classLink RX4 30 RX2) (List.mem_of_getElem? (i := 25) rfl)) (hts (.instantiable RX2 0) (List.mem_of_getElem? (i := 26) rfl)) (hts (.initialized RX2) (List.mem_of_getElem? (i := 27) rfl)) hK hP hD hS hA rfl (fun j hj => absurd hj (Nat.not_lt_zero j)) (Nat.le_of_ble_eq_true rfl) (Nat.le_of_ble_eq_true rfl) dX4_init_84 (fun k7 H hP hD hS => ?_)
  have hP : va_P D vwCl [(h, .inr (4, [.null, .null, .null, .null, .null, .int 0, .int 0, .int 0, .int 0, .int 0])), (qa, .inl (cT, 8, .inr (.inr (.inr (.inr f7))))), (k0, .inr (8, [])), (k1, .inr (1, [])), (k2, .inr (0, [])), (k3, .inr (3, [])), (k4, .inr (6, [])), (k5, .inr (9, [])), (k6, .inr (5, [])), (k7, .inr (2, []))] H := hP
  have hD : va_D A [(h, .inr (4, [.null, .null, .null, .null, .null, .int 0, .int 0, .int 0, .int 0, .int 0])), (qa, .inl (cT, 8, .inr (.inr (.inr (.inr f7))))), (k0, .inr (8, [])), (k1, .inr (1, [])), (k2, .inr (0, [])), (k3, .inr (3, [])), (k4, .inr (6, [])), (k5, .inr (9, [])), (k6, .inr (5, [])), (k7, .inr (2, []))] := hD
  refine lv_dup hx hb dX4_init_87 rfl ?_
  refine ct_call0 (va_runIN (As := []) (rest := [.ref k7, .int 7, .ref qa, .ref qa, .ref h]) ⟨hx, hb, hml, hown, hts⟩ (kq_X2 l k7 H.size) ⟨va_cnB 0 hts gX4_init_X2_init_n32 rfl rfl rfl (hB.nw (i := 9) rfl) (hts (.initialized RX2) (List.mem_of_getElem? (i := 27) rfl)) (by decide +kernel) ⟨Nat.le_of_ble_eq_true rfl, Nat.le_of_ble_eq_true rfl⟩, rfl, hts (.instanceMethod yX2_init) (List.mem_of_getElem? (i := 54) rfl)⟩ ⟨kq_blind, fun U hU hW => ⟨rfl, by rw [hU], hB.warm hW⟩⟩ rfl rfl hl.1 rfl (lv_room (Nat.le_of_ble_eq_true rfl)) dX4_init_88 ⟨Nat.le_of_ble_eq_true rfl, Nat.le_of_ble_eq_true rfl⟩) hP hS hA (fun H locs hP hS => ?_)
  refine va_astqO hx hb hK hP hD hS 1 1 9 2 (r := (RX2, TX2, 0)) rfl rfl (hB.nw (i := 23) rfl) rfl rfl (show vp_in (7 : Int32) 8 by unfold vp_in; decide) dX4_init_91 (fun H locs hP hD hS => ?_)
  obtain ⟨f8, hf8⟩ : ∃ f : Nat → Option Nat, f = va_up f7 (7 : Int32).toNatClampNeg (some k7) := ⟨_, rfl⟩
  rw [← hf8] at hP hD
  have hP : va_P D vwCl [(h, .inr (4, [.null, .null, .null, .null, .null, .int 0, .int 0, .int 0, .int 0, .int 0])), (qa, .inl (cT, 8, .inr (.inr (.inr (.inr f8))))), (k0, .inr (8, [])), (k1, .inr (1, [])), (k2, .inr (0, [])), (k3, .inr (3, [])), (k4, .inr (6, [])), (k5, .inr (9, [])), (k6, .inr (5, [])), (k7, .inr (2, []))] H := hP
  have hD : va_D A [(h, .inr (4, [.null, .null, .null, .null, .null, .int 0, .int 0, .int 0, .int 0, .int 0])), (qa, .inl (cT, 8, .inr (.inr (.inr (.inr f8))))), (k0, .inr (8, [])), (k1, .inr (1, [])), (k2, .inr (0, [])), (k3, .inr (3, [])), (k4, .inr (6, [])), (k5, .inr (9, [])), (k6, .inr (5, [])), (k7, .inr (2, []))] := hD
  refine va_putF (D := D) (ci := 4) (v := .ref qa) (ty := .array (.object "LetByTheBirds$Tenant")) (C := RX4) (T := TX4) (N := 10) hx hb hts in_X4_init_X4 tyX4 tyX4_ok nmX4 hown hK hP hD hS 0 rfl rfl 0 (by decide) (hts (.fieldLink RX4 33 "LetByTheBirds$Isle" "kinds" "[LLetByTheBirds$Tenant;") (List.mem_of_getElem? (i := 28) rfl)) (fun _ h9 => h9) rfl hin rfl (by decide +kernel) rfl rfl (Nat.le_of_ble_eq_true rfl) dX4_init_92 (fun H locs hP hD hS => ?_)
  have hP : va_P D vwCl [(h, .inr (4, [.ref qa, .null, .null, .null, .null, .int 0, .int 0, .int 0, .int 0, .int 0])), (qa, .inl (cT, 8, .inr (.inr (.inr (.inr f8))))), (k0, .inr (8, [])), (k1, .inr (1, [])), (k2, .inr (0, [])), (k3, .inr (3, [])), (k4, .inr (6, [])), (k5, .inr (9, [])), (k6, .inr (5, [])), (k7, .inr (2, []))] H := hP
  have hD : va_D A [(h, .inr (4, [.ref qa, .null, .null, .null, .null, .int 0, .int 0, .int 0, .int 0, .int 0])), (qa, .inl (cT, 8, .inr (.inr (.inr (.inr f8))))), (k0, .inr (8, [])), (k1, .inr (1, [])), (k2, .inr (0, [])), (k3, .inr (3, [])), (k4, .inr (6, [])), (k5, .inr (9, [])), (k6, .inr (5, [])), (k7, .inr (2, []))] := hD
  refine W.widen (k := 9) (n := 8) (Nat.le_of_ble_eq_true rfl) (Nat.le_of_ble_eq_true rfl) ?_
  refine lv_aload_n hx hb dX4_init_95 rfl (lv_at hl 0 rfl) ?_
  refine lv_bipush (v := (7 : Int32)) hx hb dX4_init_96 (by decide) ?_
  refine ck_newI hx hb (hts (.arrayClass .int) (List.mem_of_getElem? (i := 29) rfl)) hK 0 rfl hP hD hS hA (N' := 7) (by decide) (by decide) (by decide) (Nat.le_of_ble_eq_true rfl) (Nat.le_of_ble_eq_true rfl) dX4_init_98 (fun a0 H hP hD hS => ?_)
  have hP : va_P D vwCl [(h, .inr (4, [.ref qa, .null, .null, .null, .null, .int 0, .int 0, .int 0, .int 0, .int 0])), (qa, .inl (cT, 8, .inr (.inr (.inr (.inr f8))))), (k0, .inr (8, [])), (k1, .inr (1, [])), (k2, .inr (0, [])), (k3, .inr (3, [])), (k4, .inr (6, [])), (k5, .inr (9, [])), (k6, .inr (5, [])), (k7, .inr (2, [])), (a0, .inl (cI, 7, .inl (fun _ => 0)))] H := hP
  have hD : va_D A [(h, .inr (4, [.ref qa, .null, .null, .null, .null, .int 0, .int 0, .int 0, .int 0, .int 0])), (qa, .inl (cT, 8, .inr (.inr (.inr (.inr f8))))), (k0, .inr (8, [])), (k1, .inr (1, [])), (k2, .inr (0, [])), (k3, .inr (3, [])), (k4, .inr (6, [])), (k5, .inr (9, [])), (k6, .inr (5, [])), (k7, .inr (2, [])), (a0, .inl (cI, 7, .inl (fun _ => 0)))] := hD
  refine va_putF (D := D) (ci := 4) (v := .ref a0) (ty := .array .int) (C := RX4) (T := TX4) (N := 10) hx hb hts in_X4_init_X4 tyX4 tyX4_ok nmX4 hown hK hP hD hS 0 rfl rfl 1 (by decide) (hts (.fieldLink RX4 39 "LetByTheBirds$Isle" "kind" "[I") (List.mem_of_getElem? (i := 30) rfl)) (fun _ h9 => h9) rfl hin rfl (by decide +kernel) rfl rfl (Nat.le_of_ble_eq_true rfl) dX4_init_100 (fun H locs hP hD hS => ?_)
  have hP : va_P D vwCl [(h, .inr (4, [.ref qa, .ref a0, .null, .null, .null, .int 0, .int 0, .int 0, .int 0, .int 0])), (qa, .inl (cT, 8, .inr (.inr (.inr (.inr f8))))), (k0, .inr (8, [])), (k1, .inr (1, [])), (k2, .inr (0, [])), (k3, .inr (3, [])), (k4, .inr (6, [])), (k5, .inr (9, [])), (k6, .inr (5, [])), (k7, .inr (2, [])), (a0, .inl (cI, 7, .inl (fun _ => 0)))] H := hP
  have hD : va_D A [(h, .inr (4, [.ref qa, .ref a0, .null, .null, .null, .int 0, .int 0, .int 0, .int 0, .int 0])), (qa, .inl (cT, 8, .inr (.inr (.inr (.inr f8))))), (k0, .inr (8, [])), (k1, .inr (1, [])), (k2, .inr (0, [])), (k3, .inr (3, [])), (k4, .inr (6, [])), (k5, .inr (9, [])), (k6, .inr (5, [])), (k7, .inr (2, [])), (a0, .inl (cI, 7, .inl (fun _ => 0)))] := hD
  refine lv_aload_n hx hb dX4_init_103 rfl (lv_at hl 0 rfl) ?_
  refine lv_bipush (v := (7 : Int32)) hx hb dX4_init_104 (by decide) ?_
  refine ck_newI hx hb (hts (.arrayClass .int) (List.mem_of_getElem? (i := 29) rfl)) hK 0 rfl hP hD hS hA (N' := 7) (by decide) (by decide) (by decide) (Nat.le_of_ble_eq_true rfl) (Nat.le_of_ble_eq_true rfl) dX4_init_106 (fun a1 H hP hD hS => ?_)
  have hP : va_P D vwCl [(h, .inr (4, [.ref qa, .ref a0, .null, .null, .null, .int 0, .int 0, .int 0, .int 0, .int 0])), (qa, .inl (cT, 8, .inr (.inr (.inr (.inr f8))))), (k0, .inr (8, [])), (k1, .inr (1, [])), (k2, .inr (0, [])), (k3, .inr (3, [])), (k4, .inr (6, [])), (k5, .inr (9, [])), (k6, .inr (5, [])), (k7, .inr (2, [])), (a0, .inl (cI, 7, .inl (fun _ => 0))), (a1, .inl (cI, 7, .inl (fun _ => 0)))] H := hP
  have hD : va_D A [(h, .inr (4, [.ref qa, .ref a0, .null, .null, .null, .int 0, .int 0, .int 0, .int 0, .int 0])), (qa, .inl (cT, 8, .inr (.inr (.inr (.inr f8))))), (k0, .inr (8, [])), (k1, .inr (1, [])), (k2, .inr (0, [])), (k3, .inr (3, [])), (k4, .inr (6, [])), (k5, .inr (9, [])), (k6, .inr (5, [])), (k7, .inr (2, [])), (a0, .inl (cI, 7, .inl (fun _ => 0))), (a1, .inl (cI, 7, .inl (fun _ => 0)))] := hD
  refine va_putF (D := D) (ci := 4) (v := .ref a1) (ty := .array .int) (C := RX4) (T := TX4) (N := 10) hx hb hts in_X4_init_X4 tyX4 tyX4_ok nmX4 hown hK hP hD hS 0 rfl rfl 2 (by decide) (hts (.fieldLink RX4 43 "LetByTheBirds$Isle" "figure" "[I") (List.mem_of_getElem? (i := 31) rfl)) (fun _ h9 => h9) rfl hin rfl (by decide +kernel) rfl rfl (Nat.le_of_ble_eq_true rfl) dX4_init_108 (fun H locs hP hD hS => ?_)
  have hP : va_P D vwCl [(h, .inr (4, [.ref qa, .ref a0, .ref a1, .null, .null, .int 0, .int 0, .int 0, .int 0, .int 0])), (qa, .inl (cT, 8, .inr (.inr (.inr (.inr f8))))), (k0, .inr (8, [])), (k1, .inr (1, [])), (k2, .inr (0, [])), (k3, .inr (3, [])), (k4, .inr (6, [])), (k5, .inr (9, [])), (k6, .inr (5, [])), (k7, .inr (2, [])), (a0, .inl (cI, 7, .inl (fun _ => 0))), (a1, .inl (cI, 7, .inl (fun _ => 0)))] H := hP
  have hD : va_D A [(h, .inr (4, [.ref qa, .ref a0, .ref a1, .null, .null, .int 0, .int 0, .int 0, .int 0, .int 0])), (qa, .inl (cT, 8, .inr (.inr (.inr (.inr f8))))), (k0, .inr (8, [])), (k1, .inr (1, [])), (k2, .inr (0, [])), (k3, .inr (3, [])), (k4, .inr (6, [])), (k5, .inr (9, [])), (k6, .inr (5, [])), (k7, .inr (2, [])), (a0, .inl (cI, 7, .inl (fun _ => 0))), (a1, .inl (cI, 7, .inl (fun _ => 0)))] := hD
  refine lv_aload_n hx hb dX4_init_111 rfl (lv_at hl 0 rfl) ?_
  refine lv_bipush (v := (7 : Int32)) hx hb dX4_init_112 (by decide) ?_
  refine ck_newI hx hb (hts (.arrayClass .int) (List.mem_of_getElem? (i := 29) rfl)) hK 0 rfl hP hD hS hA (N' := 7) (by decide) (by decide) (by decide) (Nat.le_of_ble_eq_true rfl) (Nat.le_of_ble_eq_true rfl) dX4_init_114 (fun a2 H hP hD hS => ?_)
  have hP : va_P D vwCl [(h, .inr (4, [.ref qa, .ref a0, .ref a1, .null, .null, .int 0, .int 0, .int 0, .int 0, .int 0])), (qa, .inl (cT, 8, .inr (.inr (.inr (.inr f8))))), (k0, .inr (8, [])), (k1, .inr (1, [])), (k2, .inr (0, [])), (k3, .inr (3, [])), (k4, .inr (6, [])), (k5, .inr (9, [])), (k6, .inr (5, [])), (k7, .inr (2, [])), (a0, .inl (cI, 7, .inl (fun _ => 0))), (a1, .inl (cI, 7, .inl (fun _ => 0))), (a2, .inl (cI, 7, .inl (fun _ => 0)))] H := hP
  have hD : va_D A [(h, .inr (4, [.ref qa, .ref a0, .ref a1, .null, .null, .int 0, .int 0, .int 0, .int 0, .int 0])), (qa, .inl (cT, 8, .inr (.inr (.inr (.inr f8))))), (k0, .inr (8, [])), (k1, .inr (1, [])), (k2, .inr (0, [])), (k3, .inr (3, [])), (k4, .inr (6, [])), (k5, .inr (9, [])), (k6, .inr (5, [])), (k7, .inr (2, [])), (a0, .inl (cI, 7, .inl (fun _ => 0))), (a1, .inl (cI, 7, .inl (fun _ => 0))), (a2, .inl (cI, 7, .inl (fun _ => 0)))] := hD
  refine va_putF (D := D) (ci := 4) (v := .ref a2) (ty := .array .int) (C := RX4) (T := TX4) (N := 10) hx hb hts in_X4_init_X4 tyX4 tyX4_ok nmX4 hown hK hP hD hS 0 rfl rfl 3 (by decide) (hts (.fieldLink RX4 46 "LetByTheBirds$Isle" "store" "[I") (List.mem_of_getElem? (i := 32) rfl)) (fun _ h9 => h9) rfl hin rfl (by decide +kernel) rfl rfl (Nat.le_of_ble_eq_true rfl) dX4_init_116 (fun H locs hP hD hS => ?_)
  have hP : va_P D vwCl [(h, .inr (4, [.ref qa, .ref a0, .ref a1, .ref a2, .null, .int 0, .int 0, .int 0, .int 0, .int 0])), (qa, .inl (cT, 8, .inr (.inr (.inr (.inr f8))))), (k0, .inr (8, [])), (k1, .inr (1, [])), (k2, .inr (0, [])), (k3, .inr (3, [])), (k4, .inr (6, [])), (k5, .inr (9, [])), (k6, .inr (5, [])), (k7, .inr (2, [])), (a0, .inl (cI, 7, .inl (fun _ => 0))), (a1, .inl (cI, 7, .inl (fun _ => 0))), (a2, .inl (cI, 7, .inl (fun _ => 0)))] H := hP
  have hD : va_D A [(h, .inr (4, [.ref qa, .ref a0, .ref a1, .ref a2, .null, .int 0, .int 0, .int 0, .int 0, .int 0])), (qa, .inl (cT, 8, .inr (.inr (.inr (.inr f8))))), (k0, .inr (8, [])), (k1, .inr (1, [])), (k2, .inr (0, [])), (k3, .inr (3, [])), (k4, .inr (6, [])), (k5, .inr (9, [])), (k6, .inr (5, [])), (k7, .inr (2, [])), (a0, .inl (cI, 7, .inl (fun _ => 0))), (a1, .inl (cI, 7, .inl (fun _ => 0))), (a2, .inl (cI, 7, .inl (fun _ => 0)))] := hD
  refine lv_aload_n hx hb dX4_init_119 rfl (lv_at hl 0 rfl) ?_
  refine lv_bipush (v := (7 : Int32)) hx hb dX4_init_120 (by decide) ?_
  refine ck_newI hx hb (hts (.arrayClass .int) (List.mem_of_getElem? (i := 29) rfl)) hK 0 rfl hP hD hS hA (N' := 7) (by decide) (by decide) (by decide) (Nat.le_of_ble_eq_true rfl) (Nat.le_of_ble_eq_true rfl) dX4_init_122 (fun a3 H hP hD hS => ?_)
  have hP : va_P D vwCl [(h, .inr (4, [.ref qa, .ref a0, .ref a1, .ref a2, .null, .int 0, .int 0, .int 0, .int 0, .int 0])), (qa, .inl (cT, 8, .inr (.inr (.inr (.inr f8))))), (k0, .inr (8, [])), (k1, .inr (1, [])), (k2, .inr (0, [])), (k3, .inr (3, [])), (k4, .inr (6, [])), (k5, .inr (9, [])), (k6, .inr (5, [])), (k7, .inr (2, [])), (a0, .inl (cI, 7, .inl (fun _ => 0))), (a1, .inl (cI, 7, .inl (fun _ => 0))), (a2, .inl (cI, 7, .inl (fun _ => 0))), (a3, .inl (cI, 7, .inl (fun _ => 0)))] H := hP
  have hD : va_D A [(h, .inr (4, [.ref qa, .ref a0, .ref a1, .ref a2, .null, .int 0, .int 0, .int 0, .int 0, .int 0])), (qa, .inl (cT, 8, .inr (.inr (.inr (.inr f8))))), (k0, .inr (8, [])), (k1, .inr (1, [])), (k2, .inr (0, [])), (k3, .inr (3, [])), (k4, .inr (6, [])), (k5, .inr (9, [])), (k6, .inr (5, [])), (k7, .inr (2, [])), (a0, .inl (cI, 7, .inl (fun _ => 0))), (a1, .inl (cI, 7, .inl (fun _ => 0))), (a2, .inl (cI, 7, .inl (fun _ => 0))), (a3, .inl (cI, 7, .inl (fun _ => 0)))] := hD
  refine va_putF (D := D) (ci := 4) (v := .ref a3) (ty := .array .int) (C := RX4) (T := TX4) (N := 10) hx hb hts in_X4_init_X4 tyX4 tyX4_ok nmX4 hown hK hP hD hS 0 rfl rfl 4 (by decide) (hts (.fieldLink RX4 49 "LetByTheBirds$Isle" "warnings" "[I") (List.mem_of_getElem? (i := 33) rfl)) (fun _ h9 => h9) rfl hin rfl (by decide +kernel) rfl rfl (Nat.le_of_ble_eq_true rfl) dX4_init_124 (fun H locs hP hD hS => ?_)
  have hP : va_P D vwCl [(h, .inr (4, [.ref qa, .ref a0, .ref a1, .ref a2, .ref a3, .int 0, .int 0, .int 0, .int 0, .int 0])), (qa, .inl (cT, 8, .inr (.inr (.inr (.inr f8))))), (k0, .inr (8, [])), (k1, .inr (1, [])), (k2, .inr (0, [])), (k3, .inr (3, [])), (k4, .inr (6, [])), (k5, .inr (9, [])), (k6, .inr (5, [])), (k7, .inr (2, [])), (a0, .inl (cI, 7, .inl (fun _ => 0))), (a1, .inl (cI, 7, .inl (fun _ => 0))), (a2, .inl (cI, 7, .inl (fun _ => 0))), (a3, .inl (cI, 7, .inl (fun _ => 0)))] H := hP
  have hD : va_D A [(h, .inr (4, [.ref qa, .ref a0, .ref a1, .ref a2, .ref a3, .int 0, .int 0, .int 0, .int 0, .int 0])), (qa, .inl (cT, 8, .inr (.inr (.inr (.inr f8))))), (k0, .inr (8, [])), (k1, .inr (1, [])), (k2, .inr (0, [])), (k3, .inr (3, [])), (k4, .inr (6, [])), (k5, .inr (9, [])), (k6, .inr (5, [])), (k7, .inr (2, [])), (a0, .inl (cI, 7, .inl (fun _ => 0))), (a1, .inl (cI, 7, .inl (fun _ => 0))), (a2, .inl (cI, 7, .inl (fun _ => 0))), (a3, .inl (cI, 7, .inl (fun _ => 0)))] := hD
  refine lv_aload_n hx hb dX4_init_127 rfl (lv_at hl 0 rfl) ?_
  refine lv_iconst (v := (0 : Int32)) hx hb dX4_init_128 (by decide) ?_
  refine va_put (D := D) (ci := 4) (v := .int 0) (ty := .int) (C := RX4) (T := TX4) (N := 10) hx hb hts in_X4_init_X4 tyX4 tyX4_ok nmX4 hown hK hP hD hS 0 rfl rfl 5 (by decide) (hts (.fieldLink RX4 52 "LetByTheBirds$Isle" "tenants" "I") (List.mem_of_getElem? (i := 34) rfl)) (fun _ h9 => h9) rfl (by decide +kernel) rfl rfl (Nat.le_of_ble_eq_true rfl) dX4_init_129 (fun H locs hP hD hS => ?_)
  have hP : va_P D vwCl [(h, .inr (4, [.ref qa, .ref a0, .ref a1, .ref a2, .ref a3, .int 0, .int 0, .int 0, .int 0, .int 0])), (qa, .inl (cT, 8, .inr (.inr (.inr (.inr f8))))), (k0, .inr (8, [])), (k1, .inr (1, [])), (k2, .inr (0, [])), (k3, .inr (3, [])), (k4, .inr (6, [])), (k5, .inr (9, [])), (k6, .inr (5, [])), (k7, .inr (2, [])), (a0, .inl (cI, 7, .inl (fun _ => 0))), (a1, .inl (cI, 7, .inl (fun _ => 0))), (a2, .inl (cI, 7, .inl (fun _ => 0))), (a3, .inl (cI, 7, .inl (fun _ => 0)))] H := hP
  have hD : va_D A [(h, .inr (4, [.ref qa, .ref a0, .ref a1, .ref a2, .ref a3, .int 0, .int 0, .int 0, .int 0, .int 0])), (qa, .inl (cT, 8, .inr (.inr (.inr (.inr f8))))), (k0, .inr (8, [])), (k1, .inr (1, [])), (k2, .inr (0, [])), (k3, .inr (3, [])), (k4, .inr (6, [])), (k5, .inr (9, [])), (k6, .inr (5, [])), (k7, .inr (2, [])), (a0, .inl (cI, 7, .inl (fun _ => 0))), (a1, .inl (cI, 7, .inl (fun _ => 0))), (a2, .inl (cI, 7, .inl (fun _ => 0))), (a3, .inl (cI, 7, .inl (fun _ => 0)))] := hD
  refine lv_aload_n hx hb dX4_init_132 rfl (lv_at hl 0 rfl) ?_
  refine lv_iconst (v := (0 : Int32)) hx hb dX4_init_133 (by decide) ?_
  refine va_put (D := D) (ci := 4) (v := .int 0) (ty := .int) (C := RX4) (T := TX4) (N := 10) hx hb hts in_X4_init_X4 tyX4 tyX4_ok nmX4 hown hK hP hD hS 0 rfl rfl 6 (by decide) (hts (.fieldLink RX4 56 "LetByTheBirds$Isle" "there" "I") (List.mem_of_getElem? (i := 35) rfl)) (fun _ h9 => h9) rfl (by decide +kernel) rfl rfl (Nat.le_of_ble_eq_true rfl) dX4_init_134 (fun H locs hP hD hS => ?_)
  have hP : va_P D vwCl [(h, .inr (4, [.ref qa, .ref a0, .ref a1, .ref a2, .ref a3, .int 0, .int 0, .int 0, .int 0, .int 0])), (qa, .inl (cT, 8, .inr (.inr (.inr (.inr f8))))), (k0, .inr (8, [])), (k1, .inr (1, [])), (k2, .inr (0, [])), (k3, .inr (3, [])), (k4, .inr (6, [])), (k5, .inr (9, [])), (k6, .inr (5, [])), (k7, .inr (2, [])), (a0, .inl (cI, 7, .inl (fun _ => 0))), (a1, .inl (cI, 7, .inl (fun _ => 0))), (a2, .inl (cI, 7, .inl (fun _ => 0))), (a3, .inl (cI, 7, .inl (fun _ => 0)))] H := hP
  have hD : va_D A [(h, .inr (4, [.ref qa, .ref a0, .ref a1, .ref a2, .ref a3, .int 0, .int 0, .int 0, .int 0, .int 0])), (qa, .inl (cT, 8, .inr (.inr (.inr (.inr f8))))), (k0, .inr (8, [])), (k1, .inr (1, [])), (k2, .inr (0, [])), (k3, .inr (3, [])), (k4, .inr (6, [])), (k5, .inr (9, [])), (k6, .inr (5, [])), (k7, .inr (2, [])), (a0, .inl (cI, 7, .inl (fun _ => 0))), (a1, .inl (cI, 7, .inl (fun _ => 0))), (a2, .inl (cI, 7, .inl (fun _ => 0))), (a3, .inl (cI, 7, .inl (fun _ => 0)))] := hD
  refine lv_aload_n hx hb dX4_init_137 rfl (lv_at hl 0 rfl) ?_
  refine lv_bipush (v := (40 : Int32)) hx hb dX4_init_138 (by decide) ?_
  refine va_put (D := D) (ci := 4) (v := .int 40) (ty := .int) (C := RX4) (T := TX4) (N := 10) hx hb hts in_X4_init_X4 tyX4 tyX4_ok nmX4 hown hK hP hD hS 0 rfl rfl 7 (by decide) (hts (.fieldLink RX4 59 "LetByTheBirds$Isle" "birds" "I") (List.mem_of_getElem? (i := 36) rfl)) (fun _ h9 => h9) rfl (by decide +kernel) rfl rfl (Nat.le_of_ble_eq_true rfl) dX4_init_140 (fun H locs hP hD hS => ?_)
  have hP : va_P D vwCl [(h, .inr (4, [.ref qa, .ref a0, .ref a1, .ref a2, .ref a3, .int 0, .int 0, .int 40, .int 0, .int 0])), (qa, .inl (cT, 8, .inr (.inr (.inr (.inr f8))))), (k0, .inr (8, [])), (k1, .inr (1, [])), (k2, .inr (0, [])), (k3, .inr (3, [])), (k4, .inr (6, [])), (k5, .inr (9, [])), (k6, .inr (5, [])), (k7, .inr (2, [])), (a0, .inl (cI, 7, .inl (fun _ => 0))), (a1, .inl (cI, 7, .inl (fun _ => 0))), (a2, .inl (cI, 7, .inl (fun _ => 0))), (a3, .inl (cI, 7, .inl (fun _ => 0)))] H := hP
  have hD : va_D A [(h, .inr (4, [.ref qa, .ref a0, .ref a1, .ref a2, .ref a3, .int 0, .int 0, .int 40, .int 0, .int 0])), (qa, .inl (cT, 8, .inr (.inr (.inr (.inr f8))))), (k0, .inr (8, [])), (k1, .inr (1, [])), (k2, .inr (0, [])), (k3, .inr (3, [])), (k4, .inr (6, [])), (k5, .inr (9, [])), (k6, .inr (5, [])), (k7, .inr (2, [])), (a0, .inl (cI, 7, .inl (fun _ => 0))), (a1, .inl (cI, 7, .inl (fun _ => 0))), (a2, .inl (cI, 7, .inl (fun _ => 0))), (a3, .inl (cI, 7, .inl (fun _ => 0)))] := hD
  refine lv_aload_n hx hb dX4_init_143 rfl (lv_at hl 0 rfl) ?_
  refine lv_iconst (v := (3 : Int32)) hx hb dX4_init_144 (by decide) ?_
  refine va_put (D := D) (ci := 4) (v := .int 3) (ty := .int) (C := RX4) (T := TX4) (N := 10) hx hb hts in_X4_init_X4 tyX4 tyX4_ok nmX4 hown hK hP hD hS 0 rfl rfl 8 (by decide) (hts (.fieldLink RX4 62 "LetByTheBirds$Isle" "sea" "I") (List.mem_of_getElem? (i := 37) rfl)) (fun _ h9 => h9) rfl (by decide +kernel) rfl rfl (Nat.le_of_ble_eq_true rfl) dX4_init_145 (fun H locs hP hD hS => ?_)
  have hP : va_P D vwCl [(h, .inr (4, [.ref qa, .ref a0, .ref a1, .ref a2, .ref a3, .int 0, .int 0, .int 40, .int 3, .int 0])), (qa, .inl (cT, 8, .inr (.inr (.inr (.inr f8))))), (k0, .inr (8, [])), (k1, .inr (1, [])), (k2, .inr (0, [])), (k3, .inr (3, [])), (k4, .inr (6, [])), (k5, .inr (9, [])), (k6, .inr (5, [])), (k7, .inr (2, [])), (a0, .inl (cI, 7, .inl (fun _ => 0))), (a1, .inl (cI, 7, .inl (fun _ => 0))), (a2, .inl (cI, 7, .inl (fun _ => 0))), (a3, .inl (cI, 7, .inl (fun _ => 0)))] H := hP
  have hD : va_D A [(h, .inr (4, [.ref qa, .ref a0, .ref a1, .ref a2, .ref a3, .int 0, .int 0, .int 40, .int 3, .int 0])), (qa, .inl (cT, 8, .inr (.inr (.inr (.inr f8))))), (k0, .inr (8, [])), (k1, .inr (1, [])), (k2, .inr (0, [])), (k3, .inr (3, [])), (k4, .inr (6, [])), (k5, .inr (9, [])), (k6, .inr (5, [])), (k7, .inr (2, [])), (a0, .inl (cI, 7, .inl (fun _ => 0))), (a1, .inl (cI, 7, .inl (fun _ => 0))), (a2, .inl (cI, 7, .inl (fun _ => 0))), (a3, .inl (cI, 7, .inl (fun _ => 0)))] := hD
  refine lv_aload_n hx hb dX4_init_148 rfl (lv_at hl 0 rfl) ?_
  refine lv_iconst (v := (0 : Int32)) hx hb dX4_init_149 (by decide) ?_
  refine va_put (D := D) (ci := 4) (v := .int 0) (ty := .int) (C := RX4) (T := TX4) (N := 10) hx hb hts in_X4_init_X4 tyX4 tyX4_ok nmX4 hown hK hP hD hS 0 rfl rfl 9 (by decide) (hts (.fieldLink RX4 65 "LetByTheBirds$Isle" "day" "I") (List.mem_of_getElem? (i := 38) rfl)) (fun _ h9 => h9) rfl (by decide +kernel) rfl rfl (Nat.le_of_ble_eq_true rfl) dX4_init_150 (fun H locs hP hD hS => ?_)
  have hP : va_P D vwCl [(h, .inr (4, [.ref qa, .ref a0, .ref a1, .ref a2, .ref a3, .int 0, .int 0, .int 40, .int 3, .int 0])), (qa, .inl (cT, 8, .inr (.inr (.inr (.inr f8))))), (k0, .inr (8, [])), (k1, .inr (1, [])), (k2, .inr (0, [])), (k3, .inr (3, [])), (k4, .inr (6, [])), (k5, .inr (9, [])), (k6, .inr (5, [])), (k7, .inr (2, [])), (a0, .inl (cI, 7, .inl (fun _ => 0))), (a1, .inl (cI, 7, .inl (fun _ => 0))), (a2, .inl (cI, 7, .inl (fun _ => 0))), (a3, .inl (cI, 7, .inl (fun _ => 0)))] H := hP
  have hD : va_D A [(h, .inr (4, [.ref qa, .ref a0, .ref a1, .ref a2, .ref a3, .int 0, .int 0, .int 40, .int 3, .int 0])), (qa, .inl (cT, 8, .inr (.inr (.inr (.inr f8))))), (k0, .inr (8, [])), (k1, .inr (1, [])), (k2, .inr (0, [])), (k3, .inr (3, [])), (k4, .inr (6, [])), (k5, .inr (9, [])), (k6, .inr (5, [])), (k7, .inr (2, [])), (a0, .inl (cI, 7, .inl (fun _ => 0))), (a1, .inl (cI, 7, .inl (fun _ => 0))), (a2, .inl (cI, 7, .inl (fun _ => 0))), (a3, .inl (cI, 7, .inl (fun _ => 0)))] := hD
  have hrow : ∀ j, j < 8 → f8 j = (fun k => some ((fun j => match j with | 0 => k0 | 1 => k1 | 2 => k2 | 3 => k3 | 4 => k4 | 5 => k5 | 6 => k6 | _ => k7 : Nat → Nat) k)) j := by
    intro j hj
    rw [hf8, hf7, hf6, hf5, hf4, hf3, hf2, hf1]
    rcases (by omega : j = 0 ∨ j = 1 ∨ j = 2 ∨ j = 3 ∨ j = 4 ∨ j = 5 ∨ j = 6 ∨ j = 7) with rfl | rfl | rfl | rfl | rfl | rfl | rfl | rfl <;> rfl
  have hP := ct_row (X := [(h, .inr (4, [.ref qa, .ref a0, .ref a1, .ref a2, .ref a3, .int 0, .int 0, .int 40, .int 3, .int 0]))]) hP hrow
  have hD := ct_rowD (X := [(h, .inr (4, [.ref qa, .ref a0, .ref a1, .ref a2, .ref a3, .int 0, .int 0, .int 40, .int 3, .int 0]))]) (e' := .inl (cT, 8, .inr (.inr (.inr (.inr (fun k => some ((fun j => match j with | 0 => k0 | 1 => k1 | 2 => k2 | 3 => k3 | 4 => k4 | 5 => k5 | 6 => k6 | _ => k7 : Nat → Nat) k))))))) hD
  have hP9 : va_P D vwCl (ctI cI cT h (fun j => match j with | 0 => qa | 1 => a0 | 2 => a1 | 3 => a2 | _ => a3) (fun j => match j with | 0 => k0 | 1 => k1 | 2 => k2 | 3 => k3 | 4 => k4 | 5 => k5 | 6 => k6 | _ => k7)) H := hP.sub [0, 1, 10, 11, 12, 13, 2, 3, 4, 5, 6, 7, 8, 9] rfl
  have hD9 : va_D A (ctI cI cT h (fun j => match j with | 0 => qa | 1 => a0 | 2 => a1 | 3 => a2 | _ => a3) (fun j => match j with | 0 => k0 | 1 => k1 | 2 => k2 | 3 => k3 | 4 => k4 | 5 => k5 | 6 => k6 | _ => k7)) := hD.sub [0, 1, 10, 11, 12, 13, 2, 3, 4, 5, 6, 7, 8, 9] (by decide) rfl
  exact W.vret (Qc := va_Qv (fun _ : (Nat → Nat) × (Nat → Nat) => True) (fun u t => va_P D vwCl (ctI cI cT h u.1 u.2) t.heap ∧ va_D A (ctI cI cT h u.1 u.2)) A) hx hb hr (fun t ht hW => ⟨⟨(fun j => match j with | 0 => qa | 1 => a0 | 2 => a1 | 3 => a2 | _ => a3, fun j => match j with | 0 => k0 | 1 => k1 | 2 => k2 | 3 => k3 | 4 => k4 | 5 => k5 | 6 => k6 | _ => k7), rfl, trivial, by rw [ht]; exact hP9, hD9⟩, hS.F ht⟩) hS.2.2 dX4_init_153 hlocks
