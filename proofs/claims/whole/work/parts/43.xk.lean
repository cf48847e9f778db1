/-! what the constructors, and what throws, need of the machine besides -/
/-! ===== BEGIN a method of a class above, found by the receiver, that may throw (follows va_callVU, va_runU of this kit) ===== -/
section
variable {p : Program} {l : Launch} {e : Env} {R : Room} {s : State} {m : MethodId} {args : Array Value} {below : List Frame} {meth : Method} {c : Code} {H : Heap} {locs : List Loc} {cells slots : Nat}
theorem vx_callVU {T : State} {locs : List Loc} {cells slots : Nat} (X : Stand p l e R s m args below meth c T locs cells slots) (hexec : p.tables.exec = Jvm.exec) {own C owner : String} {index : Nat} {x y : MethodName} {bytes : ByteArray} {maxL : Nat} {ret : Option FieldType}
    (hown : s.vm.findClass own = some m.cls) (hlink : (Cond.methodLink own index x).before args s = true) (hsame : (Cond.sameMethod x.cls owner x.name x.desc).before args s = true)
    (hd0 : va_Decl s ⟨owner, x.name, x.desc⟩) (howner : owner ≠ "java/lang/invoke/MethodHandle" ∧ owner ≠ "java/lang/invoke/VarHandle")
    (hsel : (Cond.selects C x y).before args s = true) (hinst : (Cond.instanceMethod y).before args s = true) (hcode : (Cond.code y bytes maxL ret).before args s = true)
    {W : Nat} {Pre : Pt → Array Value → Prop} {Post : Pt → Array Value → Option Value → Pt → Prop} {PostX : Pt → Array Value → Addr → Pt → Prop} (hK : vx_Back l R p e below s args y 3 W Pre Post PostX)
    {b : Addr} {cellB : Cell} (hcell : T.heap[b]? = some cellB) (hobj : cellB.vm.isStatics = false) (hcls : s.vm.findClass C = some cellB.cls)
    {g : JFrame} (hg : g.method = m) (hsize : g.locals.size = c.maxLocals) {argsL rest : List Value} (hlen : ∀ sig, parseMethodDescriptor x.desc = some sig → argsL.length = sig.parameters.length)
    (hstack : g.stack = argsL.reverse ++ .ref b :: rest) (hW : 2 * g.monitorRoom + (rest.map fun v => v.category).sum ≤ W) (hdg : decode c.code g.pc = .ok (.invokevirtual index, 3))
    (hpre : ∀ vm₁, s.WarmedH vm₁ → Pre ⟨T.setVm vm₁, locs, cells, slots⟩ (Value.ref b :: argsL).toArray) :
    (∃ (v : Option Value) (vm₁ : Vm) (B : Pt), s.WarmedH vm₁ ∧ Stand p l e R s m args below meth c B.U B.locs B.cells B.slots ∧ Post ⟨T.setVm vm₁, locs, cells, slots⟩ (Value.ref b :: argsL).toArray v B ∧
      ∀ target, Steps p.tables e below (B.U.setTop { g with pc := g.pc + 3, stack := v.toList ++ rest }) target → Steps p.tables e below (T.setTop g) target) ∨
    (∃ (q : Addr) (vm₁ : Vm) (B : Pt), s.WarmedH vm₁ ∧ Stand p l e R s m args below meth c B.U B.locs B.cells B.slots ∧ PostX ⟨T.setVm vm₁, locs, cells, slots⟩ (Value.ref b :: argsL).toArray q B ∧
      Steps p.tables e below (T.setTop g) ((B.U.setTop { g with stack := rest }).pushFrame (.throwing q))) := by
  obtain ⟨r0, r, hn, hrm, hstR, hsigR⟩ := hd0
  obtain ⟨cn, ck, r1, hcn, hck, hni, hf, hn1⟩ := Cond.sameMethod_found hsame
  cases hn.symm.trans hn1
  obtain ⟨mk, methM, hnamed, hmethM, -, habM⟩ := Cond.instanceMethod_spec hinst
  obtain ⟨c2, r2, m2, q1, q2, q3, q4, kP, hkP, hkPi⟩ := Cond.selects_spec hsel
  cases hcls.symm.trans q1
  cases hf.symm.trans q2
  cases hnamed.symm.trans q3
  have hselP : selectMethod e.platform s.vm cellB.cls r0 = .method mk := by rw [Launch.admits_selectMethod X.admits]; exact q4
  obtain ⟨vm₁, X₁, hstep₁⟩ := X.invokevirtualUp hexec hown hlink hsame howner hn hrm hstR (a := b) (cell := cellB) hcell
    (fun z h => by rw [h] at hobj; cases hobj) hselP hmethM habM hkP hkPi (g := g) hg (argsL := argsL) (rest := rest) (hlen _ hsigR) hstack hdg
  rcases hK m meth c ⟨T.setVm vm₁, locs, cells, slots⟩ { g with stack := rest } (.invokevirtual index) mk (Value.ref b :: argsL).toArray X₁ hg hsize hdg hW (X₁.named hnamed) (hpre vm₁ X₁.warmed) with ⟨v, B, X', hpost, hsteps⟩ | ⟨q, B, X', hpost, hsteps⟩
  · exact Or.inl ⟨v, vm₁, B, X₁.warmed, X', hpost, fun target h => hstep₁ _ fun acts => by rw [doInvoke_state]; exact hsteps.trans h⟩
  · exact Or.inr ⟨q, vm₁, B, X₁.warmed, X', hpost, hstep₁ _ fun acts => by rw [doInvoke_state]; exact hsteps⟩
theorem vx_runU {x y : MethodName} {bytes cc : ByteArray} {maxL nL mc ms n index : Nat} {ret : Option FieldType} {ws : List Cond} {rm : Room} {Pc : Array Value → State → Prop} {Qc : Array Value → State → Outcome → State → Prop} {XC : String → State → State → Prop} {free : Addr → Prop} {Ts : List Cond} {own C owner : String} {b : Addr} {As rest : List Value} {g : JFrame}
    (S : CallFix p m c cc nL s args Ts own) (hM : vx_Met l y ws rm Pc Qc XC mc ms free) (cw : va_CU R s args own C owner index x y bytes maxL ret ws rm mc ms n) (hp : PreV s H C b Pc As)
    (hg : g.method = m) (hn : As.length = n) (hsize : g.locals.size = nL) (hstack : g.stack = As.reverse ++ .ref b :: rest) (hW : 2 * g.monitorRoom + (rest.map fun v => v.category).sum ≤ 8) (hdg : decode cc g.pc = .ok (.invokevirtual index, 3)) (hf : cells + mc ≤ R.cells ∧ slots + ms ≤ R.slots) :
    vx_Run p l e R s m args below meth c H locs cells slots mc ms g rest (Qc (Value.ref b :: As).toArray) XC free := by
  obtain ⟨hrc, hrs, hfr, hlo, hws, hcw⟩ := cw.back
  have hini := cw.init
  have hK : vx_Back l R p e below s args y 3 8 (PreOf R mc ms Pc) (PostOf Qc mc ms free) (vx_Post XC mc ms free) := vx_back (bytes := bytes) (maxL := maxL) (ret := ret) hM hp.1 hrc hrs hfr hlo hws hcw (fun a' U hW => word_at hW (Or.inl (by first | rfl | simp [Cond.onTables, Cond.keeps, Cond.steady])) hini)
  obtain ⟨hx, hb, hml, ho, -⟩ := S
  obtain ⟨-, ⟨cellB, hcB, hoB, hclB⟩, hPc⟩ := hp
  intro T hT X
  rcases vx_callVU X hx (C := C) (owner := owner) (bytes := bytes) (maxL := maxL) (ret := ret) ho cw.link cw.same cw.decl cw.notMH cw.sel cw.inst cw.code hK (by rw [hT]; exact hcB) hoB hclB hg (hsize.trans hml.symm) (argsL := As) (rest := rest) (fun sig h => hn.trans (cw.len sig h)) hstack hW (by rw [hb]; exact hdg)
    (fun vm₁ hW₁ => ⟨hf.1, hf.2, hPc (T.setVm vm₁) hT hW₁⟩) with ⟨v, vm₁, ⟨U', l2, c2, s2⟩, hW₁, X', ⟨g', mk, t, L, e1, e2, hq, h1, hL, h2, h3⟩, st⟩ | ⟨q, vm₁, ⟨U', l2, c2, s2⟩, hW₁, X', ⟨g', mk, t, L, E, ce, e1, e2, hq, hce, hcv, hcl, h1, hL, h2, h3⟩, st⟩
  · dsimp only [Pt.U, Pt.locs, Pt.cells, Pt.slots] at X' e1 e2 h1 h2 h3 st
    subst h1; subst h2; subst h3
    exact Or.inl ⟨v, (T.setVm vm₁).calling g' mk (Value.ref b :: As).toArray, t, U', L, hT, X', hL, e1, e2, hq, st⟩
  · dsimp only [Pt.U, Pt.locs, Pt.cells, Pt.slots] at X' e1 e2 h1 h2 h3 st hcl
    subst h1; subst h2; subst h3
    exact Or.inr ⟨q, (T.setVm vm₁).calling g' mk (Value.ref b :: As).toArray, t, U', L, E, ce, hT, X', hL, e1, e2, hq, hce, hcv, vx_cls hW₁ hcl, st⟩
end
/-! ===== END ===== -/
def xkL : List Cond := [.methodLinkNest RX11 9 yX4_init "LetByTheBirds", .methodLinkNest RX11 28 yX7_init "LetByTheBirds", .methodLinkNest RX4 11 yX8_init "LetByTheBirds", .methodLinkNest RX4 14 yX1_init "LetByTheBirds", .methodLinkNest RX4 17 yX0_init "LetByTheBirds", .methodLinkNest RX4 20 yX3_init "LetByTheBirds", .methodLinkNest RX4 23 yX6_init "LetByTheBirds", .methodLinkNest RX4 26 yX10_init "LetByTheBirds", .methodLinkNest RX4 29 yX5_init "LetByTheBirds", .methodLinkNest RX4 32 yX2_init "LetByTheBirds", .methodLinkNest RX1 1 yX8_init "LetByTheBirds", .methodLinkNest RX0 1 yX8_init "LetByTheBirds", .methodLinkNest RX3 1 yX8_init "LetByTheBirds", .methodLinkNest RX6 1 yX0_init "LetByTheBirds", .methodLinkNest RX10 1 yX1_init "LetByTheBirds", .methodLinkNest RX5 1 yX3_init "LetByTheBirds", .methodLinkNest RX2 1 yX6_init "LetByTheBirds", .castable RX1 "LetByTheBirds$Tenant", .castable RX0 "LetByTheBirds$Tenant", .castable RX3 "LetByTheBirds$Tenant", .castable RX6 "LetByTheBirds$Tenant", .castable RX10 "LetByTheBirds$Tenant", .castable RX5 "LetByTheBirds$Tenant", .castable RX2 "LetByTheBirds$Tenant", .castable "java/lang/IllegalStateException" "java/lang/IllegalStateException", .castable "java/lang/IllegalArgumentException" "java/lang/IllegalArgumentException", .castable "java/lang/UnsupportedOperationException" "java/lang/UnsupportedOperationException", .declares (Bundle.initS "java/lang/RuntimeException"), .declares (Bundle.initS "java/lang/Exception"), .declares (Bundle.initS Bundle.tN)]
def xk_w (w : Cond) : Bool := match w with
  | .methodLinkNest .. => true
  | .castable .. => true
  | .declares .. => true
  | _ => false
theorem xk_warm {w : Cond} (hw : xk_w w = true) {s U : State} (hW : s.WarmedH U.vm) (h : va_Nw w s) : va_Nw w U := by
  cases w <;> first | exact va_Nw.warmM hW h | exact va_Nw.warmC hW h | exact va_Nw.warmD hW h | exact absurd hw (by simp [xk_w])
theorem xkL_on : ∀ w ∈ xkL, w.onTables = true := by decide +kernel
theorem xkL_w : ∀ w ∈ xkL, xk_w w = true := by decide +kernel
def xk_N1 (U : State) : Prop := va_Nc "java/lang/IllegalArgumentException" "java/lang/IllegalStateException" U ∧ va_Nc "java/lang/UnsupportedOperationException" "java/lang/IllegalStateException" U ∧ va_Nc "java/lang/UnsupportedOperationException" "java/lang/IllegalArgumentException" U ∧ va_Nc "java/lang/IllegalStateException" "java/lang/IllegalArgumentException" U
def xk_N2 (U : State) : Prop := (∃ a : Nat, vk_R RX8 11 "a tenant's" a U) ∧ (∃ a : Nat, vk_R RX1 17 "a boatman's" a U) ∧ (∃ a : Nat, vk_R RX5 17 "a lawyer's" a U) ∧ (∃ a : Nat, vk_R RX11 266 "no such shelf" a U) ∧ (∃ a : Nat, vk_R RX11 276 "no row" a U) ∧ (∃ a : Nat, vk_R RX11 279 "no such place" a U)
def xk_B (U : State) : Prop := (∀ w ∈ xkL, va_Nw w U) ∧ va_AO "LetByTheBirds$Tenant" U ∧ va_AO "LetByTheBirds$Shelf" U ∧ xk_N1 U ∧ xk_N2 U
theorem xk_N1.moved {u U : State} (h : u.vm.Alike U.vm) (k : xk_N1 u) : xk_N1 U := ⟨va_Nc.moved h k.1, va_Nc.moved h k.2.1, va_Nc.moved h k.2.2.1, va_Nc.moved h k.2.2.2⟩
theorem xk_B.same {u U : State} (h : U.vm = u.vm) (k : xk_B u) : xk_B U := by
  have ha : u.vm.Alike U.vm := by rw [h]; exact Vm.Alike.refl _
  obtain ⟨k1, k2, k3, k4, ⟨a1, h1⟩, ⟨a2, h2⟩, ⟨a3, h3⟩, ⟨a4, h4⟩, ⟨a5, h5⟩, ⟨a6, h6⟩⟩ := k
  exact ⟨fun w hw => va_Nw.same (xkL_on w hw) h.symm (k1 w hw), va_AO.moved ha k2, va_AO.moved ha k3, k4.moved ha, ⟨a1, vk_R.same h h1⟩, ⟨a2, vk_R.same h h2⟩, ⟨a3, vk_R.same h h3⟩, ⟨a4, vk_R.same h h4⟩, ⟨a5, vk_R.same h h5⟩, ⟨a6, vk_R.same h h6⟩⟩
theorem xk_B.warm {s U : State} (hW : s.WarmedH U.vm) (k : xk_B s) : xk_B U := by
  have ha : s.vm.Alike U.vm := hW.alike
  obtain ⟨k1, k2, k3, k4, ⟨a1, h1⟩, ⟨a2, h2⟩, ⟨a3, h3⟩, ⟨a4, h4⟩, ⟨a5, h5⟩, ⟨a6, h6⟩⟩ := k
  exact ⟨fun w hw => xk_warm (xkL_w w hw) hW (k1 w hw), va_AO.moved ha k2, va_AO.moved ha k3, k4.moved ha, ⟨a1, vk_R.warm hW h1⟩, ⟨a2, vk_R.warm hW h2⟩, ⟨a3, vk_R.warm hW h3⟩, ⟨a4, vk_R.warm hW h4⟩, ⟨a5, vk_R.warm hW h5⟩, ⟨a6, vk_R.warm hW h6⟩⟩
theorem xk_B.nw {U : State} (k : xk_B U) {w : Cond} {i : Nat} (h : xkL[i]? = some w) : va_Nw w U := k.1 w (List.mem_of_getElem? h)
/-- Throwable's two static fields, out of reach of A -/
def xk_Z (A : Nat → Prop) (U : State) (H : Heap) : Prop := vx_Zq Bundle.tN "UNASSIGNED_STACK" Bundle.steD A U H ∧ vx_Zq Bundle.tN "SUPPRESSED_SENTINEL" Bundle.listD A U H
theorem xk_Z.moved {A : Nat → Prop} {u U : State} {H : Heap} (h : u.vm.Alike U.vm) (k : xk_Z A u H) : xk_Z A U H := ⟨vx_Zq.moved h k.1, vx_Zq.moved h k.2⟩
theorem xk_Z.kept {A : Nat → Prop} {U : State} {H H1 : Heap} (k : xk_Z A U H) (hq : ∀ a : Nat, a < H.size → ¬ A a → H1[a]? = H[a]?) : xk_Z A U H1 := ⟨vx_Zq.kept k.1 hq, vx_Zq.kept k.2 hq⟩
theorem xk_Z.narrow {A B : Nat → Prop} {U : State} {H : Heap} (k : xk_Z A U H) (h : ∀ q, B q → A q) : xk_Z B U H := ⟨vx_Zq.narrow k.1 h, vx_Zq.narrow k.2 h⟩
/-- what lies from sz on -/
def xk_A (sz : Nat) : Nat → Prop := fun q => sz ≤ q
/-- the world stays, where nothing old was written -/
theorem xk_keep {D : va_G} {cl : List vw_C} {ws : va_W} {H H1 : Heap} (hP : va_P D cl ws H) (hk : ∀ q : Nat, q < H.size → ¬ xk_A H.size q → H1[q]? = H[q]?) : va_P D cl ws H1 := by
  refine hk_P.mpr (fun q hq => ?_)
  have hw := hk_P.mp hP q hq
  exact hw.kept (hk q.1 hw.lt (Nat.not_le.mpr hw.lt))
/-- a contract of a method with a table of its own that returns -/
theorem xk_ofWH {l : Launch} {y : MethodName} {ws ws' : List Cond} {rm : Room} {Pc : Array Value → State → Prop} {Qc : Array Value → State → Outcome → State → Prop} {mc ms : Nat} {free : Addr → Prop} {cc : ByteArray} {maxL : Nat} {ret : Option FieldType} {hh : List (Nat × Nat × Nat × Nat)}
    (hy : plainName y.cls = true) (hw : ws = Cond.codeWith y cc maxL ret hh :: ws')
    (body : ∀ p e s m args below meth c s₁, BodyLoose p l y (headSpec ws rm) cc maxL ret e s m args below meth c s₁ → c.maxLocals = maxL → Pc args s →
      W p l e (headSpec ws rm).room s m args below meth c s.heap [] 0 0 (MQ below Qc args s mc ms free) (entryFrame m args maxL)) : Met l y ws rm Pc Qc mc ms free := by
  refine MetFree.of_bodyS (code := cc) (maxLocals := maxL) (ret := ret) hy ?_ ?_
  · intro args s m h hn
    obtain ⟨m9, meth, c, hn9, h1, h2, h3, h4, -, h5, h6, -⟩ := Cond.codeWith_spec (atoms_spec (ws := ws) h _ (by rw [hw]; exact List.mem_cons_self))
    cases hn.symm.trans hn9
    exact ⟨meth, c, h1, h2, h3, h4, h5, h6⟩
  · intro p e s m args below meth c s₁ B hml hP _
    have hh0 : s₁.heap = s.heap := by rw [B.state]; rfl
    obtain ⟨t, a1, o, b1, b2, b3⟩ := body p e s m args below meth c s₁ B hml hP s₁ hh0 (Stand.of_body B)
    exact ⟨t, o, a1, b1, b2, ⟨b3.1, b3.2⟩⟩
/-! fail: it returns where the figure is 0, else it throws -/
def xf_Pc (h : Nat) (f : Int32) (sz : Nat) : Array Value → State → Prop := va_Pc [.ref h, .int f] (fun U => U.heap.size = sz ∧ xk_B U ∧ xk_Z (xk_A sz) U U.heap)
def xf_R : Room := { frames := 6, cells := 1, slots := 6, locals := 82 }
def xf_Met (l : Launch) (y : MethodName) (ws : List Cond) (E : String) (h : Nat) (f : Int32) : Prop := ∀ sz : Nat, vx_Met l y ws xf_R (xf_Pc h f sz) (va_Qv (fun _ : Unit => f = 0) (fun _ _ => True) (xk_A sz)) (vx_X (fun _ : Unit => f ≠ 0) (fun E' _ _ => E' = E) (xk_A sz)) 1 6 (xk_A sz)
theorem xf_blind {h : Nat} {f : Int32} {sz : Nat} : FrameBlind (xf_Pc h f sz) := fun a U g mk q => by
  obtain ⟨q0, q1, qB, qZ⟩ := q
  exact ⟨q0, q1, xk_B.same (u := U) (U := U.calling g mk a) rfl qB, xk_Z.moved (u := U) (U := U.calling g mk a) (Vm.Alike.refl U.vm) qZ⟩
set_option maxRecDepth 100000 in
set_option maxHeartbeats 4000000 in
theorem x_X8_fail (l : Launch) (htr : l.stackTraces = false) (h : Nat) (f : Int32) : xf_Met l yX8_fail wsX8_fail "java/lang/IllegalStateException" h f := by
  intro sz
  refine vx_ofW (cc := cX8_fail) (maxL := 2) (ret := none) (by decide) rfl ?_
  intro p e s m args below meth c s₁ B hml ht hv
  obtain ⟨rfl, hsz, hB, hZ⟩ := hv
  subst hsz
  have hx := B.exec
  have hb := B.bytes
  have hr := B.returns
  have hts := atoms_spec (ws := wsX8_fail) B.pre
  have hown : s.vm.findClass RX8 = some m.cls := findClass_of_methodNamed B.named
  have hlocks := B.notSynchronized
  have hS : va_S (xk_A s.heap.size) s.heap s.heap [] := va_S.rf
  have hl := lv_entry ([.ref h, .int f]) (n := 2) (Nat.le_of_ble_eq_true rfl)
  rw [lg_entry_eq]
  generalize (lg_sl ([.ref h, .int f]) ++ List.replicate (2 - (lg_sl ([.ref h, .int f])).length) Slot.unset).toArray = ls at hl ⊢
  have hl : lv_has ls 2 [(0, .ref h), (1, .int f)] := hl
  refine lv_iload_n hx hb dX8_fail_0 rfl (lv_at hl 1 rfl) ?_
  refine lv_if_eq (tgt := 14) hx hb dX8_fail_1 (by decide) (fun c1 => ?_) (fun c1 => ?_)
  · refine vx_ret (W.widen (k := 1) (n := 6) (by omega) (by omega) ?_)
    exact W.vret (Qc := va_Qv (fun _ : Unit => f = 0) (fun _ _ => True) (xk_A s.heap.size)) hx hb hr (fun t ht hW => ⟨⟨(), rfl, c1, trivial⟩, hS.F ht⟩) hS.2.2 dX8_fail_14 hlocks
  · obtain ⟨sa, hsa⟩ := hB.2.2.2.2.1
    exact vx_throwS (A := xk_A s.heap.size) hx hb htr (own := RX8) (cls := "java/lang/IllegalStateException") (text := "a tenant's") (names := ["java/lang/RuntimeException", "java/lang/Exception"]) (ik := 9) (is := 11) (ic := 13) hown (by decide +kernel) (by decide +kernel)
      (hts _ (List.mem_of_getElem? (i := 1) rfl)) (hts _ (List.mem_of_getElem? (i := 2) rfl)) hsa
      (vx_hat (B := [.declares (Bundle.initS "java/lang/RuntimeException"), .declares (Bundle.initS "java/lang/Exception"), .declares (Bundle.initS Bundle.tN), .castable "java/lang/IllegalStateException" "java/lang/IllegalStateException"]) (fun w hw => hts w (List.mem_cons_of_mem _ (List.mem_append_right _ hw))) (by decide +kernel)
        (vx_c (va_Nw.use rfl (hB.nw (i := 27) rfl)) (vx_c (va_Nw.use rfl (hB.nw (i := 28) rfl)) (vx_c (va_Nw.use rfl (hB.nw (i := 29) rfl)) (vx_c (va_Nw.use rfl (hB.nw (i := 24) rfl)) vx_n)))))
      (by decide +kernel) hZ.1 hZ.2 hS (hl.1.trans hml.symm) dX8_fail_4 dX8_fail_7 dX8_fail_8 dX8_fail_10 dX8_fail_13 (fun x hx => (ht x hx).elim)
      (Nat.le_of_ble_eq_true rfl) (Nat.le_of_ble_eq_true rfl) (Nat.le_of_ble_eq_true rfl) (Nat.le_of_ble_eq_true rfl) hlocks
      (fun t ha h1 h2 => ⟨(), c1, rfl, h1, fun q hq _ => h2 q hq⟩) (fun z hz => nomatch hz) (Nat.le_refl _) (Nat.le_refl _)
set_option maxRecDepth 100000 in
set_option maxHeartbeats 4000000 in
theorem x_X1_fail (l : Launch) (htr : l.stackTraces = false) (h : Nat) (f : Int32) : xf_Met l yX1_fail wsX1_fail "java/lang/IllegalArgumentException" h f := by
  intro sz
  refine vx_ofW (cc := cX1_fail) (maxL := 2) (ret := none) (by decide) rfl ?_
  intro p e s m args below meth c s₁ B hml ht hv
  obtain ⟨rfl, hsz, hB, hZ⟩ := hv
  subst hsz
  have hx := B.exec
  have hb := B.bytes
  have hr := B.returns
  have hts := atoms_spec (ws := wsX1_fail) B.pre
  have hown : s.vm.findClass RX1 = some m.cls := findClass_of_methodNamed B.named
  have hlocks := B.notSynchronized
  have hS : va_S (xk_A s.heap.size) s.heap s.heap [] := va_S.rf
  have hl := lv_entry ([.ref h, .int f]) (n := 2) (Nat.le_of_ble_eq_true rfl)
  rw [lg_entry_eq]
  generalize (lg_sl ([.ref h, .int f]) ++ List.replicate (2 - (lg_sl ([.ref h, .int f])).length) Slot.unset).toArray = ls at hl ⊢
  have hl : lv_has ls 2 [(0, .ref h), (1, .int f)] := hl
  refine lv_iload_n hx hb dX1_fail_0 rfl (lv_at hl 1 rfl) ?_
  refine lv_if_eq (tgt := 14) hx hb dX1_fail_1 (by decide) (fun c1 => ?_) (fun c1 => ?_)
  · refine vx_ret (W.widen (k := 1) (n := 6) (by omega) (by omega) ?_)
    exact W.vret (Qc := va_Qv (fun _ : Unit => f = 0) (fun _ _ => True) (xk_A s.heap.size)) hx hb hr (fun t ht hW => ⟨⟨(), rfl, c1, trivial⟩, hS.F ht⟩) hS.2.2 dX1_fail_14 hlocks
  · obtain ⟨sa, hsa⟩ := hB.2.2.2.2.2.1
    exact vx_throwS (A := xk_A s.heap.size) hx hb htr (own := RX1) (cls := "java/lang/IllegalArgumentException") (text := "a boatman's") (names := ["java/lang/RuntimeException", "java/lang/Exception"]) (ik := 15) (is := 17) (ic := 19) hown (by decide +kernel) (by decide +kernel)
      (hts _ (List.mem_of_getElem? (i := 1) rfl)) (hts _ (List.mem_of_getElem? (i := 2) rfl)) hsa
      (vx_hat (B := [.declares (Bundle.initS "java/lang/RuntimeException"), .declares (Bundle.initS "java/lang/Exception"), .declares (Bundle.initS Bundle.tN), .castable "java/lang/IllegalArgumentException" "java/lang/IllegalArgumentException"]) (fun w hw => hts w (List.mem_cons_of_mem _ (List.mem_append_right _ hw))) (by decide +kernel)
        (vx_c (va_Nw.use rfl (hB.nw (i := 27) rfl)) (vx_c (va_Nw.use rfl (hB.nw (i := 28) rfl)) (vx_c (va_Nw.use rfl (hB.nw (i := 29) rfl)) (vx_c (va_Nw.use rfl (hB.nw (i := 25) rfl)) vx_n)))))
      (by decide +kernel) hZ.1 hZ.2 hS (hl.1.trans hml.symm) dX1_fail_4 dX1_fail_7 dX1_fail_8 dX1_fail_10 dX1_fail_13 (fun x hx => (ht x hx).elim)
      (Nat.le_of_ble_eq_true rfl) (Nat.le_of_ble_eq_true rfl) (Nat.le_of_ble_eq_true rfl) (Nat.le_of_ble_eq_true rfl) hlocks
      (fun t ha h1 h2 => ⟨(), c1, rfl, h1, fun q hq _ => h2 q hq⟩) (fun z hz => nomatch hz) (Nat.le_refl _) (Nat.le_refl _)
set_option maxRecDepth 100000 in
set_option maxHeartbeats 4000000 in
theorem x_X5_fail (l : Launch) (htr : l.stackTraces = false) (h : Nat) (f : Int32) : xf_Met l yX5_fail wsX5_fail "java/lang/UnsupportedOperationException" h f := by
  intro sz
  refine vx_ofW (cc := cX5_fail) (maxL := 2) (ret := none) (by decide) rfl ?_
  intro p e s m args below meth c s₁ B hml ht hv
  obtain ⟨rfl, hsz, hB, hZ⟩ := hv
  subst hsz
  have hx := B.exec
  have hb := B.bytes
  have hr := B.returns
  have hts := atoms_spec (ws := wsX5_fail) B.pre
  have hown : s.vm.findClass RX5 = some m.cls := findClass_of_methodNamed B.named
  have hlocks := B.notSynchronized
  have hS : va_S (xk_A s.heap.size) s.heap s.heap [] := va_S.rf
  have hl := lv_entry ([.ref h, .int f]) (n := 2) (Nat.le_of_ble_eq_true rfl)
  rw [lg_entry_eq]
  generalize (lg_sl ([.ref h, .int f]) ++ List.replicate (2 - (lg_sl ([.ref h, .int f])).length) Slot.unset).toArray = ls at hl ⊢
  have hl : lv_has ls 2 [(0, .ref h), (1, .int f)] := hl
  refine lv_iload_n hx hb dX5_fail_0 rfl (lv_at hl 1 rfl) ?_
  refine lv_if_eq (tgt := 14) hx hb dX5_fail_1 (by decide) (fun c1 => ?_) (fun c1 => ?_)
  · refine vx_ret (W.widen (k := 1) (n := 6) (by omega) (by omega) ?_)
    exact W.vret (Qc := va_Qv (fun _ : Unit => f = 0) (fun _ _ => True) (xk_A s.heap.size)) hx hb hr (fun t ht hW => ⟨⟨(), rfl, c1, trivial⟩, hS.F ht⟩) hS.2.2 dX5_fail_14 hlocks
  · obtain ⟨sa, hsa⟩ := hB.2.2.2.2.2.2.1
    exact vx_throwS (A := xk_A s.heap.size) hx hb htr (own := RX5) (cls := "java/lang/UnsupportedOperationException") (text := "a lawyer's") (names := ["java/lang/RuntimeException", "java/lang/Exception"]) (ik := 15) (is := 17) (ic := 19) hown (by decide +kernel) (by decide +kernel)
      (hts _ (List.mem_of_getElem? (i := 1) rfl)) (hts _ (List.mem_of_getElem? (i := 2) rfl)) hsa
      (vx_hat (B := [.declares (Bundle.initS "java/lang/RuntimeException"), .declares (Bundle.initS "java/lang/Exception"), .declares (Bundle.initS Bundle.tN), .castable "java/lang/UnsupportedOperationException" "java/lang/UnsupportedOperationException"]) (fun w hw => hts w (List.mem_cons_of_mem _ (List.mem_append_right _ hw))) (by decide +kernel)
        (vx_c (va_Nw.use rfl (hB.nw (i := 27) rfl)) (vx_c (va_Nw.use rfl (hB.nw (i := 28) rfl)) (vx_c (va_Nw.use rfl (hB.nw (i := 29) rfl)) (vx_c (va_Nw.use rfl (hB.nw (i := 26) rfl)) vx_n)))))
      (by decide +kernel) hZ.1 hZ.2 hS (hl.1.trans hml.symm) dX5_fail_4 dX5_fail_7 dX5_fail_8 dX5_fail_10 dX5_fail_13 (fun x hx => (ht x hx).elim)
      (Nat.le_of_ble_eq_true rfl) (Nat.le_of_ble_eq_true rfl) (Nat.le_of_ble_eq_true rfl) (Nat.le_of_ble_eq_true rfl) hlocks
      (fun t ha h1 h2 => ⟨(), c1, rfl, h1, fun q hq _ => h2 q hq⟩) (fun z hz => nomatch hz) (Nat.le_refl _) (Nat.le_refl _)
set_option maxRecDepth 100000 in
theorem x_X0_fail (l : Launch) (D : va_G) (tys : List (ClassId × FieldType)) (h : Nat) (f : Int32) : fk l yX0_fail wsX0_fail ({ frames := 0, cells := 0, slots := 0, locals := 0 } : Room) D tys [.ref h, .int f] [] [] none :=
  fk_of (cc := cX0_fail) (maxL := 2) (ret := none) (by decide) rfl (Nat.le_of_ble_eq_true rfl) (fun p e s m below meth c A C hP hD hS ls hl => by
    obtain ⟨hx, hb, hml, hown, hts, hr, hlocks, hK, hN, hA⟩ := id C
    exact fk_rv hx hb hr hlocks hP hS dX0_fail_0)
