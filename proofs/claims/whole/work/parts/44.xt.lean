/-! contracts of methods that make cells where they throw -/
def xt_Pc (D : va_G) (tys : List (ClassId × FieldType)) (avs : List Value) (wi : va_W) (sz : Nat) : Array Value → State → Prop := va_Pc avs (fun U => U.heap.size = sz ∧ va_P D vwCl wi U.heap ∧ va_K D vwCl tys U ∧ va_D (fun _ => True) wi ∧ fk_N U ∧ xk_B U ∧ xk_Z (va_A wi sz) U U.heap)
theorem xt_blind {D : va_G} {tys : List (ClassId × FieldType)} {avs : List Value} {wi : va_W} {sz : Nat} : FrameBlind (xt_Pc D tys avs wi sz) := fun a U g mk q => by
  obtain ⟨q0, q1, qP, qK, qD, qN, qB, qZ⟩ := q
  exact ⟨q0, q1, qP, va_K.moved (u := U) (U := U.calling g mk a) (Vm.Alike.refl U.vm) qK, qD, va_Nw.same rfl rfl qN, xk_B.same (u := U) (U := U.calling g mk a) rfl qB, xk_Z.moved (u := U) (U := U.calling g mk a) (Vm.Alike.refl U.vm) qZ⟩
def xfk (l : Launch) (y : MethodName) (ws : List Cond) (rm : Room) (D : va_G) (tys : List (ClassId × FieldType)) (avs : List Value) (wi wo : va_W) (r : Option Value) (mc ms : Nat) : Prop :=
  ∀ sz : Nat, Met l y ws rm (xt_Pc D tys avs wi sz) (fk_Q D wo r (va_A wi sz)) mc ms (va_A wi sz)
theorem xt_perm {l : Launch} {y : MethodName} {wy : List Cond} {rm : Room} {D : va_G} {tys : List (ClassId × FieldType)} {avs : List Value} {wc wo ws ws' : va_W} {r : Option Value} {mc ms : Nat} (h : xfk l y wy rm D tys avs wc wo r mc ms) (wr : va_W) (h1 : ws.Perm (wc ++ wr)) (h2 : ws'.Perm (wo ++ wr)) : xfk l y wy rm D tys avs ws ws' r mc ms := by
  intro sz p e ha hc hk s m args below hf happ hP hK
  obtain ⟨q0, qz, qP, qK, qD, qN, qB, qZ⟩ := hP
  have hPw := hk_P.mp qP
  have hnd : ((wc ++ wr).map Prod.fst).Nodup := ((h1.map Prod.fst).nodup_iff).mp (hk_D.mp qD).1
  rw [List.map_append, List.nodup_append] at hnd
  obtain ⟨n1, n2, n3⟩ := hnd
  have hA : ∀ q, va_A wc sz q → va_A ws sz q := fun q hq => by
    rcases hk_A.mp hq with h3 | h3
    · obtain ⟨x, hx, rfl⟩ := List.mem_map.mp h3
      exact hk_A.mpr (Or.inl (List.mem_map_of_mem (f := Prod.fst) (h1.mem_iff.mpr (List.mem_append_left _ hx))))
    · exact Or.inr h3
  obtain ⟨k, o, a1, a2, a3, ⟨b1, b2, b3⟩, L, b4, b5⟩ := h sz p e ha hc hk s m args below hf happ ⟨q0, qz, hk_P.mpr (fun q hq => hPw q (h1.mem_iff.mpr (List.mem_append_left _ hq))), qK, hk_D.mpr ⟨n1, fun _ _ => trivial⟩, qN, qB, qZ.narrow hA⟩ hK
  refine ⟨k, o, a1, a2, a3, ⟨b1, hk_P.mpr (fun q hq => ?_), b3.1, fun q h3 h4 => b3.2 q h3 (fun h5 => h4 (hA q h5))⟩, L, b4, fun q hq => hA _ (b5 q hq)⟩
  rcases List.mem_append.mp (h2.mem_iff.mp hq) with h3 | h3
  · exact hk_P.mp b2 q h3
  · have hw := hPw q (h1.mem_iff.mpr (List.mem_append_right _ h3))
    refine hw.kept (b3.2 q.1 hw.lt (fun h4 => ?_))
    rcases hk_A.mp h4 with h4 | h4
    · exact n3 _ h4 _ (List.mem_map_of_mem (f := Prod.fst) h3) rfl
    · have := hw.lt
      rw [qz] at this
      omega
section XTR
variable {p : Program} {l : Launch} {e : Env} {R : Room} {s : State} {m : MethodId} {args : Array Value} {below : List Frame} {meth : Method} {c : Code} {H : Heap} {locs : List Loc} {cells slots : Nat} {Q : State → Prop}
variable {pc : Nat} {ls : Array Slot} {rest st0 st' : List Value} {a : Array Value} {A : Nat → Prop} {D : va_G} {ws wo : va_W} {r : Option Value} {tys : List (ClassId × FieldType)} {cc : ByteArray} {mc ms : Nat}
theorem xt_ri {v : Int32} {mc ms : Nat} (hx : p.tables.exec = Jvm.exec) (hb : c.code = cc) (hr : meth.sig.returnType = some .int) (hlocks : meth.locks = false) (hP : va_P D vwCl ws H) (hS : va_S A s.heap H locs) (hdg : decode cc pc = .ok (.ireturn, 1)) :
    W p l e R s m args below meth c H locs mc ms (MQ below (fk_Q D ws (some (.int v)) A) args s mc ms A) (F0 m pc ls [.int v]) :=
  W.iret (Qc := fk_Q D ws (some (.int v)) A) hx hb hr (fun t ht _ => ⟨rfl, by rw [ht]; exact hP, hS.F ht⟩) hS.2.2 hdg hlocks
theorem xf_pre {h : Nat} {f : Int32} (hB : xk_B s) (hZ : xk_Z A s s.heap) (hS : va_S A s.heap H locs) (hA : ∀ q, s.heap.size ≤ q → A q) : ∀ U : State, U.heap = H → s.WarmedH U.vm → xf_Pc h f H.size (Value.ref h :: [Value.int f]).toArray U := by
  intro U hU hW
  refine ⟨rfl, by rw [hU], hB.warm hW, ?_⟩
  rw [hU]
  exact ((hZ.kept hS.2.1).narrow (fun q hq => hA q (Nat.le_trans hS.1 hq))).moved hW.alike
/-- behind a call over the whole world -/
theorem xt_go (hr : va_Run p l e R s m args below meth c H locs cells slots mc ms (F0 m pc ls st0) rest (fk_Q D wo r (va_A ws H.size) a) (va_A ws H.size)) (hD : va_D A ws) (hS : va_S A s.heap H locs) (hA : ∀ q, s.heap.size ≤ q → A q) (hadr : wo.map Prod.fst = ws.map Prod.fst) (hst : r.toList ++ rest = st')
    (kk : ∀ (H1 : Heap) (locs1 : List Loc), va_P D vwCl wo H1 → va_D A wo → va_S A s.heap H1 locs1 → W p l e R s m args below meth c H1 locs1 (cells + mc) (slots + ms) Q (F0 m (pc + 3) ls st')) : W p l e R s m args below meth c H locs cells slots Q (F0 m pc ls st0) := by
  intro T hT X
  have hd := hk_D.mp hD
  have hF : ∀ q, va_A ws H.size q → A q := fun q hq => by
    rcases hk_A.mp hq with h | h
    · obtain ⟨x, hx, rfl⟩ := List.mem_map.mp h
      exact hd.2 x hx
    · exact hA q (Nat.le_trans hS.1 h)
  obtain ⟨v, st₀, t, T', L, h0, X', hL, e1, e2, ⟨hv, hp, hz, hk⟩, st⟩ := hr T hT X
  cases hv
  rw [h0] at hz hk
  subst hst
  have hD1 : va_D A wo := hk_D.mpr ⟨by rw [hadr]; exact hd.1, fun q hq => by
    have : q.1 ∈ ws.map Prod.fst := by rw [← hadr]; exact List.mem_map_of_mem (f := Prod.fst) hq
    obtain ⟨x, hx, e⟩ := List.mem_map.mp this
    rw [← e]; exact hd.2 x hx⟩
  obtain ⟨t2, a1, b1⟩ := kk T'.heap (locs ++ L) (by rw [e1]; exact hp) hD1 ⟨Nat.le_trans hS.1 (by rw [e1]; exact hz), fun q h1 h2 => by
      rw [e1, hk q (Nat.lt_of_lt_of_le h1 hS.1) (fun z => h2 (hF q z))]; exact hS.2.1 q h1 h2, fun q hq => by
      rcases List.mem_append.mp hq with h | h
      · exact hS.2.2 q h
      · exact hF _ (hL q h)⟩ T' rfl X'
  exact ⟨t2, st t2 a1, b1⟩
theorem xt_start {avs : List Value} (hK : va_K D vwCl tys s) (hN : fk_N s) (hB : xk_B s) (hZ : xk_Z A s s.heap) (hP : va_P D vwCl ws H) (hD : va_D A ws) (hS : va_S A s.heap H locs) (hA : ∀ q, s.heap.size ≤ q → A q) :
    ∀ U : State, U.heap = H → s.WarmedH U.vm → xt_Pc D tys avs ws H.size avs.toArray U := by
  intro U hU hW
  have hd := hk_D.mp hD
  have hF : ∀ q, va_A ws H.size q → A q := fun q hq => by
    rcases hk_A.mp hq with h | h
    · obtain ⟨x, hx, rfl⟩ := List.mem_map.mp h
      exact hd.2 x hx
    · exact hA q (Nat.le_trans hS.1 h)
  refine ⟨rfl, by rw [hU], by rw [hU]; exact hP, va_K.moved hW.alike hK, hk_D.mpr ⟨hd.1, fun _ _ => trivial⟩, va_Nw.warmM hW hN, hB.warm hW, ?_⟩
  rw [hU]
  exact ((hZ.kept hS.2.1).narrow hF).moved hW.alike
end XTR
theorem in_X11_toss_X11 : ∀ w ∈ wsX110, w ∈ wsX11_toss := by decide +kernel
theorem in_X11_toss_X4 : ∀ w ∈ wsX40, w ∈ wsX11_toss := by decide +kernel
theorem in_X11_toss_X7 : ∀ w ∈ wsX70, w ∈ wsX11_toss := by decide +kernel
def xtW (cT cS : ClassId) (qB qI qJ qK qS g1 g2 qk qd qf qs qw : Nat) (kd sa : Nat → Nat) (kS el : Nat) (it tn th bi se da ho ki fi so sz : Int32) : va_W := [(qB, .inr (10, [.ref qI, .ref qJ, .ref qK, .ref qS, .ref g1, .ref g2, .int it])), (qI, .inr (4, [.ref qk, .ref qd, .ref qf, .ref qs, .ref qw, .int tn, .int th, .int bi, .int se, .int da])), (qk, .inl (cT, 8, .inr (.inr (.inr (.inr (fun k => some (kd k))))))), (kd 0, .inr (8, [])), (kd 1, .inr (1, [])), (kd 2, .inr (0, [])), (kd 3, .inr (3, [])), (kd 4, .inr (6, [])), (kd 5, .inr (9, [])), (kd 6, .inr (5, [])), (kd 7, .inr (2, [])), (qS, .inl (cS, 8, .inr (.inr (.inr (.inr (fun k => some (sa k))))))), (sa kS, .inr (7, [.int ho, .int ki, .int fi, .int so, .int sz, .ref el]))]
def tossV (k : Nat) (f : Int32) : Int32 := match k with
  | 0 => if f = 0 then -15 else f
  | 1 => if f = 0 then -15 else 100 + f
  | 2 => -15
  | 3 => if f = 0 then -15 else f
  | 4 => -15
  | 5 => if f = 0 then -15 else 100 + f
  | 6 => if f = 0 then -15 else 200 + (3 + 2 + f)
  | _ => -15
def xt_R : Room := { frames := 7, cells := 1, slots := 6, locals := 103 }
set_option maxRecDepth 100000 in
set_option maxHeartbeats 8000000 in
theorem c_X11_toss (l : Launch) (htr : l.stackTraces = false) (D : va_G) (cI : ClassId) (cT cS : ClassId) (qB qI qJ qK qS g1 g2 qk qd qf qs qw : Nat) (kd sa : Nat → Nat) (kS el : Nat) (it tn th bi se da ho ki fi so sz : Int32) (x1 r1 v : Int32) (k : Nat) (h2 : f_X11_refusalOfOne x1 ho kS = some r1) (hc : r1 = 0 → k < 8 ∧ ki = nI k ∧ kS < 8 ∧ x1 = nI kS) (hv : v = if r1 = 0 then tossV k fi else r1) :
    xfk l yX11_toss wsX11_toss xt_R D [(cI, .int), (cT, .object "LetByTheBirds$Tenant"), (cS, .object "LetByTheBirds$Shelf")] [.ref qB, .int x1] (xtW cT cS qB qI qJ qK qS g1 g2 qk qd qf qs qw kd sa kS el it tn th bi se da ho ki fi so sz) (xtW cT cS qB qI qJ qK qS g1 g2 qk qd qf qs qw kd sa kS el it tn th bi se da ho ki fi so sz) (some (.int v)) 1 6 := by
  intro sz9
  refine xk_ofWH (cc := cX11_toss) (maxL := 6) (ret := some .int) (hh := [(41, 47, 50, 274), (41, 47, 55, 264), (41, 47, 63, 302)]) (by decide) rfl ?_
  intro p e s m args below meth c s₁ B hml hv0
  obtain ⟨rfl, hsz, hP, hK, hD0, hN, hB, hZ⟩ := hv0
  subst hsz
  have hx := B.exec
  have hb := B.bytes
  have hr := B.returns
  have hts := atoms_spec (ws := wsX11_toss) B.pre
  have hown : s.vm.findClass RX11 = some m.cls := findClass_of_methodNamed B.named
  have hlocks := B.notSynchronized
  have htab : c.exceptionTable.toList = tableOf [(41, 47, 50, 274), (41, 47, 55, 264), (41, 47, 63, 302)] := vx_table (x := yX11_toss) B (hts _ List.mem_cons_self)
  have hD := hD0.self (sz := s.heap.size)
  generalize hAe : va_A (xtW cT cS qB qI qJ qK qS g1 g2 qk qd qf qs qw kd sa kS el it tn th bi se da ho ki fi so sz) s.heap.size = A at hD hZ ⊢
  have hA : ∀ q : Nat, s.heap.size ≤ q → A q := fun q h => by rw [← hAe]; exact Or.inr h
  have hS : va_S A s.heap s.heap [] := va_S.rf
  have hl := lv_entry ([.ref qB, .int x1]) (n := 6) (Nat.le_of_ble_eq_true rfl)
  rw [lg_entry_eq]
  generalize (lg_sl ([.ref qB, .int x1]) ++ List.replicate (6 - (lg_sl ([.ref qB, .int x1])).length) Slot.unset).toArray = ls at hl ⊢
  have hl : lv_has ls 6 [(0, .ref qB), (1, .int x1)] := hl
  refine lv_aload_n hx hb dX11_toss_0 rfl (lv_at hl 0 rfl) ?_
  refine lv_iload_n hx hb dX11_toss_1 rfl (lv_at hl 1 rfl) ?_
  refine gk_V (As := [.int x1]) (rest := []) (wc := [(qB, .inr (10, [.ref qI, .ref qJ, .ref qK, .ref qS, .ref g1, .ref g2, .int it])), (qS, .inl (cS, 8, .inr (.inr (.inr (.inr (fun k => some (sa k))))))), (sa kS, .inr (7, [.int ho, .int ki, .int fi, .int so, .int sz, .ref el]))]) ⟨hx, hb, hml, hown, hts⟩ (c_X11_refusalOfOne l D cI cT cS qB qI qJ qK qS g1 g2 sa kS el it ho ki fi so sz x1 r1 h2) (cwV 1 hts gX11_toss_X11_refusalOfOne rfl rfl rfl (by decide +kernel) ⟨Nat.le_of_ble_eq_true rfl, Nat.le_of_ble_eq_true rfl⟩) hK hN (va_recv hK hP (ci := 10) (q0 := 0) rfl rfl) hP hD hS hA [0, 11, 12] [1, 2, 3, 4, 5, 6, 7, 8, 9, 10] (by decide +kernel) rfl rfl (ws' := xtW cT cS qB qI qJ qK qS g1 g2 qk qd qf qs qw kd sa kS el it tn th bi se da ho ki fi so sz) rfl (Eq.trans (b := List.map some [(qI, .inr (4, [.ref qk, .ref qd, .ref qf, .ref qs, .ref qw, .int tn, .int th, .int bi, .int se, .int da])), (qk, .inl (cT, 8, .inr (.inr (.inr (.inr (fun k => some (kd k))))))), (kd 0, .inr (8, [])), (kd 1, .inr (1, [])), (kd 2, .inr (0, [])), (kd 3, .inr (3, [])), (kd 4, .inr (6, [])), (kd 5, .inr (9, [])), (kd 6, .inr (5, [])), (kd 7, .inr (2, []))]) rfl rfl) (N := 13) rfl (by decide) (st' := [.int r1]) rfl rfl hl.1 rfl (Nat.le_of_ble_eq_true rfl) ⟨Nat.zero_le _, Nat.zero_le _⟩ dX11_toss_2 (fun H locs hP hD hS => ?_)
  refine lv_istore_n (lv' := [(2, .int r1), (0, .ref qB), (1, .int x1)]) hx hb dX11_toss_5 rfl hl (by decide) rfl (fun ls hl => ?_)
  refine lv_iload_n hx hb dX11_toss_6 rfl (lv_at hl 0 rfl) ?_
  refine lv_if_eq (tgt := 12) hx hb dX11_toss_7 (by decide) (fun c3 => ?_) (fun c3 => ?_)
  · obtain ⟨hk8, hki, hkS, hx1⟩ := hc c3
    rw [if_pos c3] at hv
    have hin1 : vp_in x1 8 := by rw [hx1]; exact vp_in_nI hkS (by omega)
    have hin2 : vp_in ki 8 := by rw [hki]; exact vp_in_nI hk8 (by omega)
    have e1 : x1.toNatClampNeg = kS := by rw [hx1]; exact nI_clamp (by omega)
    have e2 : ki.toNatClampNeg = k := by rw [hki]; exact nI_clamp (by omega)
    refine lv_aload_n hx hb dX11_toss_12 rfl (lv_at hl 1 rfl) ?_
    refine va_get (D := D) (ci := 10) (v := .ref qI) (C := RX11) (T := TX11) (N := 7) hx hb hts in_X11_toss_X11 hown hK hP 0 rfl rfl 0 (by decide) (hts (.fieldLink RX11 10 "LetByTheBirds" "isle" "LLetByTheBirds$Isle;") (List.mem_of_getElem? (i := 4) rfl)) (fun _ h9 => h9) rfl dX11_toss_13 ?_
    refine va_get (D := D) (ci := 4) (v := .ref qk) (C := RX4) (T := TX4) (N := 10) hx hb hts in_X11_toss_X4 hown hK hP 1 rfl rfl 0 (by decide) (hts (.fieldLink RX11 290 "LetByTheBirds$Isle" "kinds" "[LLetByTheBirds$Tenant;") (List.mem_of_getElem? (i := 5) rfl)) (fun _ h9 => h9) rfl dX11_toss_16 ?_
    refine lv_aload_n hx hb dX11_toss_19 rfl (lv_at hl 1 rfl) ?_
    refine va_get (D := D) (ci := 10) (v := .ref qS) (C := RX11) (T := TX11) (N := 7) hx hb hts in_X11_toss_X11 hown hK hP 0 rfl rfl 3 (by decide) (hts (.fieldLink RX11 24 "LetByTheBirds" "shelves" "[LLetByTheBirds$Shelf;") (List.mem_of_getElem? (i := 6) rfl)) (fun _ h9 => h9) rfl dX11_toss_20 ?_
    refine lv_iload_n hx hb dX11_toss_23 rfl (lv_at hl 2 rfl) ?_
    refine va_aldq hx hb hK hP 11 2 rfl rfl hin1 dX11_toss_24 ?_
    refine W.eq (g2 := F0 m 25 ls [.ref (sa kS), .ref qk]) (by rw [e1]; rfl) ?_
    refine va_get (D := D) (ci := 7) (v := .int ki) (C := RX7) (T := TX7) (N := 6) hx hb hts in_X11_toss_X7 hown hK hP 12 rfl rfl 1 (by decide) (hts (.fieldLink RX11 101 "LetByTheBirds$Shelf" "kind" "I") (List.mem_of_getElem? (i := 7) rfl)) (fun _ h9 => h9) rfl dX11_toss_25 ?_
    refine va_aldq hx hb hK hP 2 1 rfl rfl hin2 dX11_toss_28 ?_
    refine W.eq (g2 := F0 m 29 ls [.ref (kd k)]) (by rw [e2]; rfl) ?_
    refine lv_astore_n (lv' := [(3, .ref (kd k)), (2, .int r1), (0, .ref qB), (1, .int x1)]) hx hb dX11_toss_29 rfl hl (by decide) rfl (fun ls hl => ?_)
    refine lv_aload_n hx hb dX11_toss_30 rfl (lv_at hl 2 rfl) ?_
    refine va_get (D := D) (ci := 10) (v := .ref qS) (C := RX11) (T := TX11) (N := 7) hx hb hts in_X11_toss_X11 hown hK hP 0 rfl rfl 3 (by decide) (hts (.fieldLink RX11 24 "LetByTheBirds" "shelves" "[LLetByTheBirds$Shelf;") (List.mem_of_getElem? (i := 6) rfl)) (fun _ h9 => h9) rfl dX11_toss_31 ?_
    refine lv_iload_n hx hb dX11_toss_34 rfl (lv_at hl 3 rfl) ?_
    refine va_aldq hx hb hK hP 11 2 rfl rfl hin1 dX11_toss_35 ?_
    refine W.eq (g2 := F0 m 36 ls [.ref (sa kS)]) (by rw [e1]; rfl) ?_
    refine va_get (D := D) (ci := 7) (v := .int fi) (C := RX7) (T := TX7) (N := 6) hx hb hts in_X11_toss_X7 hown hK hP 12 rfl rfl 2 (by decide) (hts (.fieldLink RX11 103 "LetByTheBirds$Shelf" "figure" "I") (List.mem_of_getElem? (i := 8) rfl)) (fun _ h9 => h9) rfl dX11_toss_36 ?_
    refine lv_istore (lv' := [(4, .int fi), (3, .ref (kd k)), (2, .int r1), (0, .ref qB), (1, .int x1)]) hx hb dX11_toss_39 hl (by decide) rfl (fun ls hl => ?_)
    refine lv_aload_n hx hb dX11_toss_41 rfl (lv_at hl 1 rfl) ?_
    refine lv_iload hx hb dX11_toss_42 (lv_at hl 0 rfl) ?_
    have hf0 : ∀ q, xk_A H.size q → A q := fun q hq => hA q (Nat.le_trans hS.1 hq)
    have hf1 : ∀ q, q < H.size → xk_A H.size q → A q := fun q _ hq => hf0 q hq
    have hend : ∀ (H : Heap) (locs : List Loc), va_P D vwCl (xtW cT cS qB qI qJ qK qS g1 g2 qk qd qf qs qw kd sa kS el it tn th bi se da ho ki fi so sz) H → va_S A s.heap H locs → v = -15 → W p l e xt_R s m [Value.ref qB, Value.int x1].toArray below meth c H locs 1 6 (MQ below (fk_Q D (xtW cT cS qB qI qJ qK qS g1 g2 qk qd qf qs qw kd sa kS el it tn th bi se da ho ki fi so sz) (some (.int v)) A) [Value.ref qB, Value.int x1].toArray s 1 6 A) (F0 m 76 ls []) := by
      intro H locs hP hS hv
      refine lv_bipush (v := (-15 : Int32)) hx hb dX11_toss_76 (by decide) ?_
      rw [hv]
      exact xt_ri hx hb hr hlocks hP hS dX11_toss_78
    rcases (by omega : k = 0 ∨ k = 1 ∨ k = 2 ∨ k = 3 ∨ k = 4 ∨ k = 5 ∨ k = 6 ∨ k = 7) with rfl | rfl | rfl | rfl | rfl | rfl | rfl | rfl
    · refine vx_callv (vx_runV (As := [.int fi]) (rest := []) ⟨hx, hb, hml, hown, hts⟩ (x_X8_fail l htr (kd 0) fi H.size) (cwV 1 hts gX11_toss_X8_fail rfl rfl rfl (by decide +kernel) ⟨Nat.le_of_ble_eq_true rfl, Nat.le_of_ble_eq_true rfl⟩) ⟨xf_blind, va_recv hK hP (ci := 8) (q0 := 3) rfl rfl, xf_pre hB hZ hS hA⟩ rfl rfl hl.1 rfl (lv_room (Nat.le_of_ble_eq_true rfl)) dX11_toss_44 ⟨Nat.le_of_ble_eq_true rfl, Nat.le_of_ble_eq_true rfl⟩) hS hf1 hf0 hf1 (fun E ce q9 u t H1 locs1 ht hvm hne hE hz hk hS hce hcv hcl => ?_) (fun u t H1 locs1 ht hvm h0 hB1 hz hk hS => ?_)
      · subst hE
        have hP := xk_keep hP hk
        have hD : va_D A (xtW cT cS qB qI qJ qK qS g1 g2 qk qd qf qs qw kd sa kS el it tn th bi se da ho ki fi so sz) := hD
        refine vx_catch (own := RX11) (name := "java/lang/IllegalStateException") (E := "java/lang/IllegalStateException") hown [] ⟨41, 47, 50, 274⟩ [⟨41, 47, 55, 264⟩, ⟨41, 47, 63, 302⟩] (htab.trans rfl) (fun z hz => nomatch hz) rfl (by decide) (hts _ (List.mem_of_getElem? (i := 1) rfl)) (va_Nw.use rfl (hB.nw (i := 24) rfl)) hce hcv hcl ?_
        refine lv_astore (lv' := [(5, .ref q9), (4, .int fi), (3, .ref (kd 0)), (2, .int r1), (0, .ref qB), (1, .int x1)]) hx hb dX11_toss_50 hl (by decide) rfl (fun ls hl => ?_)
        refine lv_iload hx hb dX11_toss_52 (lv_at hl 1 rfl) ?_
        rw [show v = fi from hv.trans (if_neg hne)]
        exact xt_ri hx hb hr hlocks hP hS dX11_toss_54
      · have hP := xk_keep hP hk
        refine lv_goto (tgt := 76) hx hb dX11_toss_47 (by decide) ?_
        exact hend H1 locs1 hP hS (hv.trans (if_pos h0))
    · refine vx_callv (vx_runU (C := RX1) (As := [.int fi]) (rest := []) ⟨hx, hb, hml, hown, hts⟩ (x_X1_fail l htr (kd 1) fi H.size) (va_cwO 1 hts gX11_toss_X1_fail_u299X1 rfl rfl rfl (h0 := List.mem_of_getElem? (i := 32) rfl) (by decide +kernel) ⟨Nat.le_of_ble_eq_true rfl, Nat.le_of_ble_eq_true rfl⟩) ⟨xf_blind, va_recv hK hP (ci := 1) (q0 := 4) rfl rfl, xf_pre hB hZ hS hA⟩ rfl rfl hl.1 rfl (lv_room (Nat.le_of_ble_eq_true rfl)) dX11_toss_44 ⟨Nat.le_of_ble_eq_true rfl, Nat.le_of_ble_eq_true rfl⟩) hS hf1 hf0 hf1 (fun E ce q9 u t H1 locs1 ht hvm hne hE hz hk hS hce hcv hcl => ?_) (fun u t H1 locs1 ht hvm h0 hB1 hz hk hS => ?_)
      · subst hE
        have hP := xk_keep hP hk
        have hD : va_D A (xtW cT cS qB qI qJ qK qS g1 g2 qk qd qf qs qw kd sa kS el it tn th bi se da ho ki fi so sz) := hD
        refine vx_catch (own := RX11) (name := "java/lang/IllegalArgumentException") (E := "java/lang/IllegalArgumentException") hown [⟨41, 47, 50, 274⟩] ⟨41, 47, 55, 264⟩ [⟨41, 47, 63, 302⟩] (htab.trans rfl) (fun z hz => by cases List.mem_singleton.mp hz; exact Or.inr ⟨by decide, "java/lang/IllegalStateException", hts _ (List.mem_of_getElem? (i := 1) rfl), hB.2.2.2.1.1⟩) rfl (by decide) (hts _ (List.mem_of_getElem? (i := 2) rfl)) (va_Nw.use rfl (hB.nw (i := 25) rfl)) hce hcv hcl ?_
        refine lv_astore (lv' := [(5, .ref q9), (4, .int fi), (3, .ref (kd 1)), (2, .int r1), (0, .ref qB), (1, .int x1)]) hx hb dX11_toss_55 hl (by decide) rfl (fun ls hl => ?_)
        refine lv_bipush (v := (100 : Int32)) hx hb dX11_toss_57 (by decide) ?_
        refine lv_iload hx hb dX11_toss_59 (lv_at hl 1 rfl) ?_
        refine lv_iadd hx hb dX11_toss_61 ?_
        rw [show v = 100 + fi from hv.trans (if_neg hne)]
        exact xt_ri hx hb hr hlocks hP hS dX11_toss_62
      · have hP := xk_keep hP hk
        refine lv_goto (tgt := 76) hx hb dX11_toss_47 (by decide) ?_
        exact hend H1 locs1 hP hS (hv.trans (if_pos h0))
    · refine gk_U (C := RX0) (As := [.int fi]) (rest := []) (wc := []) ⟨hx, hb, hml, hown, hts⟩ (x_X0_fail l D [(cI, .int), (cT, .object "LetByTheBirds$Tenant"), (cS, .object "LetByTheBirds$Shelf")] (kd 2) fi) (va_cwO 1 hts gX11_toss_X0_fail_u299X0 rfl rfl rfl (h0 := List.mem_of_getElem? (i := 32) rfl) (by decide +kernel) ⟨Nat.le_of_ble_eq_true rfl, Nat.le_of_ble_eq_true rfl⟩) hK hN (va_recv hK hP (ci := 0) (q0 := 5) rfl rfl) hP hD hS hA [] [0, 1, 2, 3, 4, 5, 6, 7, 8, 9, 10, 11, 12] (by decide +kernel) rfl rfl (ws' := xtW cT cS qB qI qJ qK qS g1 g2 qk qd qf qs qw kd sa kS el it tn th bi se da ho ki fi so sz) rfl rfl (N := 13) rfl (by decide) (st' := []) rfl rfl hl.1 rfl (Nat.le_of_ble_eq_true rfl) ⟨Nat.zero_le _, Nat.zero_le _⟩ dX11_toss_44 (fun H locs hP hD hS => ?_)
      refine lv_goto (tgt := 76) hx hb dX11_toss_47 (by decide) ?_
      exact W.widen (k := 1) (n := 6) (by omega) (by omega) (hend H locs hP hS hv)
    · refine vx_callv (vx_runU (C := RX3) (As := [.int fi]) (rest := []) ⟨hx, hb, hml, hown, hts⟩ (x_X8_fail l htr (kd 3) fi H.size) (va_cwU 1 hts gX11_toss_X8_fail_u299X3 rfl rfl rfl rfl (by decide +kernel) ⟨Nat.le_of_ble_eq_true rfl, Nat.le_of_ble_eq_true rfl⟩) ⟨xf_blind, va_recv hK hP (ci := 3) (q0 := 6) rfl rfl, xf_pre hB hZ hS hA⟩ rfl rfl hl.1 rfl (lv_room (Nat.le_of_ble_eq_true rfl)) dX11_toss_44 ⟨Nat.le_of_ble_eq_true rfl, Nat.le_of_ble_eq_true rfl⟩) hS hf1 hf0 hf1 (fun E ce q9 u t H1 locs1 ht hvm hne hE hz hk hS hce hcv hcl => ?_) (fun u t H1 locs1 ht hvm h0 hB1 hz hk hS => ?_)
      · subst hE
        have hP := xk_keep hP hk
        have hD : va_D A (xtW cT cS qB qI qJ qK qS g1 g2 qk qd qf qs qw kd sa kS el it tn th bi se da ho ki fi so sz) := hD
        refine vx_catch (own := RX11) (name := "java/lang/IllegalStateException") (E := "java/lang/IllegalStateException") hown [] ⟨41, 47, 50, 274⟩ [⟨41, 47, 55, 264⟩, ⟨41, 47, 63, 302⟩] (htab.trans rfl) (fun z hz => nomatch hz) rfl (by decide) (hts _ (List.mem_of_getElem? (i := 1) rfl)) (va_Nw.use rfl (hB.nw (i := 24) rfl)) hce hcv hcl ?_
        refine lv_astore (lv' := [(5, .ref q9), (4, .int fi), (3, .ref (kd 3)), (2, .int r1), (0, .ref qB), (1, .int x1)]) hx hb dX11_toss_50 hl (by decide) rfl (fun ls hl => ?_)
        refine lv_iload hx hb dX11_toss_52 (lv_at hl 1 rfl) ?_
        rw [show v = fi from hv.trans (if_neg hne)]
        exact xt_ri hx hb hr hlocks hP hS dX11_toss_54
      · have hP := xk_keep hP hk
        refine lv_goto (tgt := 76) hx hb dX11_toss_47 (by decide) ?_
        exact hend H1 locs1 hP hS (hv.trans (if_pos h0))
    · refine gk_U (C := RX6) (As := [.int fi]) (rest := []) (wc := []) ⟨hx, hb, hml, hown, hts⟩ (x_X0_fail l D [(cI, .int), (cT, .object "LetByTheBirds$Tenant"), (cS, .object "LetByTheBirds$Shelf")] (kd 4) fi) (va_cwO 1 hts gX11_toss_X0_fail_u299X6 rfl rfl rfl (h0 := List.mem_of_getElem? (i := 32) rfl) (by decide +kernel) ⟨Nat.le_of_ble_eq_true rfl, Nat.le_of_ble_eq_true rfl⟩) hK hN (va_recv hK hP (ci := 6) (q0 := 7) rfl rfl) hP hD hS hA [] [0, 1, 2, 3, 4, 5, 6, 7, 8, 9, 10, 11, 12] (by decide +kernel) rfl rfl (ws' := xtW cT cS qB qI qJ qK qS g1 g2 qk qd qf qs qw kd sa kS el it tn th bi se da ho ki fi so sz) rfl rfl (N := 13) rfl (by decide) (st' := []) rfl rfl hl.1 rfl (Nat.le_of_ble_eq_true rfl) ⟨Nat.zero_le _, Nat.zero_le _⟩ dX11_toss_44 (fun H locs hP hD hS => ?_)
      refine lv_goto (tgt := 76) hx hb dX11_toss_47 (by decide) ?_
      exact W.widen (k := 1) (n := 6) (by omega) (by omega) (hend H locs hP hS hv)
    · refine vx_callv (vx_runU (C := RX10) (As := [.int fi]) (rest := []) ⟨hx, hb, hml, hown, hts⟩ (x_X1_fail l htr (kd 5) fi H.size) (va_cwO 1 hts gX11_toss_X1_fail_u299X10 rfl rfl rfl (h0 := List.mem_of_getElem? (i := 32) rfl) (by decide +kernel) ⟨Nat.le_of_ble_eq_true rfl, Nat.le_of_ble_eq_true rfl⟩) ⟨xf_blind, va_recv hK hP (ci := 9) (q0 := 8) rfl rfl, xf_pre hB hZ hS hA⟩ rfl rfl hl.1 rfl (lv_room (Nat.le_of_ble_eq_true rfl)) dX11_toss_44 ⟨Nat.le_of_ble_eq_true rfl, Nat.le_of_ble_eq_true rfl⟩) hS hf1 hf0 hf1 (fun E ce q9 u t H1 locs1 ht hvm hne hE hz hk hS hce hcv hcl => ?_) (fun u t H1 locs1 ht hvm h0 hB1 hz hk hS => ?_)
      · subst hE
        have hP := xk_keep hP hk
        have hD : va_D A (xtW cT cS qB qI qJ qK qS g1 g2 qk qd qf qs qw kd sa kS el it tn th bi se da ho ki fi so sz) := hD
        refine vx_catch (own := RX11) (name := "java/lang/IllegalArgumentException") (E := "java/lang/IllegalArgumentException") hown [⟨41, 47, 50, 274⟩] ⟨41, 47, 55, 264⟩ [⟨41, 47, 63, 302⟩] (htab.trans rfl) (fun z hz => by cases List.mem_singleton.mp hz; exact Or.inr ⟨by decide, "java/lang/IllegalStateException", hts _ (List.mem_of_getElem? (i := 1) rfl), hB.2.2.2.1.1⟩) rfl (by decide) (hts _ (List.mem_of_getElem? (i := 2) rfl)) (va_Nw.use rfl (hB.nw (i := 25) rfl)) hce hcv hcl ?_
        refine lv_astore (lv' := [(5, .ref q9), (4, .int fi), (3, .ref (kd 5)), (2, .int r1), (0, .ref qB), (1, .int x1)]) hx hb dX11_toss_55 hl (by decide) rfl (fun ls hl => ?_)
        refine lv_bipush (v := (100 : Int32)) hx hb dX11_toss_57 (by decide) ?_
        refine lv_iload hx hb dX11_toss_59 (lv_at hl 1 rfl) ?_
        refine lv_iadd hx hb dX11_toss_61 ?_
        rw [show v = 100 + fi from hv.trans (if_neg hne)]
        exact xt_ri hx hb hr hlocks hP hS dX11_toss_62
      · have hP := xk_keep hP hk
        refine lv_goto (tgt := 76) hx hb dX11_toss_47 (by decide) ?_
        exact hend H1 locs1 hP hS (hv.trans (if_pos h0))
    · refine vx_callv (vx_runU (C := RX5) (As := [.int fi]) (rest := []) ⟨hx, hb, hml, hown, hts⟩ (x_X5_fail l htr (kd 6) fi H.size) (va_cwO 1 hts gX11_toss_X5_fail_u299X5 rfl rfl rfl (h0 := List.mem_of_getElem? (i := 32) rfl) (by decide +kernel) ⟨Nat.le_of_ble_eq_true rfl, Nat.le_of_ble_eq_true rfl⟩) ⟨xf_blind, va_recv hK hP (ci := 5) (q0 := 9) rfl rfl, xf_pre hB hZ hS hA⟩ rfl rfl hl.1 rfl (lv_room (Nat.le_of_ble_eq_true rfl)) dX11_toss_44 ⟨Nat.le_of_ble_eq_true rfl, Nat.le_of_ble_eq_true rfl⟩) hS hf1 hf0 hf1 (fun E ce q9 u t H1 locs1 ht hvm hne hE hz hk hS hce hcv hcl => ?_) (fun u t H1 locs1 ht hvm h0 hB1 hz hk hS => ?_)
      · subst hE
        have hP := xk_keep hP hk
        have hD : va_D A (xtW cT cS qB qI qJ qK qS g1 g2 qk qd qf qs qw kd sa kS el it tn th bi se da ho ki fi so sz) := hD
        refine vx_catch (own := RX11) (name := "java/lang/UnsupportedOperationException") (E := "java/lang/UnsupportedOperationException") hown [⟨41, 47, 50, 274⟩, ⟨41, 47, 55, 264⟩] ⟨41, 47, 63, 302⟩ [] (htab.trans rfl) (fun z hz => (List.mem_cons.mp hz).elim (fun e9 => by subst e9; exact Or.inr ⟨by decide, "java/lang/IllegalStateException", hts _ (List.mem_of_getElem? (i := 1) rfl), hB.2.2.2.1.2.1⟩) (fun hz => by cases List.mem_singleton.mp hz; exact Or.inr ⟨by decide, "java/lang/IllegalArgumentException", hts _ (List.mem_of_getElem? (i := 2) rfl), hB.2.2.2.1.2.2.1⟩)) rfl (by decide) (hts _ (List.mem_of_getElem? (i := 3) rfl)) (va_Nw.use rfl (hB.nw (i := 26) rfl)) hce hcv hcl ?_
        refine lv_astore (lv' := [(5, .ref q9), (4, .int fi), (3, .ref (kd 6)), (2, .int r1), (0, .ref qB), (1, .int x1)]) hx hb dX11_toss_63 hl (by decide) rfl (fun ls hl => ?_)
        refine lv_sipush (v := (200 : Int32)) hx hb dX11_toss_65 (by decide) ?_
        refine lv_aload_n hx hb dX11_toss_68 rfl (lv_at hl 2 rfl) ?_
        refine lv_iload hx hb dX11_toss_69 (lv_at hl 1 rfl) ?_
        refine gk_U (C := RX5) (As := [.int fi]) (rest := [.int 200]) (wc := [(kd 6, .inr (5, []))]) ⟨hx, hb, hml, hown, hts⟩ (c_X5_costs_k6 l D cI cT cS (kd 6) fi (3 + 2 + fi) rfl) (va_cwO 1 hts gX11_toss_X5_costs_u294X5 rfl rfl rfl (h0 := List.mem_of_getElem? (i := 61) rfl) (by decide +kernel) ⟨Nat.le_of_ble_eq_true rfl, Nat.le_of_ble_eq_true rfl⟩) hK hN (va_recv hK hP (ci := 5) (q0 := 9) rfl rfl) hP hD hS hA [9] [0, 1, 2, 3, 4, 5, 6, 7, 8, 10, 11, 12] (by decide +kernel) rfl rfl (ws' := xtW cT cS qB qI qJ qK qS g1 g2 qk qd qf qs qw kd sa kS el it tn th bi se da ho ki fi so sz) rfl rfl (N := 13) rfl (by decide) (st' := [.int (3 + 2 + fi), .int 200]) rfl rfl hl.1 rfl (Nat.le_of_ble_eq_true rfl) ⟨Nat.le_of_ble_eq_true rfl, Nat.le_of_ble_eq_true rfl⟩ dX11_toss_71 (fun H locs hP hD hS => ?_)
        refine lv_iadd hx hb dX11_toss_74 ?_
        rw [show v = 200 + (3 + 2 + fi) from hv.trans (if_neg hne)]
        exact xt_ri hx hb hr hlocks hP hS dX11_toss_75
      · have hP := xk_keep hP hk
        refine lv_goto (tgt := 76) hx hb dX11_toss_47 (by decide) ?_
        exact hend H1 locs1 hP hS (hv.trans (if_pos h0))
    · refine gk_U (C := RX2) (As := [.int fi]) (rest := []) (wc := []) ⟨hx, hb, hml, hown, hts⟩ (x_X0_fail l D [(cI, .int), (cT, .object "LetByTheBirds$Tenant"), (cS, .object "LetByTheBirds$Shelf")] (kd 7) fi) (va_cwO 1 hts gX11_toss_X0_fail_u299X2 rfl rfl rfl (h0 := List.mem_of_getElem? (i := 32) rfl) (by decide +kernel) ⟨Nat.le_of_ble_eq_true rfl, Nat.le_of_ble_eq_true rfl⟩) hK hN (va_recv hK hP (ci := 2) (q0 := 10) rfl rfl) hP hD hS hA [] [0, 1, 2, 3, 4, 5, 6, 7, 8, 9, 10, 11, 12] (by decide +kernel) rfl rfl (ws' := xtW cT cS qB qI qJ qK qS g1 g2 qk qd qf qs qw kd sa kS el it tn th bi se da ho ki fi so sz) rfl rfl (N := 13) rfl (by decide) (st' := []) rfl rfl hl.1 rfl (Nat.le_of_ble_eq_true rfl) ⟨Nat.zero_le _, Nat.zero_le _⟩ dX11_toss_44 (fun H locs hP hD hS => ?_)
      refine lv_goto (tgt := 76) hx hb dX11_toss_47 (by decide) ?_
      exact W.widen (k := 1) (n := 6) (by omega) (by omega) (hend H locs hP hS hv)
  · rw [if_neg c3] at hv
    refine lv_iload_n hx hb dX11_toss_10 rfl (lv_at hl 0 rfl) ?_
    refine W.widen (k := 1) (n := 6) (by omega) (by omega) ?_
    rw [hv]
    exact xt_ri hx hb hr hlocks hP hS dX11_toss_11
theorem in_X11_element_X11 : ∀ w ∈ wsX110, w ∈ wsX11_element := by decide +kernel
theorem in_X11_element_X7 : ∀ w ∈ wsX70, w ∈ wsX11_element := by decide +kernel
def xeW (cI cS : ClassId) (qB qI qJ qK qS g1 g2 : Nat) (sa : Nat → Nat) (kS el : Nat) (it ho ki fi so sz : Int32) (ew : Nat → Int32) : va_W := [(qB, .inr (10, [.ref qI, .ref qJ, .ref qK, .ref qS, .ref g1, .ref g2, .int it])), (qS, .inl (cS, 8, .inr (.inr (.inr (.inr (fun k => some (sa k))))))), (sa kS, .inr (7, [.int ho, .int ki, .int fi, .int so, .int sz, .ref el])), (el, .inl (cI, 100, .inl ew))]
def xe_R : Room := { frames := 6, cells := 1, slots := 6, locals := 82 }
/-- which way element ends: 0 it answers, 1 no such shelf, 2 no row or no such place -/
def xe_K (x1 x2 ho sz : Int32) (kS : Nat) (ew : Nat → Int32) (k : Int32) (v : Int64) : Prop :=
  (f_X11_isShelf x1 = some 0 ∧ k = 1) ∨ (f_X11_isShelf x1 = some 1 ∧ kS < 8 ∧ x1 = nI kS ∧ ((ho ≠ 2 ∧ k = 2) ∨ (ho = 2 ∧ ((f_X7_hasPlace x2 sz = some 0 ∧ k = 2) ∨ (f_X7_hasPlace x2 sz = some 1 ∧ vp_in x2 100 ∧ k = 0 ∧ v = (ew x2.toNatClampNeg).toInt64)))))
set_option maxRecDepth 100000 in
set_option maxHeartbeats 8000000 in
theorem x_X11_element (l : Launch) (htr : l.stackTraces = false) (D : va_G) (cT : ClassId) (cI cS : ClassId) (qB qI qJ qK qS g1 g2 : Nat) (sa : Nat → Nat) (kS el : Nat) (it ho ki fi so sz : Int32) (ew : Nat → Int32) (x1 x2 k : Int32) (v : Int64) (hk : xe_K x1 x2 ho sz kS ew k v) (sz9 : Nat) :
    vx_Met l yX11_element wsX11_element xe_R (xt_Pc D [(cI, .int), (cT, .object "LetByTheBirds$Tenant"), (cS, .object "LetByTheBirds$Shelf")] [.ref qB, .int x1, .int x2] (xeW cI cS qB qI qJ qK qS g1 g2 sa kS el it ho ki fi so sz ew) sz9) (va_Ql (fun r (_ : Unit) => k = 0 ∧ r = v) (fun _ t => va_P D vwCl (xeW cI cS qB qI qJ qK qS g1 g2 sa kS el it ho ki fi so sz ew) t.heap) (va_A (xeW cI cS qB qI qJ qK qS g1 g2 sa kS el it ho ki fi so sz ew) sz9)) (vx_X (fun _ : Unit => True) (fun E _ t => ((k = 1 ∧ E = "java/lang/IllegalArgumentException") ∨ (k = 2 ∧ E = "java/lang/IllegalStateException")) ∧ va_P D vwCl (xeW cI cS qB qI qJ qK qS g1 g2 sa kS el it ho ki fi so sz ew) t.heap) (va_A (xeW cI cS qB qI qJ qK qS g1 g2 sa kS el it ho ki fi so sz ew) sz9)) 1 6 (va_A (xeW cI cS qB qI qJ qK qS g1 g2 sa kS el it ho ki fi so sz ew) sz9) := by
  refine vx_ofW (cc := cX11_element) (maxL := 3) (ret := some .long) (by decide) rfl ?_
  intro p e s m args below meth c s₁ B hml htb hv0
  obtain ⟨rfl, hsz, hP, hK, hD0, hN, hB, hZ⟩ := hv0
  subst hsz
  have hx := B.exec
  have hb := B.bytes
  have hr := B.returns
  have hts := atoms_spec (ws := wsX11_element) B.pre
  have hown : s.vm.findClass RX11 = some m.cls := findClass_of_methodNamed B.named
  have hlocks := B.notSynchronized
  have hD := hD0.self (sz := s.heap.size)
  generalize hAe : va_A (xeW cI cS qB qI qJ qK qS g1 g2 sa kS el it ho ki fi so sz ew) s.heap.size = A at hD hZ ⊢
  have hA : ∀ q : Nat, s.heap.size ≤ q → A q := fun q h => by rw [← hAe]; exact Or.inr h
  have hS : va_S A s.heap s.heap [] := va_S.rf
  have hl := lv_entry ([.ref qB, .int x1, .int x2]) (n := 3) (Nat.le_of_ble_eq_true rfl)
  rw [lg_entry_eq]
  generalize (lg_sl ([.ref qB, .int x1, .int x2]) ++ List.replicate (3 - (lg_sl ([.ref qB, .int x1, .int x2])).length) Slot.unset).toArray = ls at hl ⊢
  have hl : lv_has ls 3 [(0, .ref qB), (1, .int x1), (2, .int x2)] := hl
  have hkx : ∀ (H : Heap) (t : State), va_P D vwCl (xeW cI cS qB qI qJ qK qS g1 g2 sa kS el it ho ki fi so sz ew) H → H.size ≤ t.heap.size → (∀ q : Nat, q < H.size → t.heap[q]? = H[q]?) → va_P D vwCl (xeW cI cS qB qI qJ qK qS g1 g2 sa kS el it ho ki fi so sz ew) t.heap := fun H t hP _ h2 => xk_keep hP (fun q h3 _ => h2 q h3)
  have hfx : ∀ (H : Heap) (locs : List Loc) (t : State), va_S A s.heap H locs → H.size ≤ t.heap.size → (∀ q : Nat, q < H.size → t.heap[q]? = H[q]?) → va_F A s t := fun H locs t hS h1 h2 => ⟨Nat.le_trans hS.1 h1, fun q h3 h4 => by rw [h2 q (Nat.lt_of_lt_of_le h3 hS.1)]; exact hS.2.1 q h3 h4⟩
  refine lv_iload_n hx hb dX11_element_0 rfl (lv_at hl 1 rfl) ?_
  rcases hk with ⟨h1, hk1⟩ | ⟨h1, hkS, hx1, hk⟩
  · refine gk_S (As := [.int x1]) (rest := []) (wc := []) ⟨hx, hb, hml, hown, hts⟩ (c_X11_isShelf l D cI cT cS x1 0 h1) (va_cwS 1 hts gX11_element_X11_isShelf rfl rfl rfl (by decide +kernel) ⟨Nat.le_of_ble_eq_true rfl, Nat.le_of_ble_eq_true rfl⟩) hK hN hP hD hS hA [] [0, 1, 2, 3] (by decide +kernel) rfl rfl (ws' := xeW cI cS qB qI qJ qK qS g1 g2 sa kS el it ho ki fi so sz ew) rfl rfl (N := 4) rfl (by decide) (st' := [.int 0]) rfl rfl hl.1 rfl (Nat.le_of_ble_eq_true rfl) ⟨Nat.zero_le _, Nat.zero_le _⟩ dX11_element_1 (fun H locs hP hD hS => ?_)
    refine lv_if_ne (tgt := 18) hx hb dX11_element_4 (by decide) (fun c3 => absurd rfl c3) (fun _ => ?_)
    obtain ⟨sa9, hsa⟩ := hB.2.2.2.2.2.2.2.1
    exact vx_throwSW (A := A) hx hb htr (own := RX11) (cls := "java/lang/IllegalArgumentException") (text := "no such shelf") (names := ["java/lang/RuntimeException", "java/lang/Exception"]) (ik := 264) (is := 266) (ic := 268) hown (by decide +kernel) (by decide +kernel) (hts _ (List.mem_of_getElem? (i := 1) rfl)) (hts _ (List.mem_of_getElem? (i := 2) rfl)) hsa
      (vx_hat (B := [.declares (Bundle.initS "java/lang/RuntimeException"), .declares (Bundle.initS "java/lang/Exception"), .declares (Bundle.initS Bundle.tN), .castable "java/lang/IllegalArgumentException" "java/lang/IllegalArgumentException"]) (fun w hw => hts w (List.mem_cons_of_mem _ (List.mem_append_left _ (List.mem_append_right _ hw)))) (by decide +kernel)
        (vx_c (va_Nw.use rfl (hB.nw (i := 27) rfl)) (vx_c (va_Nw.use rfl (hB.nw (i := 28) rfl)) (vx_c (va_Nw.use rfl (hB.nw (i := 29) rfl)) (vx_c (va_Nw.use rfl (hB.nw (i := 25) rfl)) vx_n)))))
      (by decide +kernel) hZ.1 hZ.2 hS (hl.1.trans hml.symm) dX11_element_7 dX11_element_10 dX11_element_11 dX11_element_14 dX11_element_17 (fun x hx => (htb x hx).elim) (Nat.le_of_ble_eq_true rfl) (Nat.le_of_ble_eq_true rfl) (Nat.le_of_ble_eq_true rfl) (Nat.le_of_ble_eq_true rfl) hlocks
      (fun t ha h1 h2 => ⟨(), trivial, ⟨Or.inl ⟨hk1, rfl⟩, hkx H t hP h1 h2⟩, hfx H locs t hS h1 h2⟩) hS.2.2 (Nat.le_refl _) (Nat.le_refl _)
  · have hin1 : vp_in x1 8 := by rw [hx1]; exact vp_in_nI hkS (by omega)
    have e1 : x1.toNatClampNeg = kS := by rw [hx1]; exact nI_clamp (by omega)
    refine gk_S (As := [.int x1]) (rest := []) (wc := []) ⟨hx, hb, hml, hown, hts⟩ (c_X11_isShelf l D cI cT cS x1 1 h1) (va_cwS 1 hts gX11_element_X11_isShelf rfl rfl rfl (by decide +kernel) ⟨Nat.le_of_ble_eq_true rfl, Nat.le_of_ble_eq_true rfl⟩) hK hN hP hD hS hA [] [0, 1, 2, 3] (by decide +kernel) rfl rfl (ws' := xeW cI cS qB qI qJ qK qS g1 g2 sa kS el it ho ki fi so sz ew) rfl rfl (N := 4) rfl (by decide) (st' := [.int 1]) rfl rfl hl.1 rfl (Nat.le_of_ble_eq_true rfl) ⟨Nat.zero_le _, Nat.zero_le _⟩ dX11_element_1 (fun H locs hP hD hS => ?_)
    refine lv_if_ne (tgt := 18) hx hb dX11_element_4 (by decide) (fun _ => ?_) (fun c3 => absurd c3 (by decide))
    refine lv_aload_n hx hb dX11_element_18 rfl (lv_at hl 0 rfl) ?_
    refine va_get (D := D) (ci := 10) (v := .ref qS) (C := RX11) (T := TX11) (N := 7) hx hb hts in_X11_element_X11 hown hK hP 0 rfl rfl 3 (by decide) (hts (.fieldLink RX11 24 "LetByTheBirds" "shelves" "[LLetByTheBirds$Shelf;") (List.mem_of_getElem? (i := 5) rfl)) (fun _ h9 => h9) rfl dX11_element_19 ?_
    refine lv_iload_n hx hb dX11_element_22 rfl (lv_at hl 1 rfl) ?_
    refine va_aldq hx hb hK hP 1 2 rfl rfl hin1 dX11_element_23 ?_
    refine W.eq (g2 := F0 m 24 ls [.ref (sa kS)]) (by rw [e1]; rfl) ?_
    refine va_get (D := D) (ci := 7) (v := .int ho) (C := RX7) (T := TX7) (N := 6) hx hb hts in_X11_element_X7 hown hK hP 2 rfl rfl 0 (by decide) (hts (.fieldLink RX11 271 "LetByTheBirds$Shelf" "holds" "I") (List.mem_of_getElem? (i := 6) rfl)) (fun _ h9 => h9) rfl dX11_element_24 ?_
    refine lv_iconst (v := (2 : Int32)) hx hb dX11_element_27 (by decide) ?_
    rcases hk with ⟨hh2, hk2⟩ | ⟨hh2, hk⟩
    · refine lv_icmp_eq (tgt := 42) hx hb dX11_element_28 (by decide) (fun c4 => absurd c4 hh2) (fun _ => ?_)
      obtain ⟨sa9, hsa⟩ := hB.2.2.2.2.2.2.2.2.1
      exact vx_throwSW (A := A) hx hb htr (own := RX11) (cls := "java/lang/IllegalStateException") (text := "no row") (names := ["java/lang/RuntimeException", "java/lang/Exception"]) (ik := 274) (is := 276) (ic := 278) hown (by decide +kernel) (by decide +kernel) (hts _ (List.mem_of_getElem? (i := 3) rfl)) (hts _ (List.mem_of_getElem? (i := 4) rfl)) hsa
        (vx_hat (B := [.declares (Bundle.initS "java/lang/RuntimeException"), .declares (Bundle.initS "java/lang/Exception"), .declares (Bundle.initS Bundle.tN), .castable "java/lang/IllegalStateException" "java/lang/IllegalStateException"]) (fun w hw => hts w (List.mem_cons_of_mem _ (List.mem_append_right _ hw))) (by decide +kernel)
          (vx_c (va_Nw.use rfl (hB.nw (i := 27) rfl)) (vx_c (va_Nw.use rfl (hB.nw (i := 28) rfl)) (vx_c (va_Nw.use rfl (hB.nw (i := 29) rfl)) (vx_c (va_Nw.use rfl (hB.nw (i := 24) rfl)) vx_n)))))
        (by decide +kernel) hZ.1 hZ.2 hS (hl.1.trans hml.symm) dX11_element_31 dX11_element_34 dX11_element_35 dX11_element_38 dX11_element_41 (fun x hx => (htb x hx).elim) (Nat.le_of_ble_eq_true rfl) (Nat.le_of_ble_eq_true rfl) (Nat.le_of_ble_eq_true rfl) (Nat.le_of_ble_eq_true rfl) hlocks
        (fun t ha h1 h2 => ⟨(), trivial, ⟨Or.inr ⟨hk2, rfl⟩, hkx H t hP h1 h2⟩, hfx H locs t hS h1 h2⟩) hS.2.2 (Nat.le_refl _) (Nat.le_refl _)
    · refine lv_icmp_eq (tgt := 42) hx hb dX11_element_28 (by decide) (fun _ => ?_) (fun c4 => absurd hh2 c4)
      refine lv_aload_n hx hb dX11_element_42 rfl (lv_at hl 0 rfl) ?_
      refine va_get (D := D) (ci := 10) (v := .ref qS) (C := RX11) (T := TX11) (N := 7) hx hb hts in_X11_element_X11 hown hK hP 0 rfl rfl 3 (by decide) (hts (.fieldLink RX11 24 "LetByTheBirds" "shelves" "[LLetByTheBirds$Shelf;") (List.mem_of_getElem? (i := 5) rfl)) (fun _ h9 => h9) rfl dX11_element_43 ?_
      refine lv_iload_n hx hb dX11_element_46 rfl (lv_at hl 1 rfl) ?_
      refine va_aldq hx hb hK hP 1 2 rfl rfl hin1 dX11_element_47 ?_
      refine W.eq (g2 := F0 m 48 ls [.ref (sa kS)]) (by rw [e1]; rfl) ?_
      refine lv_iload_n hx hb dX11_element_48 rfl (lv_at hl 2 rfl) ?_
      rcases hk with ⟨hp, hk2⟩ | ⟨hp, hin2, hk0, hv⟩
      · refine gk_V (As := [.int x2]) (rest := []) (wc := [(sa kS, .inr (7, [.int ho, .int ki, .int fi, .int so, .int sz, .ref el]))]) ⟨hx, hb, hml, hown, hts⟩ (c_X7_hasPlace l D cI cT cS (sa kS) el ho ki fi so sz x2 0 hp) (cwV 1 hts gX11_element_X7_hasPlace rfl rfl rfl (by decide +kernel) ⟨Nat.le_of_ble_eq_true rfl, Nat.le_of_ble_eq_true rfl⟩) hK hN (va_recv hK hP (ci := 7) (q0 := 2) rfl rfl) hP hD hS hA [2] [0, 1, 3] (by decide +kernel) rfl rfl (ws' := xeW cI cS qB qI qJ qK qS g1 g2 sa kS el it ho ki fi so sz ew) rfl rfl (N := 4) rfl (by decide) (st' := [.int 0]) rfl rfl hl.1 rfl (Nat.le_of_ble_eq_true rfl) ⟨Nat.zero_le _, Nat.zero_le _⟩ dX11_element_49 (fun H locs hP hD hS => ?_)
        refine lv_if_ne (tgt := 66) hx hb dX11_element_52 (by decide) (fun c5 => absurd rfl c5) (fun _ => ?_)
        obtain ⟨sa9, hsa⟩ := hB.2.2.2.2.2.2.2.2.2
        exact vx_throwSW (A := A) hx hb htr (own := RX11) (cls := "java/lang/IllegalStateException") (text := "no such place") (names := ["java/lang/RuntimeException", "java/lang/Exception"]) (ik := 274) (is := 279) (ic := 278) hown (by decide +kernel) (by decide +kernel) (hts _ (List.mem_of_getElem? (i := 3) rfl)) (hts _ (List.mem_of_getElem? (i := 4) rfl)) hsa
          (vx_hat (B := [.declares (Bundle.initS "java/lang/RuntimeException"), .declares (Bundle.initS "java/lang/Exception"), .declares (Bundle.initS Bundle.tN), .castable "java/lang/IllegalStateException" "java/lang/IllegalStateException"]) (fun w hw => hts w (List.mem_cons_of_mem _ (List.mem_append_right _ hw))) (by decide +kernel)
            (vx_c (va_Nw.use rfl (hB.nw (i := 27) rfl)) (vx_c (va_Nw.use rfl (hB.nw (i := 28) rfl)) (vx_c (va_Nw.use rfl (hB.nw (i := 29) rfl)) (vx_c (va_Nw.use rfl (hB.nw (i := 24) rfl)) vx_n)))))
          (by decide +kernel) hZ.1 hZ.2 hS (hl.1.trans hml.symm) dX11_element_55 dX11_element_58 dX11_element_59 dX11_element_62 dX11_element_65 (fun x hx => (htb x hx).elim) (Nat.le_of_ble_eq_true rfl) (Nat.le_of_ble_eq_true rfl) (Nat.le_of_ble_eq_true rfl) (Nat.le_of_ble_eq_true rfl) hlocks
          (fun t ha h1 h2 => ⟨(), trivial, ⟨Or.inr ⟨hk2, rfl⟩, hkx H t hP h1 h2⟩, hfx H locs t hS h1 h2⟩) hS.2.2 (Nat.le_refl _) (Nat.le_refl _)
      · refine gk_V (As := [.int x2]) (rest := []) (wc := [(sa kS, .inr (7, [.int ho, .int ki, .int fi, .int so, .int sz, .ref el]))]) ⟨hx, hb, hml, hown, hts⟩ (c_X7_hasPlace l D cI cT cS (sa kS) el ho ki fi so sz x2 1 hp) (cwV 1 hts gX11_element_X7_hasPlace rfl rfl rfl (by decide +kernel) ⟨Nat.le_of_ble_eq_true rfl, Nat.le_of_ble_eq_true rfl⟩) hK hN (va_recv hK hP (ci := 7) (q0 := 2) rfl rfl) hP hD hS hA [2] [0, 1, 3] (by decide +kernel) rfl rfl (ws' := xeW cI cS qB qI qJ qK qS g1 g2 sa kS el it ho ki fi so sz ew) rfl rfl (N := 4) rfl (by decide) (st' := [.int 1]) rfl rfl hl.1 rfl (Nat.le_of_ble_eq_true rfl) ⟨Nat.zero_le _, Nat.zero_le _⟩ dX11_element_49 (fun H locs hP hD hS => ?_)
        refine lv_if_ne (tgt := 66) hx hb dX11_element_52 (by decide) (fun _ => ?_) (fun c5 => absurd c5 (by decide))
        refine lv_aload_n hx hb dX11_element_66 rfl (lv_at hl 0 rfl) ?_
        refine va_get (D := D) (ci := 10) (v := .ref qS) (C := RX11) (T := TX11) (N := 7) hx hb hts in_X11_element_X11 hown hK hP 0 rfl rfl 3 (by decide) (hts (.fieldLink RX11 24 "LetByTheBirds" "shelves" "[LLetByTheBirds$Shelf;") (List.mem_of_getElem? (i := 5) rfl)) (fun _ h9 => h9) rfl dX11_element_67 ?_
        refine lv_iload_n hx hb dX11_element_70 rfl (lv_at hl 1 rfl) ?_
        refine va_aldq hx hb hK hP 1 2 rfl rfl hin1 dX11_element_71 ?_
        refine W.eq (g2 := F0 m 72 ls [.ref (sa kS)]) (by rw [e1]; rfl) ?_
        refine va_get (D := D) (ci := 7) (v := .ref el) (C := RX7) (T := TX7) (N := 6) hx hb hts in_X11_element_X7 hown hK hP 2 rfl rfl 5 (by decide) (hts (.fieldLink RX11 227 "LetByTheBirds$Shelf" "elements" "[I") (List.mem_of_getElem? (i := 7) rfl)) (fun _ h9 => h9) rfl dX11_element_72 ?_
        refine lv_iload_n hx hb dX11_element_75 rfl (lv_at hl 2 rfl) ?_
        refine va_iald hx hb hK hP 3 0 rfl rfl hin2 dX11_element_76 ?_
        refine lv_i2l (v := (ew x2.toNatClampNeg).toInt64) hx hb dX11_element_77 rfl ?_
        refine vx_ret (W.widen (k := 1) (n := 6) (by omega) (by omega) ?_)
        exact W.lret (Qc := va_Ql (fun r (_ : Unit) => k = 0 ∧ r = v) (fun _ t => va_P D vwCl (xeW cI cS qB qI qJ qK qS g1 g2 sa kS el it ho ki fi so sz ew) t.heap) A) hx hb hr (fun t ht _ => ⟨⟨_, (), rfl, ⟨hk0, hv.symm⟩, by show va_P D vwCl (xeW cI cS qB qI qJ qK qS g1 g2 sa kS el it ho ki fi so sz ew) t.heap; rw [ht]; exact hP⟩, hS.F ht⟩) hS.2.2 dX11_element_78 hlocks
set_option maxRecDepth 20000 in
theorem ggL_element_X11_element : GoodIn wsL_element wsX11_element := goodIn_ca (goodIn_ca (goodIn_r _ [7, 8, 9, 10, 11, 12, 13, 14, 15, 16, 6, 17, 18, 19, 20, 21, 22, 23, 24, 25, 26, 27, 28, 29, 30, 31, 32, 33, 34, 35, 36, 37, 38, 39] (by decide +kernel) (by decide +kernel)) (goodIn_sub (fun _ h => List.mem_cons_of_mem _ (List.mem_append_left _ (List.mem_append_right _ h))) (by decide +kernel))) (goodIn_sub (fun _ h => List.mem_cons_of_mem _ (List.mem_append_right _ h)) (by decide +kernel))
set_option maxRecDepth 20000 in
theorem gL_element_X11_element : GoodIn wsL_element (wsV RL 7 RX11 yX11_element wsX11_element) := goodIn_app (goodIn_of _ (by decide +kernel)) ggL_element_X11_element
theorem dL_element_0 : decode cL_element 0 = .ok (.aload_n 3, 1) := by decide +kernel
theorem dL_element_1 : decode cL_element 1 = .ok (.iconst 0, 1) := by decide +kernel
theorem dL_element_2 : decode cL_element 2 = .ok (.aload_n 0, 1) := by decide +kernel
theorem dL_element_3 : decode cL_element 3 = .ok (.iload_n 1, 1) := by decide +kernel
theorem dL_element_4 : decode cL_element 4 = .ok (.iload_n 2, 1) := by decide +kernel
theorem dL_element_5 : decode cL_element 5 = .ok (.invokevirtual 7, 3) := by decide +kernel
theorem dL_element_8 : decode cL_element 8 = .ok (.lastore, 1) := by decide +kernel
theorem dL_element_9 : decode cL_element 9 = .ok (.goto 11, 3) := by decide +kernel
theorem dL_element_12 : decode cL_element 12 = .ok (.astore 4, 2) := by decide +kernel
theorem dL_element_14 : decode cL_element 14 = .ok (.iconst 1, 1) := by decide +kernel
theorem dL_element_15 : decode cL_element 15 = .ok (.ireturn, 1) := by decide +kernel
theorem dL_element_16 : decode cL_element 16 = .ok (.astore 4, 2) := by decide +kernel
theorem dL_element_18 : decode cL_element 18 = .ok (.iconst 2, 1) := by decide +kernel
theorem dL_element_19 : decode cL_element 19 = .ok (.ireturn, 1) := by decide +kernel
theorem dL_element_20 : decode cL_element 20 = .ok (.iconst 0, 1) := by decide +kernel
theorem dL_element_21 : decode cL_element 21 = .ok (.ireturn, 1) := by decide +kernel
def xl_R : Room := { frames := 7, cells := 1, slots := 6, locals := 104 }
set_option maxRecDepth 100000 in
set_option maxHeartbeats 8000000 in
theorem c_L_element (l : Launch) (htr : l.stackTraces = false) (D : va_G) (cT cJ : ClassId) (qo : Nat) (fo : Nat → Int64) (cI cS : ClassId) (qB qI qJ qK qS g1 g2 : Nat) (sa : Nat → Nat) (kS el : Nat) (it ho ki fi so sz : Int32) (ew : Nat → Int32) (x1 x2 k : Int32) (v : Int64) (hk : xe_K x1 x2 ho sz kS ew k v) :
    xfk l yL_element wsL_element xl_R D [(cI, .int), (cT, .object "LetByTheBirds$Tenant"), (cS, .object "LetByTheBirds$Shelf"), (cJ, .long)] [.ref qB, .int x1, .int x2, .ref qo] (xeW cI cS qB qI qJ qK qS g1 g2 sa kS el it ho ki fi so sz ew ++ [(qo, .inl (cJ, 1, .inr (.inl fo)))]) (xeW cI cS qB qI qJ qK qS g1 g2 sa kS el it ho ki fi so sz ew ++ [(qo, .inl (cJ, 1, .inr (.inl (if k = 0 then vp_updL fo 0 v else fo))))]) (some (.int k)) 1 6 := by
  intro sz9
  refine xk_ofWH (cc := cL_element) (maxL := 5) (ret := some .int) (hh := [(0, 9, 12, 13), (0, 9, 16, 15)]) (by decide) rfl ?_
  intro p e s m args below meth c s₁ B hml hv0
  obtain ⟨rfl, hsz, hP, hK, hD0, hN, hB, hZ⟩ := hv0
  subst hsz
  have hx := B.exec
  have hb := B.bytes
  have hr := B.returns
  have hts := atoms_spec (ws := wsL_element) B.pre
  have hown : s.vm.findClass RL = some m.cls := findClass_of_methodNamed B.named
  have hlocks := B.notSynchronized
  have htab : c.exceptionTable.toList = tableOf [(0, 9, 12, 13), (0, 9, 16, 15)] := vx_table (x := yL_element) B (hts _ List.mem_cons_self)
  have hD := hD0.self (sz := s.heap.size)
  generalize hAe : va_A (xeW cI cS qB qI qJ qK qS g1 g2 sa kS el it ho ki fi so sz ew ++ [(qo, .inl (cJ, 1, .inr (.inl fo)))]) s.heap.size = A at hD hZ ⊢
  have hA : ∀ q : Nat, s.heap.size ≤ q → A q := fun q h => by rw [← hAe]; exact Or.inr h
  have hS : va_S A s.heap s.heap [] := va_S.rf
  have hl := lv_entry ([.ref qB, .int x1, .int x2, .ref qo]) (n := 5) (Nat.le_of_ble_eq_true rfl)
  rw [lg_entry_eq]
  generalize (lg_sl ([.ref qB, .int x1, .int x2, .ref qo]) ++ List.replicate (5 - (lg_sl ([.ref qB, .int x1, .int x2, .ref qo])).length) Slot.unset).toArray = ls at hl ⊢
  have hl : lv_has ls 5 [(0, .ref qB), (1, .int x1), (2, .int x2), (3, .ref qo)] := hl
  refine lv_aload_n hx hb dL_element_0 rfl (lv_at hl 3 rfl) ?_
  refine lv_iconst (v := (0 : Int32)) hx hb dL_element_1 (by decide) ?_
  refine lv_aload_n hx hb dL_element_2 rfl (lv_at hl 0 rfl) ?_
  refine lv_iload_n hx hb dL_element_3 rfl (lv_at hl 1 rfl) ?_
  refine lv_iload_n hx hb dL_element_4 rfl (lv_at hl 2 rfl) ?_
  have hPc : va_P D vwCl (xeW cI cS qB qI qJ qK qS g1 g2 sa kS el it ho ki fi so sz ew) s.heap := hP.sub [0, 1, 2, 3] rfl
  have hDc : va_D A (xeW cI cS qB qI qJ qK qS g1 g2 sa kS el it ho ki fi so sz ew) := hD.sub [0, 1, 2, 3] (by decide) rfl
  have hKc : va_K D vwCl [(cI, .int), (cT, .object "LetByTheBirds$Tenant"), (cS, .object "LetByTheBirds$Shelf")] s := hK.sub [0, 1, 2] rfl
  have hFc := va_free (wc := xeW cI cS qB qI qJ qK qS g1 g2 sa kS el it ho ki fi so sz ew) hD hS hA [0, 1, 2, 3] rfl
  refine vx_calll (vx_runV (As := [.int x1, .int x2]) (rest := [.int 0, .ref qo]) ⟨hx, hb, hml, hown, hts⟩ (x_X11_element l htr D cT cI cS qB qI qJ qK qS g1 g2 sa kS el it ho ki fi so sz ew x1 x2 k v hk s.heap.size) (cwV 2 hts gL_element_X11_element rfl rfl rfl (by decide +kernel) ⟨Nat.le_of_ble_eq_true rfl, Nat.le_of_ble_eq_true rfl⟩) ⟨xt_blind, va_recv hKc hPc (ci := 10) (q0 := 0) rfl rfl, xt_start hKc hN hB hZ hPc hDc hS hA⟩ rfl rfl hl.1 rfl (lv_room (Nat.le_of_ble_eq_true rfl)) dL_element_5 ⟨Nat.le_of_ble_eq_true rfl, Nat.le_of_ble_eq_true rfl⟩) hS (fun q _ h => hFc q h) hFc (fun q _ h => hFc q h) (fun E ce q9 u t H1 locs1 ht hvm _ hE hz hk1 hS hce hcv hcl => ?_) (fun r u t H1 locs1 ht hvm hp hB1 hz hk1 hS => ?_)
  · obtain ⟨hE, hP1⟩ := hE
    rw [ht] at hP1
    obtain ⟨hP, hD⟩ := gk_after (ws' := xeW cI cS qB qI qJ qK qS g1 g2 sa kS el it ho ki fi so sz ew ++ [(qo, .inl (cJ, 1, .inr (.inl fo)))]) hP hD [0, 1, 2, 3] [4] rfl rfl rfl rfl (N := 5) rfl (by decide) hk1 hP1
    rcases hE with ⟨hk9, rfl⟩ | ⟨hk9, rfl⟩
    · subst hk9
      refine vx_catch (own := RL) (name := "java/lang/IllegalArgumentException") (E := "java/lang/IllegalArgumentException") hown [] ⟨0, 9, 12, 13⟩ [⟨0, 9, 16, 15⟩] (htab.trans rfl) (fun z hz => nomatch hz) rfl (by decide) (hts _ (List.mem_of_getElem? (i := 1) rfl)) (va_Nw.use rfl (hB.nw (i := 25) rfl)) hce hcv hcl ?_
      refine lv_astore (lv' := [(4, .ref q9), (0, .ref qB), (1, .int x1), (2, .int x2), (3, .ref qo)]) hx hb dL_element_12 hl (by decide) rfl (fun ls hl => ?_)
      refine lv_iconst (v := (1 : Int32)) hx hb dL_element_14 (by decide) ?_
      exact xt_ri hx hb hr hlocks hP hS dL_element_15
    · subst hk9
      refine vx_catch (own := RL) (name := "java/lang/IllegalStateException") (E := "java/lang/IllegalStateException") hown [⟨0, 9, 12, 13⟩] ⟨0, 9, 16, 15⟩ [] (htab.trans rfl) (fun z hz => by cases List.mem_singleton.mp hz; exact Or.inr ⟨by decide, "java/lang/IllegalArgumentException", hts _ (List.mem_of_getElem? (i := 1) rfl), hB.2.2.2.1.2.2.2⟩) rfl (by decide) (hts _ (List.mem_of_getElem? (i := 2) rfl)) (va_Nw.use rfl (hB.nw (i := 24) rfl)) hce hcv hcl ?_
      refine lv_astore (lv' := [(4, .ref q9), (0, .ref qB), (1, .int x1), (2, .int x2), (3, .ref qo)]) hx hb dL_element_16 hl (by decide) rfl (fun ls hl => ?_)
      refine lv_iconst (v := (2 : Int32)) hx hb dL_element_18 (by decide) ?_
      exact xt_ri hx hb hr hlocks hP hS dL_element_19
  · obtain ⟨hk9, hr9⟩ := hp
    subst hk9
    subst hr9
    rw [ht] at hB1
    obtain ⟨hP, hD⟩ := gk_after (ws' := xeW cI cS qB qI qJ qK qS g1 g2 sa kS el it ho ki fi so sz ew ++ [(qo, .inl (cJ, 1, .inr (.inl fo)))]) hP hD [0, 1, 2, 3] [4] rfl rfl rfl rfl (N := 5) rfl (by decide) hk1 hB1
    refine va_last hx hb hK hP hD hS 4 3 rfl rfl (show vp_in (0 : Int32) 1 by unfold vp_in; decide) dL_element_8 (fun H locs hP hD hS => ?_)
    refine lv_goto (tgt := 20) hx hb dL_element_9 (by decide) ?_
    refine lv_iconst (v := (0 : Int32)) hx hb dL_element_20 (by decide) ?_
    exact xt_ri hx hb hr hlocks hP hS dL_element_21
