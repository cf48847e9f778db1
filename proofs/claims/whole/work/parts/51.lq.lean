/-! THE CLAIM OUT OF ONE WALK OF THE LAW'S BODY. Your part is whole_start (and what it stands on); all else here is the same for every law, but numbers. -/
def R_law : String := "LetByTheBirdsLaw"
def lw_P (b : Addr) (xs : List Int32) (args : Array Value) (s : State) : Prop := args = #[.ref b] ∧ s.IntsAt b xs ∧ xs.length ≤ 3072 ∧ (Jvm.Cond.and given_1 narrow_1).before args s = true
def lw_Q (_ : Array Value) (s : State) (o : Outcome) (t : State) : Prop := o = .returned (some (.int 1)) ∧ Framed s o t [] 601024 7293034
def lw_Z (below : List Frame) (a : Array Value) (s : State) : State → Prop := fun t => ∃ o, t.status = .running ∧ Ended t below o ∧ lw_Q a s o t
/-- the law's own end, with 1 on the stack, nothing written that was there before, its room as the claim has it -/
theorem lw_ret {p : Program} {l : Launch} {e : Env} {s : State} {m : MethodId} {below : List Frame} {meth : Method} {c : Code} {b : Nat} (hx : p.tables.exec = Jvm.exec) (hb : c.code = code) (hr : meth.sig.returnType = ret) (hlocks : meth.locks = false) {pc : Nat} {H : Heap} {ls : Array Slot} (hdg : decode code pc = .ok (.ireturn, 1)) : W p l e room_1 s m #[Value.ref b] below meth c H [] 601024 7293034 (lw_Z below #[Value.ref b] s) (F0 m pc ls [.int 1]) := by
  intro T hT X
  obtain ⟨fs, hret, hrun, hended, hW, hframe⟩ := X.leave (v := some (.int 1)) (hlocks := hlocks) (fun h => by rw [hr] at h; cases h)
  have hmeth' : T.vm.method? m = some meth := X.method'
  refine ⟨T.setFrames fs, ?_, .returned (some (.int 1)), hrun, hended, rfl, ⟨_, rfl⟩, hW, hframe⟩
  jvm_step X.here [X.here.top, hx, hb, hdg, hmeth', hr, ret, narrow_b1]
  (try refine ⟨rfl, ?_⟩); (try refine ⟨rfl, ?_⟩)
  first | (intro acts; rw [hret _ acts rfl rfl rfl]) | rw [hret _ _ rfl rfl rfl]
  exact Steps.refl _
/-- what holds at the law's entry: the machine, the code, the tables' words (any of lw_tbl by 'hts w (by decide +kernel)'), the script of L ints xs at the cell b, what the Statement gives of the start (any of its parts by flat_of_before) -/
def lw_At (p : Program) (s : State) (m : MethodId) (meth : Method) (c : Code) (b L : Nat) (xs : Nat → Int32) : Prop :=
  p.tables.exec = Jvm.exec ∧ c.code = code ∧ meth.sig.returnType = ret ∧ c.maxLocals = 8 ∧ s.vm.findClass R_law = some m.cls ∧ (∀ w ∈ lw_tbl, w.before #[Value.ref b] s = true) ∧ va_X b L xs s s.heap ∧ b < s.heap.size ∧ meth.locks = false ∧ (Jvm.Cond.and given_1 narrow_1).before #[Value.ref b] s = true

/-! rows of the law -/
theorem xt_pos {l : Launch} {y : MethodName} {wy : List Cond} {rm : Room} {D : va_G} {tys : List (ClassId × FieldType)} {avs : List Value} {wc wo ws ws' : va_W} {r : Option Value} {mc ms : Nat} (h : xfk l y wy rm D tys avs wc wo r mc ms) (isC isR : List Nat) (hnd : va_nd isC = true) (hC : isC.map (fun i => ws[i]?) = wc.map some) (hadr : wo.map Prod.fst = wc.map Prod.fst) (hC' : isC.map (fun i => ws'[i]?) = wo.map some) (hR' : isR.map (fun i => ws'[i]?) = isR.map (fun i => ws[i]?)) {N : Nat} (hN : ws'.length = N) (hcov : ∀ k, k < N → k ∈ isC ∨ k ∈ isR) : xfk l y wy rm D tys avs ws ws' r mc ms := by
  intro sz p e ha hc hk s m args below hf happ hP hK
  obtain ⟨q0, qz, qP, qK, qD, qN, qB, qZ⟩ := hP
  subst qz
  have hPc : va_P D vwCl wc s.heap := by
    intro k q hk
    have h1 : (isC.map (fun i => ws[i]?))[k]? = some (some q) := by rw [hC, List.getElem?_map, hk]; rfl
    rw [List.getElem?_map] at h1
    cases hi : isC[k]? with
    | none => rw [hi] at h1; cases h1
    | some i => rw [hi] at h1; exact qP i q (Option.some.inj h1)
  have hA : ∀ q, va_A wc s.heap.size q → va_A ws s.heap.size q := va_free (qD.self (sz := s.heap.size)) (va_S.rf (H0 := s.heap)) (fun q h => Or.inr h) isC hC
  obtain ⟨k, o, a1, a2, a3, ⟨b1, b2, b3⟩, L, b4, b5⟩ := h s.heap.size p e ha hc hk s m args below hf happ ⟨q0, rfl, hPc, qK, qD.sub isC hnd hC, qN, qB, qZ.narrow hA⟩ hK
  obtain ⟨g1, -⟩ := gk_after qP qD isC isR hC hadr hC' hR' hN hcov (H1 := (stepsAlone p.tables e k s).heap) b3.2 b2
  exact ⟨k, o, a1, a2, a3, ⟨b1, g1, b3.1, fun q h3 h4 => b3.2 q h3 (fun h5 => h4 (hA q h5))⟩, L, b4, fun q hq => hA _ (b5 q hq)⟩
theorem xt_shelf {l : Launch} {y : MethodName} {wy : List Cond} {rm : Room} {D : va_G} {tys : List (ClassId × FieldType)} {avs : List Value} {r : Option Value} {mc ms : Nat} {cI : ClassId} {sa ea : Nat → Nat} {d : Nat} (hd : d < 8) {C C' T T' : va_W} {S : Nat → pu_Sh} (wr : va_W) (h : xfk l y wy rm D tys avs ((C ++ hkS cI sa ea d (S d)) ++ T) ((C' ++ hkS cI sa ea d (S d)) ++ T') r mc ms) : xfk l y wy rm D tys avs ((C ++ hkF cI sa ea S) ++ (wr ++ T)) ((C' ++ hkF cI sa ea S) ++ (wr ++ T')) r mc ms := by
  have hs := hk_split (cI := cI) (sa := sa) (ea := ea) hd S (S d)
  rw [hk_self] at hs
  have pm : ∀ X Y : va_W, List.Perm ((X ++ hkF cI sa ea S) ++ (wr ++ Y)) (((X ++ hkS cI sa ea d (S d)) ++ Y) ++ (((List.range 8).erase d).flatMap (fun k => hkS cI sa ea k (S k)) ++ wr)) := by
    intro X Y
    refine ((hs.append_left X).append_right (wr ++ Y)).trans ?_
    simp only [List.append_assoc]
    refine List.Perm.append_left X (List.Perm.append_left _ ?_)
    rw [← List.append_assoc]
    exact List.perm_append_comm
  exact xt_perm h _ (pm C T) (pm C' T')
def lqW (cI cT cS cJ : ClassId) (a kI kJ kK sa ea bb : Nat → Nat) (qo : Nat) (I J K : pu_I) (it : Int32) (g1 g2 : Nat → Int32) (S : Nat → pu_Sh) (x : pu_Mo) (fo : Nat → Int64) : va_W := hkB cI cT cS a kI kJ kK sa ea I J K it g1 g2 S ++ (hkM cI bb x ++ [(qo, .inl (cJ, 1, .inr (.inl fo)))])
set_option maxRecDepth 100000 in
theorem hkB_adr (cI cT cS : ClassId) (a kI kJ kK sa ea : Nat → Nat) (I J K : pu_I) (it : Int32) (g1 g2 : Nat → Int32) (S : Nat → pu_Sh) : (hkB cI cT cS a kI kJ kK sa ea I J K it g1 g2 S).map Prod.fst = [a 0, a 1, a 7, a 8, a 9, a 10, a 11, kI 0, kI 1, kI 2, kI 3, kI 4, kI 5, kI 6, kI 7, a 2, a 12, a 13, a 14, a 15, a 16, kJ 0, kJ 1, kJ 2, kJ 3, kJ 4, kJ 5, kJ 6, kJ 7, a 3, a 17, a 18, a 19, a 20, a 21, kK 0, kK 1, kK 2, kK 3, kK 4, kK 5, kK 6, kK 7, a 4, a 5, a 6, sa 0, ea 0, sa 1, ea 1, sa 2, ea 2, sa 3, ea 3, sa 4, ea 4, sa 5, ea 5, sa 6, ea 6, sa 7, ea 7] := rfl
theorem hkM_adr (cI : ClassId) (bb : Nat → Nat) (x : pu_Mo) : (hkM cI bb x).map Prod.fst = [bb 0, bb 1, bb 2, bb 3, bb 4, bb 5, bb 6, bb 7, bb 8, bb 9, bb 10, bb 11] := rfl
theorem lqW_adr (cI cT cS cJ : ClassId) (a kI kJ kK sa ea bb : Nat → Nat) (qo : Nat) (I J K I2 J2 K2 : pu_I) (it it2 : Int32) (g1 g2 h1 h2 : Nat → Int32) (S S2 : Nat → pu_Sh) (x x2 : pu_Mo) (fo fo2 : Nat → Int64) : (lqW cI cT cS cJ a kI kJ kK sa ea bb qo I2 J2 K2 it2 h1 h2 S2 x2 fo2).map Prod.fst = (lqW cI cT cS cJ a kI kJ kK sa ea bb qo I J K it g1 g2 S x fo).map Prod.fst := by
  unfold lqW
  rw [List.map_append, List.map_append, List.map_append, List.map_append, hkB_adr, hkB_adr, hkM_adr, hkM_adr]
  rfl
def lq_C (p : Program) (l : Launch) (s : State) (m : MethodId) (meth : Method) (c : Code) (b L : Nat) (xs : Nat → Int32) (D : va_G) (cI cT cS cJ : ClassId) : Prop :=
  lw_At p s m meth c b L xs ∧ (∀ w ∈ wsL_law, w.before #[Value.ref b] s = true) ∧ va_K D vwCl [(cI, .int), (cT, .object "LetByTheBirds$Tenant"), (cS, .object "LetByTheBirds$Shelf"), (cJ, .long)] s ∧ fk_N s ∧ xk_B s ∧ xk_Z (xk_A s.heap.size) s s.heap ∧ L ≤ 3072 ∧ l.stackTraces = false
def lq_L (b i : Nat) (a bb : Nat → Nat) (qo : Nat) : List (Nat × Value) := [(0, .ref b), (1, .ref (a 0)), (2, .ref (bb 0)), (3, .ref qo), (4, .int (nI i))]
/-- the law comes to its end from pc, whatever the two hold, as long as they say the same -/
def lq_G (p : Program) (l : Launch) (e : Env) (s : State) (m : MethodId) (below : List Frame) (meth : Method) (c : Code) (b : Nat) (D : va_G) (cI cT cS cJ : ClassId) (a kI kJ kK sa ea bb : Nat → Nat) (qo i cells slots pc : Nat) : Prop :=
  ∀ (I J K : pu_I) (it : Int32) (g1 g2 : Nat → Int32) (S : Nat → pu_Sh) (x : pu_Mo) (fo : Nat → Int64) (H : Heap) (locs : List Loc) (ls : Array Slot), lr I J it S x → lv_has ls 8 (lq_L b i a bb qo) → va_P D vwCl (lqW cI cT cS cJ a kI kJ kK sa ea bb qo I J K it g1 g2 S x fo) H → va_D (xk_A s.heap.size) (lqW cI cT cS cJ a kI kJ kK sa ea bb qo I J K it g1 g2 S x fo) → va_S (xk_A s.heap.size) s.heap H locs →
    W p l e room_1 s m #[Value.ref b] below meth c H locs cells slots (lw_Z below #[Value.ref b] s) (F0 m pc ls [])
section LQ
variable {p : Program} {l : Launch} {e : Env} {s : State} {m : MethodId} {below : List Frame} {meth : Method} {c : Code} {b L : Nat} {xs : Nat → Int32} {D : va_G} {cI cT cS cJ : ClassId} {a kI kJ kK sa ea bb : Nat → Nat} {qo i cells slots : Nat}
variable {H : Heap} {locs : List Loc} {ls : Array Slot} {pc : Nat} {st rest st0 st' : List Value} {Q : State → Prop} {I J K I2 J2 K2 : pu_I} {it it2 : Int32} {g1 g2 h1 h2 : Nat → Int32} {S S2 : Nat → pu_Sh} {x x2 : pu_Mo} {fo fo2 : Nat → Int64}
theorem lq_arg (C : lq_C p l s m meth c b L xs D cI cT cS cJ) (hl0 : ls[0]? = some (.val (.ref b))) (hl4 : ls[4]? = some (.val (.int (nI i)))) (hS : va_S (xk_A s.heap.size) s.heap H locs) (j : Nat) (hij : i + j < L) {v : Int32} {w : Int} (hv : v = nI j) (hw : Int32.ofInt w = v)
    (d0 : decode cL_law pc = .ok (.aload_n 0, 1)) (d1 : decode cL_law (pc + 1) = .ok (.iload 4, 2)) (d3 : decode cL_law (pc + 3) = .ok (.iconst w, 1)) (d4 : decode cL_law (pc + 4) = .ok (.iadd, 1)) (d5 : decode cL_law (pc + 5) = .ok (.iaload, 1))
    (kk : W p l e room_1 s m #[Value.ref b] below meth c H locs cells slots Q (F0 m (pc + 6) ls (.int (xs (i + j)) :: st))) : W p l e room_1 s m #[Value.ref b] below meth c H locs cells slots Q (F0 m pc ls st) := by
  obtain ⟨⟨hx, hb, hr, hml, hown, hts0, hX, hbl, hlocks, hgv⟩, hts, hK, hN, hB, hZ, hL, htr⟩ := C
  refine lv_aload_n hx hb d0 rfl hl0 ?_
  refine lv_iload hx hb d1 hl4 ?_
  refine lv_iconst (v := v) hx hb d3 hw ?_
  refine lv_iadd hx hb d4 ?_
  have e1 : nI i + v = nI (i + j) := by rw [hv]; exact nI_add i j
  rw [e1]
  refine va_sld hx hb hX hbl (Nat.not_le.mpr hbl) hS (vp_in_nI hij (by omega)) d5 ?_
  rw [nI_clamp (show i + j < 2 ^ 31 by omega)]
  exact kk
theorem lq_fk {tys : List (ClassId × FieldType)} {avs : List Value} {ws : va_W} {A : Nat → Prop} (hK : va_K D vwCl tys s) (hN : fk_N s) (hP : va_P D vwCl ws H) (hD : va_D A ws) : ∀ U : State, U.heap = H → s.WarmedH U.vm → fk_Pre D tys avs ws H.size avs.toArray U := by
  intro U hU hW
  exact ⟨rfl, by rw [hU], by rw [hU]; exact hP, va_K.moved hW.alike hK, hk_D.mpr ⟨(hk_D.mp hD).1, fun _ _ => trivial⟩, va_Nw.warmM hW hN⟩
theorem lq_callX (C : lq_C p l s m meth c b L xs D cI cT cS cJ) {y : MethodName} {wy : List Cond} {rm : Room} {As : List Value} {r : Option Value} {bytes : ByteArray} {maxL n index : Nat} {ret : Option FieldType} (hM : fk l y wy rm D [(cI, .int), (cT, .object "LetByTheBirds$Tenant"), (cS, .object "LetByTheBirds$Shelf")] (.ref (a 0) :: As) (hkB cI cT cS a kI kJ kK sa ea I J K it g1 g2 S) (hkB cI cT cS a kI kJ kK sa ea I2 J2 K2 it2 h1 h2 S2) r) (cw : CallW room_1 s #[Value.ref b] RL RX11 index y bytes maxL ret wy rm 0 0 n)
    (hP : va_P D vwCl (lqW cI cT cS cJ a kI kJ kK sa ea bb qo I J K it g1 g2 S x fo) H) (hD : va_D (xk_A s.heap.size) (lqW cI cT cS cJ a kI kJ kK sa ea bb qo I J K it g1 g2 S x fo)) (hS : va_S (xk_A s.heap.size) s.heap H locs) (hst : r.toList ++ rest = st') (hn : As.length = n) (hsize : ls.size = 8) (hstk : st0 = As.reverse ++ .ref (a 0) :: rest) (hro : (rest.map fun v => v.category).sum ≤ 8) (hf : cells ≤ 601024 ∧ slots ≤ 7293034) (hdg : decode cL_law pc = .ok (.invokevirtual index, 3))
    (kk : ∀ (H1 : Heap) (locs1 : List Loc), va_P D vwCl (lqW cI cT cS cJ a kI kJ kK sa ea bb qo I2 J2 K2 it2 h1 h2 S2 x fo) H1 → va_D (xk_A s.heap.size) (lqW cI cT cS cJ a kI kJ kK sa ea bb qo I2 J2 K2 it2 h1 h2 S2 x fo) → va_S (xk_A s.heap.size) s.heap H1 locs1 → W p l e room_1 s m #[Value.ref b] below meth c H1 locs1 cells slots Q (F0 m (pc + 3) ls st')) : W p l e room_1 s m #[Value.ref b] below meth c H locs cells slots Q (F0 m pc ls st0) := by
  obtain ⟨⟨hx, hb, hr, hml, hown, hts0, hX, hbl, hlocks, hgv⟩, hts, hK, hN, hB, hZ, hL, htr⟩ := C
  have hKc : va_K D vwCl [(cI, .int), (cT, .object "LetByTheBirds$Tenant"), (cS, .object "LetByTheBirds$Shelf")] s := hK.sub [0, 1, 2] rfl
  have hM' : fk l y wy rm D [(cI, .int), (cT, .object "LetByTheBirds$Tenant"), (cS, .object "LetByTheBirds$Shelf")] (.ref (a 0) :: As) (lqW cI cT cS cJ a kI kJ kK sa ea bb qo I J K it g1 g2 S x fo) (lqW cI cT cS cJ a kI kJ kK sa ea bb qo I2 J2 K2 it2 h1 h2 S2 x fo) r := hk_perm hM (hkM cI bb x ++ [(qo, .inl (cJ, 1, .inr (.inl fo)))]) (List.Perm.refl _) (List.Perm.refl _)
  exact xt_go (mc := 0) (ms := 0) (va_runV (As := As) (rest := rest) ⟨hx, hb, hml, hown, hts⟩ (hM' H.size) cw ⟨fk_blind, va_recv hKc hP (ci := 10) (q0 := 0) rfl rfl, lq_fk hKc hN hP hD⟩ rfl hn hsize hstk (lv_room hro) hdg hf) hD hS (fun q h => h) (lqW_adr ..) hst kk
theorem lq_callM (C : lq_C p l s m meth c b L xs D cI cT cS cJ) {y : MethodName} {wy : List Cond} {rm : Room} {As : List Value} {r : Option Value} {bytes : ByteArray} {maxL n index : Nat} {ret : Option FieldType} (hM : fk l y wy rm D [(cI, .int)] (.ref (bb 0) :: As) (hkM cI bb x) (hkM cI bb x2) r) (cw : CallW room_1 s #[Value.ref b] RL RX12 index y bytes maxL ret wy rm 0 0 n)
    (hP : va_P D vwCl (lqW cI cT cS cJ a kI kJ kK sa ea bb qo I J K it g1 g2 S x fo) H) (hD : va_D (xk_A s.heap.size) (lqW cI cT cS cJ a kI kJ kK sa ea bb qo I J K it g1 g2 S x fo)) (hS : va_S (xk_A s.heap.size) s.heap H locs) (hst : r.toList ++ rest = st') (hn : As.length = n) (hsize : ls.size = 8) (hstk : st0 = As.reverse ++ .ref (bb 0) :: rest) (hro : (rest.map fun v => v.category).sum ≤ 8) (hf : cells ≤ 601024 ∧ slots ≤ 7293034) (hdg : decode cL_law pc = .ok (.invokevirtual index, 3))
    (kk : ∀ (H1 : Heap) (locs1 : List Loc), va_P D vwCl (lqW cI cT cS cJ a kI kJ kK sa ea bb qo I J K it g1 g2 S x2 fo) H1 → va_D (xk_A s.heap.size) (lqW cI cT cS cJ a kI kJ kK sa ea bb qo I J K it g1 g2 S x2 fo) → va_S (xk_A s.heap.size) s.heap H1 locs1 → W p l e room_1 s m #[Value.ref b] below meth c H1 locs1 cells slots Q (F0 m (pc + 3) ls st')) : W p l e room_1 s m #[Value.ref b] below meth c H locs cells slots Q (F0 m pc ls st0) := by
  obtain ⟨⟨hx, hb, hr, hml, hown, hts0, hX, hbl, hlocks, hgv⟩, hts, hK, hN, hB, hZ, hL, htr⟩ := C
  have hKc : va_K D vwCl [(cI, .int)] s := hK.sub [0] rfl
  have pm : ∀ z : pu_Mo, List.Perm (lqW cI cT cS cJ a kI kJ kK sa ea bb qo I J K it g1 g2 S z fo) (hkM cI bb z ++ (hkB cI cT cS a kI kJ kK sa ea I J K it g1 g2 S ++ [(qo, .inl (cJ, 1, .inr (.inl fo)))])) := fun z => List.perm_append_comm_assoc _ _ _
  have hM' : fk l y wy rm D [(cI, .int)] (.ref (bb 0) :: As) (lqW cI cT cS cJ a kI kJ kK sa ea bb qo I J K it g1 g2 S x fo) (lqW cI cT cS cJ a kI kJ kK sa ea bb qo I J K it g1 g2 S x2 fo) r := hk_perm hM (hkB cI cT cS a kI kJ kK sa ea I J K it g1 g2 S ++ [(qo, .inl (cJ, 1, .inr (.inl fo)))]) (pm x) (pm x2)
  exact xt_go (mc := 0) (ms := 0) (va_runV (As := As) (rest := rest) ⟨hx, hb, hml, hown, hts⟩ (hM' H.size) cw ⟨fk_blind, va_recv hKc (pm_P (pm x) hP) (ci := 11) (q0 := 0) rfl rfl, lq_fk hKc hN hP hD⟩ rfl hn hsize hstk (lv_room hro) hdg hf) hD hS (fun q h => h) (lqW_adr ..) hst kk
theorem lq_cmp (v : Int64) : lg_cmp v v = 0 := by
  unfold lg_cmp
  have h : ¬ v > v := fun h => by
    have h := Int64.lt_iff_toInt_lt.mp h
    omega
  rw [if_neg h, if_pos rfl]
end LQ
