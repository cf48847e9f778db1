/-! the law from its entry -/
theorem xkL_in : ∀ w ∈ xkL, w ∈ lw_tbl := by decide +kernel
theorem lr_start : lr puI0 puI0 0 puS0 puM0 := by
  refine ⟨⟨0, rfl, ⟨by omega, rfl, rfl, rfl, ⟨40, by omega, rfl⟩, ⟨0, by omega, rfl⟩, rfl, fun t ht => absurd ht (Nat.not_lt_zero t)⟩, 3, by omega, rfl, rfl⟩, ⟨rfl, Or.inl rfl⟩, fun d _ => ⟨rfl, Or.inl rfl⟩⟩
set_option maxRecDepth 100000 in
set_option maxHeartbeats 16000000 in
theorem lq_known {s : State} {b : Nat} (hts0 : ∀ w ∈ lw_tbl, w.before #[Value.ref b] s = true) : ∃ (D : va_G) (cI cT cS : ClassId), va_K D vwCl [(cI, .int), (cT, .object "LetByTheBirds$Tenant"), (cS, .object "LetByTheBirds$Shelf")] s := by
  obtain ⟨c0, i0, k0⟩ := u_known (C := RX0) (T := TX0) (N := 0) (n := 0) hts0 inX0 (hts0 (.instantiable RX0 0) (wsL_law0_r2_in _ (List.mem_of_getElem? (i := 12) rfl)))
  obtain ⟨c1, i1, k1⟩ := u_known (C := RX1) (T := TX1) (N := 0) (n := 0) hts0 inX1 (hts0 (.instantiable RX1 0) (wsL_law0_r2_in _ (List.mem_of_getElem? (i := 9) rfl)))
  obtain ⟨c2, i2, k2⟩ := u_known (C := RX2) (T := TX2) (N := 0) (n := 0) hts0 inX2 (hts0 (.instantiable RX2 0) (wsL_law0_r3_in _ (List.mem_of_getElem? (i := 3) rfl)))
  obtain ⟨c3, i3, k3⟩ := u_known (C := RX3) (T := TX3) (N := 0) (n := 0) hts0 inX3 (hts0 (.instantiable RX3 0) (wsL_law0_r2_in _ (List.mem_of_getElem? (i := 15) rfl)))
  obtain ⟨c4, i4, k4⟩ := u_known (C := RX4) (T := TX4) (N := 10) (n := 10) hts0 inX4 (hts0 (.instantiable RX4 10) (wsL_law0_r1_in _ (List.mem_of_getElem? (i := 14) rfl)))
  obtain ⟨c5, i5, k5⟩ := u_known (C := RX5) (T := TX5) (N := 0) (n := 0) hts0 inX5 (hts0 (.instantiable RX5 0) (wsL_law0_r3_in _ (List.mem_of_getElem? (i := 0) rfl)))
  obtain ⟨c6, i6, k6⟩ := u_known (C := RX6) (T := TX6) (N := 0) (n := 0) hts0 inX6 (hts0 (.instantiable RX6 0) (wsL_law0_r2_in _ (List.mem_of_getElem? (i := 18) rfl)))
  obtain ⟨c7, i7, k7⟩ := u_known (C := RX7) (T := TX7) (N := 6) (n := 6) hts0 inX7 (hts0 (.instantiable RX7 6) (wsL_law0_r1_in _ (List.mem_of_getElem? (i := 21) rfl)))
  obtain ⟨c8, i8, k8⟩ := u_known (C := RX8) (T := TX8) (N := 0) (n := 0) hts0 inX8 (hts0 (.instantiable RX8 0) (wsL_law0_r2_in _ (List.mem_of_getElem? (i := 6) rfl)))
  obtain ⟨c9, i9, k9⟩ := u_known (C := RX10) (T := TX10) (N := 0) (n := 0) hts0 inX10 (hts0 (.instantiable RX10 0) (wsL_law0_r2_in _ (List.mem_of_getElem? (i := 21) rfl)))
  obtain ⟨c10, i10, k10⟩ := u_known (C := RX11) (T := TX11) (N := 7) (n := 7) hts0 inX11 (hts0 (.instantiable RX11 7) (wsL_law0_r1_in _ (List.mem_of_getElem? (i := 1) rfl)))
  obtain ⟨c11, i11, k11⟩ := u_known (C := RX12) (T := TX12) (N := 17) (n := 17) hts0 inX12 (hts0 (.instantiable RX12 17) (wsL_law0_r1_in _ (List.mem_of_getElem? (i := 4) rfl)))
  obtain ⟨cI, kI9, compI, f1, f2, f3⟩ := Cond.arrayClass_spec (hts0 (.arrayClass .int) (wsL_law0_r1_in _ (List.mem_of_getElem? (i := 23) rfl)))
  obtain ⟨compT, cT, kT, t1, t2, t3, t4, t5⟩ := Cond.arrayOver_spec (hts0 (.arrayOver (.object "LetByTheBirds$Tenant")) (by decide +kernel))
  obtain ⟨compS, cS, kS, s1, s2, s3, s4, s5⟩ := Cond.arrayOver_spec (hts0 (.arrayOver (.object "LetByTheBirds$Shelf")) (by decide +kernel))
  refine ⟨(fun k => match k with | 0 => c0 | 1 => c1 | 2 => c2 | 3 => c3 | 4 => c4 | 5 => c5 | 6 => c6 | 7 => c7 | 8 => c8 | 9 => c9 | 10 => c10 | _ => c11, fun k => match k with | 0 => i0 | 1 => i1 | 2 => i2 | 3 => i3 | 4 => i4 | 5 => i5 | 6 => i6 | 7 => i7 | 8 => i8 | 9 => i9 | 10 => i10 | _ => i11), cI, cT, cS, fun k q hq => ?_, fun k q hq => ?_⟩
  · match k, hq with
    | 0, hq => cases hq; exact k0
    | 1, hq => cases hq; exact k1
    | 2, hq => cases hq; exact k2
    | 3, hq => cases hq; exact k3
    | 4, hq => cases hq; exact k4
    | 5, hq => cases hq; exact k5
    | 6, hq => cases hq; exact k6
    | 7, hq => cases hq; exact k7
    | 8, hq => cases hq; exact k8
    | 9, hq => cases hq; exact k9
    | 10, hq => cases hq; exact k10
    | 11, hq => cases hq; exact k11
    | k + 12, hq => exact absurd hq (by simp [vwCl])
  · match k, hq with
    | 0, hq => cases hq; exact ⟨fun n z => ⟨fun k h => (by cases h), kI9, f2, compI, f3⟩, f1⟩
    | 1, hq => cases hq; exact ⟨fun n z => ⟨fun k h => (by cases h), kT, t3, compT, t4⟩, kT, compT, t3, t4, t1, t5⟩
    | 2, hq => cases hq; exact ⟨fun n z => ⟨fun k h => (by cases h), kS, s3, compS, s4⟩, kS, compS, s3, s4, s1, s5⟩
    | k + 3, hq => exact absurd hq (by simp)
set_option maxRecDepth 100000 in
set_option maxHeartbeats 16000000 in
theorem lq_known2 {s : State} {b : Nat} (hts0 : ∀ w ∈ lw_tbl, w.before #[Value.ref b] s = true) (hgv : (Jvm.Cond.and given_1 narrow_1).before #[Value.ref b] s = true) : xk_B s ∧ fk_N s ∧ xk_Z (xk_A s.heap.size) s s.heap := by
  have hfl := flat_of_before _ hgv
  refine ⟨⟨fun w hw => va_Nw.of (xkL_on w hw) (hts0 w (xkL_in w hw)), va_AO.of (hts0 (.arrayOver (.object "LetByTheBirds$Tenant")) (by decide +kernel)), va_AO.of (hts0 (.arrayOver (.object "LetByTheBirds$Shelf")) (by decide +kernel)),
    ⟨va_Nc.of (hfl (.not (.castable "java/lang/IllegalArgumentException" "java/lang/IllegalStateException")) (by decide +kernel)), va_Nc.of (hfl (.not (.castable "java/lang/UnsupportedOperationException" "java/lang/IllegalStateException")) (by decide +kernel)), va_Nc.of (hfl (.not (.castable "java/lang/UnsupportedOperationException" "java/lang/IllegalArgumentException")) (by decide +kernel)), va_Nc.of (hfl (.not (.castable "java/lang/IllegalStateException" "java/lang/IllegalArgumentException")) (by decide +kernel))⟩,
    (by obtain ⟨a9, c9, cell9, k9, e9, -⟩ := Cond.exactly_spec (hfl (.exactly (.string RX8 11) "java/lang/String") (by decide +kernel)); exact ⟨a9, vk_R.of (hts0 (.stringRef RX8 11 "a tenant's") (by decide +kernel)) e9⟩), 
    (by obtain ⟨a9, c9, cell9, k9, e9, -⟩ := Cond.exactly_spec (hfl (.exactly (.string RX1 17) "java/lang/String") (by decide +kernel)); exact ⟨a9, vk_R.of (hts0 (.stringRef RX1 17 "a boatman's") (by decide +kernel)) e9⟩), 
    (by obtain ⟨a9, c9, cell9, k9, e9, -⟩ := Cond.exactly_spec (hfl (.exactly (.string RX5 17) "java/lang/String") (by decide +kernel)); exact ⟨a9, vk_R.of (hts0 (.stringRef RX5 17 "a lawyer's") (by decide +kernel)) e9⟩), 
    (by obtain ⟨a9, c9, cell9, k9, e9, -⟩ := Cond.exactly_spec (hfl (.exactly (.string RX11 266) "java/lang/String") (by decide +kernel)); exact ⟨a9, vk_R.of (hts0 (.stringRef RX11 266 "no such shelf") (by decide +kernel)) e9⟩), 
    (by obtain ⟨a9, c9, cell9, k9, e9, -⟩ := Cond.exactly_spec (hfl (.exactly (.string RX11 276) "java/lang/String") (by decide +kernel)); exact ⟨a9, vk_R.of (hts0 (.stringRef RX11 276 "no row") (by decide +kernel)) e9⟩), 
    (by obtain ⟨a9, c9, cell9, k9, e9, -⟩ := Cond.exactly_spec (hfl (.exactly (.string RX11 279) "java/lang/String") (by decide +kernel)); exact ⟨a9, vk_R.of (hts0 (.stringRef RX11 279 "no such place") (by decide +kernel)) e9⟩)⟩,
    va_Nw.of rfl (hts0 (.methodLinkNest RX4 74 yX11_hasBit "LetByTheBirds") (by decide +kernel)),
    vx_Zqof (hts0 (.laysStatic Bundle.tN "UNASSIGNED_STACK" Bundle.steD) (by decide +kernel)) (hts0 (.initialized Bundle.tN) (by decide +kernel)) (hfl (.isRef (.static Bundle.tN "UNASSIGNED_STACK" Bundle.steD)) (by decide +kernel)) (fun a ha => Nat.not_le.mpr ha),
    vx_Zqof (hts0 (.laysStatic Bundle.tN "SUPPRESSED_SENTINEL" Bundle.listD) (by decide +kernel)) (hts0 (.initialized Bundle.tN) (by decide +kernel)) (hfl (.isRef (.static Bundle.tN "SUPPRESSED_SENTINEL" Bundle.listD)) (by decide +kernel)) (fun a ha => Nat.not_le.mpr ha)⟩
set_option maxRecDepth 100000 in
set_option maxHeartbeats 16000000 in
theorem whole_start {p : Program} {e : Env} {s : State} {m : MethodId} {below : List Frame} {meth : Method} {c : Code} (l : Launch) (hflags : l.flags = flags0) {b L : Nat} {xs : Nat → Int32} (hL : L ≤ 3072) (C0 : lw_At p s m meth c b L xs) : W p l e room_1 s m #[Value.ref b] below meth c s.heap [] 0 0 (lw_Z below #[Value.ref b] s) (entryFrame m ([Value.ref b] : List Value).toArray 8) := by
  obtain ⟨hx, hb, hr, hml, hown, hts0, hX, hbl, hlocks, hgv⟩ := id C0
  have htr : l.stackTraces = false := by
    unfold Launch.stackTraces
    rw [hflags]
    decide +kernel
  have hts : ∀ w ∈ wsL_law, w.before #[Value.ref b] s = true := fun w h => hts0 w (wsL_law_in w h)
  obtain ⟨D, cI, cT, cS, hK⟩ := lq_known hts0
  obtain ⟨hB, hN, hZ⟩ := lq_known2 hts0 hgv
  have hA : ∀ q : Nat, s.heap.size ≤ q → xk_A s.heap.size q := fun _ h => h
  have hS : va_S (xk_A s.heap.size) s.heap s.heap [] := va_S.rf
  have hP : va_P D vwCl [] s.heap := fun k q h => by simp at h
  have hD : va_D (xk_A s.heap.size) [] := ⟨fun i j p q h => by simp at h, fun k q h => by simp at h⟩
  have hl := lv_entry ([.ref b]) (n := 8) (Nat.le_of_ble_eq_true rfl)
  rw [lg_entry_eq]
  generalize (lg_sl ([.ref b]) ++ List.replicate (8 - (lg_sl ([.ref b])).length) Slot.unset).toArray = ls at hl ⊢
  have hl : lv_has ls 8 [(0, .ref b)] := hl
  refine va_new (ci := 10) (fs := [.null, .null, .null, .null, .null, .null, .int 0]) (C := RX11) (T := TX11) (N := 7) hx hb hts0 inX11 tyX11 tyX11_ok hown (hts0 (.classLink RL 8 RX11) (wsL_law0_r1_in _ (List.mem_of_getElem? (i := 0) rfl))) (hts0 (.instantiable RX11 7) (wsL_law0_r1_in _ (List.mem_of_getElem? (i := 1) rfl))) (hts0 (.initialized RX11) (wsL_law0_r1_in _ (List.mem_of_getElem? (i := 2) rfl))) hK hP hD hS hA rfl (fun j hj => by rcases (by omega : j = 0 ∨ j = 1 ∨ j = 2 ∨ j = 3 ∨ j = 4 ∨ j = 5 ∨ j = 6) with rfl | rfl | rfl | rfl | rfl | rfl | rfl <;> rfl) (Nat.le_of_ble_eq_true rfl) (Nat.le_of_ble_eq_true rfl) dL_law_0 (fun q0 H hP hD hS => ?_)
  refine lv_dup hx hb dL_law_3 rfl ?_
  refine ct_call (Y := []) (va_runI (As := []) (rest := [.ref q0]) ⟨hx, hb, hml, hown, hts⟩ (ct_X11 l D cI cT cS q0 H.size) (cwI 0 hts gL_law_X11_init rfl rfl rfl (hts0 (.initialized RX11) (wsL_law0_r1_in _ (List.mem_of_getElem? (i := 2) rfl))) (hts0 (.methodLink RL 17 yX11_init) (wsL_law0_r1_in _ (List.mem_of_getElem? (i := 7) rfl))) (hts0 (.instanceMethod yX11_init) (wsL_law0_r1_in _ (List.mem_of_getElem? (i := 8) rfl))) rfl (by decide +kernel) ⟨Nat.le_of_ble_eq_true rfl, Nat.le_of_ble_eq_true rfl⟩) ⟨ct_blind, ct_start (A := xk_A s.heap.size) (Y := []) hK hB hP⟩ rfl rfl hl.1 rfl (lv_room (Nat.le_of_ble_eq_true rfl)) dL_law_4 ⟨Nat.le_of_ble_eq_true rfl, Nat.le_of_ble_eq_true rfl⟩) hP hD hS hA (fun u H locs hu hP hD hS => ?_)
  have hP : va_P D vwCl (hkB cI cT cS u.1 u.2.1 u.2.2.1 u.2.2.2.1 u.2.2.2.2.1 u.2.2.2.2.2 puI0 puI0 puI0 0 (fun _ => 0) (fun _ => 0) puS0) H := hP
  have hD : va_D (xk_A s.heap.size) (hkB cI cT cS u.1 u.2.1 u.2.2.1 u.2.2.2.1 u.2.2.2.2.1 u.2.2.2.2.2 puI0 puI0 puI0 0 (fun _ => 0) (fun _ => 0) puS0) := hD
  refine W.widen (k := 62) (n := 1009) (Nat.le_of_ble_eq_true rfl) (Nat.le_of_ble_eq_true rfl) ?_
  refine lv_astore_n (lv' := [(1, .ref q0), (0, .ref b)]) hx hb dL_law_7 rfl hl (by decide) rfl (fun ls hl => ?_)
  refine va_new (ci := 11) (fs := [.null, .null, .null, .null, .int 0, .int 0, .int 0, .int 0, .null, .int 0, .null, .null, .null, .null, .null, .null, .int 0]) (C := RX12) (T := TX12) (N := 17) hx hb hts0 inX12 tyX12 tyX12_ok hown (hts0 (.classLink RL 18 RX12) (wsL_law0_r1_in _ (List.mem_of_getElem? (i := 3) rfl))) (hts0 (.instantiable RX12 17) (wsL_law0_r1_in _ (List.mem_of_getElem? (i := 4) rfl))) (hts0 (.initialized RX12) (wsL_law0_r1_in _ (List.mem_of_getElem? (i := 5) rfl))) hK hP hD hS hA rfl (fun j hj => by rcases (by omega : j = 0 ∨ j = 1 ∨ j = 2 ∨ j = 3 ∨ j = 4 ∨ j = 5 ∨ j = 6 ∨ j = 7 ∨ j = 8 ∨ j = 9 ∨ j = 10 ∨ j = 11 ∨ j = 12 ∨ j = 13 ∨ j = 14 ∨ j = 15 ∨ j = 16) with rfl | rfl | rfl | rfl | rfl | rfl | rfl | rfl | rfl | rfl | rfl | rfl | rfl | rfl | rfl | rfl | rfl <;> rfl) (Nat.le_of_ble_eq_true rfl) (Nat.le_of_ble_eq_true rfl) dL_law_8 (fun q1 H hP hD hS => ?_)
  refine lv_dup hx hb dL_law_11 rfl ?_
  have hKc : va_K D vwCl [(cI, .int)] s := hK.sub [0] rfl
  refine ct_call (Y := hkB cI cT cS u.1 u.2.1 u.2.2.1 u.2.2.2.1 u.2.2.2.2.1 u.2.2.2.2.2 puI0 puI0 puI0 0 (fun _ => 0) (fun _ => 0) puS0) (va_runI (As := []) (rest := [.ref q1]) ⟨hx, hb, hml, hown, hts⟩ (ct_X12 l D cI q1 H.size) (cwI 0 hts gL_law_X12_init rfl rfl rfl (hts0 (.initialized RX12) (wsL_law0_r1_in _ (List.mem_of_getElem? (i := 5) rfl))) (hts0 (.methodLink RL 20 yX12_init) (wsL_law0_r4_in _ (List.mem_of_getElem? (i := 17) rfl))) (hts0 (.instanceMethod yX12_init) (wsL_law0_r4_in _ (List.mem_of_getElem? (i := 18) rfl))) rfl (by decide +kernel) ⟨Nat.le_of_ble_eq_true rfl, Nat.le_of_ble_eq_true rfl⟩) ⟨ct_blind, ct_start (A := xk_A s.heap.size) (Y := hkB cI cT cS u.1 u.2.1 u.2.2.1 u.2.2.2.1 u.2.2.2.2.1 u.2.2.2.2.2 puI0 puI0 puI0 0 (fun _ => 0) (fun _ => 0) puS0) hKc hB hP⟩ rfl rfl hl.1 rfl (lv_room (Nat.le_of_ble_eq_true rfl)) dL_law_12 ⟨Nat.le_of_ble_eq_true rfl, Nat.le_of_ble_eq_true rfl⟩) hP hD hS hA (fun bb H locs hbb hP hD hS => ?_)
  refine W.widen (k := 74) (n := 2025) (Nat.le_of_ble_eq_true rfl) (Nat.le_of_ble_eq_true rfl) ?_
  refine lv_astore_n (lv' := [(2, .ref q1), (1, .ref q0), (0, .ref b)]) hx hb dL_law_15 rfl hl (by decide) rfl (fun ls hl => ?_)
  refine lv_iconst (v := (1 : Int32)) hx hb dL_law_16 (by decide) ?_
  refine va_newa (atype := .long) (ty := .long) hx hb (hts0 (.arrayClass .long) (wsL_law0_r1_in _ (List.mem_of_getElem? (i := 6) rfl))) rfl hK hP hD hS hA (N' := 1) (a0 := (1, .inr (.inl (fun _ => 0)))) (fun _ => rfl) (by decide) (by decide) (by decide) (Nat.le_of_ble_eq_true rfl) (Nat.le_of_ble_eq_true rfl) dL_law_17 (fun qo cJ H hK hP hD hS => ?_)
  have hK : va_K D vwCl [(cI, .int), (cT, .object "LetByTheBirds$Tenant"), (cS, .object "LetByTheBirds$Shelf"), (cJ, .long)] s := hK
  rw [List.append_assoc] at hP hD
  refine lv_astore_n (lv' := [(3, .ref qo), (2, .ref q1), (1, .ref q0), (0, .ref b)]) hx hb dL_law_19 rfl hl (by decide) rfl (fun ls hl => ?_)
  refine lv_iconst (v := (0 : Int32)) hx hb dL_law_20 (by decide) ?_
  refine lv_istore (lv' := [(4, .int 0), (3, .ref qo), (2, .ref q1), (1, .ref q0), (0, .ref b)]) hx hb dL_law_21 hl (by decide) rfl (fun ls hl => ?_)
  have hl : lv_has ls 8 [(4, .int (nI 0)), (3, .ref qo), (2, .ref (bb 0)), (1, .ref (u.1 0)), (0, .ref b)] := by
    rw [hu, hbb]
    exact hl
  exact law_loop (a := u.1) (kI := u.2.1) (kJ := u.2.2.1) (kK := u.2.2.2.1) (sa := u.2.2.2.2.1) (ea := u.2.2.2.2.2) (bb := bb) (qo := qo) ⟨C0, hts, hK, hN, hB, hZ, hL, htr⟩ 512 0 _ _ (by omega) (by omega) (Nat.le_of_ble_eq_true rfl) (Nat.le_of_ble_eq_true rfl) puI0 puI0 puI0 0 (fun _ => 0) (fun _ => 0) puS0 puM0 (fun _ => 0) H _ ls lr_start (lv_sub hl [4, 3, 2, 1, 0] rfl) hP hD hS
set_option maxHeartbeats 4000000 in
theorem lw_walk (l : Launch) (hflags : l.flags = flags0) (b : Addr) (xs : List Int32) : MetFree l x (headSpec (Jvm.Cond.code x code maxLocals ret :: tables_1) room_1) (lw_P b xs) (fun _ _ _ _ _ => True) lw_Q := by
  refine MetFree.of_bodyS (code := code) (maxLocals := maxLocals) (ret := ret) (by decide) ?_ ?_
  · intro args s m h hn
    obtain ⟨meth, c, h1, h2, h3, h4, h5, h6, -, -⟩ := Cond.code_spec hn (atoms_spec (ws := Jvm.Cond.code x code maxLocals ret :: tables_1) h _ List.mem_cons_self)
    exact ⟨meth, c, h1, h2, h3, h4, h5, h6⟩
  · intro p e s m args below meth c s₁ B hml0 hP _
    obtain ⟨rfl, hx, hbd, hgv⟩ := hP
    obtain ⟨scr, harrAt, hlist, hof, hsmall⟩ := hx
    obtain ⟨hcb, hkn, -, -⟩ := State.arrayAt?_spec harrAt
    have hown : s.vm.findClass R_law = some m.cls := findClass_of_methodNamed B.named
    have hts0 : ∀ c ∈ (Jvm.Cond.code x code maxLocals ret :: tables_1), c.before #[Value.ref b] s = true := atoms_spec (ws := Jvm.Cond.code x code maxLocals ret :: tables_1) B.pre
    have hts : ∀ w ∈ lw_tbl, w.before #[Value.ref b] s = true := k2_hts_sels lw_privs (fun w hw => hts0 w (List.mem_cons_of_mem _ hw)) lw_privs_ok
    have hml : c.maxLocals = 8 := B.maxLocals_eq (hts0 _ List.mem_cons_self)
    have X₀ : Stand p l e room_1 s m #[Value.ref b] below meth c s₁ [] 0 0 := Stand.of_body B
    have hh0 : s₁.heap = s.heap := by rw [B.state]; rfl
    have hsz : scr.slots.size = xs.length := by rw [← Array.length_toList, hlist, List.length_map]
    have hval : ∀ j : Nat, j < xs.length → scr.slots[j]? = some (.int (xs.getD j 0)) := fun j hj => by
      rw [← Array.getElem?_toList, hlist]
      simp [hj]
    have hbl : b < s.heap.size := (Array.getElem?_eq_some_iff.mp hcb).1
    have hX : va_X b xs.length (fun j => xs.getD j 0) s s.heap := ⟨scr, hcb, hof, hkn, hsz, hval⟩
    have K : W p l e room_1 s m #[Value.ref b] below meth c s₁.heap [] 0 0 (lw_Z below #[Value.ref b] s) (entryFrame m ([Value.ref b] : List Value).toArray 8) := by
      rw [hh0]
      exact whole_start l hflags hbd ⟨B.exec, B.bytes, B.returns, hml, hown, hts, hX, hbl, B.notSynchronized, hgv⟩
    obtain ⟨t, a1, o, b1, b2, b3⟩ := K s₁ rfl X₀
    exact ⟨t, o, a1, b1, b2, b3⟩
theorem lw_pre_spec {args : Array Value} {s : State} (h : (Jvm.Cond.and given_1 narrow_1).before args s = true) (hr : rest_1_c.before args s = true) : ∃ (b : Addr) (xs : List Int32), lw_P b xs args s := by
  have hs := flat_of_before _ h
  have hq := flat_of_before _ hr
  have hc : (Cond.count 1).before args s = true := hs _ (by decide +kernel)
  have harr : (Cond.arrayOf (.arg 0) .int).before args s = true := hs _ (by decide +kernel)
  have hle : (Cond.le (.length (.arg 0)) (.int 3072)).before args s = true := hs _ (by decide +kernel)
  have hlen : (Cond.isInt (.length (.arg 0))).before args s = true := hq _ (by decide +kernel)
  have hall : (Cond.all (.arg 0) (.isInt (.elem (.arg 0) (.index 0)))).before args s = true := hq _ (by decide +kernel)
  obtain ⟨b, xs, hb, hx⟩ := State.ints_of_pre rfl harr hlen hall
  have hsm : xs.length < 2 ^ 31 := hx.choose_spec.2.2.2
  have hev : (Term.length (.arg 0)).eval args s none [] s = some (.int xs.length.toInt32) := hx.length_eval hb
  have hv := Cond.le_ints hev (show (Term.int 3072).eval args s none [] s = some (.int 3072) from rfl)
  have hd : xs.length.toInt32 ≤ 3072 := by
    simpa [Cond.before, Cond.holds, hv] using hle
  have hN : xs.length ≤ 3072 := (Int32.ofNat_le_ofNat hsm (by decide)).mp (show Int32.ofNat xs.length ≤ Int32.ofNat 3072 from hd)
  exact ⟨b, xs, Cond.one_arg hc (show args[0]? = some (.ref b) from hb), hx, hN, h⟩
theorem lw_comes (l : Launch) (hflags : l.flags = flags0) : Comes l x (Jvm.Cond.code x code maxLocals ret :: tables_1) room_1 (fun tb e args s => Calls_1 tb e args s ∧ rest_1 tb e args s ∧ Pre_1 tb e args s)
    (fun _ _ args s o t => lw_Q args s o t) := by
  intro p e ha hc hk s m args below hf hfit hheap happ hpre
  obtain ⟨b, xs, hP⟩ := lw_pre_spec hpre.2.2 hpre.2.1
  obtain ⟨k, o, h1, h2, h3, hQ⟩ := lw_walk l hflags b xs p e ha hc hk s m args below hf ((Spec.applies_iff_loose hf).mp happ).1 hP trivial
  exact ⟨k, o, h1, h2, h3, hQ⟩
theorem lw_frame {s t : State} {o : Outcome} {args : Array Value} (h : Framed s o t [] 601024 7293034) :
    Framed s o t (fieldLocs frame_1_writes args s ++ arrayLocs frame_1_arrays args s ++ staticLocs frame_1_statics s) 601024 7293034 := h
theorem lw_limb (L : Cond) (hL : ∀ (args : Array Value) (s t : State), L.after args s (.returned (some (.int 1))) t = true) :
    ArmFor flags0 classFile x code maxLocals ret World_1 tables_1 room_1 Calls_1 rest_1 Pre_1
      (fun tb e a s o t => postC L tb e a s o t ∧ Framed s o t (fieldLocs frame_1_writes a s ++ arrayLocs frame_1_arrays a s ++ staticLocs frame_1_statics s) 601024 7293034) := by
  intro l hflags _ _ p e ha hc hk s m args below hf hfit hheap happ hpre
  obtain ⟨k, o, h1, h2, h3, rfl, hF⟩ := lw_comes l hflags p e ha hc hk s m args below hf hfit hheap happ hpre
  exact ⟨k, _, h1, h2, h3, hL args s _, lw_frame hF⟩
theorem i_vc : Claimed_1_1 ∧ Claimed_1_2 := ⟨lw_limb limb_1_1 (fun args s t => by simp [limb_1_1, Cond.after, Cond.holds, Cond.value]), lw_limb limb_1_2 (fun args s t => Cond.after_iff.mpr (by
  first | (rw [show limb_1_2 = Cond.eq .result (.int 1) from rfl, Cond.eq_ints (x := 1) (y := 1) rfl rfl]; simp; done) | (simp [limb_1_2, Cond.value, Term.eval]; done)))⟩
