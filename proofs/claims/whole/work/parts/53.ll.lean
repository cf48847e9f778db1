/-! toss and element in the law, its loop, its start -/
section LT
variable {p : Program} {l : Launch} {e : Env} {s : State} {m : MethodId} {below : List Frame} {meth : Method} {c : Code} {b L : Nat} {xs : Nat → Int32} {D : va_G} {cI cT cS cJ : ClassId} {a kI kJ kK sa ea bb : Nat → Nat} {qo i cells slots : Nat}
set_option maxRecDepth 100000 in
set_option maxHeartbeats 4000000 in
theorem b_toss (l : Launch) (htr : l.stackTraces = false) (D : va_G) (cI cT cS : ClassId) (a kI kJ kK sa ea : Nat → Nat) (I J K : pu_I) (it : Int32) (g1 g2 : Nat → Int32) (S : Nat → pu_Sh) (T : va_W) (d : Nat) (hd : d < 8) (x1 r1 v : Int32) (k : Nat) (h2 : f_X11_refusalOfOne x1 (S d).1 d = some r1) (hc : r1 = 0 → k < 8 ∧ (S d).2.1 = nI k ∧ d < 8 ∧ x1 = nI d) (hv : v = if r1 = 0 then tossV k (S d).2.2.1 else r1) :
    xfk l yX11_toss wsX11_toss xt_R D [(cI, .int), (cT, .object "LetByTheBirds$Tenant"), (cS, .object "LetByTheBirds$Shelf")] [.ref (a 0), .int x1] (hkB cI cT cS a kI kJ kK sa ea I J K it g1 g2 S ++ (T ++ [])) (hkB cI cT cS a kI kJ kK sa ea I J K it g1 g2 S ++ (T ++ [])) (some (.int v)) 1 6 :=
  xt_shelf (T := []) (T' := []) (C := hkC cI cT cS a kI kJ kK sa I J K it g1 g2) (C' := hkC cI cT cS a kI kJ kK sa I J K it g1 g2) hd T (xt_pos (c_X11_toss l htr D cI cT cS (a 0) (a 1) (a 2) (a 3) (a 4) (a 5) (a 6) (a 7) (a 8) (a 9) (a 10) (a 11) kI sa d (ea d) it I.1 I.2.1 I.2.2.1 I.2.2.2.1 I.2.2.2.2.1 (S d).1 (S d).2.1 (S d).2.2.1 (S d).2.2.2.1 (S d).2.2.2.2.1 x1 r1 v k h2 hc hv) [0, 1, 2, 7, 8, 9, 10, 11, 12, 13, 14, 43, 46] [3, 4, 5, 6, 15, 16, 17, 18, 19, 20, 21, 22, 23, 24, 25, 26, 27, 28, 29, 30, 31, 32, 33, 34, 35, 36, 37, 38, 39, 40, 41, 42, 44, 45, 47] (by decide +kernel) rfl rfl rfl rfl (N := 48) rfl (by decide +kernel))
set_option maxRecDepth 100000 in
set_option maxHeartbeats 4000000 in
theorem b_element (l : Launch) (htr : l.stackTraces = false) (D : va_G) (cI cT cS cJ : ClassId) (a kI kJ kK sa ea : Nat → Nat) (I J K : pu_I) (it : Int32) (g1 g2 : Nat → Int32) (S : Nat → pu_Sh) (T : va_W) (qo : Nat) (fo : Nat → Int64) (d : Nat) (hd : d < 8) (x1 x2 k : Int32) (v : Int64) (hk : xe_K x1 x2 (S d).1 (S d).2.2.2.2.1 d (S d).2.2.2.2.2 k v) :
    xfk l yL_element wsL_element xl_R D [(cI, .int), (cT, .object "LetByTheBirds$Tenant"), (cS, .object "LetByTheBirds$Shelf"), (cJ, .long)] [.ref (a 0), .int x1, .int x2, .ref qo] (hkB cI cT cS a kI kJ kK sa ea I J K it g1 g2 S ++ (T ++ [(qo, .inl (cJ, 1, .inr (.inl fo)))])) (hkB cI cT cS a kI kJ kK sa ea I J K it g1 g2 S ++ (T ++ [(qo, .inl (cJ, 1, .inr (.inl (if k = 0 then vp_updL fo 0 v else fo))))])) (some (.int k)) 1 6 :=
  xt_shelf (T := [(qo, .inl (cJ, 1, .inr (.inl fo)))]) (T' := [(qo, .inl (cJ, 1, .inr (.inl (if k = 0 then vp_updL fo 0 v else fo))))]) (C := hkC cI cT cS a kI kJ kK sa I J K it g1 g2) (C' := hkC cI cT cS a kI kJ kK sa I J K it g1 g2) hd T (xt_pos (c_L_element l htr D cT cJ qo fo cI cS (a 0) (a 1) (a 2) (a 3) (a 4) (a 5) (a 6) sa d (ea d) it (S d).1 (S d).2.1 (S d).2.2.1 (S d).2.2.2.1 (S d).2.2.2.2.1 (S d).2.2.2.2.2 x1 x2 k v hk) [0, 43, 46, 47, 48] [1, 2, 3, 4, 5, 6, 7, 8, 9, 10, 11, 12, 13, 14, 15, 16, 17, 18, 19, 20, 21, 22, 23, 24, 25, 26, 27, 28, 29, 30, 31, 32, 33, 34, 35, 36, 37, 38, 39, 40, 41, 42, 44, 45] (by decide +kernel) rfl rfl rfl (Eq.trans (b := List.map some [(a 1, .inr (4, [.ref (a 7), .ref (a 8), .ref (a 9), .ref (a 10), .ref (a 11), .int I.1, .int I.2.1, .int I.2.2.1, .int I.2.2.2.1, .int I.2.2.2.2.1])), (a 7, .inl (cT, 8, .inr (.inr (.inr (.inr (fun k => some (kI k))))))), (a 8, .inl (cI, 7, .inl I.2.2.2.2.2.1)), (a 9, .inl (cI, 7, .inl I.2.2.2.2.2.2.1)), (a 10, .inl (cI, 7, .inl I.2.2.2.2.2.2.2.1)), (a 11, .inl (cI, 7, .inl I.2.2.2.2.2.2.2.2)), (kI 0, .inr (8, [])), (kI 1, .inr (1, [])), (kI 2, .inr (0, [])), (kI 3, .inr (3, [])), (kI 4, .inr (6, [])), (kI 5, .inr (9, [])), (kI 6, .inr (5, [])), (kI 7, .inr (2, [])), (a 2, .inr (4, [.ref (a 12), .ref (a 13), .ref (a 14), .ref (a 15), .ref (a 16), .int J.1, .int J.2.1, .int J.2.2.1, .int J.2.2.2.1, .int J.2.2.2.2.1])), (a 12, .inl (cT, 8, .inr (.inr (.inr (.inr (fun k => some (kJ k))))))), (a 13, .inl (cI, 7, .inl J.2.2.2.2.2.1)), (a 14, .inl (cI, 7, .inl J.2.2.2.2.2.2.1)), (a 15, .inl (cI, 7, .inl J.2.2.2.2.2.2.2.1)), (a 16, .inl (cI, 7, .inl J.2.2.2.2.2.2.2.2)), (kJ 0, .inr (8, [])), (kJ 1, .inr (1, [])), (kJ 2, .inr (0, [])), (kJ 3, .inr (3, [])), (kJ 4, .inr (6, [])), (kJ 5, .inr (9, [])), (kJ 6, .inr (5, [])), (kJ 7, .inr (2, [])), (a 3, .inr (4, [.ref (a 17), .ref (a 18), .ref (a 19), .ref (a 20), .ref (a 21), .int K.1, .int K.2.1, .int K.2.2.1, .int K.2.2.2.1, .int K.2.2.2.2.1])), (a 17, .inl (cT, 8, .inr (.inr (.inr (.inr (fun k => some (kK k))))))), (a 18, .inl (cI, 7, .inl K.2.2.2.2.2.1)), (a 19, .inl (cI, 7, .inl K.2.2.2.2.2.2.1)), (a 20, .inl (cI, 7, .inl K.2.2.2.2.2.2.2.1)), (a 21, .inl (cI, 7, .inl K.2.2.2.2.2.2.2.2)), (kK 0, .inr (8, [])), (kK 1, .inr (1, [])), (kK 2, .inr (0, [])), (kK 3, .inr (3, [])), (kK 4, .inr (6, [])), (kK 5, .inr (9, [])), (kK 6, .inr (5, [])), (kK 7, .inr (2, [])), (a 5, .inl (cI, 4, .inl g1)), (a 6, .inl (cI, 4, .inl g2))]) rfl rfl) (N := 49) rfl (by decide +kernel))
set_option maxRecDepth 100000 in
set_option maxHeartbeats 4000000 in
theorem law_toss (C : lq_C p l s m meth c b L xs D cI cT cS cJ) (hi : i + 6 ≤ L) (hf : cells + 1 ≤ 601024 ∧ slots + 6 ≤ 7293034) (kk : lq_G p l e s m below meth c b D cI cT cS cJ a kI kJ kK sa ea bb qo i (cells + 1) (slots + 6) 1504) : lq_G p l e s m below meth c b D cI cT cS cJ a kI kJ kK sa ea bb qo i cells slots 1479 := by
  intro I J K it g1 g2 S x fo H locs ls hr hl hP hD hS
  obtain ⟨⟨hx, hb, hrt, hml, hown, hts0, hX, hbl, hlocks, hgv⟩, hts, hK, hN, hB, hZ, hL, htr⟩ := id C
  have hKc : va_K D vwCl [(cI, .int), (cT, .object "LetByTheBirds$Tenant"), (cS, .object "LetByTheBirds$Shelf")] s := hK.sub [0, 1, 2] rfl
  obtain ⟨v, hM, hM2⟩ : ∃ v : Int32, xfk l yX11_toss wsX11_toss xt_R D [(cI, .int), (cT, .object "LetByTheBirds$Tenant"), (cS, .object "LetByTheBirds$Shelf")] [.ref (a 0), .int (xs (i + 1))] (lqW cI cT cS cJ a kI kJ kK sa ea bb qo I J K it g1 g2 S x fo) (lqW cI cT cS cJ a kI kJ kK sa ea bb qo I J K it g1 g2 S x fo) (some (.int v)) 1 6 ∧ f_X12_toss (xs (i + 1)) x.2.2.2.2.2.2.2.2.2.2.2.1 x.2.2.2.2.2.2.2.2.2.2.2.2.1 x.2.2.2.2.2.2.2.2.2.2.2.2.2.1 = some v := by
    have eT : (lqW cI cT cS cJ a kI kJ kK sa ea bb qo I J K it g1 g2 S x fo) = hkB cI cT cS a kI kJ kK sa ea I J K it g1 g2 S ++ ((hkM cI bb x ++ [(qo, .inl (cJ, 1, .inr (.inl fo)))]) ++ []) := by rw [List.append_nil]; rfl
    rw [eT]
    rcases pu_shelf (xs (i + 1)) with ⟨k1, k2⟩ | ⟨d, hd, ed, k1, k2⟩
    · obtain ⟨e1, e2⟩ := po_toss0 k1 k2 (S 0).1 0 x.2.2.2.2.2.2.2.2.2.2.2.1 x.2.2.2.2.2.2.2.2.2.2.2.2.1 x.2.2.2.2.2.2.2.2.2.2.2.2.2.1
      exact ⟨-1, b_toss l htr D cI cT cS a kI kJ kK sa ea I J K it g1 g2 S _ 0 (by omega) (xs (i + 1)) (-1) (-1) 0 e1 (fun q => absurd q (by decide)) rfl, e2⟩
    · rw [ed] at k1 k2 ⊢
      obtain ⟨r1, v, k, e1, e2, e3, e4⟩ := po_toss hd (hr.2.2 d hd) k1 k2
      exact ⟨v, b_toss l htr D cI cT cS a kI kJ kK sa ea I J K it g1 g2 S _ d hd (nI d) r1 v k e1 e2 e3, e4⟩
  refine lv_aload_n hx hb dL_law_1479 rfl (lv_at hl 1 rfl) ?_
  refine lq_arg C (lv_at hl 0 rfl) (lv_at hl 4 rfl) hS 1 (by omega) (v := (1 : Int32)) rfl (by decide) dL_law_1480 dL_law_1481 dL_law_1483 dL_law_1484 dL_law_1485 ?_
  refine xt_go (vx_runVW (As := [.int (xs (i + 1))]) (rest := []) ⟨hx, hb, hml, hown, hts⟩ (hM H.size) (vx_cwVW 1 hts gL_law_X11_toss rfl rfl rfl (by decide +kernel) ⟨Nat.le_of_ble_eq_true rfl, Nat.le_of_ble_eq_true rfl⟩) ⟨xt_blind, va_recv hKc hP (ci := 10) (q0 := 0) rfl rfl, xt_start hKc hN hB hZ hP hD hS (fun q h => h)⟩ rfl rfl hl.1 rfl (lv_room (Nat.le_of_ble_eq_true rfl)) dL_law_1486 ⟨by show cells + 1 ≤ 601024; omega, by show slots + 6 ≤ 7293034; omega⟩) hD hS (fun q h => h) rfl (st' := [.int v]) rfl (fun H locs hP hD hS => ?_)
  refine lv_aload_n hx hb dL_law_1489 rfl (lv_at hl 2 rfl) ?_
  refine lq_arg C (lv_at hl 0 rfl) (lv_at hl 4 rfl) hS 1 (by omega) (v := (1 : Int32)) rfl (by decide) dL_law_1490 dL_law_1491 dL_law_1493 dL_law_1494 dL_law_1495 ?_
  refine lq_callM C (m_toss l D cI bb x (xs (i + 1)) v hM2) (cwV 1 hts gL_law_X12_toss rfl rfl rfl (by decide +kernel) ⟨Nat.le_of_ble_eq_true rfl, Nat.le_of_ble_eq_true rfl⟩) hP hD hS (rest := [Value.int v]) (st' := [Value.int v, Value.int v]) rfl rfl hl.1 rfl (Nat.le_of_ble_eq_true rfl) ⟨by omega, by omega⟩ dL_law_1496 (fun H locs hP hD hS => ?_)
  exact lv_icmp_eq (tgt := 1504) hx hb dL_law_1499 (by decide) (fun _ => kk I J K it g1 g2 S x fo H locs ls hr hl hP hD hS) (fun c1 => absurd rfl c1)
set_option maxRecDepth 100000 in
set_option maxHeartbeats 4000000 in
theorem law_element (C : lq_C p l s m meth c b L xs D cI cT cS cJ) (hi : i + 6 ≤ L) (hf : cells + 1 ≤ 601024 ∧ slots + 6 ≤ 7293034) (kk : lq_G p l e s m below meth c b D cI cT cS cJ a kI kJ kK sa ea bb qo i (cells + 1) (slots + 6) 1504) : lq_G p l e s m below meth c b D cI cT cS cJ a kI kJ kK sa ea bb qo i cells slots 1314 := by
  intro I J K it g1 g2 S x fo H locs ls hr hl hP hD hS
  obtain ⟨⟨hx, hb, hrt, hml, hown, hts0, hX, hbl, hlocks, hgv⟩, hts, hK, hN, hB, hZ, hL, htr⟩ := id C
  obtain ⟨k, v, hM, hM2⟩ : ∃ (k : Int32) (v : Int64), xfk l yL_element wsL_element xl_R D [(cI, .int), (cT, .object "LetByTheBirds$Tenant"), (cS, .object "LetByTheBirds$Shelf"), (cJ, .long)] [.ref (a 0), .int (xs (i + 1)), .int (xs (i + 2)), .ref qo] (lqW cI cT cS cJ a kI kJ kK sa ea bb qo I J K it g1 g2 S x fo) (lqW cI cT cS cJ a kI kJ kK sa ea bb qo I J K it g1 g2 S x (if k = 0 then vp_updL fo 0 v else fo)) (some (.int k)) 1 6 ∧ f_X12_element (xs (i + 1)) (xs (i + 2)) x.2.2.2.2.2.1 x.2.2.2.2.2.2.2.2.2.2.2.1 x.2.2.2.2.2.2.2.2.2.2.2.2.2.2.2.1 x.2.2.2.2.2.2.2.2.2.2.2.2.2.2.2.2 = some (v, k) := by
    rcases pu_shelf (xs (i + 1)) with ⟨k1, k2⟩ | ⟨d, hd, ed, k1, k2⟩
    · obtain ⟨e1, e2⟩ := po_element0 k1 k2 (xs (i + 2)) (S 0).1 (S 0).2.2.2.2.1 x.2.2.2.2.2.1 0 (S 0).2.2.2.2.2 x.2.2.2.2.2.2.2.2.2.2.2.1 x.2.2.2.2.2.2.2.2.2.2.2.2.2.2.2.1 x.2.2.2.2.2.2.2.2.2.2.2.2.2.2.2.2
      exact ⟨1, 0, b_element l htr D cI cT cS cJ a kI kJ kK sa ea I J K it g1 g2 S (hkM cI bb x) qo fo 0 (by omega) (xs (i + 1)) (xs (i + 2)) 1 0 e1, e2⟩
    · rw [ed] at k1 k2 ⊢
      obtain ⟨k, v, e1, e2⟩ := po_element hd (hr.2.2 d hd) k1 k2 (xs (i + 2)) x.2.2.2.2.2.1
      exact ⟨k, v, b_element l htr D cI cT cS cJ a kI kJ kK sa ea I J K it g1 g2 S (hkM cI bb x) qo fo d hd (nI d) (xs (i + 2)) k v e1, e2⟩
  refine lv_aload_n hx hb dL_law_1314 rfl (lv_at hl 1 rfl) ?_
  refine lq_arg C (lv_at hl 0 rfl) (lv_at hl 4 rfl) hS 1 (by omega) (v := (1 : Int32)) rfl (by decide) dL_law_1315 dL_law_1316 dL_law_1318 dL_law_1319 dL_law_1320 ?_
  refine lq_arg C (lv_at hl 0 rfl) (lv_at hl 4 rfl) hS 2 (by omega) (v := (2 : Int32)) rfl (by decide) dL_law_1321 dL_law_1322 dL_law_1324 dL_law_1325 dL_law_1326 ?_
  refine lv_aload_n hx hb dL_law_1327 rfl (lv_at hl 3 rfl) ?_
  refine xt_go (vx_runSW (As := [.ref (a 0), .int (xs (i + 1)), .int (xs (i + 2)), .ref qo]) (rest := []) ⟨hx, hb, hml, hown, hts⟩ (hM H.size) (vx_cwSW 4 hts gL_law_L_element rfl rfl rfl (by decide +kernel) ⟨Nat.le_of_ble_eq_true rfl, Nat.le_of_ble_eq_true rfl⟩) ⟨xt_blind, xt_start hK hN hB hZ hP hD hS (fun q h => h)⟩ rfl rfl hl.1 rfl (lv_room (Nat.le_of_ble_eq_true rfl)) dL_law_1328 ⟨by show cells + 1 ≤ 601024; omega, by show slots + 6 ≤ 7293034; omega⟩) hD hS (fun q h => h) (lqW_adr ..) (st' := [.int k]) rfl (fun H locs hP hD hS => ?_)
  refine lv_istore (lv' := (5, .int k) :: lq_L b i a bb qo) hx hb dL_law_1331 hl (by decide) rfl (fun ls hl => ?_)
  refine lv_aload_n hx hb dL_law_1333 rfl (lv_at hl 3 rfl) ?_
  refine lq_arg C (lv_at hl 1 rfl) (lv_at hl 5 rfl) hS 1 (by omega) (v := (1 : Int32)) rfl (by decide) dL_law_1334 dL_law_1335 dL_law_1337 dL_law_1338 dL_law_1339 ?_
  refine lq_arg C (lv_at hl 1 rfl) (lv_at hl 5 rfl) hS 2 (by omega) (v := (2 : Int32)) rfl (by decide) dL_law_1340 dL_law_1341 dL_law_1343 dL_law_1344 dL_law_1345 ?_
  refine lq_callM C (m_element l D cI bb x (xs (i + 1)) (xs (i + 2)) (v, k) hM2) (cwV 2 hts gL_law_X12_element rfl rfl rfl (by decide +kernel) ⟨Nat.le_of_ble_eq_true rfl, Nat.le_of_ble_eq_true rfl⟩) hP hD hS (rest := []) (st' := [Value.long v]) rfl rfl hl.1 rfl (Nat.le_of_ble_eq_true rfl) ⟨by omega, by omega⟩ dL_law_1346 (fun H locs hP hD hS => ?_)
  refine lv_lstore (lv' := (6, .long v) :: (5, .int k) :: lq_L b i a bb qo) hx hb dL_law_1349 hl (by decide) rfl (fun ls hl => ?_)
  refine lv_aload_n hx hb dL_law_1351 rfl (lv_at hl 4 rfl) ?_
  refine lq_callM C (m_thrown l D cI bb (x.1, x.2.1, x.2.2.1, x.2.2.2.1, x.2.2.2.2.1, k, x.2.2.2.2.2.2.1, x.2.2.2.2.2.2.2.1, x.2.2.2.2.2.2.2.2.1, x.2.2.2.2.2.2.2.2.2.1, x.2.2.2.2.2.2.2.2.2.2.1, x.2.2.2.2.2.2.2.2.2.2.2.1, x.2.2.2.2.2.2.2.2.2.2.2.2.1, x.2.2.2.2.2.2.2.2.2.2.2.2.2.1, x.2.2.2.2.2.2.2.2.2.2.2.2.2.2.1, x.2.2.2.2.2.2.2.2.2.2.2.2.2.2.2.1, x.2.2.2.2.2.2.2.2.2.2.2.2.2.2.2.2) k rfl) (cwV 0 hts gL_law_X12_thrown rfl rfl rfl (by decide +kernel) ⟨Nat.le_of_ble_eq_true rfl, Nat.le_of_ble_eq_true rfl⟩) hP hD hS (rest := []) (st' := [Value.int k]) rfl rfl hl.1 rfl (Nat.le_of_ble_eq_true rfl) ⟨by omega, by omega⟩ dL_law_1352 (fun H locs hP hD hS => ?_)
  refine lv_iload hx hb dL_law_1355 (lv_at hl 1 rfl) ?_
  refine lv_icmp_eq (tgt := 1362) hx hb dL_law_1357 (by decide) (fun _ => ?_) (fun c1 => absurd rfl c1)
  refine lv_iload hx hb dL_law_1362 (lv_at hl 1 rfl) ?_
  refine lv_if_ne (tgt := 1378) hx hb dL_law_1364 (by decide) (fun c2 => ?_) (fun c2 => ?_)
  · refine lv_goto (tgt := 1504) hx hb dL_law_1378 (by decide) ?_
    exact kk I J K it g1 g2 S (x.1, x.2.1, x.2.2.1, x.2.2.2.1, x.2.2.2.2.1, k, x.2.2.2.2.2.2.1, x.2.2.2.2.2.2.2.1, x.2.2.2.2.2.2.2.2.1, x.2.2.2.2.2.2.2.2.2.1, x.2.2.2.2.2.2.2.2.2.2.1, x.2.2.2.2.2.2.2.2.2.2.2.1, x.2.2.2.2.2.2.2.2.2.2.2.2.1, x.2.2.2.2.2.2.2.2.2.2.2.2.2.1, x.2.2.2.2.2.2.2.2.2.2.2.2.2.2.1, x.2.2.2.2.2.2.2.2.2.2.2.2.2.2.2.1, x.2.2.2.2.2.2.2.2.2.2.2.2.2.2.2.2) _ H locs ls hr (lv_sub hl [2, 3, 4, 5, 6] rfl) hP hD hS
  · have c2 : k = 0 := c2
    refine lv_aload_n hx hb dL_law_1367 rfl (lv_at hl 5 rfl) ?_
    refine lv_iconst (v := (0 : Int32)) hx hb dL_law_1368 (by decide) ?_
    have hPo : va_P D vwCl [(qo, .inl (cJ, 1, .inr (.inl (vp_updL fo 0 v))))] H := hk_P.mpr (fun q hq => hk_P.mp hP q (by rw [if_pos c2]; exact List.mem_append_right _ (List.mem_append_right _ hq)))
    refine va_lald hx hb hK hPo 0 3 rfl rfl (show vp_in (0 : Int32) 1 by unfold vp_in; decide) dL_law_1369 ?_
    refine W.eq (g2 := F0 m 1370 ls [.long v]) rfl ?_
    refine lv_lload hx hb dL_law_1370 (lv_at hl 0 rfl) ?_
    refine W.lcmp hx hb dL_law_1372 ?_
    refine lv_if_eq (tgt := 1378) hx hb dL_law_1373 (by decide) (fun _ => ?_) (fun c1 => absurd (lq_cmp v) c1)
    refine lv_goto (tgt := 1504) hx hb dL_law_1378 (by decide) ?_
    exact kk I J K it g1 g2 S (x.1, x.2.1, x.2.2.1, x.2.2.2.1, x.2.2.2.2.1, k, x.2.2.2.2.2.2.1, x.2.2.2.2.2.2.2.1, x.2.2.2.2.2.2.2.2.1, x.2.2.2.2.2.2.2.2.2.1, x.2.2.2.2.2.2.2.2.2.2.1, x.2.2.2.2.2.2.2.2.2.2.2.1, x.2.2.2.2.2.2.2.2.2.2.2.2.1, x.2.2.2.2.2.2.2.2.2.2.2.2.2.1, x.2.2.2.2.2.2.2.2.2.2.2.2.2.2.1, x.2.2.2.2.2.2.2.2.2.2.2.2.2.2.2.1, x.2.2.2.2.2.2.2.2.2.2.2.2.2.2.2.2) _ H locs ls hr (lv_sub hl [2, 3, 4, 5, 6] rfl) hP hD hS
theorem law_next (C : lq_C p l s m meth c b L xs D cI cT cS cJ) (hi : i + 6 ≤ L) (kk : lq_G p l e s m below meth c b D cI cT cS cJ a kI kJ kK sa ea bb qo (i + 6) cells slots 23) : lq_G p l e s m below meth c b D cI cT cS cJ a kI kJ kK sa ea bb qo i cells slots 1504 := by
  intro I J K it g1 g2 S x fo H locs ls hr hl hP hD hS
  obtain ⟨⟨hx, hb, hrt, hml, hown, hts0, hX, hbl, hlocks, hgv⟩, hts, hK, hN, hB, hZ, hL, htr⟩ := id C
  refine lv_iinc (v := nI (i + 6)) (lv' := [(4, .int (nI (i + 6))), (0, .ref b), (1, .ref (a 0)), (2, .ref (bb 0)), (3, .ref qo)]) hx hb dL_law_1504 hl (k := 4) rfl (by rw [← nI_add]; rfl) (by decide) rfl (fun ls hl => ?_)
  refine lv_goto (tgt := 23) hx hb dL_law_1507 (by decide) ?_
  exact kk I J K it g1 g2 S x fo H locs ls hr (lv_sub hl [1, 2, 3, 4, 0] rfl) hP hD hS
set_option maxRecDepth 100000 in
set_option maxHeartbeats 16000000 in
theorem law_loop (C : lq_C p l s m meth c b L xs D cI cT cS cJ) : ∀ (n i cells slots : Nat), L ≤ i + 6 * n + 5 → i ≤ 4000 → cells + n ≤ 601024 → slots + 6 * n ≤ 7293034 → lq_G p l e s m below meth c b D cI cT cS cJ a kI kJ kK sa ea bb qo i cells slots 23 := by
  intro n
  induction n with
  | zero =>
    intro i cells slots h1 h2 h3 h4 I J K it g1 g2 S x fo H locs ls hr hl hP hD hS
    obtain ⟨⟨hx, hb, hrt, hml, hown, hts0, hX, hbl, hlocks, hgv⟩, hts, hK, hN, hB, hZ, hL, htr⟩ := id C
    refine lv_iload hx hb dL_law_23 (lv_at hl 4 rfl) ?_
    refine lv_aload_n hx hb dL_law_25 rfl (lv_at hl 0 rfl) ?_
    refine va_slen hx hb hX hbl (Nat.not_le.mpr hbl) hS dL_law_26 ?_
    refine lv_bipush (v := (6 : Int32)) hx hb dL_law_27 (by decide) ?_
    refine lv_isub hx hb dL_law_29 ?_
    refine lv_icmp_gt (tgt := 1510) hx hb dL_law_30 (by decide) (fun _ => ?_) (fun c1 => absurd ((pu_sublt (a := L) (b := 6) (c := i) (by omega) (by omega) (by omega)).mpr (by omega)) c1)
    refine lv_iconst (v := (1 : Int32)) hx hb dL_law_1510 (by decide) ?_
    refine va_forget (fun q hq => hS.2.2 q hq) ?_
    refine W.widen (k := 601024) (n := 7293034) (by omega) (by omega) ?_
    exact lw_ret hx hb hrt hlocks dL_law_1511
  | succ n ih =>
    intro i cells slots h1 h2 h3 h4 I J K it g1 g2 S x fo H locs ls hr hl hP hD hS
    obtain ⟨⟨hx, hb, hrt, hml, hown, hts0, hX, hbl, hlocks, hgv⟩, hts, hK, hN, hB, hZ, hL, htr⟩ := id C
    refine lv_iload hx hb dL_law_23 (lv_at hl 4 rfl) ?_
    refine lv_aload_n hx hb dL_law_25 rfl (lv_at hl 0 rfl) ?_
    refine va_slen hx hb hX hbl (Nat.not_le.mpr hbl) hS dL_law_26 ?_
    refine lv_bipush (v := (6 : Int32)) hx hb dL_law_27 (by decide) ?_
    refine lv_isub hx hb dL_law_29 ?_
    refine lv_icmp_gt (tgt := 1510) hx hb dL_law_30 (by decide) (fun _ => ?_) (fun c1 => ?_)
    · refine lv_iconst (v := (1 : Int32)) hx hb dL_law_1510 (by decide) ?_
      refine va_forget (fun q hq => hS.2.2 q hq) ?_
      refine W.widen (k := 601024) (n := 7293034) (by omega) (by omega) ?_
      exact lw_ret hx hb hrt hlocks dL_law_1511
    · have hi : i + 6 ≤ L := by
        rcases Nat.lt_or_ge L (6 + i) with q | q
        · exact absurd ((pu_sublt (a := L) (b := 6) (c := i) (by omega) (by omega) (by omega)).mpr q) c1
        · omega
      have hf : cells + 1 ≤ 601024 ∧ slots + 6 ≤ 7293034 := ⟨by omega, by omega⟩
      have kk : lq_G p l e s m below meth c b D cI cT cS cJ a kI kJ kK sa ea bb qo i (cells + 1) (slots + 6) 1504 := law_next C hi (ih (i + 6) (cells + 1) (slots + 6) (by omega) (by omega) (by omega) (by omega))
      refine lv_aload_n hx hb dL_law_33 rfl (lv_at hl 0 rfl) ?_
      refine lv_iload hx hb dL_law_34 (lv_at hl 4 rfl) ?_
      refine va_sld hx hb hX hbl (Nat.not_le.mpr hbl) hS (vp_in_nI (show i < L by omega) (by omega)) dL_law_36 ?_
      refine lv_bipush (v := (63 : Int32)) hx hb dL_law_37 (by decide) ?_
      refine lv_iand hx hb dL_law_39 ?_
      refine lv_topi (fun w _ => ?_)
      by_cases c10 : w = (0 : Int32)
      · refine lv_tableIn (off := 160) (tgt := 200) hx hb dL_law_40 (by rw [c10]; decide) (by rw [c10]; decide) (by rw [c10]; decide) (by decide) ?_
        exact law_isle C hi hf kk I J K it g1 g2 S x fo H locs ls hr hl hP hD hS
      by_cases c11 : w = (1 : Int32)
      · refine lv_tableIn (off := 185) (tgt := 225) hx hb dL_law_40 (by rw [c11]; decide) (by rw [c11]; decide) (by rw [c11]; decide) (by decide) ?_
        exact law_tenant C hi hf kk I J K it g1 g2 S x fo H locs ls hr hl hP hD hS
      by_cases c12 : w = (2 : Int32)
      · refine lv_tableIn (off := 222) (tgt := 262) hx hb dL_law_40 (by rw [c12]; decide) (by rw [c12]; decide) (by rw [c12]; decide) (by decide) ?_
        exact law_comes C hi hf kk I J K it g1 g2 S x fo H locs ls hr hl hP hD hS
      by_cases c13 : w = (3 : Int32)
      · refine lv_tableIn (off := 259) (tgt := 299) hx hb dL_law_40 (by rw [c13]; decide) (by rw [c13]; decide) (by rw [c13]; decide) (by decide) ?_
        exact law_stores C hi hf kk I J K it g1 g2 S x fo H locs ls hr hl hP hD hS
      by_cases c14 : w = (4 : Int32)
      · refine lv_tableIn (off := 296) (tgt := 336) hx hb dL_law_40 (by rw [c14]; decide) (by rw [c14]; decide) (by rw [c14]; decide) (by decide) ?_
        exact law_set C hi hf kk I J K it g1 g2 S x fo H locs ls hr hl hP hD hS
      by_cases c15 : w = (5 : Int32)
      · refine lv_tableIn (off := 333) (tgt := 373) hx hb dL_law_40 (by rw [c15]; decide) (by rw [c15]; decide) (by rw [c15]; decide) (by decide) ?_
        exact law_lends C hi hf kk I J K it g1 g2 S x fo H locs ls hr hl hP hD hS
      by_cases c16 : w = (6 : Int32)
      · refine lv_tableIn (off := 382) (tgt := 422) hx hb dL_law_40 (by rw [c16]; decide) (by rw [c16]; decide) (by rw [c16]; decide) (by decide) ?_
        exact law_days C hi hf kk I J K it g1 g2 S x fo H locs ls hr hl hP hD hS
      by_cases c17 : w = (7 : Int32)
      · refine lv_tableIn (off := 407) (tgt := 447) hx hb dL_law_40 (by rw [c17]; decide) (by rw [c17]; decide) (by rw [c17]; decide) (by decide) ?_
        exact law_tenantThen C hi hf kk I J K it g1 g2 S x fo H locs ls hr hl hP hD hS
      by_cases c18 : w = (8 : Int32)
      · refine lv_tableIn (off := 456) (tgt := 496) hx hb dL_law_40 (by rw [c18]; decide) (by rw [c18]; decide) (by rw [c18]; decide) (by decide) ?_
        exact law_then C hi hf kk I J K it g1 g2 S x fo H locs ls hr hl hP hD hS
      by_cases c19 : w = (9 : Int32)
      · refine lv_tableIn (off := 493) (tgt := 533) hx hb dL_law_40 (by rw [c19]; decide) (by rw [c19]; decide) (by rw [c19]; decide) (by decide) ?_
        exact law_goes C hi hf kk I J K it g1 g2 S x fo H locs ls hr hl hP hD hS
      by_cases c20 : w = (10 : Int32)
      · refine lv_tableIn (off := 518) (tgt := 558) hx hb dL_law_40 (by rw [c20]; decide) (by rw [c20]; decide) (by rw [c20]; decide) (by decide) ?_
        exact law_empty C hi hf kk I J K it g1 g2 S x fo H locs ls hr hl hP hD hS
      by_cases c21 : w = (11 : Int32)
      · refine lv_tableIn (off := 531) (tgt := 571) hx hb dL_law_40 (by rw [c21]; decide) (by rw [c21]; decide) (by rw [c21]; decide) (by decide) ?_
        exact law_rent C hi hf kk I J K it g1 g2 S x fo H locs ls hr hl hP hD hS
      by_cases c22 : w = (12 : Int32)
      · refine lv_tableIn (off := 556) (tgt := 596) hx hb dL_law_40 (by rw [c22]; decide) (by rw [c22]; decide) (by rw [c22]; decide) (by decide) ?_
        exact law_bestSea C hi hf kk I J K it g1 g2 S x fo H locs ls hr hl hP hD hS
      by_cases c23 : w = (13 : Int32)
      · refine lv_tableIn (off := 593) (tgt := 633) hx hb dL_law_40 (by rw [c23]; decide) (by rw [c23]; decide) (by rw [c23]; decide) (by decide) ?_
        exact law_leastBirds C hi hf kk I J K it g1 g2 S x fo H locs ls hr hl hP hD hS
      by_cases c24 : w = (14 : Int32)
      · refine lv_tableIn (off := 606) (tgt := 646) hx hb dL_law_40 (by rw [c24]; decide) (by rw [c24]; decide) (by rw [c24]; decide) (by decide) ?_
        exact law_leastStore C hi hf kk I J K it g1 g2 S x fo H locs ls hr hl hP hD hS
      by_cases c25 : w = (15 : Int32)
      · refine lv_tableIn (off := 631) (tgt := 671) hx hb dL_law_40 (by rw [c25]; decide) (by rw [c25]; decide) (by rw [c25]; decide) (by decide) ?_
        exact law_lend C hi hf kk I J K it g1 g2 S x fo H locs ls hr hl hP hD hS
      by_cases c26 : w = (16 : Int32)
      · refine lv_tableIn (off := 668) (tgt := 708) hx hb dL_law_40 (by rw [c26]; decide) (by rw [c26]; decide) (by rw [c26]; decide) (by decide) ?_
        exact law_send C hi hf kk I J K it g1 g2 S x fo H locs ls hr hl hP hD hS
      by_cases c27 : w = (17 : Int32)
      · refine lv_tableIn (off := 705) (tgt := 745) hx hb dL_law_40 (by rw [c27]; decide) (by rw [c27]; decide) (by rw [c27]; decide) (by decide) ?_
        exact law_richest C hi hf kk I J K it g1 g2 S x fo H locs ls hr hl hP hD hS
      by_cases c28 : w = (18 : Int32)
      · refine lv_tableIn (off := 730) (tgt := 770) hx hb dL_law_40 (by rw [c28]; decide) (by rw [c28]; decide) (by rw [c28]; decide) (by decide) ?_
        exact law_whatIs C hi hf kk I J K it g1 g2 S x fo H locs ls hr hl hP hD hS
      by_cases c29 : w = (19 : Int32)
      · refine lv_tableIn (off := 779) (tgt := 819) hx hb dL_law_40 (by rw [c29]; decide) (by rw [c29]; decide) (by rw [c29]; decide) (by decide) ?_
        exact law_whichSea C hi hf kk I J K it g1 g2 S x fo H locs ls hr hl hP hD hS
      by_cases c30 : w = (20 : Int32)
      · refine lv_tableIn (off := 804) (tgt := 844) hx hb dL_law_40 (by rw [c30]; decide) (by rw [c30]; decide) (by rw [c30]; decide) (by decide) ?_
        exact law_two C hi hf kk I J K it g1 g2 S x fo H locs ls hr hl hP hD hS
      by_cases c31 : w = (21 : Int32)
      · refine lv_tableIn (off := 853) (tgt := 893) hx hb dL_law_40 (by rw [c31]; decide) (by rw [c31]; decide) (by rw [c31]; decide) (by decide) ?_
        exact law_storms C hi hf kk I J K it g1 g2 S x fo H locs ls hr hl hP hD hS
      by_cases c32 : w = (22 : Int32)
      · refine lv_tableIn (off := 927) (tgt := 967) hx hb dL_law_40 (by rw [c32]; decide) (by rw [c32]; decide) (by rw [c32]; decide) (by decide) ?_
        exact law_share C hi hf kk I J K it g1 g2 S x fo H locs ls hr hl hP hD hS
      by_cases c33 : w = (23 : Int32)
      · refine lv_tableIn (off := 965) (tgt := 1005) hx hb dL_law_40 (by rw [c33]; decide) (by rw [c33]; decide) (by rw [c33]; decide) (by decide) ?_
        exact law_forged C hi hf kk I J K it g1 g2 S x fo H locs ls hr hl hP hD hS
      by_cases c34 : w = (24 : Int32)
      · refine lv_tableIn (off := 990) (tgt := 1030) hx hb dL_law_40 (by rw [c34]; decide) (by rw [c34]; decide) (by rw [c34]; decide) (by decide) ?_
        exact law_judge C hi hf kk I J K it g1 g2 S x fo H locs ls hr hl hP hD hS
      by_cases c35 : w = (25 : Int32)
      · refine lv_tableIn (off := 1015) (tgt := 1055) hx hb dL_law_40 (by rw [c35]; decide) (by rw [c35]; decide) (by rw [c35]; decide) (by decide) ?_
        exact law_years C hi hf kk I J K it g1 g2 S x fo H locs ls hr hl hP hD hS
      by_cases c36 : w = (26 : Int32)
      · refine lv_tableIn (off := 1064) (tgt := 1104) hx hb dL_law_40 (by rw [c36]; decide) (by rw [c36]; decide) (by rw [c36]; decide) (by decide) ?_
        exact law_image C hi hf kk I J K it g1 g2 S x fo H locs ls hr hl hP hD hS
      by_cases c37 : w = (27 : Int32)
      · refine lv_tableIn (off := 1077) (tgt := 1117) hx hb dL_law_40 (by rw [c37]; decide) (by rw [c37]; decide) (by rw [c37]; decide) (by decide) ?_
        exact law_restore C hi hf kk I J K it g1 g2 S x fo H locs ls hr hl hP hD hS
      by_cases c38 : w = (28 : Int32)
      · refine lv_tableIn (off := 1090) (tgt := 1130) hx hb dL_law_40 (by rw [c38]; decide) (by rw [c38]; decide) (by rw [c38]; decide) (by decide) ?_
        exact law_count C hi hf kk I J K it g1 g2 S x fo H locs ls hr hl hP hD hS
      by_cases c39 : w = (29 : Int32)
      · refine lv_tableIn (off := 1115) (tgt := 1155) hx hb dL_law_40 (by rw [c39]; decide) (by rw [c39]; decide) (by rw [c39]; decide) (by decide) ?_
        exact law_keep C hi hf kk I J K it g1 g2 S x fo H locs ls hr hl hP hD hS
      by_cases c40 : w = (30 : Int32)
      · refine lv_tableIn (off := 1176) (tgt := 1216) hx hb dL_law_40 (by rw [c40]; decide) (by rw [c40]; decide) (by rw [c40]; decide) (by decide) ?_
        exact law_row C hi hf kk I J K it g1 g2 S x fo H locs ls hr hl hP hD hS
      by_cases c41 : w = (31 : Int32)
      · refine lv_tableIn (off := 1225) (tgt := 1265) hx hb dL_law_40 (by rw [c41]; decide) (by rw [c41]; decide) (by rw [c41]; decide) (by decide) ?_
        exact law_put C hi hf kk I J K it g1 g2 S x fo H locs ls hr hl hP hD hS
      by_cases c42 : w = (32 : Int32)
      · refine lv_tableIn (off := 1274) (tgt := 1314) hx hb dL_law_40 (by rw [c42]; decide) (by rw [c42]; decide) (by rw [c42]; decide) (by decide) ?_
        exact law_element C hi hf kk I J K it g1 g2 S x fo H locs ls hr hl hP hD hS
      by_cases c43 : w = (33 : Int32)
      · refine lv_tableIn (off := 1341) (tgt := 1381) hx hb dL_law_40 (by rw [c43]; decide) (by rw [c43]; decide) (by rw [c43]; decide) (by decide) ?_
        exact law_copy C hi hf kk I J K it g1 g2 S x fo H locs ls hr hl hP hD hS
      by_cases c44 : w = (34 : Int32)
      · refine lv_tableIn (off := 1414) (tgt := 1454) hx hb dL_law_40 (by rw [c44]; decide) (by rw [c44]; decide) (by rw [c44]; decide) (by decide) ?_
        exact law_cost C hi hf kk I J K it g1 g2 S x fo H locs ls hr hl hP hD hS
      by_cases c45 : w = (35 : Int32)
      · refine lv_tableIn (off := 1439) (tgt := 1479) hx hb dL_law_40 (by rw [c45]; decide) (by rw [c45]; decide) (by rw [c45]; decide) (by decide) ?_
        exact law_toss C hi hf kk I J K it g1 g2 S x fo H locs ls hr hl hP hD hS
      refine fk_tbl (keys := [0, 1, 2, 3, 4, 5, 6, 7, 8, 9, 10, 11, 12, 13, 14, 15, 16, 17, 18, 19, 20, 21, 22, 23, 24, 25, 26, 27, 28, 29, 30, 31, 32, 33, 34, 35]) (n := 36) (tgt := 1504) hx hb dL_law_40 (fun q hq => by rcases List.mem_cons.mp hq with rfl | hq; exact lv_neT c10 (by decide); rcases List.mem_cons.mp hq with rfl | hq; exact lv_neT c11 (by decide); rcases List.mem_cons.mp hq with rfl | hq; exact lv_neT c12 (by decide); rcases List.mem_cons.mp hq with rfl | hq; exact lv_neT c13 (by decide); rcases List.mem_cons.mp hq with rfl | hq; exact lv_neT c14 (by decide); rcases List.mem_cons.mp hq with rfl | hq; exact lv_neT c15 (by decide); rcases List.mem_cons.mp hq with rfl | hq; exact lv_neT c16 (by decide); rcases List.mem_cons.mp hq with rfl | hq; exact lv_neT c17 (by decide); rcases List.mem_cons.mp hq with rfl | hq; exact lv_neT c18 (by decide); rcases List.mem_cons.mp hq with rfl | hq; exact lv_neT c19 (by decide); rcases List.mem_cons.mp hq with rfl | hq; exact lv_neT c20 (by decide); rcases List.mem_cons.mp hq with rfl | hq; exact lv_neT c21 (by decide); rcases List.mem_cons.mp hq with rfl | hq; exact lv_neT c22 (by decide); rcases List.mem_cons.mp hq with rfl | hq; exact lv_neT c23 (by decide); rcases List.mem_cons.mp hq with rfl | hq; exact lv_neT c24 (by decide); rcases List.mem_cons.mp hq with rfl | hq; exact lv_neT c25 (by decide); rcases List.mem_cons.mp hq with rfl | hq; exact lv_neT c26 (by decide); rcases List.mem_cons.mp hq with rfl | hq; exact lv_neT c27 (by decide); rcases List.mem_cons.mp hq with rfl | hq; exact lv_neT c28 (by decide); rcases List.mem_cons.mp hq with rfl | hq; exact lv_neT c29 (by decide); rcases List.mem_cons.mp hq with rfl | hq; exact lv_neT c30 (by decide); rcases List.mem_cons.mp hq with rfl | hq; exact lv_neT c31 (by decide); rcases List.mem_cons.mp hq with rfl | hq; exact lv_neT c32 (by decide); rcases List.mem_cons.mp hq with rfl | hq; exact lv_neT c33 (by decide); rcases List.mem_cons.mp hq with rfl | hq; exact lv_neT c34 (by decide); rcases List.mem_cons.mp hq with rfl | hq; exact lv_neT c35 (by decide); rcases List.mem_cons.mp hq with rfl | hq; exact lv_neT c36 (by decide); rcases List.mem_cons.mp hq with rfl | hq; exact lv_neT c37 (by decide); rcases List.mem_cons.mp hq with rfl | hq; exact lv_neT c38 (by decide); rcases List.mem_cons.mp hq with rfl | hq; exact lv_neT c39 (by decide); rcases List.mem_cons.mp hq with rfl | hq; exact lv_neT c40 (by decide); rcases List.mem_cons.mp hq with rfl | hq; exact lv_neT c41 (by decide); rcases List.mem_cons.mp hq with rfl | hq; exact lv_neT c42 (by decide); rcases List.mem_cons.mp hq with rfl | hq; exact lv_neT c43 (by decide); rcases List.mem_cons.mp hq with rfl | hq; exact lv_neT c44 (by decide); rcases List.mem_cons.mp hq with rfl | hq; exact lv_neT c45 (by decide); exact absurd hq List.not_mem_nil) (by decide) (by decide) (by decide) ?_
      refine W.widen (k := cells + 1) (n := slots + 6) (by omega) (by omega) ?_
      exact kk I J K it g1 g2 S x fo H locs ls hr hl hP hD hS
end LT
