/-! the calls of the law, one by one -/
section LK
variable {p : Program} {l : Launch} {e : Env} {s : State} {m : MethodId} {below : List Frame} {meth : Method} {c : Code} {b L : Nat} {xs : Nat → Int32} {D : va_G} {cI cT cS cJ : ClassId} {a kI kJ kK sa ea bb : Nat → Nat} {qo i cells slots : Nat}
set_option maxRecDepth 100000 in
set_option maxHeartbeats 4000000 in
theorem law_isle (C : lq_C p l s m meth c b L xs D cI cT cS cJ) (hi : i + 6 ≤ L) (hf : cells + 1 ≤ 601024 ∧ slots + 6 ≤ 7293034) (kk : lq_G p l e s m below meth c b D cI cT cS cJ a kI kJ kK sa ea bb qo i (cells + 1) (slots + 6) 1504) : lq_G p l e s m below meth c b D cI cT cS cJ a kI kJ kK sa ea bb qo i cells slots 200 := by
  intro I J K it g1 g2 S x fo H locs ls hr hl hP hD hS
  obtain ⟨⟨hx, hb, hrt, hml, hown, hts0, hX, hbl, hlocks, hgv⟩, hts, hK, hN, hB, hZ, hL, htr⟩ := id C
  obtain ⟨v, I2, J2, K2, it2, h1, h2, S2, x2, hr2, f1, f2⟩ := lo_isle (l := l) (D := D) (cI := cI) (cT := cT) (cS := cS) (a := a) (kI := kI) (kJ := kJ) (kK := kK) (sa := sa) (ea := ea) (b := bb) (K := K) (g1 := g1) (g2 := g2) hr (xs (i + 1))
  refine lv_aload_n hx hb dL_law_200 rfl (lv_at hl 1 rfl) ?_
  refine lq_arg C (lv_at hl 0 rfl) (lv_at hl 4 rfl) hS 1 (by omega) (v := (1 : Int32)) rfl (by decide) dL_law_201 dL_law_202 dL_law_204 dL_law_205 dL_law_206 ?_
  refine lq_callX C f1 (cwV 1 hts gL_law_X11_isle rfl rfl rfl (by decide +kernel) ⟨Nat.le_of_ble_eq_true rfl, Nat.le_of_ble_eq_true rfl⟩) hP hD hS (rest := []) (st' := [Value.int v]) rfl rfl hl.1 rfl (Nat.le_of_ble_eq_true rfl) ⟨by omega, by omega⟩ dL_law_207 (fun H locs hP hD hS => ?_)
  refine lv_aload_n hx hb dL_law_210 rfl (lv_at hl 2 rfl) ?_
  refine lq_arg C (lv_at hl 0 rfl) (lv_at hl 4 rfl) hS 1 (by omega) (v := (1 : Int32)) rfl (by decide) dL_law_211 dL_law_212 dL_law_214 dL_law_215 dL_law_216 ?_
  refine lq_callM C f2 (cwV 1 hts gL_law_X12_isle rfl rfl rfl (by decide +kernel) ⟨Nat.le_of_ble_eq_true rfl, Nat.le_of_ble_eq_true rfl⟩) hP hD hS (rest := [Value.int v]) (st' := [Value.int v, Value.int v]) rfl rfl hl.1 rfl (Nat.le_of_ble_eq_true rfl) ⟨by omega, by omega⟩ dL_law_217 (fun H locs hP hD hS => ?_)
  refine W.widen (k := cells + 1) (n := slots + 6) (by omega) (by omega) ?_
  refine lv_icmp_eq (tgt := 1504) hx hb dL_law_220 (by decide) (fun _ => kk I2 J2 K2 it2 h1 h2 S2 x2 fo H locs ls hr2 hl hP hD hS) (fun c1 => absurd rfl c1)
set_option maxRecDepth 100000 in
set_option maxHeartbeats 4000000 in
theorem law_tenant (C : lq_C p l s m meth c b L xs D cI cT cS cJ) (hi : i + 6 ≤ L) (hf : cells + 1 ≤ 601024 ∧ slots + 6 ≤ 7293034) (kk : lq_G p l e s m below meth c b D cI cT cS cJ a kI kJ kK sa ea bb qo i (cells + 1) (slots + 6) 1504) : lq_G p l e s m below meth c b D cI cT cS cJ a kI kJ kK sa ea bb qo i cells slots 225 := by
  intro I J K it g1 g2 S x fo H locs ls hr hl hP hD hS
  obtain ⟨⟨hx, hb, hrt, hml, hown, hts0, hX, hbl, hlocks, hgv⟩, hts, hK, hN, hB, hZ, hL, htr⟩ := id C
  obtain ⟨v, I2, J2, K2, it2, h1, h2, S2, x2, hr2, f1, f2⟩ := lo_tenant (l := l) (D := D) (cI := cI) (cT := cT) (cS := cS) (a := a) (kI := kI) (kJ := kJ) (kK := kK) (sa := sa) (ea := ea) (b := bb) (K := K) (g1 := g1) (g2 := g2) hr (xs (i + 1)) (xs (i + 2))
  refine lv_aload_n hx hb dL_law_225 rfl (lv_at hl 1 rfl) ?_
  refine lq_arg C (lv_at hl 0 rfl) (lv_at hl 4 rfl) hS 1 (by omega) (v := (1 : Int32)) rfl (by decide) dL_law_226 dL_law_227 dL_law_229 dL_law_230 dL_law_231 ?_
  refine lq_arg C (lv_at hl 0 rfl) (lv_at hl 4 rfl) hS 2 (by omega) (v := (2 : Int32)) rfl (by decide) dL_law_232 dL_law_233 dL_law_235 dL_law_236 dL_law_237 ?_
  refine lq_callX C f1 (cwV 2 hts gL_law_X11_tenant rfl rfl rfl (by decide +kernel) ⟨Nat.le_of_ble_eq_true rfl, Nat.le_of_ble_eq_true rfl⟩) hP hD hS (rest := []) (st' := [Value.int v]) rfl rfl hl.1 rfl (Nat.le_of_ble_eq_true rfl) ⟨by omega, by omega⟩ dL_law_238 (fun H locs hP hD hS => ?_)
  refine lv_aload_n hx hb dL_law_241 rfl (lv_at hl 2 rfl) ?_
  refine lq_arg C (lv_at hl 0 rfl) (lv_at hl 4 rfl) hS 1 (by omega) (v := (1 : Int32)) rfl (by decide) dL_law_242 dL_law_243 dL_law_245 dL_law_246 dL_law_247 ?_
  refine lq_arg C (lv_at hl 0 rfl) (lv_at hl 4 rfl) hS 2 (by omega) (v := (2 : Int32)) rfl (by decide) dL_law_248 dL_law_249 dL_law_251 dL_law_252 dL_law_253 ?_
  refine lq_callM C f2 (cwV 2 hts gL_law_X12_tenant rfl rfl rfl (by decide +kernel) ⟨Nat.le_of_ble_eq_true rfl, Nat.le_of_ble_eq_true rfl⟩) hP hD hS (rest := [Value.int v]) (st' := [Value.int v, Value.int v]) rfl rfl hl.1 rfl (Nat.le_of_ble_eq_true rfl) ⟨by omega, by omega⟩ dL_law_254 (fun H locs hP hD hS => ?_)
  refine W.widen (k := cells + 1) (n := slots + 6) (by omega) (by omega) ?_
  refine lv_icmp_eq (tgt := 1504) hx hb dL_law_257 (by decide) (fun _ => kk I2 J2 K2 it2 h1 h2 S2 x2 fo H locs ls hr2 hl hP hD hS) (fun c1 => absurd rfl c1)
set_option maxRecDepth 100000 in
set_option maxHeartbeats 4000000 in
theorem law_comes (C : lq_C p l s m meth c b L xs D cI cT cS cJ) (hi : i + 6 ≤ L) (hf : cells + 1 ≤ 601024 ∧ slots + 6 ≤ 7293034) (kk : lq_G p l e s m below meth c b D cI cT cS cJ a kI kJ kK sa ea bb qo i (cells + 1) (slots + 6) 1504) : lq_G p l e s m below meth c b D cI cT cS cJ a kI kJ kK sa ea bb qo i cells slots 262 := by
  intro I J K it g1 g2 S x fo H locs ls hr hl hP hD hS
  obtain ⟨⟨hx, hb, hrt, hml, hown, hts0, hX, hbl, hlocks, hgv⟩, hts, hK, hN, hB, hZ, hL, htr⟩ := id C
  obtain ⟨v, I2, J2, K2, it2, h1, h2, S2, x2, hr2, f1, f2⟩ := lo_comes (l := l) (D := D) (cI := cI) (cT := cT) (cS := cS) (a := a) (kI := kI) (kJ := kJ) (kK := kK) (sa := sa) (ea := ea) (b := bb) (K := K) (g1 := g1) (g2 := g2) hr (xs (i + 1)) (xs (i + 2))
  refine lv_aload_n hx hb dL_law_262 rfl (lv_at hl 1 rfl) ?_
  refine lq_arg C (lv_at hl 0 rfl) (lv_at hl 4 rfl) hS 1 (by omega) (v := (1 : Int32)) rfl (by decide) dL_law_263 dL_law_264 dL_law_266 dL_law_267 dL_law_268 ?_
  refine lq_arg C (lv_at hl 0 rfl) (lv_at hl 4 rfl) hS 2 (by omega) (v := (2 : Int32)) rfl (by decide) dL_law_269 dL_law_270 dL_law_272 dL_law_273 dL_law_274 ?_
  refine lq_callX C f1 (cwV 2 hts gL_law_X11_comes rfl rfl rfl (by decide +kernel) ⟨Nat.le_of_ble_eq_true rfl, Nat.le_of_ble_eq_true rfl⟩) hP hD hS (rest := []) (st' := [Value.int v]) rfl rfl hl.1 rfl (Nat.le_of_ble_eq_true rfl) ⟨by omega, by omega⟩ dL_law_275 (fun H locs hP hD hS => ?_)
  refine lv_aload_n hx hb dL_law_278 rfl (lv_at hl 2 rfl) ?_
  refine lq_arg C (lv_at hl 0 rfl) (lv_at hl 4 rfl) hS 1 (by omega) (v := (1 : Int32)) rfl (by decide) dL_law_279 dL_law_280 dL_law_282 dL_law_283 dL_law_284 ?_
  refine lq_arg C (lv_at hl 0 rfl) (lv_at hl 4 rfl) hS 2 (by omega) (v := (2 : Int32)) rfl (by decide) dL_law_285 dL_law_286 dL_law_288 dL_law_289 dL_law_290 ?_
  refine lq_callM C f2 (cwV 2 hts gL_law_X12_comes rfl rfl rfl (by decide +kernel) ⟨Nat.le_of_ble_eq_true rfl, Nat.le_of_ble_eq_true rfl⟩) hP hD hS (rest := [Value.int v]) (st' := [Value.int v, Value.int v]) rfl rfl hl.1 rfl (Nat.le_of_ble_eq_true rfl) ⟨by omega, by omega⟩ dL_law_291 (fun H locs hP hD hS => ?_)
  refine W.widen (k := cells + 1) (n := slots + 6) (by omega) (by omega) ?_
  refine lv_icmp_eq (tgt := 1504) hx hb dL_law_294 (by decide) (fun _ => kk I2 J2 K2 it2 h1 h2 S2 x2 fo H locs ls hr2 hl hP hD hS) (fun c1 => absurd rfl c1)
set_option maxRecDepth 100000 in
set_option maxHeartbeats 4000000 in
theorem law_stores (C : lq_C p l s m meth c b L xs D cI cT cS cJ) (hi : i + 6 ≤ L) (hf : cells + 1 ≤ 601024 ∧ slots + 6 ≤ 7293034) (kk : lq_G p l e s m below meth c b D cI cT cS cJ a kI kJ kK sa ea bb qo i (cells + 1) (slots + 6) 1504) : lq_G p l e s m below meth c b D cI cT cS cJ a kI kJ kK sa ea bb qo i cells slots 299 := by
  intro I J K it g1 g2 S x fo H locs ls hr hl hP hD hS
  obtain ⟨⟨hx, hb, hrt, hml, hown, hts0, hX, hbl, hlocks, hgv⟩, hts, hK, hN, hB, hZ, hL, htr⟩ := id C
  obtain ⟨v, I2, J2, K2, it2, h1, h2, S2, x2, hr2, f1, f2⟩ := lo_stores (l := l) (D := D) (cI := cI) (cT := cT) (cS := cS) (a := a) (kI := kI) (kJ := kJ) (kK := kK) (sa := sa) (ea := ea) (b := bb) (K := K) (g1 := g1) (g2 := g2) hr (xs (i + 1)) (xs (i + 2))
  refine lv_aload_n hx hb dL_law_299 rfl (lv_at hl 1 rfl) ?_
  refine lq_arg C (lv_at hl 0 rfl) (lv_at hl 4 rfl) hS 1 (by omega) (v := (1 : Int32)) rfl (by decide) dL_law_300 dL_law_301 dL_law_303 dL_law_304 dL_law_305 ?_
  refine lq_arg C (lv_at hl 0 rfl) (lv_at hl 4 rfl) hS 2 (by omega) (v := (2 : Int32)) rfl (by decide) dL_law_306 dL_law_307 dL_law_309 dL_law_310 dL_law_311 ?_
  refine lq_callX C f1 (cwV 2 hts gL_law_X11_stores rfl rfl rfl (by decide +kernel) ⟨Nat.le_of_ble_eq_true rfl, Nat.le_of_ble_eq_true rfl⟩) hP hD hS (rest := []) (st' := [Value.int v]) rfl rfl hl.1 rfl (Nat.le_of_ble_eq_true rfl) ⟨by omega, by omega⟩ dL_law_312 (fun H locs hP hD hS => ?_)
  refine lv_aload_n hx hb dL_law_315 rfl (lv_at hl 2 rfl) ?_
  refine lq_arg C (lv_at hl 0 rfl) (lv_at hl 4 rfl) hS 1 (by omega) (v := (1 : Int32)) rfl (by decide) dL_law_316 dL_law_317 dL_law_319 dL_law_320 dL_law_321 ?_
  refine lq_arg C (lv_at hl 0 rfl) (lv_at hl 4 rfl) hS 2 (by omega) (v := (2 : Int32)) rfl (by decide) dL_law_322 dL_law_323 dL_law_325 dL_law_326 dL_law_327 ?_
  refine lq_callM C f2 (cwV 2 hts gL_law_X12_stores rfl rfl rfl (by decide +kernel) ⟨Nat.le_of_ble_eq_true rfl, Nat.le_of_ble_eq_true rfl⟩) hP hD hS (rest := [Value.int v]) (st' := [Value.int v, Value.int v]) rfl rfl hl.1 rfl (Nat.le_of_ble_eq_true rfl) ⟨by omega, by omega⟩ dL_law_328 (fun H locs hP hD hS => ?_)
  refine W.widen (k := cells + 1) (n := slots + 6) (by omega) (by omega) ?_
  refine lv_icmp_eq (tgt := 1504) hx hb dL_law_331 (by decide) (fun _ => kk I2 J2 K2 it2 h1 h2 S2 x2 fo H locs ls hr2 hl hP hD hS) (fun c1 => absurd rfl c1)
set_option maxRecDepth 100000 in
set_option maxHeartbeats 4000000 in
theorem law_set (C : lq_C p l s m meth c b L xs D cI cT cS cJ) (hi : i + 6 ≤ L) (hf : cells + 1 ≤ 601024 ∧ slots + 6 ≤ 7293034) (kk : lq_G p l e s m below meth c b D cI cT cS cJ a kI kJ kK sa ea bb qo i (cells + 1) (slots + 6) 1504) : lq_G p l e s m below meth c b D cI cT cS cJ a kI kJ kK sa ea bb qo i cells slots 336 := by
  intro I J K it g1 g2 S x fo H locs ls hr hl hP hD hS
  obtain ⟨⟨hx, hb, hrt, hml, hown, hts0, hX, hbl, hlocks, hgv⟩, hts, hK, hN, hB, hZ, hL, htr⟩ := id C
  obtain ⟨v, I2, J2, K2, it2, h1, h2, S2, x2, hr2, f1, f2⟩ := lo_set (l := l) (D := D) (cI := cI) (cT := cT) (cS := cS) (a := a) (kI := kI) (kJ := kJ) (kK := kK) (sa := sa) (ea := ea) (b := bb) (K := K) (g1 := g1) (g2 := g2) hr (xs (i + 1)) (xs (i + 2))
  refine lv_aload_n hx hb dL_law_336 rfl (lv_at hl 1 rfl) ?_
  refine lq_arg C (lv_at hl 0 rfl) (lv_at hl 4 rfl) hS 1 (by omega) (v := (1 : Int32)) rfl (by decide) dL_law_337 dL_law_338 dL_law_340 dL_law_341 dL_law_342 ?_
  refine lq_arg C (lv_at hl 0 rfl) (lv_at hl 4 rfl) hS 2 (by omega) (v := (2 : Int32)) rfl (by decide) dL_law_343 dL_law_344 dL_law_346 dL_law_347 dL_law_348 ?_
  refine lq_callX C f1 (cwV 2 hts gL_law_X11_set rfl rfl rfl (by decide +kernel) ⟨Nat.le_of_ble_eq_true rfl, Nat.le_of_ble_eq_true rfl⟩) hP hD hS (rest := []) (st' := [Value.int v]) rfl rfl hl.1 rfl (Nat.le_of_ble_eq_true rfl) ⟨by omega, by omega⟩ dL_law_349 (fun H locs hP hD hS => ?_)
  refine lv_aload_n hx hb dL_law_352 rfl (lv_at hl 2 rfl) ?_
  refine lq_arg C (lv_at hl 0 rfl) (lv_at hl 4 rfl) hS 1 (by omega) (v := (1 : Int32)) rfl (by decide) dL_law_353 dL_law_354 dL_law_356 dL_law_357 dL_law_358 ?_
  refine lq_arg C (lv_at hl 0 rfl) (lv_at hl 4 rfl) hS 2 (by omega) (v := (2 : Int32)) rfl (by decide) dL_law_359 dL_law_360 dL_law_362 dL_law_363 dL_law_364 ?_
  refine lq_callM C f2 (cwV 2 hts gL_law_X12_set rfl rfl rfl (by decide +kernel) ⟨Nat.le_of_ble_eq_true rfl, Nat.le_of_ble_eq_true rfl⟩) hP hD hS (rest := [Value.int v]) (st' := [Value.int v, Value.int v]) rfl rfl hl.1 rfl (Nat.le_of_ble_eq_true rfl) ⟨by omega, by omega⟩ dL_law_365 (fun H locs hP hD hS => ?_)
  refine W.widen (k := cells + 1) (n := slots + 6) (by omega) (by omega) ?_
  refine lv_icmp_eq (tgt := 1504) hx hb dL_law_368 (by decide) (fun _ => kk I2 J2 K2 it2 h1 h2 S2 x2 fo H locs ls hr2 hl hP hD hS) (fun c1 => absurd rfl c1)
set_option maxRecDepth 100000 in
set_option maxHeartbeats 4000000 in
theorem law_lends (C : lq_C p l s m meth c b L xs D cI cT cS cJ) (hi : i + 6 ≤ L) (hf : cells + 1 ≤ 601024 ∧ slots + 6 ≤ 7293034) (kk : lq_G p l e s m below meth c b D cI cT cS cJ a kI kJ kK sa ea bb qo i (cells + 1) (slots + 6) 1504) : lq_G p l e s m below meth c b D cI cT cS cJ a kI kJ kK sa ea bb qo i cells slots 373 := by
  intro I J K it g1 g2 S x fo H locs ls hr hl hP hD hS
  obtain ⟨⟨hx, hb, hrt, hml, hown, hts0, hX, hbl, hlocks, hgv⟩, hts, hK, hN, hB, hZ, hL, htr⟩ := id C
  obtain ⟨v, I2, J2, K2, it2, h1, h2, S2, x2, hr2, f1, f2⟩ := lo_lends (l := l) (D := D) (cI := cI) (cT := cT) (cS := cS) (a := a) (kI := kI) (kJ := kJ) (kK := kK) (sa := sa) (ea := ea) (b := bb) (K := K) (g1 := g1) (g2 := g2) hr (xs (i + 1)) (xs (i + 2)) (xs (i + 3))
  refine lv_aload_n hx hb dL_law_373 rfl (lv_at hl 1 rfl) ?_
  refine lq_arg C (lv_at hl 0 rfl) (lv_at hl 4 rfl) hS 1 (by omega) (v := (1 : Int32)) rfl (by decide) dL_law_374 dL_law_375 dL_law_377 dL_law_378 dL_law_379 ?_
  refine lq_arg C (lv_at hl 0 rfl) (lv_at hl 4 rfl) hS 2 (by omega) (v := (2 : Int32)) rfl (by decide) dL_law_380 dL_law_381 dL_law_383 dL_law_384 dL_law_385 ?_
  refine lq_arg C (lv_at hl 0 rfl) (lv_at hl 4 rfl) hS 3 (by omega) (v := (3 : Int32)) rfl (by decide) dL_law_386 dL_law_387 dL_law_389 dL_law_390 dL_law_391 ?_
  refine lq_callX C f1 (cwV 3 hts gL_law_X11_lends rfl rfl rfl (by decide +kernel) ⟨Nat.le_of_ble_eq_true rfl, Nat.le_of_ble_eq_true rfl⟩) hP hD hS (rest := []) (st' := [Value.int v]) rfl rfl hl.1 rfl (Nat.le_of_ble_eq_true rfl) ⟨by omega, by omega⟩ dL_law_392 (fun H locs hP hD hS => ?_)
  refine lv_aload_n hx hb dL_law_395 rfl (lv_at hl 2 rfl) ?_
  refine lq_arg C (lv_at hl 0 rfl) (lv_at hl 4 rfl) hS 1 (by omega) (v := (1 : Int32)) rfl (by decide) dL_law_396 dL_law_397 dL_law_399 dL_law_400 dL_law_401 ?_
  refine lq_arg C (lv_at hl 0 rfl) (lv_at hl 4 rfl) hS 2 (by omega) (v := (2 : Int32)) rfl (by decide) dL_law_402 dL_law_403 dL_law_405 dL_law_406 dL_law_407 ?_
  refine lq_arg C (lv_at hl 0 rfl) (lv_at hl 4 rfl) hS 3 (by omega) (v := (3 : Int32)) rfl (by decide) dL_law_408 dL_law_409 dL_law_411 dL_law_412 dL_law_413 ?_
  refine lq_callM C f2 (cwV 3 hts gL_law_X12_lends rfl rfl rfl (by decide +kernel) ⟨Nat.le_of_ble_eq_true rfl, Nat.le_of_ble_eq_true rfl⟩) hP hD hS (rest := [Value.int v]) (st' := [Value.int v, Value.int v]) rfl rfl hl.1 rfl (Nat.le_of_ble_eq_true rfl) ⟨by omega, by omega⟩ dL_law_414 (fun H locs hP hD hS => ?_)
  refine W.widen (k := cells + 1) (n := slots + 6) (by omega) (by omega) ?_
  refine lv_icmp_eq (tgt := 1504) hx hb dL_law_417 (by decide) (fun _ => kk I2 J2 K2 it2 h1 h2 S2 x2 fo H locs ls hr2 hl hP hD hS) (fun c1 => absurd rfl c1)
set_option maxRecDepth 100000 in
set_option maxHeartbeats 4000000 in
theorem law_days (C : lq_C p l s m meth c b L xs D cI cT cS cJ) (hi : i + 6 ≤ L) (hf : cells + 1 ≤ 601024 ∧ slots + 6 ≤ 7293034) (kk : lq_G p l e s m below meth c b D cI cT cS cJ a kI kJ kK sa ea bb qo i (cells + 1) (slots + 6) 1504) : lq_G p l e s m below meth c b D cI cT cS cJ a kI kJ kK sa ea bb qo i cells slots 422 := by
  intro I J K it g1 g2 S x fo H locs ls hr hl hP hD hS
  obtain ⟨⟨hx, hb, hrt, hml, hown, hts0, hX, hbl, hlocks, hgv⟩, hts, hK, hN, hB, hZ, hL, htr⟩ := id C
  obtain ⟨v, I2, J2, K2, it2, h1, h2, S2, x2, hr2, f1, f2⟩ := lo_days (l := l) (D := D) (cI := cI) (cT := cT) (cS := cS) (a := a) (kI := kI) (kJ := kJ) (kK := kK) (sa := sa) (ea := ea) (b := bb) (K := K) (g1 := g1) (g2 := g2) hr (xs (i + 1))
  refine lv_aload_n hx hb dL_law_422 rfl (lv_at hl 1 rfl) ?_
  refine lq_arg C (lv_at hl 0 rfl) (lv_at hl 4 rfl) hS 1 (by omega) (v := (1 : Int32)) rfl (by decide) dL_law_423 dL_law_424 dL_law_426 dL_law_427 dL_law_428 ?_
  refine lq_callX C f1 (cwV 1 hts gL_law_X11_days rfl rfl rfl (by decide +kernel) ⟨Nat.le_of_ble_eq_true rfl, Nat.le_of_ble_eq_true rfl⟩) hP hD hS (rest := []) (st' := [Value.int v]) rfl rfl hl.1 rfl (Nat.le_of_ble_eq_true rfl) ⟨by omega, by omega⟩ dL_law_429 (fun H locs hP hD hS => ?_)
  refine lv_aload_n hx hb dL_law_432 rfl (lv_at hl 2 rfl) ?_
  refine lq_arg C (lv_at hl 0 rfl) (lv_at hl 4 rfl) hS 1 (by omega) (v := (1 : Int32)) rfl (by decide) dL_law_433 dL_law_434 dL_law_436 dL_law_437 dL_law_438 ?_
  refine lq_callM C f2 (cwV 1 hts gL_law_X12_days rfl rfl rfl (by decide +kernel) ⟨Nat.le_of_ble_eq_true rfl, Nat.le_of_ble_eq_true rfl⟩) hP hD hS (rest := [Value.int v]) (st' := [Value.int v, Value.int v]) rfl rfl hl.1 rfl (Nat.le_of_ble_eq_true rfl) ⟨by omega, by omega⟩ dL_law_439 (fun H locs hP hD hS => ?_)
  refine W.widen (k := cells + 1) (n := slots + 6) (by omega) (by omega) ?_
  refine lv_icmp_eq (tgt := 1504) hx hb dL_law_442 (by decide) (fun _ => kk I2 J2 K2 it2 h1 h2 S2 x2 fo H locs ls hr2 hl hP hD hS) (fun c1 => absurd rfl c1)
set_option maxRecDepth 100000 in
set_option maxHeartbeats 4000000 in
theorem law_tenantThen (C : lq_C p l s m meth c b L xs D cI cT cS cJ) (hi : i + 6 ≤ L) (hf : cells + 1 ≤ 601024 ∧ slots + 6 ≤ 7293034) (kk : lq_G p l e s m below meth c b D cI cT cS cJ a kI kJ kK sa ea bb qo i (cells + 1) (slots + 6) 1504) : lq_G p l e s m below meth c b D cI cT cS cJ a kI kJ kK sa ea bb qo i cells slots 447 := by
  intro I J K it g1 g2 S x fo H locs ls hr hl hP hD hS
  obtain ⟨⟨hx, hb, hrt, hml, hown, hts0, hX, hbl, hlocks, hgv⟩, hts, hK, hN, hB, hZ, hL, htr⟩ := id C
  obtain ⟨v, I2, J2, K2, it2, h1, h2, S2, x2, hr2, f1, f2⟩ := lo_tenantThen (l := l) (D := D) (cI := cI) (cT := cT) (cS := cS) (a := a) (kI := kI) (kJ := kJ) (kK := kK) (sa := sa) (ea := ea) (b := bb) (K := K) (g1 := g1) (g2 := g2) hr (xs (i + 1)) (xs (i + 2)) (xs (i + 3))
  refine lv_aload_n hx hb dL_law_447 rfl (lv_at hl 1 rfl) ?_
  refine lq_arg C (lv_at hl 0 rfl) (lv_at hl 4 rfl) hS 1 (by omega) (v := (1 : Int32)) rfl (by decide) dL_law_448 dL_law_449 dL_law_451 dL_law_452 dL_law_453 ?_
  refine lq_arg C (lv_at hl 0 rfl) (lv_at hl 4 rfl) hS 2 (by omega) (v := (2 : Int32)) rfl (by decide) dL_law_454 dL_law_455 dL_law_457 dL_law_458 dL_law_459 ?_
  refine lq_arg C (lv_at hl 0 rfl) (lv_at hl 4 rfl) hS 3 (by omega) (v := (3 : Int32)) rfl (by decide) dL_law_460 dL_law_461 dL_law_463 dL_law_464 dL_law_465 ?_
  refine lq_callX C f1 (cwV 3 hts gL_law_X11_tenantThen rfl rfl rfl (by decide +kernel) ⟨Nat.le_of_ble_eq_true rfl, Nat.le_of_ble_eq_true rfl⟩) hP hD hS (rest := []) (st' := [Value.int v]) rfl rfl hl.1 rfl (Nat.le_of_ble_eq_true rfl) ⟨by omega, by omega⟩ dL_law_466 (fun H locs hP hD hS => ?_)
  refine lv_aload_n hx hb dL_law_469 rfl (lv_at hl 2 rfl) ?_
  refine lq_arg C (lv_at hl 0 rfl) (lv_at hl 4 rfl) hS 1 (by omega) (v := (1 : Int32)) rfl (by decide) dL_law_470 dL_law_471 dL_law_473 dL_law_474 dL_law_475 ?_
  refine lq_arg C (lv_at hl 0 rfl) (lv_at hl 4 rfl) hS 2 (by omega) (v := (2 : Int32)) rfl (by decide) dL_law_476 dL_law_477 dL_law_479 dL_law_480 dL_law_481 ?_
  refine lq_arg C (lv_at hl 0 rfl) (lv_at hl 4 rfl) hS 3 (by omega) (v := (3 : Int32)) rfl (by decide) dL_law_482 dL_law_483 dL_law_485 dL_law_486 dL_law_487 ?_
  refine lq_callM C f2 (cwV 3 hts gL_law_X12_tenantThen rfl rfl rfl (by decide +kernel) ⟨Nat.le_of_ble_eq_true rfl, Nat.le_of_ble_eq_true rfl⟩) hP hD hS (rest := [Value.int v]) (st' := [Value.int v, Value.int v]) rfl rfl hl.1 rfl (Nat.le_of_ble_eq_true rfl) ⟨by omega, by omega⟩ dL_law_488 (fun H locs hP hD hS => ?_)
  refine W.widen (k := cells + 1) (n := slots + 6) (by omega) (by omega) ?_
  refine lv_icmp_eq (tgt := 1504) hx hb dL_law_491 (by decide) (fun _ => kk I2 J2 K2 it2 h1 h2 S2 x2 fo H locs ls hr2 hl hP hD hS) (fun c1 => absurd rfl c1)
set_option maxRecDepth 100000 in
set_option maxHeartbeats 4000000 in
theorem law_then (C : lq_C p l s m meth c b L xs D cI cT cS cJ) (hi : i + 6 ≤ L) (hf : cells + 1 ≤ 601024 ∧ slots + 6 ≤ 7293034) (kk : lq_G p l e s m below meth c b D cI cT cS cJ a kI kJ kK sa ea bb qo i (cells + 1) (slots + 6) 1504) : lq_G p l e s m below meth c b D cI cT cS cJ a kI kJ kK sa ea bb qo i cells slots 496 := by
  intro I J K it g1 g2 S x fo H locs ls hr hl hP hD hS
  obtain ⟨⟨hx, hb, hrt, hml, hown, hts0, hX, hbl, hlocks, hgv⟩, hts, hK, hN, hB, hZ, hL, htr⟩ := id C
  obtain ⟨v, I2, J2, K2, it2, h1, h2, S2, x2, hr2, f1, f2⟩ := lo_then (l := l) (D := D) (cI := cI) (cT := cT) (cS := cS) (a := a) (kI := kI) (kJ := kJ) (kK := kK) (sa := sa) (ea := ea) (b := bb) (K := K) (g1 := g1) (g2 := g2) hr (xs (i + 1)) (xs (i + 2))
  refine lv_aload_n hx hb dL_law_496 rfl (lv_at hl 1 rfl) ?_
  refine lq_arg C (lv_at hl 0 rfl) (lv_at hl 4 rfl) hS 1 (by omega) (v := (1 : Int32)) rfl (by decide) dL_law_497 dL_law_498 dL_law_500 dL_law_501 dL_law_502 ?_
  refine lq_arg C (lv_at hl 0 rfl) (lv_at hl 4 rfl) hS 2 (by omega) (v := (2 : Int32)) rfl (by decide) dL_law_503 dL_law_504 dL_law_506 dL_law_507 dL_law_508 ?_
  refine lq_callX C f1 (cwV 2 hts gL_law_X11_then rfl rfl rfl (by decide +kernel) ⟨Nat.le_of_ble_eq_true rfl, Nat.le_of_ble_eq_true rfl⟩) hP hD hS (rest := []) (st' := [Value.int v]) rfl rfl hl.1 rfl (Nat.le_of_ble_eq_true rfl) ⟨by omega, by omega⟩ dL_law_509 (fun H locs hP hD hS => ?_)
  refine lv_aload_n hx hb dL_law_512 rfl (lv_at hl 2 rfl) ?_
  refine lq_arg C (lv_at hl 0 rfl) (lv_at hl 4 rfl) hS 1 (by omega) (v := (1 : Int32)) rfl (by decide) dL_law_513 dL_law_514 dL_law_516 dL_law_517 dL_law_518 ?_
  refine lq_arg C (lv_at hl 0 rfl) (lv_at hl 4 rfl) hS 2 (by omega) (v := (2 : Int32)) rfl (by decide) dL_law_519 dL_law_520 dL_law_522 dL_law_523 dL_law_524 ?_
  refine lq_callM C f2 (cwV 2 hts gL_law_X12_then rfl rfl rfl (by decide +kernel) ⟨Nat.le_of_ble_eq_true rfl, Nat.le_of_ble_eq_true rfl⟩) hP hD hS (rest := [Value.int v]) (st' := [Value.int v, Value.int v]) rfl rfl hl.1 rfl (Nat.le_of_ble_eq_true rfl) ⟨by omega, by omega⟩ dL_law_525 (fun H locs hP hD hS => ?_)
  refine W.widen (k := cells + 1) (n := slots + 6) (by omega) (by omega) ?_
  refine lv_icmp_eq (tgt := 1504) hx hb dL_law_528 (by decide) (fun _ => kk I2 J2 K2 it2 h1 h2 S2 x2 fo H locs ls hr2 hl hP hD hS) (fun c1 => absurd rfl c1)
set_option maxRecDepth 100000 in
set_option maxHeartbeats 4000000 in
theorem law_goes (C : lq_C p l s m meth c b L xs D cI cT cS cJ) (hi : i + 6 ≤ L) (hf : cells + 1 ≤ 601024 ∧ slots + 6 ≤ 7293034) (kk : lq_G p l e s m below meth c b D cI cT cS cJ a kI kJ kK sa ea bb qo i (cells + 1) (slots + 6) 1504) : lq_G p l e s m below meth c b D cI cT cS cJ a kI kJ kK sa ea bb qo i cells slots 533 := by
  intro I J K it g1 g2 S x fo H locs ls hr hl hP hD hS
  obtain ⟨⟨hx, hb, hrt, hml, hown, hts0, hX, hbl, hlocks, hgv⟩, hts, hK, hN, hB, hZ, hL, htr⟩ := id C
  obtain ⟨v, I2, J2, K2, it2, h1, h2, S2, x2, hr2, f1, f2⟩ := lo_goes (l := l) (D := D) (cI := cI) (cT := cT) (cS := cS) (a := a) (kI := kI) (kJ := kJ) (kK := kK) (sa := sa) (ea := ea) (b := bb) (K := K) (g1 := g1) (g2 := g2) hr (xs (i + 1))
  refine lv_aload_n hx hb dL_law_533 rfl (lv_at hl 1 rfl) ?_
  refine lq_arg C (lv_at hl 0 rfl) (lv_at hl 4 rfl) hS 1 (by omega) (v := (1 : Int32)) rfl (by decide) dL_law_534 dL_law_535 dL_law_537 dL_law_538 dL_law_539 ?_
  refine lq_callX C f1 (cwV 1 hts gL_law_X11_goes rfl rfl rfl (by decide +kernel) ⟨Nat.le_of_ble_eq_true rfl, Nat.le_of_ble_eq_true rfl⟩) hP hD hS (rest := []) (st' := [Value.int v]) rfl rfl hl.1 rfl (Nat.le_of_ble_eq_true rfl) ⟨by omega, by omega⟩ dL_law_540 (fun H locs hP hD hS => ?_)
  refine lv_aload_n hx hb dL_law_543 rfl (lv_at hl 2 rfl) ?_
  refine lq_arg C (lv_at hl 0 rfl) (lv_at hl 4 rfl) hS 1 (by omega) (v := (1 : Int32)) rfl (by decide) dL_law_544 dL_law_545 dL_law_547 dL_law_548 dL_law_549 ?_
  refine lq_callM C f2 (cwV 1 hts gL_law_X12_goes rfl rfl rfl (by decide +kernel) ⟨Nat.le_of_ble_eq_true rfl, Nat.le_of_ble_eq_true rfl⟩) hP hD hS (rest := [Value.int v]) (st' := [Value.int v, Value.int v]) rfl rfl hl.1 rfl (Nat.le_of_ble_eq_true rfl) ⟨by omega, by omega⟩ dL_law_550 (fun H locs hP hD hS => ?_)
  refine W.widen (k := cells + 1) (n := slots + 6) (by omega) (by omega) ?_
  refine lv_icmp_eq (tgt := 1504) hx hb dL_law_553 (by decide) (fun _ => kk I2 J2 K2 it2 h1 h2 S2 x2 fo H locs ls hr2 hl hP hD hS) (fun c1 => absurd rfl c1)
set_option maxRecDepth 100000 in
set_option maxHeartbeats 4000000 in
theorem law_empty (C : lq_C p l s m meth c b L xs D cI cT cS cJ) (hi : i + 6 ≤ L) (hf : cells + 1 ≤ 601024 ∧ slots + 6 ≤ 7293034) (kk : lq_G p l e s m below meth c b D cI cT cS cJ a kI kJ kK sa ea bb qo i (cells + 1) (slots + 6) 1504) : lq_G p l e s m below meth c b D cI cT cS cJ a kI kJ kK sa ea bb qo i cells slots 558 := by
  intro I J K it g1 g2 S x fo H locs ls hr hl hP hD hS
  obtain ⟨⟨hx, hb, hrt, hml, hown, hts0, hX, hbl, hlocks, hgv⟩, hts, hK, hN, hB, hZ, hL, htr⟩ := id C
  obtain ⟨v, I2, J2, K2, it2, h1, h2, S2, x2, hr2, f1, f2⟩ := lo_empty (l := l) (D := D) (cI := cI) (cT := cT) (cS := cS) (a := a) (kI := kI) (kJ := kJ) (kK := kK) (sa := sa) (ea := ea) (b := bb) (K := K) (g1 := g1) (g2 := g2) hr 
  refine lv_aload_n hx hb dL_law_558 rfl (lv_at hl 1 rfl) ?_
  refine lq_callX C f1 (cwV 0 hts gL_law_X11_empty rfl rfl rfl (by decide +kernel) ⟨Nat.le_of_ble_eq_true rfl, Nat.le_of_ble_eq_true rfl⟩) hP hD hS (rest := []) (st' := [Value.int v]) rfl rfl hl.1 rfl (Nat.le_of_ble_eq_true rfl) ⟨by omega, by omega⟩ dL_law_559 (fun H locs hP hD hS => ?_)
  refine lv_aload_n hx hb dL_law_562 rfl (lv_at hl 2 rfl) ?_
  refine lq_callM C f2 (cwV 0 hts gL_law_X12_empty rfl rfl rfl (by decide +kernel) ⟨Nat.le_of_ble_eq_true rfl, Nat.le_of_ble_eq_true rfl⟩) hP hD hS (rest := [Value.int v]) (st' := [Value.int v, Value.int v]) rfl rfl hl.1 rfl (Nat.le_of_ble_eq_true rfl) ⟨by omega, by omega⟩ dL_law_563 (fun H locs hP hD hS => ?_)
  refine W.widen (k := cells + 1) (n := slots + 6) (by omega) (by omega) ?_
  refine lv_icmp_eq (tgt := 1504) hx hb dL_law_566 (by decide) (fun _ => kk I2 J2 K2 it2 h1 h2 S2 x2 fo H locs ls hr2 hl hP hD hS) (fun c1 => absurd rfl c1)
set_option maxRecDepth 100000 in
set_option maxHeartbeats 4000000 in
theorem law_rent (C : lq_C p l s m meth c b L xs D cI cT cS cJ) (hi : i + 6 ≤ L) (hf : cells + 1 ≤ 601024 ∧ slots + 6 ≤ 7293034) (kk : lq_G p l e s m below meth c b D cI cT cS cJ a kI kJ kK sa ea bb qo i (cells + 1) (slots + 6) 1504) : lq_G p l e s m below meth c b D cI cT cS cJ a kI kJ kK sa ea bb qo i cells slots 571 := by
  intro I J K it g1 g2 S x fo H locs ls hr hl hP hD hS
  obtain ⟨⟨hx, hb, hrt, hml, hown, hts0, hX, hbl, hlocks, hgv⟩, hts, hK, hN, hB, hZ, hL, htr⟩ := id C
  obtain ⟨v, I2, J2, K2, it2, h1, h2, S2, x2, hr2, f1, f2⟩ := lo_rent (l := l) (D := D) (cI := cI) (cT := cT) (cS := cS) (a := a) (kI := kI) (kJ := kJ) (kK := kK) (sa := sa) (ea := ea) (b := bb) (K := K) (g1 := g1) (g2 := g2) hr (xs (i + 1))
  refine lv_aload_n hx hb dL_law_571 rfl (lv_at hl 1 rfl) ?_
  refine lq_arg C (lv_at hl 0 rfl) (lv_at hl 4 rfl) hS 1 (by omega) (v := (1 : Int32)) rfl (by decide) dL_law_572 dL_law_573 dL_law_575 dL_law_576 dL_law_577 ?_
  refine lq_callX C f1 (cwV 1 hts gL_law_X11_rent rfl rfl rfl (by decide +kernel) ⟨Nat.le_of_ble_eq_true rfl, Nat.le_of_ble_eq_true rfl⟩) hP hD hS (rest := []) (st' := [Value.int v]) rfl rfl hl.1 rfl (Nat.le_of_ble_eq_true rfl) ⟨by omega, by omega⟩ dL_law_578 (fun H locs hP hD hS => ?_)
  refine lv_aload_n hx hb dL_law_581 rfl (lv_at hl 2 rfl) ?_
  refine lq_arg C (lv_at hl 0 rfl) (lv_at hl 4 rfl) hS 1 (by omega) (v := (1 : Int32)) rfl (by decide) dL_law_582 dL_law_583 dL_law_585 dL_law_586 dL_law_587 ?_
  refine lq_callM C f2 (cwV 1 hts gL_law_X12_rent rfl rfl rfl (by decide +kernel) ⟨Nat.le_of_ble_eq_true rfl, Nat.le_of_ble_eq_true rfl⟩) hP hD hS (rest := [Value.int v]) (st' := [Value.int v, Value.int v]) rfl rfl hl.1 rfl (Nat.le_of_ble_eq_true rfl) ⟨by omega, by omega⟩ dL_law_588 (fun H locs hP hD hS => ?_)
  refine W.widen (k := cells + 1) (n := slots + 6) (by omega) (by omega) ?_
  refine lv_icmp_eq (tgt := 1504) hx hb dL_law_591 (by decide) (fun _ => kk I2 J2 K2 it2 h1 h2 S2 x2 fo H locs ls hr2 hl hP hD hS) (fun c1 => absurd rfl c1)
set_option maxRecDepth 100000 in
set_option maxHeartbeats 4000000 in
theorem law_bestSea (C : lq_C p l s m meth c b L xs D cI cT cS cJ) (hi : i + 6 ≤ L) (hf : cells + 1 ≤ 601024 ∧ slots + 6 ≤ 7293034) (kk : lq_G p l e s m below meth c b D cI cT cS cJ a kI kJ kK sa ea bb qo i (cells + 1) (slots + 6) 1504) : lq_G p l e s m below meth c b D cI cT cS cJ a kI kJ kK sa ea bb qo i cells slots 596 := by
  intro I J K it g1 g2 S x fo H locs ls hr hl hP hD hS
  obtain ⟨⟨hx, hb, hrt, hml, hown, hts0, hX, hbl, hlocks, hgv⟩, hts, hK, hN, hB, hZ, hL, htr⟩ := id C
  obtain ⟨v, I2, J2, K2, it2, h1, h2, S2, x2, hr2, f1, f2⟩ := lo_bestSea (l := l) (D := D) (cI := cI) (cT := cT) (cS := cS) (a := a) (kI := kI) (kJ := kJ) (kK := kK) (sa := sa) (ea := ea) (b := bb) (K := K) (g1 := g1) (g2 := g2) hr (xs (i + 1)) (xs (i + 2))
  refine lv_aload_n hx hb dL_law_596 rfl (lv_at hl 1 rfl) ?_
  refine lq_arg C (lv_at hl 0 rfl) (lv_at hl 4 rfl) hS 1 (by omega) (v := (1 : Int32)) rfl (by decide) dL_law_597 dL_law_598 dL_law_600 dL_law_601 dL_law_602 ?_
  refine lq_arg C (lv_at hl 0 rfl) (lv_at hl 4 rfl) hS 2 (by omega) (v := (2 : Int32)) rfl (by decide) dL_law_603 dL_law_604 dL_law_606 dL_law_607 dL_law_608 ?_
  refine lq_callX C f1 (cwV 2 hts gL_law_X11_bestSea rfl rfl rfl (by decide +kernel) ⟨Nat.le_of_ble_eq_true rfl, Nat.le_of_ble_eq_true rfl⟩) hP hD hS (rest := []) (st' := [Value.int v]) rfl rfl hl.1 rfl (Nat.le_of_ble_eq_true rfl) ⟨by omega, by omega⟩ dL_law_609 (fun H locs hP hD hS => ?_)
  refine lv_aload_n hx hb dL_law_612 rfl (lv_at hl 2 rfl) ?_
  refine lq_arg C (lv_at hl 0 rfl) (lv_at hl 4 rfl) hS 1 (by omega) (v := (1 : Int32)) rfl (by decide) dL_law_613 dL_law_614 dL_law_616 dL_law_617 dL_law_618 ?_
  refine lq_arg C (lv_at hl 0 rfl) (lv_at hl 4 rfl) hS 2 (by omega) (v := (2 : Int32)) rfl (by decide) dL_law_619 dL_law_620 dL_law_622 dL_law_623 dL_law_624 ?_
  refine lq_callM C f2 (cwV 2 hts gL_law_X12_bestSea rfl rfl rfl (by decide +kernel) ⟨Nat.le_of_ble_eq_true rfl, Nat.le_of_ble_eq_true rfl⟩) hP hD hS (rest := [Value.int v]) (st' := [Value.int v, Value.int v]) rfl rfl hl.1 rfl (Nat.le_of_ble_eq_true rfl) ⟨by omega, by omega⟩ dL_law_625 (fun H locs hP hD hS => ?_)
  refine W.widen (k := cells + 1) (n := slots + 6) (by omega) (by omega) ?_
  refine lv_icmp_eq (tgt := 1504) hx hb dL_law_628 (by decide) (fun _ => kk I2 J2 K2 it2 h1 h2 S2 x2 fo H locs ls hr2 hl hP hD hS) (fun c1 => absurd rfl c1)
set_option maxRecDepth 100000 in
set_option maxHeartbeats 4000000 in
theorem law_leastBirds (C : lq_C p l s m meth c b L xs D cI cT cS cJ) (hi : i + 6 ≤ L) (hf : cells + 1 ≤ 601024 ∧ slots + 6 ≤ 7293034) (kk : lq_G p l e s m below meth c b D cI cT cS cJ a kI kJ kK sa ea bb qo i (cells + 1) (slots + 6) 1504) : lq_G p l e s m below meth c b D cI cT cS cJ a kI kJ kK sa ea bb qo i cells slots 633 := by
  intro I J K it g1 g2 S x fo H locs ls hr hl hP hD hS
  obtain ⟨⟨hx, hb, hrt, hml, hown, hts0, hX, hbl, hlocks, hgv⟩, hts, hK, hN, hB, hZ, hL, htr⟩ := id C
  obtain ⟨v, I2, J2, K2, it2, h1, h2, S2, x2, hr2, f1, f2⟩ := lo_leastBirds (l := l) (D := D) (cI := cI) (cT := cT) (cS := cS) (a := a) (kI := kI) (kJ := kJ) (kK := kK) (sa := sa) (ea := ea) (b := bb) (K := K) (g1 := g1) (g2 := g2) hr 
  refine lv_aload_n hx hb dL_law_633 rfl (lv_at hl 1 rfl) ?_
  refine lq_callX C f1 (cwV 0 hts gL_law_X11_leastBirds rfl rfl rfl (by decide +kernel) ⟨Nat.le_of_ble_eq_true rfl, Nat.le_of_ble_eq_true rfl⟩) hP hD hS (rest := []) (st' := [Value.int v]) rfl rfl hl.1 rfl (Nat.le_of_ble_eq_true rfl) ⟨by omega, by omega⟩ dL_law_634 (fun H locs hP hD hS => ?_)
  refine lv_aload_n hx hb dL_law_637 rfl (lv_at hl 2 rfl) ?_
  refine lq_callM C f2 (cwV 0 hts gL_law_X12_leastBirds rfl rfl rfl (by decide +kernel) ⟨Nat.le_of_ble_eq_true rfl, Nat.le_of_ble_eq_true rfl⟩) hP hD hS (rest := [Value.int v]) (st' := [Value.int v, Value.int v]) rfl rfl hl.1 rfl (Nat.le_of_ble_eq_true rfl) ⟨by omega, by omega⟩ dL_law_638 (fun H locs hP hD hS => ?_)
  refine W.widen (k := cells + 1) (n := slots + 6) (by omega) (by omega) ?_
  refine lv_icmp_eq (tgt := 1504) hx hb dL_law_641 (by decide) (fun _ => kk I2 J2 K2 it2 h1 h2 S2 x2 fo H locs ls hr2 hl hP hD hS) (fun c1 => absurd rfl c1)
set_option maxRecDepth 100000 in
set_option maxHeartbeats 4000000 in
theorem law_leastStore (C : lq_C p l s m meth c b L xs D cI cT cS cJ) (hi : i + 6 ≤ L) (hf : cells + 1 ≤ 601024 ∧ slots + 6 ≤ 7293034) (kk : lq_G p l e s m below meth c b D cI cT cS cJ a kI kJ kK sa ea bb qo i (cells + 1) (slots + 6) 1504) : lq_G p l e s m below meth c b D cI cT cS cJ a kI kJ kK sa ea bb qo i cells slots 646 := by
  intro I J K it g1 g2 S x fo H locs ls hr hl hP hD hS
  obtain ⟨⟨hx, hb, hrt, hml, hown, hts0, hX, hbl, hlocks, hgv⟩, hts, hK, hN, hB, hZ, hL, htr⟩ := id C
  obtain ⟨v, I2, J2, K2, it2, h1, h2, S2, x2, hr2, f1, f2⟩ := lo_leastStore (l := l) (D := D) (cI := cI) (cT := cT) (cS := cS) (a := a) (kI := kI) (kJ := kJ) (kK := kK) (sa := sa) (ea := ea) (b := bb) (K := K) (g1 := g1) (g2 := g2) hr (xs (i + 1))
  refine lv_aload_n hx hb dL_law_646 rfl (lv_at hl 1 rfl) ?_
  refine lq_arg C (lv_at hl 0 rfl) (lv_at hl 4 rfl) hS 1 (by omega) (v := (1 : Int32)) rfl (by decide) dL_law_647 dL_law_648 dL_law_650 dL_law_651 dL_law_652 ?_
  refine lq_callX C f1 (cwV 1 hts gL_law_X11_leastStore rfl rfl rfl (by decide +kernel) ⟨Nat.le_of_ble_eq_true rfl, Nat.le_of_ble_eq_true rfl⟩) hP hD hS (rest := []) (st' := [Value.int v]) rfl rfl hl.1 rfl (Nat.le_of_ble_eq_true rfl) ⟨by omega, by omega⟩ dL_law_653 (fun H locs hP hD hS => ?_)
  refine lv_aload_n hx hb dL_law_656 rfl (lv_at hl 2 rfl) ?_
  refine lq_arg C (lv_at hl 0 rfl) (lv_at hl 4 rfl) hS 1 (by omega) (v := (1 : Int32)) rfl (by decide) dL_law_657 dL_law_658 dL_law_660 dL_law_661 dL_law_662 ?_
  refine lq_callM C f2 (cwV 1 hts gL_law_X12_leastStore rfl rfl rfl (by decide +kernel) ⟨Nat.le_of_ble_eq_true rfl, Nat.le_of_ble_eq_true rfl⟩) hP hD hS (rest := [Value.int v]) (st' := [Value.int v, Value.int v]) rfl rfl hl.1 rfl (Nat.le_of_ble_eq_true rfl) ⟨by omega, by omega⟩ dL_law_663 (fun H locs hP hD hS => ?_)
  refine W.widen (k := cells + 1) (n := slots + 6) (by omega) (by omega) ?_
  refine lv_icmp_eq (tgt := 1504) hx hb dL_law_666 (by decide) (fun _ => kk I2 J2 K2 it2 h1 h2 S2 x2 fo H locs ls hr2 hl hP hD hS) (fun c1 => absurd rfl c1)
set_option maxRecDepth 100000 in
set_option maxHeartbeats 4000000 in
theorem law_lend (C : lq_C p l s m meth c b L xs D cI cT cS cJ) (hi : i + 6 ≤ L) (hf : cells + 1 ≤ 601024 ∧ slots + 6 ≤ 7293034) (kk : lq_G p l e s m below meth c b D cI cT cS cJ a kI kJ kK sa ea bb qo i (cells + 1) (slots + 6) 1504) : lq_G p l e s m below meth c b D cI cT cS cJ a kI kJ kK sa ea bb qo i cells slots 671 := by
  intro I J K it g1 g2 S x fo H locs ls hr hl hP hD hS
  obtain ⟨⟨hx, hb, hrt, hml, hown, hts0, hX, hbl, hlocks, hgv⟩, hts, hK, hN, hB, hZ, hL, htr⟩ := id C
  obtain ⟨v, I2, J2, K2, it2, h1, h2, S2, x2, hr2, f1, f2⟩ := lo_lend (l := l) (D := D) (cI := cI) (cT := cT) (cS := cS) (a := a) (kI := kI) (kJ := kJ) (kK := kK) (sa := sa) (ea := ea) (b := bb) (K := K) (g1 := g1) (g2 := g2) hr (xs (i + 1)) (xs (i + 2))
  refine lv_aload_n hx hb dL_law_671 rfl (lv_at hl 1 rfl) ?_
  refine lq_arg C (lv_at hl 0 rfl) (lv_at hl 4 rfl) hS 1 (by omega) (v := (1 : Int32)) rfl (by decide) dL_law_672 dL_law_673 dL_law_675 dL_law_676 dL_law_677 ?_
  refine lq_arg C (lv_at hl 0 rfl) (lv_at hl 4 rfl) hS 2 (by omega) (v := (2 : Int32)) rfl (by decide) dL_law_678 dL_law_679 dL_law_681 dL_law_682 dL_law_683 ?_
  refine lq_callX C f1 (cwV 2 hts gL_law_X11_lend rfl rfl rfl (by decide +kernel) ⟨Nat.le_of_ble_eq_true rfl, Nat.le_of_ble_eq_true rfl⟩) hP hD hS (rest := []) (st' := [Value.int v]) rfl rfl hl.1 rfl (Nat.le_of_ble_eq_true rfl) ⟨by omega, by omega⟩ dL_law_684 (fun H locs hP hD hS => ?_)
  refine lv_aload_n hx hb dL_law_687 rfl (lv_at hl 2 rfl) ?_
  refine lq_arg C (lv_at hl 0 rfl) (lv_at hl 4 rfl) hS 1 (by omega) (v := (1 : Int32)) rfl (by decide) dL_law_688 dL_law_689 dL_law_691 dL_law_692 dL_law_693 ?_
  refine lq_arg C (lv_at hl 0 rfl) (lv_at hl 4 rfl) hS 2 (by omega) (v := (2 : Int32)) rfl (by decide) dL_law_694 dL_law_695 dL_law_697 dL_law_698 dL_law_699 ?_
  refine lq_callM C f2 (cwV 2 hts gL_law_X12_lend rfl rfl rfl (by decide +kernel) ⟨Nat.le_of_ble_eq_true rfl, Nat.le_of_ble_eq_true rfl⟩) hP hD hS (rest := [Value.int v]) (st' := [Value.int v, Value.int v]) rfl rfl hl.1 rfl (Nat.le_of_ble_eq_true rfl) ⟨by omega, by omega⟩ dL_law_700 (fun H locs hP hD hS => ?_)
  refine W.widen (k := cells + 1) (n := slots + 6) (by omega) (by omega) ?_
  refine lv_icmp_eq (tgt := 1504) hx hb dL_law_703 (by decide) (fun _ => kk I2 J2 K2 it2 h1 h2 S2 x2 fo H locs ls hr2 hl hP hD hS) (fun c1 => absurd rfl c1)
set_option maxRecDepth 100000 in
set_option maxHeartbeats 4000000 in
theorem law_send (C : lq_C p l s m meth c b L xs D cI cT cS cJ) (hi : i + 6 ≤ L) (hf : cells + 1 ≤ 601024 ∧ slots + 6 ≤ 7293034) (kk : lq_G p l e s m below meth c b D cI cT cS cJ a kI kJ kK sa ea bb qo i (cells + 1) (slots + 6) 1504) : lq_G p l e s m below meth c b D cI cT cS cJ a kI kJ kK sa ea bb qo i cells slots 708 := by
  intro I J K it g1 g2 S x fo H locs ls hr hl hP hD hS
  obtain ⟨⟨hx, hb, hrt, hml, hown, hts0, hX, hbl, hlocks, hgv⟩, hts, hK, hN, hB, hZ, hL, htr⟩ := id C
  obtain ⟨v, I2, J2, K2, it2, h1, h2, S2, x2, hr2, f1, f2⟩ := lo_send (l := l) (D := D) (cI := cI) (cT := cT) (cS := cS) (a := a) (kI := kI) (kJ := kJ) (kK := kK) (sa := sa) (ea := ea) (b := bb) (K := K) (g1 := g1) (g2 := g2) hr (xs (i + 1)) (xs (i + 2))
  refine lv_aload_n hx hb dL_law_708 rfl (lv_at hl 1 rfl) ?_
  refine lq_arg C (lv_at hl 0 rfl) (lv_at hl 4 rfl) hS 1 (by omega) (v := (1 : Int32)) rfl (by decide) dL_law_709 dL_law_710 dL_law_712 dL_law_713 dL_law_714 ?_
  refine lq_arg C (lv_at hl 0 rfl) (lv_at hl 4 rfl) hS 2 (by omega) (v := (2 : Int32)) rfl (by decide) dL_law_715 dL_law_716 dL_law_718 dL_law_719 dL_law_720 ?_
  refine lq_callX C f1 (cwV 2 hts gL_law_X11_send rfl rfl rfl (by decide +kernel) ⟨Nat.le_of_ble_eq_true rfl, Nat.le_of_ble_eq_true rfl⟩) hP hD hS (rest := []) (st' := [Value.int v]) rfl rfl hl.1 rfl (Nat.le_of_ble_eq_true rfl) ⟨by omega, by omega⟩ dL_law_721 (fun H locs hP hD hS => ?_)
  refine lv_aload_n hx hb dL_law_724 rfl (lv_at hl 2 rfl) ?_
  refine lq_arg C (lv_at hl 0 rfl) (lv_at hl 4 rfl) hS 1 (by omega) (v := (1 : Int32)) rfl (by decide) dL_law_725 dL_law_726 dL_law_728 dL_law_729 dL_law_730 ?_
  refine lq_arg C (lv_at hl 0 rfl) (lv_at hl 4 rfl) hS 2 (by omega) (v := (2 : Int32)) rfl (by decide) dL_law_731 dL_law_732 dL_law_734 dL_law_735 dL_law_736 ?_
  refine lq_callM C f2 (cwV 2 hts gL_law_X12_send rfl rfl rfl (by decide +kernel) ⟨Nat.le_of_ble_eq_true rfl, Nat.le_of_ble_eq_true rfl⟩) hP hD hS (rest := [Value.int v]) (st' := [Value.int v, Value.int v]) rfl rfl hl.1 rfl (Nat.le_of_ble_eq_true rfl) ⟨by omega, by omega⟩ dL_law_737 (fun H locs hP hD hS => ?_)
  refine W.widen (k := cells + 1) (n := slots + 6) (by omega) (by omega) ?_
  refine lv_icmp_eq (tgt := 1504) hx hb dL_law_740 (by decide) (fun _ => kk I2 J2 K2 it2 h1 h2 S2 x2 fo H locs ls hr2 hl hP hD hS) (fun c1 => absurd rfl c1)
set_option maxRecDepth 100000 in
set_option maxHeartbeats 4000000 in
theorem law_richest (C : lq_C p l s m meth c b L xs D cI cT cS cJ) (hi : i + 6 ≤ L) (hf : cells + 1 ≤ 601024 ∧ slots + 6 ≤ 7293034) (kk : lq_G p l e s m below meth c b D cI cT cS cJ a kI kJ kK sa ea bb qo i (cells + 1) (slots + 6) 1504) : lq_G p l e s m below meth c b D cI cT cS cJ a kI kJ kK sa ea bb qo i cells slots 745 := by
  intro I J K it g1 g2 S x fo H locs ls hr hl hP hD hS
  obtain ⟨⟨hx, hb, hrt, hml, hown, hts0, hX, hbl, hlocks, hgv⟩, hts, hK, hN, hB, hZ, hL, htr⟩ := id C
  obtain ⟨v, I2, J2, K2, it2, h1, h2, S2, x2, hr2, f1, f2⟩ := lo_richest (l := l) (D := D) (cI := cI) (cT := cT) (cS := cS) (a := a) (kI := kI) (kJ := kJ) (kK := kK) (sa := sa) (ea := ea) (b := bb) (K := K) (g1 := g1) (g2 := g2) hr (xs (i + 1))
  refine lv_aload_n hx hb dL_law_745 rfl (lv_at hl 1 rfl) ?_
  refine lq_arg C (lv_at hl 0 rfl) (lv_at hl 4 rfl) hS 1 (by omega) (v := (1 : Int32)) rfl (by decide) dL_law_746 dL_law_747 dL_law_749 dL_law_750 dL_law_751 ?_
  refine lq_callX C f1 (cwV 1 hts gL_law_X11_richest rfl rfl rfl (by decide +kernel) ⟨Nat.le_of_ble_eq_true rfl, Nat.le_of_ble_eq_true rfl⟩) hP hD hS (rest := []) (st' := [Value.int v]) rfl rfl hl.1 rfl (Nat.le_of_ble_eq_true rfl) ⟨by omega, by omega⟩ dL_law_752 (fun H locs hP hD hS => ?_)
  refine lv_aload_n hx hb dL_law_755 rfl (lv_at hl 2 rfl) ?_
  refine lq_arg C (lv_at hl 0 rfl) (lv_at hl 4 rfl) hS 1 (by omega) (v := (1 : Int32)) rfl (by decide) dL_law_756 dL_law_757 dL_law_759 dL_law_760 dL_law_761 ?_
  refine lq_callM C f2 (cwV 1 hts gL_law_X12_richest rfl rfl rfl (by decide +kernel) ⟨Nat.le_of_ble_eq_true rfl, Nat.le_of_ble_eq_true rfl⟩) hP hD hS (rest := [Value.int v]) (st' := [Value.int v, Value.int v]) rfl rfl hl.1 rfl (Nat.le_of_ble_eq_true rfl) ⟨by omega, by omega⟩ dL_law_762 (fun H locs hP hD hS => ?_)
  refine W.widen (k := cells + 1) (n := slots + 6) (by omega) (by omega) ?_
  refine lv_icmp_eq (tgt := 1504) hx hb dL_law_765 (by decide) (fun _ => kk I2 J2 K2 it2 h1 h2 S2 x2 fo H locs ls hr2 hl hP hD hS) (fun c1 => absurd rfl c1)
set_option maxRecDepth 100000 in
set_option maxHeartbeats 4000000 in
theorem law_whatIs (C : lq_C p l s m meth c b L xs D cI cT cS cJ) (hi : i + 6 ≤ L) (hf : cells + 1 ≤ 601024 ∧ slots + 6 ≤ 7293034) (kk : lq_G p l e s m below meth c b D cI cT cS cJ a kI kJ kK sa ea bb qo i (cells + 1) (slots + 6) 1504) : lq_G p l e s m below meth c b D cI cT cS cJ a kI kJ kK sa ea bb qo i cells slots 770 := by
  intro I J K it g1 g2 S x fo H locs ls hr hl hP hD hS
  obtain ⟨⟨hx, hb, hrt, hml, hown, hts0, hX, hbl, hlocks, hgv⟩, hts, hK, hN, hB, hZ, hL, htr⟩ := id C
  obtain ⟨v, I2, J2, K2, it2, h1, h2, S2, x2, hr2, f1, f2⟩ := lo_whatIs (l := l) (D := D) (cI := cI) (cT := cT) (cS := cS) (a := a) (kI := kI) (kJ := kJ) (kK := kK) (sa := sa) (ea := ea) (b := bb) (K := K) (g1 := g1) (g2 := g2) hr (xs (i + 1)) (xs (i + 2)) (xs (i + 3))
  refine lv_aload_n hx hb dL_law_770 rfl (lv_at hl 1 rfl) ?_
  refine lq_arg C (lv_at hl 0 rfl) (lv_at hl 4 rfl) hS 1 (by omega) (v := (1 : Int32)) rfl (by decide) dL_law_771 dL_law_772 dL_law_774 dL_law_775 dL_law_776 ?_
  refine lq_arg C (lv_at hl 0 rfl) (lv_at hl 4 rfl) hS 2 (by omega) (v := (2 : Int32)) rfl (by decide) dL_law_777 dL_law_778 dL_law_780 dL_law_781 dL_law_782 ?_
  refine lq_arg C (lv_at hl 0 rfl) (lv_at hl 4 rfl) hS 3 (by omega) (v := (3 : Int32)) rfl (by decide) dL_law_783 dL_law_784 dL_law_786 dL_law_787 dL_law_788 ?_
  refine lq_callX C f1 (cwV 3 hts gL_law_X11_whatIs rfl rfl rfl (by decide +kernel) ⟨Nat.le_of_ble_eq_true rfl, Nat.le_of_ble_eq_true rfl⟩) hP hD hS (rest := []) (st' := [Value.int v]) rfl rfl hl.1 rfl (Nat.le_of_ble_eq_true rfl) ⟨by omega, by omega⟩ dL_law_789 (fun H locs hP hD hS => ?_)
  refine lv_aload_n hx hb dL_law_792 rfl (lv_at hl 2 rfl) ?_
  refine lq_arg C (lv_at hl 0 rfl) (lv_at hl 4 rfl) hS 1 (by omega) (v := (1 : Int32)) rfl (by decide) dL_law_793 dL_law_794 dL_law_796 dL_law_797 dL_law_798 ?_
  refine lq_arg C (lv_at hl 0 rfl) (lv_at hl 4 rfl) hS 2 (by omega) (v := (2 : Int32)) rfl (by decide) dL_law_799 dL_law_800 dL_law_802 dL_law_803 dL_law_804 ?_
  refine lq_arg C (lv_at hl 0 rfl) (lv_at hl 4 rfl) hS 3 (by omega) (v := (3 : Int32)) rfl (by decide) dL_law_805 dL_law_806 dL_law_808 dL_law_809 dL_law_810 ?_
  refine lq_callM C f2 (cwV 3 hts gL_law_X12_whatIs rfl rfl rfl (by decide +kernel) ⟨Nat.le_of_ble_eq_true rfl, Nat.le_of_ble_eq_true rfl⟩) hP hD hS (rest := [Value.int v]) (st' := [Value.int v, Value.int v]) rfl rfl hl.1 rfl (Nat.le_of_ble_eq_true rfl) ⟨by omega, by omega⟩ dL_law_811 (fun H locs hP hD hS => ?_)
  refine W.widen (k := cells + 1) (n := slots + 6) (by omega) (by omega) ?_
  refine lv_icmp_eq (tgt := 1504) hx hb dL_law_814 (by decide) (fun _ => kk I2 J2 K2 it2 h1 h2 S2 x2 fo H locs ls hr2 hl hP hD hS) (fun c1 => absurd rfl c1)
set_option maxRecDepth 100000 in
set_option maxHeartbeats 4000000 in
theorem law_whichSea (C : lq_C p l s m meth c b L xs D cI cT cS cJ) (hi : i + 6 ≤ L) (hf : cells + 1 ≤ 601024 ∧ slots + 6 ≤ 7293034) (kk : lq_G p l e s m below meth c b D cI cT cS cJ a kI kJ kK sa ea bb qo i (cells + 1) (slots + 6) 1504) : lq_G p l e s m below meth c b D cI cT cS cJ a kI kJ kK sa ea bb qo i cells slots 819 := by
  intro I J K it g1 g2 S x fo H locs ls hr hl hP hD hS
  obtain ⟨⟨hx, hb, hrt, hml, hown, hts0, hX, hbl, hlocks, hgv⟩, hts, hK, hN, hB, hZ, hL, htr⟩ := id C
  obtain ⟨v, I2, J2, K2, it2, h1, h2, S2, x2, hr2, f1, f2⟩ := lo_whichSea (l := l) (D := D) (cI := cI) (cT := cT) (cS := cS) (a := a) (kI := kI) (kJ := kJ) (kK := kK) (sa := sa) (ea := ea) (b := bb) (K := K) (g1 := g1) (g2 := g2) hr (xs (i + 1))
  refine lv_aload_n hx hb dL_law_819 rfl (lv_at hl 1 rfl) ?_
  refine lq_arg C (lv_at hl 0 rfl) (lv_at hl 4 rfl) hS 1 (by omega) (v := (1 : Int32)) rfl (by decide) dL_law_820 dL_law_821 dL_law_823 dL_law_824 dL_law_825 ?_
  refine lq_callX C f1 (cwV 1 hts gL_law_X11_whichSea rfl rfl rfl (by decide +kernel) ⟨Nat.le_of_ble_eq_true rfl, Nat.le_of_ble_eq_true rfl⟩) hP hD hS (rest := []) (st' := [Value.int v]) rfl rfl hl.1 rfl (Nat.le_of_ble_eq_true rfl) ⟨by omega, by omega⟩ dL_law_826 (fun H locs hP hD hS => ?_)
  refine lv_aload_n hx hb dL_law_829 rfl (lv_at hl 2 rfl) ?_
  refine lq_arg C (lv_at hl 0 rfl) (lv_at hl 4 rfl) hS 1 (by omega) (v := (1 : Int32)) rfl (by decide) dL_law_830 dL_law_831 dL_law_833 dL_law_834 dL_law_835 ?_
  refine lq_callM C f2 (cwV 1 hts gL_law_X12_whichSea rfl rfl rfl (by decide +kernel) ⟨Nat.le_of_ble_eq_true rfl, Nat.le_of_ble_eq_true rfl⟩) hP hD hS (rest := [Value.int v]) (st' := [Value.int v, Value.int v]) rfl rfl hl.1 rfl (Nat.le_of_ble_eq_true rfl) ⟨by omega, by omega⟩ dL_law_836 (fun H locs hP hD hS => ?_)
  refine W.widen (k := cells + 1) (n := slots + 6) (by omega) (by omega) ?_
  refine lv_icmp_eq (tgt := 1504) hx hb dL_law_839 (by decide) (fun _ => kk I2 J2 K2 it2 h1 h2 S2 x2 fo H locs ls hr2 hl hP hD hS) (fun c1 => absurd rfl c1)
set_option maxRecDepth 100000 in
set_option maxHeartbeats 4000000 in
theorem law_two (C : lq_C p l s m meth c b L xs D cI cT cS cJ) (hi : i + 6 ≤ L) (hf : cells + 1 ≤ 601024 ∧ slots + 6 ≤ 7293034) (kk : lq_G p l e s m below meth c b D cI cT cS cJ a kI kJ kK sa ea bb qo i (cells + 1) (slots + 6) 1504) : lq_G p l e s m below meth c b D cI cT cS cJ a kI kJ kK sa ea bb qo i cells slots 844 := by
  intro I J K it g1 g2 S x fo H locs ls hr hl hP hD hS
  obtain ⟨⟨hx, hb, hrt, hml, hown, hts0, hX, hbl, hlocks, hgv⟩, hts, hK, hN, hB, hZ, hL, htr⟩ := id C
  obtain ⟨v, I2, J2, K2, it2, h1, h2, S2, x2, hr2, f1, f2⟩ := lo_two (l := l) (D := D) (cI := cI) (cT := cT) (cS := cS) (a := a) (kI := kI) (kJ := kJ) (kK := kK) (sa := sa) (ea := ea) (b := bb) (K := K) (g1 := g1) (g2 := g2) hr (xs (i + 1)) (xs (i + 2)) (xs (i + 3))
  refine lv_aload_n hx hb dL_law_844 rfl (lv_at hl 1 rfl) ?_
  refine lq_arg C (lv_at hl 0 rfl) (lv_at hl 4 rfl) hS 1 (by omega) (v := (1 : Int32)) rfl (by decide) dL_law_845 dL_law_846 dL_law_848 dL_law_849 dL_law_850 ?_
  refine lq_arg C (lv_at hl 0 rfl) (lv_at hl 4 rfl) hS 2 (by omega) (v := (2 : Int32)) rfl (by decide) dL_law_851 dL_law_852 dL_law_854 dL_law_855 dL_law_856 ?_
  refine lq_arg C (lv_at hl 0 rfl) (lv_at hl 4 rfl) hS 3 (by omega) (v := (3 : Int32)) rfl (by decide) dL_law_857 dL_law_858 dL_law_860 dL_law_861 dL_law_862 ?_
  refine lq_callX C f1 (cwV 3 hts gL_law_X11_two rfl rfl rfl (by decide +kernel) ⟨Nat.le_of_ble_eq_true rfl, Nat.le_of_ble_eq_true rfl⟩) hP hD hS (rest := []) (st' := [Value.int v]) rfl rfl hl.1 rfl (Nat.le_of_ble_eq_true rfl) ⟨by omega, by omega⟩ dL_law_863 (fun H locs hP hD hS => ?_)
  refine lv_aload_n hx hb dL_law_866 rfl (lv_at hl 2 rfl) ?_
  refine lq_arg C (lv_at hl 0 rfl) (lv_at hl 4 rfl) hS 1 (by omega) (v := (1 : Int32)) rfl (by decide) dL_law_867 dL_law_868 dL_law_870 dL_law_871 dL_law_872 ?_
  refine lq_arg C (lv_at hl 0 rfl) (lv_at hl 4 rfl) hS 2 (by omega) (v := (2 : Int32)) rfl (by decide) dL_law_873 dL_law_874 dL_law_876 dL_law_877 dL_law_878 ?_
  refine lq_arg C (lv_at hl 0 rfl) (lv_at hl 4 rfl) hS 3 (by omega) (v := (3 : Int32)) rfl (by decide) dL_law_879 dL_law_880 dL_law_882 dL_law_883 dL_law_884 ?_
  refine lq_callM C f2 (cwV 3 hts gL_law_X12_two rfl rfl rfl (by decide +kernel) ⟨Nat.le_of_ble_eq_true rfl, Nat.le_of_ble_eq_true rfl⟩) hP hD hS (rest := [Value.int v]) (st' := [Value.int v, Value.int v]) rfl rfl hl.1 rfl (Nat.le_of_ble_eq_true rfl) ⟨by omega, by omega⟩ dL_law_885 (fun H locs hP hD hS => ?_)
  refine W.widen (k := cells + 1) (n := slots + 6) (by omega) (by omega) ?_
  refine lv_icmp_eq (tgt := 1504) hx hb dL_law_888 (by decide) (fun _ => kk I2 J2 K2 it2 h1 h2 S2 x2 fo H locs ls hr2 hl hP hD hS) (fun c1 => absurd rfl c1)
set_option maxRecDepth 100000 in
set_option maxHeartbeats 4000000 in
theorem law_storms (C : lq_C p l s m meth c b L xs D cI cT cS cJ) (hi : i + 6 ≤ L) (hf : cells + 1 ≤ 601024 ∧ slots + 6 ≤ 7293034) (kk : lq_G p l e s m below meth c b D cI cT cS cJ a kI kJ kK sa ea bb qo i (cells + 1) (slots + 6) 1504) : lq_G p l e s m below meth c b D cI cT cS cJ a kI kJ kK sa ea bb qo i cells slots 893 := by
  intro I J K it g1 g2 S x fo H locs ls hr hl hP hD hS
  obtain ⟨⟨hx, hb, hrt, hml, hown, hts0, hX, hbl, hlocks, hgv⟩, hts, hK, hN, hB, hZ, hL, htr⟩ := id C
  obtain ⟨v, I2, J2, K2, it2, h1, h2, S2, x2, hr2, f1, f2⟩ := lo_storms (l := l) (D := D) (cI := cI) (cT := cT) (cS := cS) (a := a) (kI := kI) (kJ := kJ) (kK := kK) (sa := sa) (ea := ea) (b := bb) (K := K) (g1 := g1) (g2 := g2) hr (xs (i + 1)) (xs (i + 2)) (xs (i + 3)) (xs (i + 4)) (xs (i + 5))
  refine lv_aload_n hx hb dL_law_893 rfl (lv_at hl 1 rfl) ?_
  refine lq_arg C (lv_at hl 0 rfl) (lv_at hl 4 rfl) hS 1 (by omega) (v := (1 : Int32)) rfl (by decide) dL_law_894 dL_law_895 dL_law_897 dL_law_898 dL_law_899 ?_
  refine lq_arg C (lv_at hl 0 rfl) (lv_at hl 4 rfl) hS 2 (by omega) (v := (2 : Int32)) rfl (by decide) dL_law_900 dL_law_901 dL_law_903 dL_law_904 dL_law_905 ?_
  refine lq_arg C (lv_at hl 0 rfl) (lv_at hl 4 rfl) hS 3 (by omega) (v := (3 : Int32)) rfl (by decide) dL_law_906 dL_law_907 dL_law_909 dL_law_910 dL_law_911 ?_
  refine lq_arg C (lv_at hl 0 rfl) (lv_at hl 4 rfl) hS 4 (by omega) (v := (4 : Int32)) rfl (by decide) dL_law_912 dL_law_913 dL_law_915 dL_law_916 dL_law_917 ?_
  refine lq_arg C (lv_at hl 0 rfl) (lv_at hl 4 rfl) hS 5 (by omega) (v := (5 : Int32)) rfl (by decide) dL_law_918 dL_law_919 dL_law_921 dL_law_922 dL_law_923 ?_
  refine lq_callX C f1 (cwV 5 hts gL_law_X11_storms rfl rfl rfl (by decide +kernel) ⟨Nat.le_of_ble_eq_true rfl, Nat.le_of_ble_eq_true rfl⟩) hP hD hS (rest := []) (st' := [Value.long v]) rfl rfl hl.1 rfl (Nat.le_of_ble_eq_true rfl) ⟨by omega, by omega⟩ dL_law_924 (fun H locs hP hD hS => ?_)
  refine lv_aload_n hx hb dL_law_927 rfl (lv_at hl 2 rfl) ?_
  refine lq_arg C (lv_at hl 0 rfl) (lv_at hl 4 rfl) hS 1 (by omega) (v := (1 : Int32)) rfl (by decide) dL_law_928 dL_law_929 dL_law_931 dL_law_932 dL_law_933 ?_
  refine lq_arg C (lv_at hl 0 rfl) (lv_at hl 4 rfl) hS 2 (by omega) (v := (2 : Int32)) rfl (by decide) dL_law_934 dL_law_935 dL_law_937 dL_law_938 dL_law_939 ?_
  refine lq_arg C (lv_at hl 0 rfl) (lv_at hl 4 rfl) hS 3 (by omega) (v := (3 : Int32)) rfl (by decide) dL_law_940 dL_law_941 dL_law_943 dL_law_944 dL_law_945 ?_
  refine lq_arg C (lv_at hl 0 rfl) (lv_at hl 4 rfl) hS 4 (by omega) (v := (4 : Int32)) rfl (by decide) dL_law_946 dL_law_947 dL_law_949 dL_law_950 dL_law_951 ?_
  refine lq_arg C (lv_at hl 0 rfl) (lv_at hl 4 rfl) hS 5 (by omega) (v := (5 : Int32)) rfl (by decide) dL_law_952 dL_law_953 dL_law_955 dL_law_956 dL_law_957 ?_
  refine lq_callM C f2 (cwV 5 hts gL_law_X12_storms rfl rfl rfl (by decide +kernel) ⟨Nat.le_of_ble_eq_true rfl, Nat.le_of_ble_eq_true rfl⟩) hP hD hS (rest := [Value.long v]) (st' := [Value.long v, Value.long v]) rfl rfl hl.1 rfl (Nat.le_of_ble_eq_true rfl) ⟨by omega, by omega⟩ dL_law_958 (fun H locs hP hD hS => ?_)
  refine W.widen (k := cells + 1) (n := slots + 6) (by omega) (by omega) ?_
  refine W.lcmp hx hb dL_law_961 ?_
  refine lv_if_eq (tgt := 1504) hx hb dL_law_962 (by decide) (fun _ => kk I2 J2 K2 it2 h1 h2 S2 x2 fo H locs ls hr2 hl hP hD hS) (fun c1 => absurd (lq_cmp v) c1)
set_option maxRecDepth 100000 in
set_option maxHeartbeats 4000000 in
theorem law_share (C : lq_C p l s m meth c b L xs D cI cT cS cJ) (hi : i + 6 ≤ L) (hf : cells + 1 ≤ 601024 ∧ slots + 6 ≤ 7293034) (kk : lq_G p l e s m below meth c b D cI cT cS cJ a kI kJ kK sa ea bb qo i (cells + 1) (slots + 6) 1504) : lq_G p l e s m below meth c b D cI cT cS cJ a kI kJ kK sa ea bb qo i cells slots 967 := by
  intro I J K it g1 g2 S x fo H locs ls hr hl hP hD hS
  obtain ⟨⟨hx, hb, hrt, hml, hown, hts0, hX, hbl, hlocks, hgv⟩, hts, hK, hN, hB, hZ, hL, htr⟩ := id C
  obtain ⟨v, I2, J2, K2, it2, h1, h2, S2, x2, hr2, f1, f2⟩ := lo_share (l := l) (D := D) (cI := cI) (cT := cT) (cS := cS) (a := a) (kI := kI) (kJ := kJ) (kK := kK) (sa := sa) (ea := ea) (b := bb) (K := K) (g1 := g1) (g2 := g2) hr (xs (i + 1)) (xs (i + 2))
  refine lv_aload_n hx hb dL_law_967 rfl (lv_at hl 1 rfl) ?_
  refine lq_arg C (lv_at hl 0 rfl) (lv_at hl 4 rfl) hS 1 (by omega) (v := (1 : Int32)) rfl (by decide) dL_law_968 dL_law_969 dL_law_971 dL_law_972 dL_law_973 ?_
  refine lq_arg C (lv_at hl 0 rfl) (lv_at hl 4 rfl) hS 2 (by omega) (v := (2 : Int32)) rfl (by decide) dL_law_974 dL_law_975 dL_law_977 dL_law_978 dL_law_979 ?_
  refine lq_callX C f1 (cwV 2 hts gL_law_X11_share rfl rfl rfl (by decide +kernel) ⟨Nat.le_of_ble_eq_true rfl, Nat.le_of_ble_eq_true rfl⟩) hP hD hS (rest := []) (st' := [Value.long v]) rfl rfl hl.1 rfl (Nat.le_of_ble_eq_true rfl) ⟨by omega, by omega⟩ dL_law_980 (fun H locs hP hD hS => ?_)
  refine lv_aload_n hx hb dL_law_983 rfl (lv_at hl 2 rfl) ?_
  refine lq_arg C (lv_at hl 0 rfl) (lv_at hl 4 rfl) hS 1 (by omega) (v := (1 : Int32)) rfl (by decide) dL_law_984 dL_law_985 dL_law_987 dL_law_988 dL_law_989 ?_
  refine lq_arg C (lv_at hl 0 rfl) (lv_at hl 4 rfl) hS 2 (by omega) (v := (2 : Int32)) rfl (by decide) dL_law_990 dL_law_991 dL_law_993 dL_law_994 dL_law_995 ?_
  refine lq_callM C f2 (cwV 2 hts gL_law_X12_share rfl rfl rfl (by decide +kernel) ⟨Nat.le_of_ble_eq_true rfl, Nat.le_of_ble_eq_true rfl⟩) hP hD hS (rest := [Value.long v]) (st' := [Value.long v, Value.long v]) rfl rfl hl.1 rfl (Nat.le_of_ble_eq_true rfl) ⟨by omega, by omega⟩ dL_law_996 (fun H locs hP hD hS => ?_)
  refine W.widen (k := cells + 1) (n := slots + 6) (by omega) (by omega) ?_
  refine W.lcmp hx hb dL_law_999 ?_
  refine lv_if_eq (tgt := 1504) hx hb dL_law_1000 (by decide) (fun _ => kk I2 J2 K2 it2 h1 h2 S2 x2 fo H locs ls hr2 hl hP hD hS) (fun c1 => absurd (lq_cmp v) c1)
set_option maxRecDepth 100000 in
set_option maxHeartbeats 4000000 in
theorem law_forged (C : lq_C p l s m meth c b L xs D cI cT cS cJ) (hi : i + 6 ≤ L) (hf : cells + 1 ≤ 601024 ∧ slots + 6 ≤ 7293034) (kk : lq_G p l e s m below meth c b D cI cT cS cJ a kI kJ kK sa ea bb qo i (cells + 1) (slots + 6) 1504) : lq_G p l e s m below meth c b D cI cT cS cJ a kI kJ kK sa ea bb qo i cells slots 1005 := by
  intro I J K it g1 g2 S x fo H locs ls hr hl hP hD hS
  obtain ⟨⟨hx, hb, hrt, hml, hown, hts0, hX, hbl, hlocks, hgv⟩, hts, hK, hN, hB, hZ, hL, htr⟩ := id C
  obtain ⟨v, I2, J2, K2, it2, h1, h2, S2, x2, hr2, f1, f2⟩ := lo_forged (l := l) (D := D) (cI := cI) (cT := cT) (cS := cS) (a := a) (kI := kI) (kJ := kJ) (kK := kK) (sa := sa) (ea := ea) (b := bb) (K := K) (g1 := g1) (g2 := g2) hr (xs (i + 1))
  refine lv_aload_n hx hb dL_law_1005 rfl (lv_at hl 1 rfl) ?_
  refine lq_arg C (lv_at hl 0 rfl) (lv_at hl 4 rfl) hS 1 (by omega) (v := (1 : Int32)) rfl (by decide) dL_law_1006 dL_law_1007 dL_law_1009 dL_law_1010 dL_law_1011 ?_
  refine lq_callX C f1 (cwV 1 hts gL_law_X11_forged rfl rfl rfl (by decide +kernel) ⟨Nat.le_of_ble_eq_true rfl, Nat.le_of_ble_eq_true rfl⟩) hP hD hS (rest := []) (st' := [Value.int v]) rfl rfl hl.1 rfl (Nat.le_of_ble_eq_true rfl) ⟨by omega, by omega⟩ dL_law_1012 (fun H locs hP hD hS => ?_)
  refine lv_aload_n hx hb dL_law_1015 rfl (lv_at hl 2 rfl) ?_
  refine lq_arg C (lv_at hl 0 rfl) (lv_at hl 4 rfl) hS 1 (by omega) (v := (1 : Int32)) rfl (by decide) dL_law_1016 dL_law_1017 dL_law_1019 dL_law_1020 dL_law_1021 ?_
  refine lq_callM C f2 (cwV 1 hts gL_law_X12_forged rfl rfl rfl (by decide +kernel) ⟨Nat.le_of_ble_eq_true rfl, Nat.le_of_ble_eq_true rfl⟩) hP hD hS (rest := [Value.int v]) (st' := [Value.int v, Value.int v]) rfl rfl hl.1 rfl (Nat.le_of_ble_eq_true rfl) ⟨by omega, by omega⟩ dL_law_1022 (fun H locs hP hD hS => ?_)
  refine W.widen (k := cells + 1) (n := slots + 6) (by omega) (by omega) ?_
  refine lv_icmp_eq (tgt := 1504) hx hb dL_law_1025 (by decide) (fun _ => kk I2 J2 K2 it2 h1 h2 S2 x2 fo H locs ls hr2 hl hP hD hS) (fun c1 => absurd rfl c1)
set_option maxRecDepth 100000 in
set_option maxHeartbeats 4000000 in
theorem law_judge (C : lq_C p l s m meth c b L xs D cI cT cS cJ) (hi : i + 6 ≤ L) (hf : cells + 1 ≤ 601024 ∧ slots + 6 ≤ 7293034) (kk : lq_G p l e s m below meth c b D cI cT cS cJ a kI kJ kK sa ea bb qo i (cells + 1) (slots + 6) 1504) : lq_G p l e s m below meth c b D cI cT cS cJ a kI kJ kK sa ea bb qo i cells slots 1030 := by
  intro I J K it g1 g2 S x fo H locs ls hr hl hP hD hS
  obtain ⟨⟨hx, hb, hrt, hml, hown, hts0, hX, hbl, hlocks, hgv⟩, hts, hK, hN, hB, hZ, hL, htr⟩ := id C
  obtain ⟨v, I2, J2, K2, it2, h1, h2, S2, x2, hr2, f1, f2⟩ := lo_judge (l := l) (D := D) (cI := cI) (cT := cT) (cS := cS) (a := a) (kI := kI) (kJ := kJ) (kK := kK) (sa := sa) (ea := ea) (b := bb) (K := K) (g1 := g1) (g2 := g2) hr (xs (i + 1))
  refine lv_aload_n hx hb dL_law_1030 rfl (lv_at hl 1 rfl) ?_
  refine lq_arg C (lv_at hl 0 rfl) (lv_at hl 4 rfl) hS 1 (by omega) (v := (1 : Int32)) rfl (by decide) dL_law_1031 dL_law_1032 dL_law_1034 dL_law_1035 dL_law_1036 ?_
  refine lq_callX C f1 (cwV 1 hts gL_law_X11_judge rfl rfl rfl (by decide +kernel) ⟨Nat.le_of_ble_eq_true rfl, Nat.le_of_ble_eq_true rfl⟩) hP hD hS (rest := []) (st' := [Value.int v]) rfl rfl hl.1 rfl (Nat.le_of_ble_eq_true rfl) ⟨by omega, by omega⟩ dL_law_1037 (fun H locs hP hD hS => ?_)
  refine lv_aload_n hx hb dL_law_1040 rfl (lv_at hl 2 rfl) ?_
  refine lq_arg C (lv_at hl 0 rfl) (lv_at hl 4 rfl) hS 1 (by omega) (v := (1 : Int32)) rfl (by decide) dL_law_1041 dL_law_1042 dL_law_1044 dL_law_1045 dL_law_1046 ?_
  refine lq_callM C f2 (cwV 1 hts gL_law_X12_judge rfl rfl rfl (by decide +kernel) ⟨Nat.le_of_ble_eq_true rfl, Nat.le_of_ble_eq_true rfl⟩) hP hD hS (rest := [Value.int v]) (st' := [Value.int v, Value.int v]) rfl rfl hl.1 rfl (Nat.le_of_ble_eq_true rfl) ⟨by omega, by omega⟩ dL_law_1047 (fun H locs hP hD hS => ?_)
  refine W.widen (k := cells + 1) (n := slots + 6) (by omega) (by omega) ?_
  refine lv_icmp_eq (tgt := 1504) hx hb dL_law_1050 (by decide) (fun _ => kk I2 J2 K2 it2 h1 h2 S2 x2 fo H locs ls hr2 hl hP hD hS) (fun c1 => absurd rfl c1)
set_option maxRecDepth 100000 in
set_option maxHeartbeats 4000000 in
theorem law_years (C : lq_C p l s m meth c b L xs D cI cT cS cJ) (hi : i + 6 ≤ L) (hf : cells + 1 ≤ 601024 ∧ slots + 6 ≤ 7293034) (kk : lq_G p l e s m below meth c b D cI cT cS cJ a kI kJ kK sa ea bb qo i (cells + 1) (slots + 6) 1504) : lq_G p l e s m below meth c b D cI cT cS cJ a kI kJ kK sa ea bb qo i cells slots 1055 := by
  intro I J K it g1 g2 S x fo H locs ls hr hl hP hD hS
  obtain ⟨⟨hx, hb, hrt, hml, hown, hts0, hX, hbl, hlocks, hgv⟩, hts, hK, hN, hB, hZ, hL, htr⟩ := id C
  obtain ⟨v, I2, J2, K2, it2, h1, h2, S2, x2, hr2, f1, f2⟩ := lo_years (l := l) (D := D) (cI := cI) (cT := cT) (cS := cS) (a := a) (kI := kI) (kJ := kJ) (kK := kK) (sa := sa) (ea := ea) (b := bb) (K := K) (g1 := g1) (g2 := g2) hr (xs (i + 1)) (xs (i + 2)) (xs (i + 3))
  refine lv_aload_n hx hb dL_law_1055 rfl (lv_at hl 1 rfl) ?_
  refine lq_arg C (lv_at hl 0 rfl) (lv_at hl 4 rfl) hS 1 (by omega) (v := (1 : Int32)) rfl (by decide) dL_law_1056 dL_law_1057 dL_law_1059 dL_law_1060 dL_law_1061 ?_
  refine lq_arg C (lv_at hl 0 rfl) (lv_at hl 4 rfl) hS 2 (by omega) (v := (2 : Int32)) rfl (by decide) dL_law_1062 dL_law_1063 dL_law_1065 dL_law_1066 dL_law_1067 ?_
  refine lq_arg C (lv_at hl 0 rfl) (lv_at hl 4 rfl) hS 3 (by omega) (v := (3 : Int32)) rfl (by decide) dL_law_1068 dL_law_1069 dL_law_1071 dL_law_1072 dL_law_1073 ?_
  refine lq_callX C f1 (cwV 3 hts gL_law_X11_years rfl rfl rfl (by decide +kernel) ⟨Nat.le_of_ble_eq_true rfl, Nat.le_of_ble_eq_true rfl⟩) hP hD hS (rest := []) (st' := [Value.int v]) rfl rfl hl.1 rfl (Nat.le_of_ble_eq_true rfl) ⟨by omega, by omega⟩ dL_law_1074 (fun H locs hP hD hS => ?_)
  refine lv_aload_n hx hb dL_law_1077 rfl (lv_at hl 2 rfl) ?_
  refine lq_arg C (lv_at hl 0 rfl) (lv_at hl 4 rfl) hS 1 (by omega) (v := (1 : Int32)) rfl (by decide) dL_law_1078 dL_law_1079 dL_law_1081 dL_law_1082 dL_law_1083 ?_
  refine lq_arg C (lv_at hl 0 rfl) (lv_at hl 4 rfl) hS 2 (by omega) (v := (2 : Int32)) rfl (by decide) dL_law_1084 dL_law_1085 dL_law_1087 dL_law_1088 dL_law_1089 ?_
  refine lq_arg C (lv_at hl 0 rfl) (lv_at hl 4 rfl) hS 3 (by omega) (v := (3 : Int32)) rfl (by decide) dL_law_1090 dL_law_1091 dL_law_1093 dL_law_1094 dL_law_1095 ?_
  refine lq_callM C f2 (cwV 3 hts gL_law_X12_years rfl rfl rfl (by decide +kernel) ⟨Nat.le_of_ble_eq_true rfl, Nat.le_of_ble_eq_true rfl⟩) hP hD hS (rest := [Value.int v]) (st' := [Value.int v, Value.int v]) rfl rfl hl.1 rfl (Nat.le_of_ble_eq_true rfl) ⟨by omega, by omega⟩ dL_law_1096 (fun H locs hP hD hS => ?_)
  refine W.widen (k := cells + 1) (n := slots + 6) (by omega) (by omega) ?_
  refine lv_icmp_eq (tgt := 1504) hx hb dL_law_1099 (by decide) (fun _ => kk I2 J2 K2 it2 h1 h2 S2 x2 fo H locs ls hr2 hl hP hD hS) (fun c1 => absurd rfl c1)
set_option maxRecDepth 100000 in
set_option maxHeartbeats 4000000 in
theorem law_image (C : lq_C p l s m meth c b L xs D cI cT cS cJ) (hi : i + 6 ≤ L) (hf : cells + 1 ≤ 601024 ∧ slots + 6 ≤ 7293034) (kk : lq_G p l e s m below meth c b D cI cT cS cJ a kI kJ kK sa ea bb qo i (cells + 1) (slots + 6) 1504) : lq_G p l e s m below meth c b D cI cT cS cJ a kI kJ kK sa ea bb qo i cells slots 1104 := by
  intro I J K it g1 g2 S x fo H locs ls hr hl hP hD hS
  obtain ⟨⟨hx, hb, hrt, hml, hown, hts0, hX, hbl, hlocks, hgv⟩, hts, hK, hN, hB, hZ, hL, htr⟩ := id C
  obtain ⟨v, I2, J2, K2, it2, h1, h2, S2, x2, hr2, f1, f2⟩ := lo_image (l := l) (D := D) (cI := cI) (cT := cT) (cS := cS) (a := a) (kI := kI) (kJ := kJ) (kK := kK) (sa := sa) (ea := ea) (b := bb) (K := K) (g1 := g1) (g2 := g2) hr 
  refine lv_aload_n hx hb dL_law_1104 rfl (lv_at hl 1 rfl) ?_
  refine lq_callX C f1 (cwV 0 hts gL_law_X11_image rfl rfl rfl (by decide +kernel) ⟨Nat.le_of_ble_eq_true rfl, Nat.le_of_ble_eq_true rfl⟩) hP hD hS (rest := []) (st' := [Value.int v]) rfl rfl hl.1 rfl (Nat.le_of_ble_eq_true rfl) ⟨by omega, by omega⟩ dL_law_1105 (fun H locs hP hD hS => ?_)
  refine lv_aload_n hx hb dL_law_1108 rfl (lv_at hl 2 rfl) ?_
  refine lq_callM C f2 (cwV 0 hts gL_law_X12_image rfl rfl rfl (by decide +kernel) ⟨Nat.le_of_ble_eq_true rfl, Nat.le_of_ble_eq_true rfl⟩) hP hD hS (rest := [Value.int v]) (st' := [Value.int v, Value.int v]) rfl rfl hl.1 rfl (Nat.le_of_ble_eq_true rfl) ⟨by omega, by omega⟩ dL_law_1109 (fun H locs hP hD hS => ?_)
  refine W.widen (k := cells + 1) (n := slots + 6) (by omega) (by omega) ?_
  refine lv_icmp_eq (tgt := 1504) hx hb dL_law_1112 (by decide) (fun _ => kk I2 J2 K2 it2 h1 h2 S2 x2 fo H locs ls hr2 hl hP hD hS) (fun c1 => absurd rfl c1)
set_option maxRecDepth 100000 in
set_option maxHeartbeats 4000000 in
theorem law_restore (C : lq_C p l s m meth c b L xs D cI cT cS cJ) (hi : i + 6 ≤ L) (hf : cells + 1 ≤ 601024 ∧ slots + 6 ≤ 7293034) (kk : lq_G p l e s m below meth c b D cI cT cS cJ a kI kJ kK sa ea bb qo i (cells + 1) (slots + 6) 1504) : lq_G p l e s m below meth c b D cI cT cS cJ a kI kJ kK sa ea bb qo i cells slots 1117 := by
  intro I J K it g1 g2 S x fo H locs ls hr hl hP hD hS
  obtain ⟨⟨hx, hb, hrt, hml, hown, hts0, hX, hbl, hlocks, hgv⟩, hts, hK, hN, hB, hZ, hL, htr⟩ := id C
  obtain ⟨v, I2, J2, K2, it2, h1, h2, S2, x2, hr2, f1, f2⟩ := lo_restore (l := l) (D := D) (cI := cI) (cT := cT) (cS := cS) (a := a) (kI := kI) (kJ := kJ) (kK := kK) (sa := sa) (ea := ea) (b := bb) (K := K) (g1 := g1) (g2 := g2) hr 
  refine lv_aload_n hx hb dL_law_1117 rfl (lv_at hl 1 rfl) ?_
  refine lq_callX C f1 (cwV 0 hts gL_law_X11_restore rfl rfl rfl (by decide +kernel) ⟨Nat.le_of_ble_eq_true rfl, Nat.le_of_ble_eq_true rfl⟩) hP hD hS (rest := []) (st' := [Value.int v]) rfl rfl hl.1 rfl (Nat.le_of_ble_eq_true rfl) ⟨by omega, by omega⟩ dL_law_1118 (fun H locs hP hD hS => ?_)
  refine lv_aload_n hx hb dL_law_1121 rfl (lv_at hl 2 rfl) ?_
  refine lq_callM C f2 (cwV 0 hts gL_law_X12_restore rfl rfl rfl (by decide +kernel) ⟨Nat.le_of_ble_eq_true rfl, Nat.le_of_ble_eq_true rfl⟩) hP hD hS (rest := [Value.int v]) (st' := [Value.int v, Value.int v]) rfl rfl hl.1 rfl (Nat.le_of_ble_eq_true rfl) ⟨by omega, by omega⟩ dL_law_1122 (fun H locs hP hD hS => ?_)
  refine W.widen (k := cells + 1) (n := slots + 6) (by omega) (by omega) ?_
  refine lv_icmp_eq (tgt := 1504) hx hb dL_law_1125 (by decide) (fun _ => kk I2 J2 K2 it2 h1 h2 S2 x2 fo H locs ls hr2 hl hP hD hS) (fun c1 => absurd rfl c1)
set_option maxRecDepth 100000 in
set_option maxHeartbeats 4000000 in
theorem law_count (C : lq_C p l s m meth c b L xs D cI cT cS cJ) (hi : i + 6 ≤ L) (hf : cells + 1 ≤ 601024 ∧ slots + 6 ≤ 7293034) (kk : lq_G p l e s m below meth c b D cI cT cS cJ a kI kJ kK sa ea bb qo i (cells + 1) (slots + 6) 1504) : lq_G p l e s m below meth c b D cI cT cS cJ a kI kJ kK sa ea bb qo i cells slots 1130 := by
  intro I J K it g1 g2 S x fo H locs ls hr hl hP hD hS
  obtain ⟨⟨hx, hb, hrt, hml, hown, hts0, hX, hbl, hlocks, hgv⟩, hts, hK, hN, hB, hZ, hL, htr⟩ := id C
  obtain ⟨v, I2, J2, K2, it2, h1, h2, S2, x2, hr2, f1, f2⟩ := lo_count (l := l) (D := D) (cI := cI) (cT := cT) (cS := cS) (a := a) (kI := kI) (kJ := kJ) (kK := kK) (sa := sa) (ea := ea) (b := bb) (K := K) (g1 := g1) (g2 := g2) hr (xs (i + 1))
  refine lv_aload_n hx hb dL_law_1130 rfl (lv_at hl 1 rfl) ?_
  refine lq_arg C (lv_at hl 0 rfl) (lv_at hl 4 rfl) hS 1 (by omega) (v := (1 : Int32)) rfl (by decide) dL_law_1131 dL_law_1132 dL_law_1134 dL_law_1135 dL_law_1136 ?_
  refine lq_callX C f1 (cwV 1 hts gL_law_X11_count rfl rfl rfl (by decide +kernel) ⟨Nat.le_of_ble_eq_true rfl, Nat.le_of_ble_eq_true rfl⟩) hP hD hS (rest := []) (st' := [Value.int v]) rfl rfl hl.1 rfl (Nat.le_of_ble_eq_true rfl) ⟨by omega, by omega⟩ dL_law_1137 (fun H locs hP hD hS => ?_)
  refine lv_aload_n hx hb dL_law_1140 rfl (lv_at hl 2 rfl) ?_
  refine lq_arg C (lv_at hl 0 rfl) (lv_at hl 4 rfl) hS 1 (by omega) (v := (1 : Int32)) rfl (by decide) dL_law_1141 dL_law_1142 dL_law_1144 dL_law_1145 dL_law_1146 ?_
  refine lq_callM C f2 (cwV 1 hts gL_law_X12_count rfl rfl rfl (by decide +kernel) ⟨Nat.le_of_ble_eq_true rfl, Nat.le_of_ble_eq_true rfl⟩) hP hD hS (rest := [Value.int v]) (st' := [Value.int v, Value.int v]) rfl rfl hl.1 rfl (Nat.le_of_ble_eq_true rfl) ⟨by omega, by omega⟩ dL_law_1147 (fun H locs hP hD hS => ?_)
  refine W.widen (k := cells + 1) (n := slots + 6) (by omega) (by omega) ?_
  refine lv_icmp_eq (tgt := 1504) hx hb dL_law_1150 (by decide) (fun _ => kk I2 J2 K2 it2 h1 h2 S2 x2 fo H locs ls hr2 hl hP hD hS) (fun c1 => absurd rfl c1)
set_option maxRecDepth 100000 in
set_option maxHeartbeats 4000000 in
theorem law_keep (C : lq_C p l s m meth c b L xs D cI cT cS cJ) (hi : i + 6 ≤ L) (hf : cells + 1 ≤ 601024 ∧ slots + 6 ≤ 7293034) (kk : lq_G p l e s m below meth c b D cI cT cS cJ a kI kJ kK sa ea bb qo i (cells + 1) (slots + 6) 1504) : lq_G p l e s m below meth c b D cI cT cS cJ a kI kJ kK sa ea bb qo i cells slots 1155 := by
  intro I J K it g1 g2 S x fo H locs ls hr hl hP hD hS
  obtain ⟨⟨hx, hb, hrt, hml, hown, hts0, hX, hbl, hlocks, hgv⟩, hts, hK, hN, hB, hZ, hL, htr⟩ := id C
  obtain ⟨v, I2, J2, K2, it2, h1, h2, S2, x2, hr2, f1, f2⟩ := lo_keep (l := l) (D := D) (cI := cI) (cT := cT) (cS := cS) (a := a) (kI := kI) (kJ := kJ) (kK := kK) (sa := sa) (ea := ea) (b := bb) (K := K) (g1 := g1) (g2 := g2) hr (xs (i + 1)) (xs (i + 2)) (xs (i + 3)) (xs (i + 4))
  refine lv_aload_n hx hb dL_law_1155 rfl (lv_at hl 1 rfl) ?_
  refine lq_arg C (lv_at hl 0 rfl) (lv_at hl 4 rfl) hS 1 (by omega) (v := (1 : Int32)) rfl (by decide) dL_law_1156 dL_law_1157 dL_law_1159 dL_law_1160 dL_law_1161 ?_
  refine lq_arg C (lv_at hl 0 rfl) (lv_at hl 4 rfl) hS 2 (by omega) (v := (2 : Int32)) rfl (by decide) dL_law_1162 dL_law_1163 dL_law_1165 dL_law_1166 dL_law_1167 ?_
  refine lq_arg C (lv_at hl 0 rfl) (lv_at hl 4 rfl) hS 3 (by omega) (v := (3 : Int32)) rfl (by decide) dL_law_1168 dL_law_1169 dL_law_1171 dL_law_1172 dL_law_1173 ?_
  refine lq_arg C (lv_at hl 0 rfl) (lv_at hl 4 rfl) hS 4 (by omega) (v := (4 : Int32)) rfl (by decide) dL_law_1174 dL_law_1175 dL_law_1177 dL_law_1178 dL_law_1179 ?_
  refine lq_callX C f1 (cwV 4 hts gL_law_X11_keep rfl rfl rfl (by decide +kernel) ⟨Nat.le_of_ble_eq_true rfl, Nat.le_of_ble_eq_true rfl⟩) hP hD hS (rest := []) (st' := [Value.int v]) rfl rfl hl.1 rfl (Nat.le_of_ble_eq_true rfl) ⟨by omega, by omega⟩ dL_law_1180 (fun H locs hP hD hS => ?_)
  refine lv_aload_n hx hb dL_law_1183 rfl (lv_at hl 2 rfl) ?_
  refine lq_arg C (lv_at hl 0 rfl) (lv_at hl 4 rfl) hS 1 (by omega) (v := (1 : Int32)) rfl (by decide) dL_law_1184 dL_law_1185 dL_law_1187 dL_law_1188 dL_law_1189 ?_
  refine lq_arg C (lv_at hl 0 rfl) (lv_at hl 4 rfl) hS 2 (by omega) (v := (2 : Int32)) rfl (by decide) dL_law_1190 dL_law_1191 dL_law_1193 dL_law_1194 dL_law_1195 ?_
  refine lq_arg C (lv_at hl 0 rfl) (lv_at hl 4 rfl) hS 3 (by omega) (v := (3 : Int32)) rfl (by decide) dL_law_1196 dL_law_1197 dL_law_1199 dL_law_1200 dL_law_1201 ?_
  refine lq_arg C (lv_at hl 0 rfl) (lv_at hl 4 rfl) hS 4 (by omega) (v := (4 : Int32)) rfl (by decide) dL_law_1202 dL_law_1203 dL_law_1205 dL_law_1206 dL_law_1207 ?_
  refine lq_callM C f2 (cwV 4 hts gL_law_X12_keep rfl rfl rfl (by decide +kernel) ⟨Nat.le_of_ble_eq_true rfl, Nat.le_of_ble_eq_true rfl⟩) hP hD hS (rest := [Value.int v]) (st' := [Value.int v, Value.int v]) rfl rfl hl.1 rfl (Nat.le_of_ble_eq_true rfl) ⟨by omega, by omega⟩ dL_law_1208 (fun H locs hP hD hS => ?_)
  refine W.widen (k := cells + 1) (n := slots + 6) (by omega) (by omega) ?_
  refine lv_icmp_eq (tgt := 1504) hx hb dL_law_1211 (by decide) (fun _ => kk I2 J2 K2 it2 h1 h2 S2 x2 fo H locs ls hr2 hl hP hD hS) (fun c1 => absurd rfl c1)
set_option maxRecDepth 100000 in
set_option maxHeartbeats 4000000 in
theorem law_row (C : lq_C p l s m meth c b L xs D cI cT cS cJ) (hi : i + 6 ≤ L) (hf : cells + 1 ≤ 601024 ∧ slots + 6 ≤ 7293034) (kk : lq_G p l e s m below meth c b D cI cT cS cJ a kI kJ kK sa ea bb qo i (cells + 1) (slots + 6) 1504) : lq_G p l e s m below meth c b D cI cT cS cJ a kI kJ kK sa ea bb qo i cells slots 1216 := by
  intro I J K it g1 g2 S x fo H locs ls hr hl hP hD hS
  obtain ⟨⟨hx, hb, hrt, hml, hown, hts0, hX, hbl, hlocks, hgv⟩, hts, hK, hN, hB, hZ, hL, htr⟩ := id C
  obtain ⟨v, I2, J2, K2, it2, h1, h2, S2, x2, hr2, f1, f2⟩ := lo_row (l := l) (D := D) (cI := cI) (cT := cT) (cS := cS) (a := a) (kI := kI) (kJ := kJ) (kK := kK) (sa := sa) (ea := ea) (b := bb) (K := K) (g1 := g1) (g2 := g2) hr (xs (i + 1)) (xs (i + 2)) (xs (i + 3))
  refine lv_aload_n hx hb dL_law_1216 rfl (lv_at hl 1 rfl) ?_
  refine lq_arg C (lv_at hl 0 rfl) (lv_at hl 4 rfl) hS 1 (by omega) (v := (1 : Int32)) rfl (by decide) dL_law_1217 dL_law_1218 dL_law_1220 dL_law_1221 dL_law_1222 ?_
  refine lq_arg C (lv_at hl 0 rfl) (lv_at hl 4 rfl) hS 2 (by omega) (v := (2 : Int32)) rfl (by decide) dL_law_1223 dL_law_1224 dL_law_1226 dL_law_1227 dL_law_1228 ?_
  refine lq_arg C (lv_at hl 0 rfl) (lv_at hl 4 rfl) hS 3 (by omega) (v := (3 : Int32)) rfl (by decide) dL_law_1229 dL_law_1230 dL_law_1232 dL_law_1233 dL_law_1234 ?_
  refine lq_callX C f1 (cwV 3 hts gL_law_X11_row rfl rfl rfl (by decide +kernel) ⟨Nat.le_of_ble_eq_true rfl, Nat.le_of_ble_eq_true rfl⟩) hP hD hS (rest := []) (st' := [Value.int v]) rfl rfl hl.1 rfl (Nat.le_of_ble_eq_true rfl) ⟨by omega, by omega⟩ dL_law_1235 (fun H locs hP hD hS => ?_)
  refine lv_aload_n hx hb dL_law_1238 rfl (lv_at hl 2 rfl) ?_
  refine lq_arg C (lv_at hl 0 rfl) (lv_at hl 4 rfl) hS 1 (by omega) (v := (1 : Int32)) rfl (by decide) dL_law_1239 dL_law_1240 dL_law_1242 dL_law_1243 dL_law_1244 ?_
  refine lq_arg C (lv_at hl 0 rfl) (lv_at hl 4 rfl) hS 2 (by omega) (v := (2 : Int32)) rfl (by decide) dL_law_1245 dL_law_1246 dL_law_1248 dL_law_1249 dL_law_1250 ?_
  refine lq_arg C (lv_at hl 0 rfl) (lv_at hl 4 rfl) hS 3 (by omega) (v := (3 : Int32)) rfl (by decide) dL_law_1251 dL_law_1252 dL_law_1254 dL_law_1255 dL_law_1256 ?_
  refine lq_callM C f2 (cwV 3 hts gL_law_X12_row rfl rfl rfl (by decide +kernel) ⟨Nat.le_of_ble_eq_true rfl, Nat.le_of_ble_eq_true rfl⟩) hP hD hS (rest := [Value.int v]) (st' := [Value.int v, Value.int v]) rfl rfl hl.1 rfl (Nat.le_of_ble_eq_true rfl) ⟨by omega, by omega⟩ dL_law_1257 (fun H locs hP hD hS => ?_)
  refine W.widen (k := cells + 1) (n := slots + 6) (by omega) (by omega) ?_
  refine lv_icmp_eq (tgt := 1504) hx hb dL_law_1260 (by decide) (fun _ => kk I2 J2 K2 it2 h1 h2 S2 x2 fo H locs ls hr2 hl hP hD hS) (fun c1 => absurd rfl c1)
set_option maxRecDepth 100000 in
set_option maxHeartbeats 4000000 in
theorem law_put (C : lq_C p l s m meth c b L xs D cI cT cS cJ) (hi : i + 6 ≤ L) (hf : cells + 1 ≤ 601024 ∧ slots + 6 ≤ 7293034) (kk : lq_G p l e s m below meth c b D cI cT cS cJ a kI kJ kK sa ea bb qo i (cells + 1) (slots + 6) 1504) : lq_G p l e s m below meth c b D cI cT cS cJ a kI kJ kK sa ea bb qo i cells slots 1265 := by
  intro I J K it g1 g2 S x fo H locs ls hr hl hP hD hS
  obtain ⟨⟨hx, hb, hrt, hml, hown, hts0, hX, hbl, hlocks, hgv⟩, hts, hK, hN, hB, hZ, hL, htr⟩ := id C
  obtain ⟨v, I2, J2, K2, it2, h1, h2, S2, x2, hr2, f1, f2⟩ := lo_put (l := l) (D := D) (cI := cI) (cT := cT) (cS := cS) (a := a) (kI := kI) (kJ := kJ) (kK := kK) (sa := sa) (ea := ea) (b := bb) (K := K) (g1 := g1) (g2 := g2) hr (xs (i + 1)) (xs (i + 2)) (xs (i + 3))
  refine lv_aload_n hx hb dL_law_1265 rfl (lv_at hl 1 rfl) ?_
  refine lq_arg C (lv_at hl 0 rfl) (lv_at hl 4 rfl) hS 1 (by omega) (v := (1 : Int32)) rfl (by decide) dL_law_1266 dL_law_1267 dL_law_1269 dL_law_1270 dL_law_1271 ?_
  refine lq_arg C (lv_at hl 0 rfl) (lv_at hl 4 rfl) hS 2 (by omega) (v := (2 : Int32)) rfl (by decide) dL_law_1272 dL_law_1273 dL_law_1275 dL_law_1276 dL_law_1277 ?_
  refine lq_arg C (lv_at hl 0 rfl) (lv_at hl 4 rfl) hS 3 (by omega) (v := (3 : Int32)) rfl (by decide) dL_law_1278 dL_law_1279 dL_law_1281 dL_law_1282 dL_law_1283 ?_
  refine lq_callX C f1 (cwV 3 hts gL_law_X11_put rfl rfl rfl (by decide +kernel) ⟨Nat.le_of_ble_eq_true rfl, Nat.le_of_ble_eq_true rfl⟩) hP hD hS (rest := []) (st' := [Value.int v]) rfl rfl hl.1 rfl (Nat.le_of_ble_eq_true rfl) ⟨by omega, by omega⟩ dL_law_1284 (fun H locs hP hD hS => ?_)
  refine lv_aload_n hx hb dL_law_1287 rfl (lv_at hl 2 rfl) ?_
  refine lq_arg C (lv_at hl 0 rfl) (lv_at hl 4 rfl) hS 1 (by omega) (v := (1 : Int32)) rfl (by decide) dL_law_1288 dL_law_1289 dL_law_1291 dL_law_1292 dL_law_1293 ?_
  refine lq_arg C (lv_at hl 0 rfl) (lv_at hl 4 rfl) hS 2 (by omega) (v := (2 : Int32)) rfl (by decide) dL_law_1294 dL_law_1295 dL_law_1297 dL_law_1298 dL_law_1299 ?_
  refine lq_arg C (lv_at hl 0 rfl) (lv_at hl 4 rfl) hS 3 (by omega) (v := (3 : Int32)) rfl (by decide) dL_law_1300 dL_law_1301 dL_law_1303 dL_law_1304 dL_law_1305 ?_
  refine lq_callM C f2 (cwV 3 hts gL_law_X12_put rfl rfl rfl (by decide +kernel) ⟨Nat.le_of_ble_eq_true rfl, Nat.le_of_ble_eq_true rfl⟩) hP hD hS (rest := [Value.int v]) (st' := [Value.int v, Value.int v]) rfl rfl hl.1 rfl (Nat.le_of_ble_eq_true rfl) ⟨by omega, by omega⟩ dL_law_1306 (fun H locs hP hD hS => ?_)
  refine W.widen (k := cells + 1) (n := slots + 6) (by omega) (by omega) ?_
  refine lv_icmp_eq (tgt := 1504) hx hb dL_law_1309 (by decide) (fun _ => kk I2 J2 K2 it2 h1 h2 S2 x2 fo H locs ls hr2 hl hP hD hS) (fun c1 => absurd rfl c1)
set_option maxRecDepth 100000 in
set_option maxHeartbeats 4000000 in
theorem law_copy (C : lq_C p l s m meth c b L xs D cI cT cS cJ) (hi : i + 6 ≤ L) (hf : cells + 1 ≤ 601024 ∧ slots + 6 ≤ 7293034) (kk : lq_G p l e s m below meth c b D cI cT cS cJ a kI kJ kK sa ea bb qo i (cells + 1) (slots + 6) 1504) : lq_G p l e s m below meth c b D cI cT cS cJ a kI kJ kK sa ea bb qo i cells slots 1381 := by
  intro I J K it g1 g2 S x fo H locs ls hr hl hP hD hS
  obtain ⟨⟨hx, hb, hrt, hml, hown, hts0, hX, hbl, hlocks, hgv⟩, hts, hK, hN, hB, hZ, hL, htr⟩ := id C
  obtain ⟨v, I2, J2, K2, it2, h1, h2, S2, x2, hr2, f1, f2⟩ := lo_copy (l := l) (D := D) (cI := cI) (cT := cT) (cS := cS) (a := a) (kI := kI) (kJ := kJ) (kK := kK) (sa := sa) (ea := ea) (b := bb) (K := K) (g1 := g1) (g2 := g2) hr (xs (i + 1)) (xs (i + 2)) (xs (i + 3)) (xs (i + 4)) (xs (i + 5))
  refine lv_aload_n hx hb dL_law_1381 rfl (lv_at hl 1 rfl) ?_
  refine lq_arg C (lv_at hl 0 rfl) (lv_at hl 4 rfl) hS 1 (by omega) (v := (1 : Int32)) rfl (by decide) dL_law_1382 dL_law_1383 dL_law_1385 dL_law_1386 dL_law_1387 ?_
  refine lq_arg C (lv_at hl 0 rfl) (lv_at hl 4 rfl) hS 2 (by omega) (v := (2 : Int32)) rfl (by decide) dL_law_1388 dL_law_1389 dL_law_1391 dL_law_1392 dL_law_1393 ?_
  refine lq_arg C (lv_at hl 0 rfl) (lv_at hl 4 rfl) hS 3 (by omega) (v := (3 : Int32)) rfl (by decide) dL_law_1394 dL_law_1395 dL_law_1397 dL_law_1398 dL_law_1399 ?_
  refine lq_arg C (lv_at hl 0 rfl) (lv_at hl 4 rfl) hS 4 (by omega) (v := (4 : Int32)) rfl (by decide) dL_law_1400 dL_law_1401 dL_law_1403 dL_law_1404 dL_law_1405 ?_
  refine lq_arg C (lv_at hl 0 rfl) (lv_at hl 4 rfl) hS 5 (by omega) (v := (5 : Int32)) rfl (by decide) dL_law_1406 dL_law_1407 dL_law_1409 dL_law_1410 dL_law_1411 ?_
  refine lq_callX C f1 (cwV 5 hts gL_law_X11_copy rfl rfl rfl (by decide +kernel) ⟨Nat.le_of_ble_eq_true rfl, Nat.le_of_ble_eq_true rfl⟩) hP hD hS (rest := []) (st' := [Value.int v]) rfl rfl hl.1 rfl (Nat.le_of_ble_eq_true rfl) ⟨by omega, by omega⟩ dL_law_1412 (fun H locs hP hD hS => ?_)
  refine lv_aload_n hx hb dL_law_1415 rfl (lv_at hl 2 rfl) ?_
  refine lq_arg C (lv_at hl 0 rfl) (lv_at hl 4 rfl) hS 1 (by omega) (v := (1 : Int32)) rfl (by decide) dL_law_1416 dL_law_1417 dL_law_1419 dL_law_1420 dL_law_1421 ?_
  refine lq_arg C (lv_at hl 0 rfl) (lv_at hl 4 rfl) hS 2 (by omega) (v := (2 : Int32)) rfl (by decide) dL_law_1422 dL_law_1423 dL_law_1425 dL_law_1426 dL_law_1427 ?_
  refine lq_arg C (lv_at hl 0 rfl) (lv_at hl 4 rfl) hS 3 (by omega) (v := (3 : Int32)) rfl (by decide) dL_law_1428 dL_law_1429 dL_law_1431 dL_law_1432 dL_law_1433 ?_
  refine lq_arg C (lv_at hl 0 rfl) (lv_at hl 4 rfl) hS 4 (by omega) (v := (4 : Int32)) rfl (by decide) dL_law_1434 dL_law_1435 dL_law_1437 dL_law_1438 dL_law_1439 ?_
  refine lq_arg C (lv_at hl 0 rfl) (lv_at hl 4 rfl) hS 5 (by omega) (v := (5 : Int32)) rfl (by decide) dL_law_1440 dL_law_1441 dL_law_1443 dL_law_1444 dL_law_1445 ?_
  refine lq_callM C f2 (cwV 5 hts gL_law_X12_copy rfl rfl rfl (by decide +kernel) ⟨Nat.le_of_ble_eq_true rfl, Nat.le_of_ble_eq_true rfl⟩) hP hD hS (rest := [Value.int v]) (st' := [Value.int v, Value.int v]) rfl rfl hl.1 rfl (Nat.le_of_ble_eq_true rfl) ⟨by omega, by omega⟩ dL_law_1446 (fun H locs hP hD hS => ?_)
  refine W.widen (k := cells + 1) (n := slots + 6) (by omega) (by omega) ?_
  refine lv_icmp_eq (tgt := 1504) hx hb dL_law_1449 (by decide) (fun _ => kk I2 J2 K2 it2 h1 h2 S2 x2 fo H locs ls hr2 hl hP hD hS) (fun c1 => absurd rfl c1)
set_option maxRecDepth 100000 in
set_option maxHeartbeats 4000000 in
theorem law_cost (C : lq_C p l s m meth c b L xs D cI cT cS cJ) (hi : i + 6 ≤ L) (hf : cells + 1 ≤ 601024 ∧ slots + 6 ≤ 7293034) (kk : lq_G p l e s m below meth c b D cI cT cS cJ a kI kJ kK sa ea bb qo i (cells + 1) (slots + 6) 1504) : lq_G p l e s m below meth c b D cI cT cS cJ a kI kJ kK sa ea bb qo i cells slots 1454 := by
  intro I J K it g1 g2 S x fo H locs ls hr hl hP hD hS
  obtain ⟨⟨hx, hb, hrt, hml, hown, hts0, hX, hbl, hlocks, hgv⟩, hts, hK, hN, hB, hZ, hL, htr⟩ := id C
  obtain ⟨v, I2, J2, K2, it2, h1, h2, S2, x2, hr2, f1, f2⟩ := lo_cost (l := l) (D := D) (cI := cI) (cT := cT) (cS := cS) (a := a) (kI := kI) (kJ := kJ) (kK := kK) (sa := sa) (ea := ea) (b := bb) (K := K) (g1 := g1) (g2 := g2) hr (xs (i + 1))
  refine lv_aload_n hx hb dL_law_1454 rfl (lv_at hl 1 rfl) ?_
  refine lq_arg C (lv_at hl 0 rfl) (lv_at hl 4 rfl) hS 1 (by omega) (v := (1 : Int32)) rfl (by decide) dL_law_1455 dL_law_1456 dL_law_1458 dL_law_1459 dL_law_1460 ?_
  refine lq_callX C f1 (cwV 1 hts gL_law_X11_cost rfl rfl rfl (by decide +kernel) ⟨Nat.le_of_ble_eq_true rfl, Nat.le_of_ble_eq_true rfl⟩) hP hD hS (rest := []) (st' := [Value.int v]) rfl rfl hl.1 rfl (Nat.le_of_ble_eq_true rfl) ⟨by omega, by omega⟩ dL_law_1461 (fun H locs hP hD hS => ?_)
  refine lv_aload_n hx hb dL_law_1464 rfl (lv_at hl 2 rfl) ?_
  refine lq_arg C (lv_at hl 0 rfl) (lv_at hl 4 rfl) hS 1 (by omega) (v := (1 : Int32)) rfl (by decide) dL_law_1465 dL_law_1466 dL_law_1468 dL_law_1469 dL_law_1470 ?_
  refine lq_callM C f2 (cwV 1 hts gL_law_X12_cost rfl rfl rfl (by decide +kernel) ⟨Nat.le_of_ble_eq_true rfl, Nat.le_of_ble_eq_true rfl⟩) hP hD hS (rest := [Value.int v]) (st' := [Value.int v, Value.int v]) rfl rfl hl.1 rfl (Nat.le_of_ble_eq_true rfl) ⟨by omega, by omega⟩ dL_law_1471 (fun H locs hP hD hS => ?_)
  refine W.widen (k := cells + 1) (n := slots + 6) (by omega) (by omega) ?_
  refine lv_icmp_eq (tgt := 1504) hx hb dL_law_1474 (by decide) (fun _ => kk I2 J2 K2 it2 h1 h2 S2 x2 fo H locs ls hr2 hl hP hD hS) (fun c1 => absurd rfl c1)
end LK
