/-! the walks (written by wip/whole/gen.py) -/
set_option maxHeartbeats 4000000 in
set_option maxRecDepth 100000 in
theorem wL_law_b236 {l : Launch} {Γ : Gx} {t0 w0 : Nat} {q : Int32 × Mm} (k18 : Nat → Nat → Nat → Int32 → Mm → Option (Int32 × Mm)) (hk18 : ∀ (a0 : Nat) (a1 : Nat) (a2 : Nat) (x3 : Int32) (M : Mm), k18 a0 a1 a2 x3 M = some q → AW l Γ yL_law cL_law 4 (ret) 46 t0 w0 18 [(0, .ref a0), (1, .ref a1), (2, .ref a2), (3, .int x3)] [] M (some (.int q.1)) q.2) (a0 : Nat) (a1 : Nat) (a2 : Nat) (x3 : Int32) (M : Mm) (hf : fL_law_b236 k18 a0 a1 a2 x3 M = some q) : AW l Γ yL_law cL_law 4 (ret) 46 t0 w0 236 [(0, .ref a0), (1, .ref a1), (2, .ref a2), (3, .int x3)] [] M (some (.int q.1)) q.2 := by
  unfold fL_law_b236 at hf
  refine a_aload_n dL_law_236 rfl 1 rfl ?_
  refine a_aload_n dL_law_237 rfl 0 rfl ?_
  refine a_iload_n dL_law_238 rfl 3 rfl ?_
  refine a_iconst (v := 1) dL_law_239 (by decide) ?_
  refine a_iadd dL_law_240 ?_
  obtain ⟨v1_, ev1_, hf⟩ := bnd hf
  refine a_iald dL_law_241 ev1_ ?_
  refine a_aload_n dL_law_242 rfl 0 rfl ?_
  refine a_iload_n dL_law_243 rfl 3 rfl ?_
  refine a_iconst (v := 2) dL_law_244 (by decide) ?_
  refine a_iadd dL_law_245 ?_
  obtain ⟨v2_, ev2_, hf⟩ := bnd hf
  refine a_iald dL_law_246 ev2_ ?_
  refine a_aload_n dL_law_247 rfl 0 rfl ?_
  refine a_iload_n dL_law_248 rfl 3 rfl ?_
  refine a_iconst (v := 3) dL_law_249 (by decide) ?_
  refine a_iadd dL_law_250 ?_
  obtain ⟨v3_, ev3_, hf⟩ := bnd hf
  refine a_iald dL_law_251 ev3_ ?_
  obtain ⟨q4_, eq4_, hf⟩ := bnd hf
  refine a_callV (As := [.int v1_, .int v2_, .int v3_]) (rest := []) dL_law_252 mfX8_row cvL_13 (wX8_row eq4_) rc8 (kX8_row eq4_) (by decide) rfl rfl (Nat.le_of_ble_eq_true rfl) ?_
  refine a_aload_n dL_law_255 rfl 2 rfl ?_
  refine a_aload_n dL_law_256 rfl 0 rfl ?_
  refine a_iload_n dL_law_257 rfl 3 rfl ?_
  refine a_iconst (v := 1) dL_law_258 (by decide) ?_
  refine a_iadd dL_law_259 ?_
  obtain ⟨v5_, ev5_, hf⟩ := bnd hf
  refine a_iald dL_law_260 ev5_ ?_
  refine a_aload_n dL_law_261 rfl 0 rfl ?_
  refine a_iload_n dL_law_262 rfl 3 rfl ?_
  refine a_iconst (v := 2) dL_law_263 (by decide) ?_
  refine a_iadd dL_law_264 ?_
  obtain ⟨v6_, ev6_, hf⟩ := bnd hf
  refine a_iald dL_law_265 ev6_ ?_
  refine a_aload_n dL_law_266 rfl 0 rfl ?_
  refine a_iload_n dL_law_267 rfl 3 rfl ?_
  refine a_iconst (v := 3) dL_law_268 (by decide) ?_
  refine a_iadd dL_law_269 ?_
  obtain ⟨v7_, ev7_, hf⟩ := bnd hf
  refine a_iald dL_law_270 ev7_ ?_
  obtain ⟨q8_, eq8_, hf⟩ := bnd hf
  refine a_callV (As := [.int v5_, .int v6_, .int v7_]) (rest := [.int q4_.1]) dL_law_271 mfX9_row cvL_17 (wX9_row eq8_) rc9 (kX9_row eq8_) (by decide) rfl rfl (Nat.le_of_ble_eq_true rfl) ?_
  refine a_icmp_eq dL_law_274 (tgt := 1705) (by decide) (fun c9 => ?_) (fun c9 => ?_)
  · replace hf := iteT hf c9
    refine a_iinc (v := x3 + (6 : Int32)) (lv1 := [(3, .int (x3 + (6 : Int32))), (0, .ref a0), (1, .ref a1), (2, .ref a2)]) dL_law_1705 3 rfl rfl (by decide) rfl ?_
    refine a_goto (tgt := 18) dL_law_1708 (by decide) ?_
    refine AW.sub (lv1 := [(0, .ref a0), (1, .ref a1), (2, .ref a2), (3, .int (x3 + (6 : Int32)))]) [1, 2, 3, 0] rfl ?_
    exact hk18 _ _ _ _ _ hf
  · replace hf := iteF hf c9
    refine a_iconst (v := 0) dL_law_277 (by decide) ?_
    have e9 := Option.some.inj hf
    subst e9
    exact a_zret rfl rfl dL_law_278 rfl
set_option maxHeartbeats 4000000 in
set_option maxRecDepth 100000 in
theorem wL_law_b279 {l : Launch} {Γ : Gx} {t0 w0 : Nat} {q : Int32 × Mm} (k18 : Nat → Nat → Nat → Int32 → Mm → Option (Int32 × Mm)) (hk18 : ∀ (a0 : Nat) (a1 : Nat) (a2 : Nat) (x3 : Int32) (M : Mm), k18 a0 a1 a2 x3 M = some q → AW l Γ yL_law cL_law 4 (ret) 46 t0 w0 18 [(0, .ref a0), (1, .ref a1), (2, .ref a2), (3, .int x3)] [] M (some (.int q.1)) q.2) (a0 : Nat) (a1 : Nat) (a2 : Nat) (x3 : Int32) (M : Mm) (hf : fL_law_b279 k18 a0 a1 a2 x3 M = some q) : AW l Γ yL_law cL_law 4 (ret) 46 t0 w0 279 [(0, .ref a0), (1, .ref a1), (2, .ref a2), (3, .int x3)] [] M (some (.int q.1)) q.2 := by
  unfold fL_law_b279 at hf
  refine a_aload_n dL_law_279 rfl 1 rfl ?_
  refine a_aload_n dL_law_280 rfl 0 rfl ?_
  refine a_iload_n dL_law_281 rfl 3 rfl ?_
  refine a_iconst (v := 1) dL_law_282 (by decide) ?_
  refine a_iadd dL_law_283 ?_
  obtain ⟨v1_, ev1_, hf⟩ := bnd hf
  refine a_iald dL_law_284 ev1_ ?_
  refine a_aload_n dL_law_285 rfl 0 rfl ?_
  refine a_iload_n dL_law_286 rfl 3 rfl ?_
  refine a_iconst (v := 2) dL_law_287 (by decide) ?_
  refine a_iadd dL_law_288 ?_
  obtain ⟨v2_, ev2_, hf⟩ := bnd hf
  refine a_iald dL_law_289 ev2_ ?_
  refine a_aload_n dL_law_290 rfl 0 rfl ?_
  refine a_iload_n dL_law_291 rfl 3 rfl ?_
  refine a_iconst (v := 3) dL_law_292 (by decide) ?_
  refine a_iadd dL_law_293 ?_
  obtain ⟨v3_, ev3_, hf⟩ := bnd hf
  refine a_iald dL_law_294 ev3_ ?_
  refine a_i2l dL_law_295 ?_
  refine a_bipush (v := 32) dL_law_296 (by decide) ?_
  refine a_lshl dL_law_298 ?_
  refine a_aload_n dL_law_299 rfl 0 rfl ?_
  refine a_iload_n dL_law_300 rfl 3 rfl ?_
  refine a_iconst (v := 4) dL_law_301 (by decide) ?_
  refine a_iadd dL_law_302 ?_
  obtain ⟨v4_, ev4_, hf⟩ := bnd hf
  refine a_iald dL_law_303 ev4_ ?_
  refine a_i2l dL_law_304 ?_
  refine a_ldc2 (v := 4294967295) dL_law_305 wcL_18 ?_
  refine a_land dL_law_308 ?_
  refine a_lor dL_law_309 ?_
  obtain ⟨q5_, eq5_, hf⟩ := bnd hf
  refine a_callV (As := [.int v1_, .int v2_, .long ((v3_.toInt64 <<< (((32 : Int32)).toInt64 &&& 63)) ||| (v4_.toInt64 &&& ((4294967295 : Int64))))]) (rest := []) dL_law_310 mfX8_set cvL_20 (wX8_set eq5_) rc8 (kX8_set eq5_) (by decide) rfl rfl (Nat.le_of_ble_eq_true rfl) ?_
  refine a_aload_n dL_law_313 rfl 2 rfl ?_
  refine a_aload_n dL_law_314 rfl 0 rfl ?_
  refine a_iload_n dL_law_315 rfl 3 rfl ?_
  refine a_iconst (v := 1) dL_law_316 (by decide) ?_
  refine a_iadd dL_law_317 ?_
  obtain ⟨v6_, ev6_, hf⟩ := bnd hf
  refine a_iald dL_law_318 ev6_ ?_
  refine a_aload_n dL_law_319 rfl 0 rfl ?_
  refine a_iload_n dL_law_320 rfl 3 rfl ?_
  refine a_iconst (v := 2) dL_law_321 (by decide) ?_
  refine a_iadd dL_law_322 ?_
  obtain ⟨v7_, ev7_, hf⟩ := bnd hf
  refine a_iald dL_law_323 ev7_ ?_
  refine a_aload_n dL_law_324 rfl 0 rfl ?_
  refine a_iload_n dL_law_325 rfl 3 rfl ?_
  refine a_iconst (v := 3) dL_law_326 (by decide) ?_
  refine a_iadd dL_law_327 ?_
  obtain ⟨v8_, ev8_, hf⟩ := bnd hf
  refine a_iald dL_law_328 ev8_ ?_
  refine a_i2l dL_law_329 ?_
  refine a_bipush (v := 32) dL_law_330 (by decide) ?_
  refine a_lshl dL_law_332 ?_
  refine a_aload_n dL_law_333 rfl 0 rfl ?_
  refine a_iload_n dL_law_334 rfl 3 rfl ?_
  refine a_iconst (v := 4) dL_law_335 (by decide) ?_
  refine a_iadd dL_law_336 ?_
  obtain ⟨v9_, ev9_, hf⟩ := bnd hf
  refine a_iald dL_law_337 ev9_ ?_
  refine a_i2l dL_law_338 ?_
  refine a_ldc2 (v := 4294967295) dL_law_339 wcL_18 ?_
  refine a_land dL_law_342 ?_
  refine a_lor dL_law_343 ?_
  obtain ⟨q10_, eq10_, hf⟩ := bnd hf
  refine a_callV (As := [.int v6_, .int v7_, .long ((v8_.toInt64 <<< (((32 : Int32)).toInt64 &&& 63)) ||| (v9_.toInt64 &&& ((4294967295 : Int64))))]) (rest := [.int q5_.1]) dL_law_344 mfX9_set cvL_24 (wX9_set eq10_) rc9 (kX9_set eq10_) (by decide) rfl rfl (Nat.le_of_ble_eq_true rfl) ?_
  refine a_icmp_eq dL_law_347 (tgt := 1705) (by decide) (fun c9 => ?_) (fun c9 => ?_)
  · replace hf := iteT hf c9
    refine a_iinc (v := x3 + (6 : Int32)) (lv1 := [(3, .int (x3 + (6 : Int32))), (0, .ref a0), (1, .ref a1), (2, .ref a2)]) dL_law_1705 3 rfl rfl (by decide) rfl ?_
    refine a_goto (tgt := 18) dL_law_1708 (by decide) ?_
    refine AW.sub (lv1 := [(0, .ref a0), (1, .ref a1), (2, .ref a2), (3, .int (x3 + (6 : Int32)))]) [1, 2, 3, 0] rfl ?_
    exact hk18 _ _ _ _ _ hf
  · replace hf := iteF hf c9
    refine a_iconst (v := 0) dL_law_350 (by decide) ?_
    have e9 := Option.some.inj hf
    subst e9
    exact a_zret rfl rfl dL_law_351 rfl
set_option maxHeartbeats 4000000 in
set_option maxRecDepth 100000 in
theorem wL_law_b352 {l : Launch} {Γ : Gx} {t0 w0 : Nat} {q : Int32 × Mm} (k18 : Nat → Nat → Nat → Int32 → Mm → Option (Int32 × Mm)) (hk18 : ∀ (a0 : Nat) (a1 : Nat) (a2 : Nat) (x3 : Int32) (M : Mm), k18 a0 a1 a2 x3 M = some q → AW l Γ yL_law cL_law 4 (ret) 46 t0 w0 18 [(0, .ref a0), (1, .ref a1), (2, .ref a2), (3, .int x3)] [] M (some (.int q.1)) q.2) (a0 : Nat) (a1 : Nat) (a2 : Nat) (x3 : Int32) (M : Mm) (hf : fL_law_b352 k18 a0 a1 a2 x3 M = some q) : AW l Γ yL_law cL_law 4 (ret) 46 t0 w0 352 [(0, .ref a0), (1, .ref a1), (2, .ref a2), (3, .int x3)] [] M (some (.int q.1)) q.2 := by
  unfold fL_law_b352 at hf
  refine a_aload_n dL_law_352 rfl 1 rfl ?_
  refine a_aload_n dL_law_353 rfl 0 rfl ?_
  refine a_iload_n dL_law_354 rfl 3 rfl ?_
  refine a_iconst (v := 1) dL_law_355 (by decide) ?_
  refine a_iadd dL_law_356 ?_
  obtain ⟨v1_, ev1_, hf⟩ := bnd hf
  refine a_iald dL_law_357 ev1_ ?_
  refine a_aload_n dL_law_358 rfl 0 rfl ?_
  refine a_iload_n dL_law_359 rfl 3 rfl ?_
  refine a_iconst (v := 2) dL_law_360 (by decide) ?_
  refine a_iadd dL_law_361 ?_
  obtain ⟨v2_, ev2_, hf⟩ := bnd hf
  refine a_iald dL_law_362 ev2_ ?_
  refine a_aload_n dL_law_363 rfl 0 rfl ?_
  refine a_iload_n dL_law_364 rfl 3 rfl ?_
  refine a_iconst (v := 3) dL_law_365 (by decide) ?_
  refine a_iadd dL_law_366 ?_
  obtain ⟨v3_, ev3_, hf⟩ := bnd hf
  refine a_iald dL_law_367 ev3_ ?_
  refine a_aload_n dL_law_368 rfl 0 rfl ?_
  refine a_iload_n dL_law_369 rfl 3 rfl ?_
  refine a_iconst (v := 4) dL_law_370 (by decide) ?_
  refine a_iadd dL_law_371 ?_
  obtain ⟨v4_, ev4_, hf⟩ := bnd hf
  refine a_iald dL_law_372 ev4_ ?_
  refine a_aload_n dL_law_373 rfl 0 rfl ?_
  refine a_iload_n dL_law_374 rfl 3 rfl ?_
  refine a_iconst (v := 5) dL_law_375 (by decide) ?_
  refine a_iadd dL_law_376 ?_
  obtain ⟨v5_, ev5_, hf⟩ := bnd hf
  refine a_iald dL_law_377 ev5_ ?_
  obtain ⟨q6_, eq6_, hf⟩ := bnd hf
  refine a_callV (As := [.int v1_, .int v2_, .int v3_, .int v4_, .int v5_]) (rest := []) dL_law_378 mfX8_copy cvL_25 (wX8_copy eq6_) rc8 (kX8_copy eq6_) (by decide) rfl rfl (Nat.le_of_ble_eq_true rfl) ?_
  refine a_aload_n dL_law_381 rfl 2 rfl ?_
  refine a_aload_n dL_law_382 rfl 0 rfl ?_
  refine a_iload_n dL_law_383 rfl 3 rfl ?_
  refine a_iconst (v := 1) dL_law_384 (by decide) ?_
  refine a_iadd dL_law_385 ?_
  obtain ⟨v7_, ev7_, hf⟩ := bnd hf
  refine a_iald dL_law_386 ev7_ ?_
  refine a_aload_n dL_law_387 rfl 0 rfl ?_
  refine a_iload_n dL_law_388 rfl 3 rfl ?_
  refine a_iconst (v := 2) dL_law_389 (by decide) ?_
  refine a_iadd dL_law_390 ?_
  obtain ⟨v8_, ev8_, hf⟩ := bnd hf
  refine a_iald dL_law_391 ev8_ ?_
  refine a_aload_n dL_law_392 rfl 0 rfl ?_
  refine a_iload_n dL_law_393 rfl 3 rfl ?_
  refine a_iconst (v := 3) dL_law_394 (by decide) ?_
  refine a_iadd dL_law_395 ?_
  obtain ⟨v9_, ev9_, hf⟩ := bnd hf
  refine a_iald dL_law_396 ev9_ ?_
  refine a_aload_n dL_law_397 rfl 0 rfl ?_
  refine a_iload_n dL_law_398 rfl 3 rfl ?_
  refine a_iconst (v := 4) dL_law_399 (by decide) ?_
  refine a_iadd dL_law_400 ?_
  obtain ⟨v10_, ev10_, hf⟩ := bnd hf
  refine a_iald dL_law_401 ev10_ ?_
  refine a_aload_n dL_law_402 rfl 0 rfl ?_
  refine a_iload_n dL_law_403 rfl 3 rfl ?_
  refine a_iconst (v := 5) dL_law_404 (by decide) ?_
  refine a_iadd dL_law_405 ?_
  obtain ⟨v11_, ev11_, hf⟩ := bnd hf
  refine a_iald dL_law_406 ev11_ ?_
  obtain ⟨q12_, eq12_, hf⟩ := bnd hf
  refine a_callV (As := [.int v7_, .int v8_, .int v9_, .int v10_, .int v11_]) (rest := [.int q6_.1]) dL_law_407 mfX9_copy cvL_29 (wX9_copy eq12_) rc9 (kX9_copy eq12_) (by decide) rfl rfl (Nat.le_of_ble_eq_true rfl) ?_
  refine a_icmp_eq dL_law_410 (tgt := 1705) (by decide) (fun c9 => ?_) (fun c9 => ?_)
  · replace hf := iteT hf c9
    refine a_iinc (v := x3 + (6 : Int32)) (lv1 := [(3, .int (x3 + (6 : Int32))), (0, .ref a0), (1, .ref a1), (2, .ref a2)]) dL_law_1705 3 rfl rfl (by decide) rfl ?_
    refine a_goto (tgt := 18) dL_law_1708 (by decide) ?_
    refine AW.sub (lv1 := [(0, .ref a0), (1, .ref a1), (2, .ref a2), (3, .int (x3 + (6 : Int32)))]) [1, 2, 3, 0] rfl ?_
    exact hk18 _ _ _ _ _ hf
  · replace hf := iteF hf c9
    refine a_iconst (v := 0) dL_law_413 (by decide) ?_
    have e9 := Option.some.inj hf
    subst e9
    exact a_zret rfl rfl dL_law_414 rfl
set_option maxHeartbeats 4000000 in
set_option maxRecDepth 100000 in
theorem wL_law_b415 {l : Launch} {Γ : Gx} {t0 w0 : Nat} {q : Int32 × Mm} (k18 : Nat → Nat → Nat → Int32 → Mm → Option (Int32 × Mm)) (hk18 : ∀ (a0 : Nat) (a1 : Nat) (a2 : Nat) (x3 : Int32) (M : Mm), k18 a0 a1 a2 x3 M = some q → AW l Γ yL_law cL_law 4 (ret) 46 t0 w0 18 [(0, .ref a0), (1, .ref a1), (2, .ref a2), (3, .int x3)] [] M (some (.int q.1)) q.2) (a0 : Nat) (a1 : Nat) (a2 : Nat) (x3 : Int32) (M : Mm) (hf : fL_law_b415 k18 a0 a1 a2 x3 M = some q) : AW l Γ yL_law cL_law 4 (ret) 46 t0 w0 415 [(0, .ref a0), (1, .ref a1), (2, .ref a2), (3, .int x3)] [] M (some (.int q.1)) q.2 := by
  unfold fL_law_b415 at hf
  refine a_aload_n dL_law_415 rfl 1 rfl ?_
  refine a_aload_n dL_law_416 rfl 0 rfl ?_
  refine a_iload_n dL_law_417 rfl 3 rfl ?_
  refine a_iconst (v := 1) dL_law_418 (by decide) ?_
  refine a_iadd dL_law_419 ?_
  obtain ⟨v1_, ev1_, hf⟩ := bnd hf
  refine a_iald dL_law_420 ev1_ ?_
  refine a_aload_n dL_law_421 rfl 0 rfl ?_
  refine a_iload_n dL_law_422 rfl 3 rfl ?_
  refine a_iconst (v := 2) dL_law_423 (by decide) ?_
  refine a_iadd dL_law_424 ?_
  obtain ⟨v2_, ev2_, hf⟩ := bnd hf
  refine a_iald dL_law_425 ev2_ ?_
  obtain ⟨q3_, eq3_, hf⟩ := bnd hf
  refine a_callV (As := [.int v1_, .int v2_]) (rest := []) dL_law_426 mfX8_element cvL_30 (wX8_element eq3_) rc8 (kX8_element eq3_) (by decide) rfl rfl (Nat.le_of_ble_eq_true rfl) ?_
  refine a_aload_n dL_law_429 rfl 2 rfl ?_
  refine a_aload_n dL_law_430 rfl 0 rfl ?_
  refine a_iload_n dL_law_431 rfl 3 rfl ?_
  refine a_iconst (v := 1) dL_law_432 (by decide) ?_
  refine a_iadd dL_law_433 ?_
  obtain ⟨v4_, ev4_, hf⟩ := bnd hf
  refine a_iald dL_law_434 ev4_ ?_
  refine a_aload_n dL_law_435 rfl 0 rfl ?_
  refine a_iload_n dL_law_436 rfl 3 rfl ?_
  refine a_iconst (v := 2) dL_law_437 (by decide) ?_
  refine a_iadd dL_law_438 ?_
  obtain ⟨v5_, ev5_, hf⟩ := bnd hf
  refine a_iald dL_law_439 ev5_ ?_
  obtain ⟨q6_, eq6_, hf⟩ := bnd hf
  refine a_callV (As := [.int v4_, .int v5_]) (rest := [.long q3_.1]) dL_law_440 mfX9_element cvL_34 (wX9_element eq6_) rc9 (kX9_element eq6_) (by decide) rfl rfl (Nat.le_of_ble_eq_true rfl) ?_
  refine a_lcmp_eq dL_law_443 dL_law_444 (tgt := 1705) (by decide) (fun c9 => ?_) (fun c9 => ?_)
  · replace hf := iteT hf c9
    refine a_iinc (v := x3 + (6 : Int32)) (lv1 := [(3, .int (x3 + (6 : Int32))), (0, .ref a0), (1, .ref a1), (2, .ref a2)]) dL_law_1705 3 rfl rfl (by decide) rfl ?_
    refine a_goto (tgt := 18) dL_law_1708 (by decide) ?_
    refine AW.sub (lv1 := [(0, .ref a0), (1, .ref a1), (2, .ref a2), (3, .int (x3 + (6 : Int32)))]) [1, 2, 3, 0] rfl ?_
    exact hk18 _ _ _ _ _ hf
  · replace hf := iteF hf c9
    refine a_iconst (v := 0) dL_law_447 (by decide) ?_
    have e9 := Option.some.inj hf
    subst e9
    exact a_zret rfl rfl dL_law_448 rfl
set_option maxHeartbeats 4000000 in
set_option maxRecDepth 100000 in
theorem wL_law_b449 {l : Launch} {Γ : Gx} {t0 w0 : Nat} {q : Int32 × Mm} (k18 : Nat → Nat → Nat → Int32 → Mm → Option (Int32 × Mm)) (hk18 : ∀ (a0 : Nat) (a1 : Nat) (a2 : Nat) (x3 : Int32) (M : Mm), k18 a0 a1 a2 x3 M = some q → AW l Γ yL_law cL_law 4 (ret) 46 t0 w0 18 [(0, .ref a0), (1, .ref a1), (2, .ref a2), (3, .int x3)] [] M (some (.int q.1)) q.2) (a0 : Nat) (a1 : Nat) (a2 : Nat) (x3 : Int32) (M : Mm) (hf : fL_law_b449 k18 a0 a1 a2 x3 M = some q) : AW l Γ yL_law cL_law 4 (ret) 46 t0 w0 449 [(0, .ref a0), (1, .ref a1), (2, .ref a2), (3, .int x3)] [] M (some (.int q.1)) q.2 := by
  unfold fL_law_b449 at hf
  refine a_aload_n dL_law_449 rfl 1 rfl ?_
  refine a_aload_n dL_law_450 rfl 0 rfl ?_
  refine a_iload_n dL_law_451 rfl 3 rfl ?_
  refine a_iconst (v := 1) dL_law_452 (by decide) ?_
  refine a_iadd dL_law_453 ?_
  obtain ⟨v1_, ev1_, hf⟩ := bnd hf
  refine a_iald dL_law_454 ev1_ ?_
  refine a_aload_n dL_law_455 rfl 0 rfl ?_
  refine a_iload_n dL_law_456 rfl 3 rfl ?_
  refine a_iconst (v := 2) dL_law_457 (by decide) ?_
  refine a_iadd dL_law_458 ?_
  obtain ⟨v2_, ev2_, hf⟩ := bnd hf
  refine a_iald dL_law_459 ev2_ ?_
  obtain ⟨q3_, eq3_, hf⟩ := bnd hf
  refine a_callV (As := [.int v1_, .int v2_]) (rest := []) dL_law_460 mfX8_show cvL_35 (wX8_show eq3_) rc8 (kX8_show eq3_) (by decide) rfl rfl (Nat.le_of_ble_eq_true rfl) ?_
  refine a_aload_n dL_law_463 rfl 2 rfl ?_
  refine a_aload_n dL_law_464 rfl 0 rfl ?_
  refine a_iload_n dL_law_465 rfl 3 rfl ?_
  refine a_iconst (v := 1) dL_law_466 (by decide) ?_
  refine a_iadd dL_law_467 ?_
  obtain ⟨v4_, ev4_, hf⟩ := bnd hf
  refine a_iald dL_law_468 ev4_ ?_
  refine a_aload_n dL_law_469 rfl 0 rfl ?_
  refine a_iload_n dL_law_470 rfl 3 rfl ?_
  refine a_iconst (v := 2) dL_law_471 (by decide) ?_
  refine a_iadd dL_law_472 ?_
  obtain ⟨v5_, ev5_, hf⟩ := bnd hf
  refine a_iald dL_law_473 ev5_ ?_
  obtain ⟨q6_, eq6_, hf⟩ := bnd hf
  refine a_callV (As := [.int v4_, .int v5_]) (rest := [.int q3_.1]) dL_law_474 mfX9_show cvL_39 (wX9_show eq6_) rc9 (kX9_show eq6_) (by decide) rfl rfl (Nat.le_of_ble_eq_true rfl) ?_
  refine a_icmp_eq dL_law_477 (tgt := 1705) (by decide) (fun c9 => ?_) (fun c9 => ?_)
  · replace hf := iteT hf c9
    refine a_iinc (v := x3 + (6 : Int32)) (lv1 := [(3, .int (x3 + (6 : Int32))), (0, .ref a0), (1, .ref a1), (2, .ref a2)]) dL_law_1705 3 rfl rfl (by decide) rfl ?_
    refine a_goto (tgt := 18) dL_law_1708 (by decide) ?_
    refine AW.sub (lv1 := [(0, .ref a0), (1, .ref a1), (2, .ref a2), (3, .int (x3 + (6 : Int32)))]) [1, 2, 3, 0] rfl ?_
    exact hk18 _ _ _ _ _ hf
  · replace hf := iteF hf c9
    refine a_iconst (v := 0) dL_law_480 (by decide) ?_
    have e9 := Option.some.inj hf
    subst e9
    exact a_zret rfl rfl dL_law_481 rfl
set_option maxHeartbeats 4000000 in
set_option maxRecDepth 100000 in
theorem wL_law_b482 {l : Launch} {Γ : Gx} {t0 w0 : Nat} {q : Int32 × Mm} (k18 : Nat → Nat → Nat → Int32 → Mm → Option (Int32 × Mm)) (hk18 : ∀ (a0 : Nat) (a1 : Nat) (a2 : Nat) (x3 : Int32) (M : Mm), k18 a0 a1 a2 x3 M = some q → AW l Γ yL_law cL_law 4 (ret) 46 t0 w0 18 [(0, .ref a0), (1, .ref a1), (2, .ref a2), (3, .int x3)] [] M (some (.int q.1)) q.2) (a0 : Nat) (a1 : Nat) (a2 : Nat) (x3 : Int32) (M : Mm) (hf : fL_law_b482 k18 a0 a1 a2 x3 M = some q) : AW l Γ yL_law cL_law 4 (ret) 46 t0 w0 482 [(0, .ref a0), (1, .ref a1), (2, .ref a2), (3, .int x3)] [] M (some (.int q.1)) q.2 := by
  unfold fL_law_b482 at hf
  refine a_aload_n dL_law_482 rfl 1 rfl ?_
  refine a_aload_n dL_law_483 rfl 0 rfl ?_
  refine a_iload_n dL_law_484 rfl 3 rfl ?_
  refine a_iconst (v := 1) dL_law_485 (by decide) ?_
  refine a_iadd dL_law_486 ?_
  obtain ⟨v1_, ev1_, hf⟩ := bnd hf
  refine a_iald dL_law_487 ev1_ ?_
  obtain ⟨q2_, eq2_, hf⟩ := bnd hf
  refine a_callV (As := [.int v1_]) (rest := []) dL_law_488 mfX8_holds cvL_40 (wX8_holds eq2_) rc8 (kX8_holds eq2_) (by decide) rfl rfl (Nat.le_of_ble_eq_true rfl) ?_
  refine a_aload_n dL_law_491 rfl 2 rfl ?_
  refine a_aload_n dL_law_492 rfl 0 rfl ?_
  refine a_iload_n dL_law_493 rfl 3 rfl ?_
  refine a_iconst (v := 1) dL_law_494 (by decide) ?_
  refine a_iadd dL_law_495 ?_
  obtain ⟨v3_, ev3_, hf⟩ := bnd hf
  refine a_iald dL_law_496 ev3_ ?_
  obtain ⟨q4_, eq4_, hf⟩ := bnd hf
  refine a_callV (As := [.int v3_]) (rest := [.int q2_.1]) dL_law_497 mfX9_holds cvL_44 (wX9_holds eq4_) rc9 (kX9_holds eq4_) (by decide) rfl rfl (Nat.le_of_ble_eq_true rfl) ?_
  refine a_icmp_eq dL_law_500 (tgt := 1705) (by decide) (fun c9 => ?_) (fun c9 => ?_)
  · replace hf := iteT hf c9
    refine a_iinc (v := x3 + (6 : Int32)) (lv1 := [(3, .int (x3 + (6 : Int32))), (0, .ref a0), (1, .ref a1), (2, .ref a2)]) dL_law_1705 3 rfl rfl (by decide) rfl ?_
    refine a_goto (tgt := 18) dL_law_1708 (by decide) ?_
    refine AW.sub (lv1 := [(0, .ref a0), (1, .ref a1), (2, .ref a2), (3, .int (x3 + (6 : Int32)))]) [1, 2, 3, 0] rfl ?_
    exact hk18 _ _ _ _ _ hf
  · replace hf := iteF hf c9
    refine a_iconst (v := 0) dL_law_503 (by decide) ?_
    have e9 := Option.some.inj hf
    subst e9
    exact a_zret rfl rfl dL_law_504 rfl
set_option maxHeartbeats 4000000 in
set_option maxRecDepth 100000 in
theorem wL_law_b505 {l : Launch} {Γ : Gx} {t0 w0 : Nat} {q : Int32 × Mm} (k18 : Nat → Nat → Nat → Int32 → Mm → Option (Int32 × Mm)) (hk18 : ∀ (a0 : Nat) (a1 : Nat) (a2 : Nat) (x3 : Int32) (M : Mm), k18 a0 a1 a2 x3 M = some q → AW l Γ yL_law cL_law 4 (ret) 46 t0 w0 18 [(0, .ref a0), (1, .ref a1), (2, .ref a2), (3, .int x3)] [] M (some (.int q.1)) q.2) (a0 : Nat) (a1 : Nat) (a2 : Nat) (x3 : Int32) (M : Mm) (hf : fL_law_b505 k18 a0 a1 a2 x3 M = some q) : AW l Γ yL_law cL_law 4 (ret) 46 t0 w0 505 [(0, .ref a0), (1, .ref a1), (2, .ref a2), (3, .int x3)] [] M (some (.int q.1)) q.2 := by
  unfold fL_law_b505 at hf
  refine a_aload_n dL_law_505 rfl 1 rfl ?_
  refine a_aload_n dL_law_506 rfl 0 rfl ?_
  refine a_iload_n dL_law_507 rfl 3 rfl ?_
  refine a_iconst (v := 1) dL_law_508 (by decide) ?_
  refine a_iadd dL_law_509 ?_
  obtain ⟨v1_, ev1_, hf⟩ := bnd hf
  refine a_iald dL_law_510 ev1_ ?_
  refine a_aload_n dL_law_511 rfl 0 rfl ?_
  refine a_iload_n dL_law_512 rfl 3 rfl ?_
  refine a_iconst (v := 2) dL_law_513 (by decide) ?_
  refine a_iadd dL_law_514 ?_
  obtain ⟨v2_, ev2_, hf⟩ := bnd hf
  refine a_iald dL_law_515 ev2_ ?_
  obtain ⟨q3_, eq3_, hf⟩ := bnd hf
  refine a_callV (As := [.int v1_, .int v2_]) (rest := []) dL_law_516 mfX8_says cvL_45 (wX8_says eq3_) rc8 (kX8_says eq3_) (by decide) rfl rfl (Nat.le_of_ble_eq_true rfl) ?_
  refine a_aload_n dL_law_519 rfl 2 rfl ?_
  refine a_aload_n dL_law_520 rfl 0 rfl ?_
  refine a_iload_n dL_law_521 rfl 3 rfl ?_
  refine a_iconst (v := 1) dL_law_522 (by decide) ?_
  refine a_iadd dL_law_523 ?_
  obtain ⟨v4_, ev4_, hf⟩ := bnd hf
  refine a_iald dL_law_524 ev4_ ?_
  refine a_aload_n dL_law_525 rfl 0 rfl ?_
  refine a_iload_n dL_law_526 rfl 3 rfl ?_
  refine a_iconst (v := 2) dL_law_527 (by decide) ?_
  refine a_iadd dL_law_528 ?_
  obtain ⟨v5_, ev5_, hf⟩ := bnd hf
  refine a_iald dL_law_529 ev5_ ?_
  obtain ⟨q6_, eq6_, hf⟩ := bnd hf
  refine a_callV (As := [.int v4_, .int v5_]) (rest := [.int q3_.1]) dL_law_530 mfX9_says cvL_48 (wX9_says eq6_) rc9 (kX9_says eq6_) (by decide) rfl rfl (Nat.le_of_ble_eq_true rfl) ?_
  refine a_icmp_eq dL_law_533 (tgt := 1705) (by decide) (fun c9 => ?_) (fun c9 => ?_)
  · replace hf := iteT hf c9
    refine a_iinc (v := x3 + (6 : Int32)) (lv1 := [(3, .int (x3 + (6 : Int32))), (0, .ref a0), (1, .ref a1), (2, .ref a2)]) dL_law_1705 3 rfl rfl (by decide) rfl ?_
    refine a_goto (tgt := 18) dL_law_1708 (by decide) ?_
    refine AW.sub (lv1 := [(0, .ref a0), (1, .ref a1), (2, .ref a2), (3, .int (x3 + (6 : Int32)))]) [1, 2, 3, 0] rfl ?_
    exact hk18 _ _ _ _ _ hf
  · replace hf := iteF hf c9
    refine a_iconst (v := 0) dL_law_536 (by decide) ?_
    have e9 := Option.some.inj hf
    subst e9
    exact a_zret rfl rfl dL_law_537 rfl
set_option maxHeartbeats 4000000 in
set_option maxRecDepth 100000 in
theorem wL_law_b538 {l : Launch} {Γ : Gx} {t0 w0 : Nat} {q : Int32 × Mm} (k18 : Nat → Nat → Nat → Int32 → Mm → Option (Int32 × Mm)) (hk18 : ∀ (a0 : Nat) (a1 : Nat) (a2 : Nat) (x3 : Int32) (M : Mm), k18 a0 a1 a2 x3 M = some q → AW l Γ yL_law cL_law 4 (ret) 46 t0 w0 18 [(0, .ref a0), (1, .ref a1), (2, .ref a2), (3, .int x3)] [] M (some (.int q.1)) q.2) (a0 : Nat) (a1 : Nat) (a2 : Nat) (x3 : Int32) (M : Mm) (hf : fL_law_b538 k18 a0 a1 a2 x3 M = some q) : AW l Γ yL_law cL_law 4 (ret) 46 t0 w0 538 [(0, .ref a0), (1, .ref a1), (2, .ref a2), (3, .int x3)] [] M (some (.int q.1)) q.2 := by
  unfold fL_law_b538 at hf
  refine a_aload_n dL_law_538 rfl 1 rfl ?_
  refine a_aload_n dL_law_539 rfl 0 rfl ?_
  refine a_iload_n dL_law_540 rfl 3 rfl ?_
  refine a_iconst (v := 1) dL_law_541 (by decide) ?_
  refine a_iadd dL_law_542 ?_
  obtain ⟨v1_, ev1_, hf⟩ := bnd hf
  refine a_iald dL_law_543 ev1_ ?_
  obtain ⟨q2_, eq2_, hf⟩ := bnd hf
  refine a_callV (As := [.int v1_]) (rest := []) dL_law_544 mfX8_street cvL_49 (wX8_street eq2_) rc8 (kX8_street eq2_) (by decide) rfl rfl (Nat.le_of_ble_eq_true rfl) ?_
  refine a_aload_n dL_law_547 rfl 2 rfl ?_
  refine a_aload_n dL_law_548 rfl 0 rfl ?_
  refine a_iload_n dL_law_549 rfl 3 rfl ?_
  refine a_iconst (v := 1) dL_law_550 (by decide) ?_
  refine a_iadd dL_law_551 ?_
  obtain ⟨v3_, ev3_, hf⟩ := bnd hf
  refine a_iald dL_law_552 ev3_ ?_
  obtain ⟨q4_, eq4_, hf⟩ := bnd hf
  refine a_callV (As := [.int v3_]) (rest := [.int q2_.1]) dL_law_553 mfX9_street cvL_52 (wX9_street eq4_) rc9 (kX9_street eq4_) (by decide) rfl rfl (Nat.le_of_ble_eq_true rfl) ?_
  refine a_icmp_eq dL_law_556 (tgt := 1705) (by decide) (fun c9 => ?_) (fun c9 => ?_)
  · replace hf := iteT hf c9
    refine a_iinc (v := x3 + (6 : Int32)) (lv1 := [(3, .int (x3 + (6 : Int32))), (0, .ref a0), (1, .ref a1), (2, .ref a2)]) dL_law_1705 3 rfl rfl (by decide) rfl ?_
    refine a_goto (tgt := 18) dL_law_1708 (by decide) ?_
    refine AW.sub (lv1 := [(0, .ref a0), (1, .ref a1), (2, .ref a2), (3, .int (x3 + (6 : Int32)))]) [1, 2, 3, 0] rfl ?_
    exact hk18 _ _ _ _ _ hf
  · replace hf := iteF hf c9
    refine a_iconst (v := 0) dL_law_559 (by decide) ?_
    have e9 := Option.some.inj hf
    subst e9
    exact a_zret rfl rfl dL_law_560 rfl
set_option maxHeartbeats 4000000 in
set_option maxRecDepth 100000 in
theorem wL_law_b561 {l : Launch} {Γ : Gx} {t0 w0 : Nat} {q : Int32 × Mm} (k18 : Nat → Nat → Nat → Int32 → Mm → Option (Int32 × Mm)) (hk18 : ∀ (a0 : Nat) (a1 : Nat) (a2 : Nat) (x3 : Int32) (M : Mm), k18 a0 a1 a2 x3 M = some q → AW l Γ yL_law cL_law 4 (ret) 46 t0 w0 18 [(0, .ref a0), (1, .ref a1), (2, .ref a2), (3, .int x3)] [] M (some (.int q.1)) q.2) (a0 : Nat) (a1 : Nat) (a2 : Nat) (x3 : Int32) (M : Mm) (hf : fL_law_b561 k18 a0 a1 a2 x3 M = some q) : AW l Γ yL_law cL_law 4 (ret) 46 t0 w0 561 [(0, .ref a0), (1, .ref a1), (2, .ref a2), (3, .int x3)] [] M (some (.int q.1)) q.2 := by
  unfold fL_law_b561 at hf
  refine a_aload_n dL_law_561 rfl 1 rfl ?_
  refine a_aload_n dL_law_562 rfl 0 rfl ?_
  refine a_iload_n dL_law_563 rfl 3 rfl ?_
  refine a_iconst (v := 1) dL_law_564 (by decide) ?_
  refine a_iadd dL_law_565 ?_
  obtain ⟨v1_, ev1_, hf⟩ := bnd hf
  refine a_iald dL_law_566 ev1_ ?_
  refine a_aload_n dL_law_567 rfl 0 rfl ?_
  refine a_iload_n dL_law_568 rfl 3 rfl ?_
  refine a_iconst (v := 2) dL_law_569 (by decide) ?_
  refine a_iadd dL_law_570 ?_
  obtain ⟨v2_, ev2_, hf⟩ := bnd hf
  refine a_iald dL_law_571 ev2_ ?_
  refine a_aload_n dL_law_572 rfl 0 rfl ?_
  refine a_iload_n dL_law_573 rfl 3 rfl ?_
  refine a_iconst (v := 3) dL_law_574 (by decide) ?_
  refine a_iadd dL_law_575 ?_
  obtain ⟨v3_, ev3_, hf⟩ := bnd hf
  refine a_iald dL_law_576 ev3_ ?_
  refine a_aload_n dL_law_577 rfl 0 rfl ?_
  refine a_iload_n dL_law_578 rfl 3 rfl ?_
  refine a_iconst (v := 4) dL_law_579 (by decide) ?_
  refine a_iadd dL_law_580 ?_
  obtain ⟨v4_, ev4_, hf⟩ := bnd hf
  refine a_iald dL_law_581 ev4_ ?_
  obtain ⟨q5_, eq5_, hf⟩ := bnd hf
  refine a_callV (As := [.int v1_, .int v2_, .int v3_, .int v4_]) (rest := []) dL_law_582 mfX8_sign cvL_53 (wX8_sign eq5_) rc8 (kX8_sign eq5_) (by decide) rfl rfl (Nat.le_of_ble_eq_true rfl) ?_
  refine a_aload_n dL_law_585 rfl 2 rfl ?_
  refine a_aload_n dL_law_586 rfl 0 rfl ?_
  refine a_iload_n dL_law_587 rfl 3 rfl ?_
  refine a_iconst (v := 1) dL_law_588 (by decide) ?_
  refine a_iadd dL_law_589 ?_
  obtain ⟨v6_, ev6_, hf⟩ := bnd hf
  refine a_iald dL_law_590 ev6_ ?_
  refine a_aload_n dL_law_591 rfl 0 rfl ?_
  refine a_iload_n dL_law_592 rfl 3 rfl ?_
  refine a_iconst (v := 2) dL_law_593 (by decide) ?_
  refine a_iadd dL_law_594 ?_
  obtain ⟨v7_, ev7_, hf⟩ := bnd hf
  refine a_iald dL_law_595 ev7_ ?_
  refine a_aload_n dL_law_596 rfl 0 rfl ?_
  refine a_iload_n dL_law_597 rfl 3 rfl ?_
  refine a_iconst (v := 3) dL_law_598 (by decide) ?_
  refine a_iadd dL_law_599 ?_
  obtain ⟨v8_, ev8_, hf⟩ := bnd hf
  refine a_iald dL_law_600 ev8_ ?_
  refine a_aload_n dL_law_601 rfl 0 rfl ?_
  refine a_iload_n dL_law_602 rfl 3 rfl ?_
  refine a_iconst (v := 4) dL_law_603 (by decide) ?_
  refine a_iadd dL_law_604 ?_
  obtain ⟨v9_, ev9_, hf⟩ := bnd hf
  refine a_iald dL_law_605 ev9_ ?_
  obtain ⟨q10_, eq10_, hf⟩ := bnd hf
  refine a_callV (As := [.int v6_, .int v7_, .int v8_, .int v9_]) (rest := [.int q5_.1]) dL_law_606 mfX9_sign cvL_57 (wX9_sign eq10_) rc9 (kX9_sign eq10_) (by decide) rfl rfl (Nat.le_of_ble_eq_true rfl) ?_
  refine a_icmp_eq dL_law_609 (tgt := 1705) (by decide) (fun c9 => ?_) (fun c9 => ?_)
  · replace hf := iteT hf c9
    refine a_iinc (v := x3 + (6 : Int32)) (lv1 := [(3, .int (x3 + (6 : Int32))), (0, .ref a0), (1, .ref a1), (2, .ref a2)]) dL_law_1705 3 rfl rfl (by decide) rfl ?_
    refine a_goto (tgt := 18) dL_law_1708 (by decide) ?_
    refine AW.sub (lv1 := [(0, .ref a0), (1, .ref a1), (2, .ref a2), (3, .int (x3 + (6 : Int32)))]) [1, 2, 3, 0] rfl ?_
    exact hk18 _ _ _ _ _ hf
  · replace hf := iteF hf c9
    refine a_iconst (v := 0) dL_law_612 (by decide) ?_
    have e9 := Option.some.inj hf
    subst e9
    exact a_zret rfl rfl dL_law_613 rfl
set_option maxHeartbeats 4000000 in
set_option maxRecDepth 100000 in
theorem wL_law_b660 {l : Launch} {Γ : Gx} {t0 w0 : Nat} {q : Int32 × Mm} (k18 : Nat → Nat → Nat → Int32 → Mm → Option (Int32 × Mm)) (hk18 : ∀ (a0 : Nat) (a1 : Nat) (a2 : Nat) (x3 : Int32) (M : Mm), k18 a0 a1 a2 x3 M = some q → AW l Γ yL_law cL_law 4 (ret) 46 t0 w0 18 [(0, .ref a0), (1, .ref a1), (2, .ref a2), (3, .int x3)] [] M (some (.int q.1)) q.2) (a0 : Nat) (a1 : Nat) (a2 : Nat) (x3 : Int32) (s0 : Int32) (s1 : Nat) (s2 : Int32) (s3 : Int32) (M : Mm) (hf : fL_law_b660 k18 a0 a1 a2 x3 s0 s1 s2 s3 M = some q) : AW l Γ yL_law cL_law 4 (ret) 46 t0 w0 660 [(0, .ref a0), (1, .ref a1), (2, .ref a2), (3, .int x3)] [.int s3, .int s2, .ref s1, .int s0] M (some (.int q.1)) q.2 := by
  unfold fL_law_b660 at hf
  refine a_aload_n dL_law_660 rfl 0 rfl ?_
  refine a_iload_n dL_law_661 rfl 3 rfl ?_
  refine a_iconst (v := 3) dL_law_662 (by decide) ?_
  refine a_iadd dL_law_663 ?_
  obtain ⟨v1_, ev1_, hf⟩ := bnd hf
  refine a_iald dL_law_664 ev1_ ?_
  obtain ⟨q2_, eq2_, hf⟩ := bnd hf
  refine a_callV (As := [.int s2, .int s3, .int v1_]) (rest := [.int s0]) dL_law_665 mfX9_thing cvL_62 (wX9_thing eq2_) rc9 (kX9_thing eq2_) (by decide) rfl rfl (Nat.le_of_ble_eq_true rfl) ?_
  refine a_icmp_eq dL_law_668 (tgt := 1705) (by decide) (fun c9 => ?_) (fun c9 => ?_)
  · replace hf := iteT hf c9
    refine a_iinc (v := x3 + (6 : Int32)) (lv1 := [(3, .int (x3 + (6 : Int32))), (0, .ref a0), (1, .ref a1), (2, .ref a2)]) dL_law_1705 3 rfl rfl (by decide) rfl ?_
    refine a_goto (tgt := 18) dL_law_1708 (by decide) ?_
    refine AW.sub (lv1 := [(0, .ref a0), (1, .ref a1), (2, .ref a2), (3, .int (x3 + (6 : Int32)))]) [1, 2, 3, 0] rfl ?_
    exact hk18 _ _ _ _ _ hf
  · replace hf := iteF hf c9
    refine a_iconst (v := 0) dL_law_671 (by decide) ?_
    have e9 := Option.some.inj hf
    subst e9
    exact a_zret rfl rfl dL_law_672 rfl
set_option maxHeartbeats 4000000 in
set_option maxRecDepth 100000 in
theorem wL_law_b633 {l : Launch} {Γ : Gx} {t0 w0 : Nat} {q : Int32 × Mm} (k18 : Nat → Nat → Nat → Int32 → Mm → Option (Int32 × Mm)) (hk18 : ∀ (a0 : Nat) (a1 : Nat) (a2 : Nat) (x3 : Int32) (M : Mm), k18 a0 a1 a2 x3 M = some q → AW l Γ yL_law cL_law 4 (ret) 46 t0 w0 18 [(0, .ref a0), (1, .ref a1), (2, .ref a2), (3, .int x3)] [] M (some (.int q.1)) q.2) (a0 : Nat) (a1 : Nat) (a2 : Nat) (x3 : Int32) (s0 : Nat) (s1 : Int32) (s2 : Int32) (M : Mm) (hf : fL_law_b633 k18 a0 a1 a2 x3 s0 s1 s2 M = some q) : AW l Γ yL_law cL_law 4 (ret) 46 t0 w0 633 [(0, .ref a0), (1, .ref a1), (2, .ref a2), (3, .int x3)] [.int s2, .int s1, .ref s0] M (some (.int q.1)) q.2 := by
  unfold fL_law_b633 at hf
  refine a_aload_n dL_law_633 rfl 0 rfl ?_
  refine a_iload_n dL_law_634 rfl 3 rfl ?_
  refine a_iconst (v := 3) dL_law_635 (by decide) ?_
  refine a_iadd dL_law_636 ?_
  obtain ⟨v1_, ev1_, hf⟩ := bnd hf
  refine a_iald dL_law_637 ev1_ ?_
  obtain ⟨q2_, eq2_, hf⟩ := bnd hf
  refine a_callV (As := [.int s1, .int s2, .int v1_]) (rest := []) dL_law_638 mfX8_thing cvL_58 (wX8_thing eq2_) rc8 (kX8_thing eq2_) (by decide) rfl rfl (Nat.le_of_ble_eq_true rfl) ?_
  refine a_aload_n dL_law_641 rfl 2 rfl ?_
  refine a_aload_n dL_law_642 rfl 0 rfl ?_
  refine a_iload_n dL_law_643 rfl 3 rfl ?_
  refine a_iconst (v := 1) dL_law_644 (by decide) ?_
  refine a_iadd dL_law_645 ?_
  obtain ⟨v3_, ev3_, hf⟩ := bnd hf
  refine a_iald dL_law_646 ev3_ ?_
  refine a_aload_n dL_law_647 rfl 0 rfl ?_
  refine a_iload_n dL_law_648 rfl 3 rfl ?_
  refine a_iconst (v := 2) dL_law_649 (by decide) ?_
  refine a_iadd dL_law_650 ?_
  obtain ⟨v4_, ev4_, hf⟩ := bnd hf
  refine a_iald dL_law_651 ev4_ ?_
  refine a_if_eq dL_law_652 (tgt := 659) (by decide) (fun c9 => ?_) (fun c9 => ?_)
  · replace hf := iteT hf c9
    refine a_iconst (v := 0) dL_law_659 (by decide) ?_
    exact wL_law_b660 _ hk18 _ _ _ _ _ _ _ _ _ hf
  · replace hf := iteF hf c9
    refine a_iconst (v := 1) dL_law_655 (by decide) ?_
    refine a_goto (tgt := 660) dL_law_656 (by decide) ?_
    exact wL_law_b660 _ hk18 _ _ _ _ _ _ _ _ _ hf
set_option maxHeartbeats 4000000 in
set_option maxRecDepth 100000 in
theorem wL_law_b614 {l : Launch} {Γ : Gx} {t0 w0 : Nat} {q : Int32 × Mm} (k18 : Nat → Nat → Nat → Int32 → Mm → Option (Int32 × Mm)) (hk18 : ∀ (a0 : Nat) (a1 : Nat) (a2 : Nat) (x3 : Int32) (M : Mm), k18 a0 a1 a2 x3 M = some q → AW l Γ yL_law cL_law 4 (ret) 46 t0 w0 18 [(0, .ref a0), (1, .ref a1), (2, .ref a2), (3, .int x3)] [] M (some (.int q.1)) q.2) (a0 : Nat) (a1 : Nat) (a2 : Nat) (x3 : Int32) (M : Mm) (hf : fL_law_b614 k18 a0 a1 a2 x3 M = some q) : AW l Γ yL_law cL_law 4 (ret) 46 t0 w0 614 [(0, .ref a0), (1, .ref a1), (2, .ref a2), (3, .int x3)] [] M (some (.int q.1)) q.2 := by
  unfold fL_law_b614 at hf
  refine a_aload_n dL_law_614 rfl 1 rfl ?_
  refine a_aload_n dL_law_615 rfl 0 rfl ?_
  refine a_iload_n dL_law_616 rfl 3 rfl ?_
  refine a_iconst (v := 1) dL_law_617 (by decide) ?_
  refine a_iadd dL_law_618 ?_
  obtain ⟨v1_, ev1_, hf⟩ := bnd hf
  refine a_iald dL_law_619 ev1_ ?_
  refine a_aload_n dL_law_620 rfl 0 rfl ?_
  refine a_iload_n dL_law_621 rfl 3 rfl ?_
  refine a_iconst (v := 2) dL_law_622 (by decide) ?_
  refine a_iadd dL_law_623 ?_
  obtain ⟨v2_, ev2_, hf⟩ := bnd hf
  refine a_iald dL_law_624 ev2_ ?_
  refine a_if_eq dL_law_625 (tgt := 632) (by decide) (fun c9 => ?_) (fun c9 => ?_)
  · replace hf := iteT hf c9
    refine a_iconst (v := 0) dL_law_632 (by decide) ?_
    exact wL_law_b633 _ hk18 _ _ _ _ _ _ _ _ hf
  · replace hf := iteF hf c9
    refine a_iconst (v := 1) dL_law_628 (by decide) ?_
    refine a_goto (tgt := 633) dL_law_629 (by decide) ?_
    exact wL_law_b633 _ hk18 _ _ _ _ _ _ _ _ hf
set_option maxHeartbeats 4000000 in
set_option maxRecDepth 100000 in
theorem wL_law_b673 {l : Launch} {Γ : Gx} {t0 w0 : Nat} {q : Int32 × Mm} (k18 : Nat → Nat → Nat → Int32 → Mm → Option (Int32 × Mm)) (hk18 : ∀ (a0 : Nat) (a1 : Nat) (a2 : Nat) (x3 : Int32) (M : Mm), k18 a0 a1 a2 x3 M = some q → AW l Γ yL_law cL_law 4 (ret) 46 t0 w0 18 [(0, .ref a0), (1, .ref a1), (2, .ref a2), (3, .int x3)] [] M (some (.int q.1)) q.2) (a0 : Nat) (a1 : Nat) (a2 : Nat) (x3 : Int32) (M : Mm) (hf : fL_law_b673 k18 a0 a1 a2 x3 M = some q) : AW l Γ yL_law cL_law 4 (ret) 46 t0 w0 673 [(0, .ref a0), (1, .ref a1), (2, .ref a2), (3, .int x3)] [] M (some (.int q.1)) q.2 := by
  unfold fL_law_b673 at hf
  refine a_aload_n dL_law_673 rfl 1 rfl ?_
  refine a_aload_n dL_law_674 rfl 0 rfl ?_
  refine a_iload_n dL_law_675 rfl 3 rfl ?_
  refine a_iconst (v := 1) dL_law_676 (by decide) ?_
  refine a_iadd dL_law_677 ?_
  obtain ⟨v1_, ev1_, hf⟩ := bnd hf
  refine a_iald dL_law_678 ev1_ ?_
  refine a_aload_n dL_law_679 rfl 0 rfl ?_
  refine a_iload_n dL_law_680 rfl 3 rfl ?_
  refine a_iconst (v := 2) dL_law_681 (by decide) ?_
  refine a_iadd dL_law_682 ?_
  obtain ⟨v2_, ev2_, hf⟩ := bnd hf
  refine a_iald dL_law_683 ev2_ ?_
  refine a_aload_n dL_law_684 rfl 0 rfl ?_
  refine a_iload_n dL_law_685 rfl 3 rfl ?_
  refine a_iconst (v := 3) dL_law_686 (by decide) ?_
  refine a_iadd dL_law_687 ?_
  obtain ⟨v3_, ev3_, hf⟩ := bnd hf
  refine a_iald dL_law_688 ev3_ ?_
  obtain ⟨q4_, eq4_, hf⟩ := bnd hf
  refine a_callV (As := [.int v1_, .int v2_, .int v3_]) (rest := []) dL_law_689 mfX8_things cvL_63 (wX8_things eq4_) rc8 (kX8_things eq4_) (by decide) rfl rfl (Nat.le_of_ble_eq_true rfl) ?_
  refine a_aload_n dL_law_692 rfl 2 rfl ?_
  refine a_aload_n dL_law_693 rfl 0 rfl ?_
  refine a_iload_n dL_law_694 rfl 3 rfl ?_
  refine a_iconst (v := 1) dL_law_695 (by decide) ?_
  refine a_iadd dL_law_696 ?_
  obtain ⟨v5_, ev5_, hf⟩ := bnd hf
  refine a_iald dL_law_697 ev5_ ?_
  refine a_aload_n dL_law_698 rfl 0 rfl ?_
  refine a_iload_n dL_law_699 rfl 3 rfl ?_
  refine a_iconst (v := 2) dL_law_700 (by decide) ?_
  refine a_iadd dL_law_701 ?_
  obtain ⟨v6_, ev6_, hf⟩ := bnd hf
  refine a_iald dL_law_702 ev6_ ?_
  refine a_aload_n dL_law_703 rfl 0 rfl ?_
  refine a_iload_n dL_law_704 rfl 3 rfl ?_
  refine a_iconst (v := 3) dL_law_705 (by decide) ?_
  refine a_iadd dL_law_706 ?_
  obtain ⟨v7_, ev7_, hf⟩ := bnd hf
  refine a_iald dL_law_707 ev7_ ?_
  obtain ⟨q8_, eq8_, hf⟩ := bnd hf
  refine a_callV (As := [.int v5_, .int v6_, .int v7_]) (rest := [.int q4_.1]) dL_law_708 mfX9_things cvL_66 (wX9_things eq8_) rc9 (kX9_things eq8_) (by decide) rfl rfl (Nat.le_of_ble_eq_true rfl) ?_
  refine a_icmp_eq dL_law_711 (tgt := 1705) (by decide) (fun c9 => ?_) (fun c9 => ?_)
  · replace hf := iteT hf c9
    refine a_iinc (v := x3 + (6 : Int32)) (lv1 := [(3, .int (x3 + (6 : Int32))), (0, .ref a0), (1, .ref a1), (2, .ref a2)]) dL_law_1705 3 rfl rfl (by decide) rfl ?_
    refine a_goto (tgt := 18) dL_law_1708 (by decide) ?_
    refine AW.sub (lv1 := [(0, .ref a0), (1, .ref a1), (2, .ref a2), (3, .int (x3 + (6 : Int32)))]) [1, 2, 3, 0] rfl ?_
    exact hk18 _ _ _ _ _ hf
  · replace hf := iteF hf c9
    refine a_iconst (v := 0) dL_law_714 (by decide) ?_
    have e9 := Option.some.inj hf
    subst e9
    exact a_zret rfl rfl dL_law_715 rfl
set_option maxHeartbeats 4000000 in
set_option maxRecDepth 100000 in
theorem wL_law_b716 {l : Launch} {Γ : Gx} {t0 w0 : Nat} {q : Int32 × Mm} (k18 : Nat → Nat → Nat → Int32 → Mm → Option (Int32 × Mm)) (hk18 : ∀ (a0 : Nat) (a1 : Nat) (a2 : Nat) (x3 : Int32) (M : Mm), k18 a0 a1 a2 x3 M = some q → AW l Γ yL_law cL_law 4 (ret) 46 t0 w0 18 [(0, .ref a0), (1, .ref a1), (2, .ref a2), (3, .int x3)] [] M (some (.int q.1)) q.2) (a0 : Nat) (a1 : Nat) (a2 : Nat) (x3 : Int32) (M : Mm) (hf : fL_law_b716 k18 a0 a1 a2 x3 M = some q) : AW l Γ yL_law cL_law 4 (ret) 46 t0 w0 716 [(0, .ref a0), (1, .ref a1), (2, .ref a2), (3, .int x3)] [] M (some (.int q.1)) q.2 := by
  unfold fL_law_b716 at hf
  refine a_aload_n dL_law_716 rfl 1 rfl ?_
  refine a_aload_n dL_law_717 rfl 0 rfl ?_
  refine a_iload_n dL_law_718 rfl 3 rfl ?_
  refine a_iconst (v := 1) dL_law_719 (by decide) ?_
  refine a_iadd dL_law_720 ?_
  obtain ⟨v1_, ev1_, hf⟩ := bnd hf
  refine a_iald dL_law_721 ev1_ ?_
  refine a_aload_n dL_law_722 rfl 0 rfl ?_
  refine a_iload_n dL_law_723 rfl 3 rfl ?_
  refine a_iconst (v := 2) dL_law_724 (by decide) ?_
  refine a_iadd dL_law_725 ?_
  obtain ⟨v2_, ev2_, hf⟩ := bnd hf
  refine a_iald dL_law_726 ev2_ ?_
  obtain ⟨q3_, eq3_, hf⟩ := bnd hf
  refine a_callV (As := [.int v1_, .int v2_]) (rest := []) dL_law_727 mfX8_wander cvL_67 (wX8_wander eq3_) rc8 (kX8_wander eq3_) (by decide) rfl rfl (Nat.le_of_ble_eq_true rfl) ?_
  refine a_aload_n dL_law_730 rfl 2 rfl ?_
  refine a_aload_n dL_law_731 rfl 0 rfl ?_
  refine a_iload_n dL_law_732 rfl 3 rfl ?_
  refine a_iconst (v := 1) dL_law_733 (by decide) ?_
  refine a_iadd dL_law_734 ?_
  obtain ⟨v4_, ev4_, hf⟩ := bnd hf
  refine a_iald dL_law_735 ev4_ ?_
  refine a_aload_n dL_law_736 rfl 0 rfl ?_
  refine a_iload_n dL_law_737 rfl 3 rfl ?_
  refine a_iconst (v := 2) dL_law_738 (by decide) ?_
  refine a_iadd dL_law_739 ?_
  obtain ⟨v5_, ev5_, hf⟩ := bnd hf
  refine a_iald dL_law_740 ev5_ ?_
  obtain ⟨q6_, eq6_, hf⟩ := bnd hf
  refine a_callV (As := [.int v4_, .int v5_]) (rest := [.int q3_.1]) dL_law_741 mfX9_wander cvL_70 (wX9_wander eq6_) rc9 (kX9_wander eq6_) (by decide) rfl rfl (Nat.le_of_ble_eq_true rfl) ?_
  refine a_icmp_eq dL_law_744 (tgt := 1705) (by decide) (fun c9 => ?_) (fun c9 => ?_)
  · replace hf := iteT hf c9
    refine a_iinc (v := x3 + (6 : Int32)) (lv1 := [(3, .int (x3 + (6 : Int32))), (0, .ref a0), (1, .ref a1), (2, .ref a2)]) dL_law_1705 3 rfl rfl (by decide) rfl ?_
    refine a_goto (tgt := 18) dL_law_1708 (by decide) ?_
    refine AW.sub (lv1 := [(0, .ref a0), (1, .ref a1), (2, .ref a2), (3, .int (x3 + (6 : Int32)))]) [1, 2, 3, 0] rfl ?_
    exact hk18 _ _ _ _ _ hf
  · replace hf := iteF hf c9
    refine a_iconst (v := 0) dL_law_747 (by decide) ?_
    have e9 := Option.some.inj hf
    subst e9
    exact a_zret rfl rfl dL_law_748 rfl
set_option maxHeartbeats 4000000 in
set_option maxRecDepth 100000 in
theorem wL_law_b749 {l : Launch} {Γ : Gx} {t0 w0 : Nat} {q : Int32 × Mm} (k18 : Nat → Nat → Nat → Int32 → Mm → Option (Int32 × Mm)) (hk18 : ∀ (a0 : Nat) (a1 : Nat) (a2 : Nat) (x3 : Int32) (M : Mm), k18 a0 a1 a2 x3 M = some q → AW l Γ yL_law cL_law 4 (ret) 46 t0 w0 18 [(0, .ref a0), (1, .ref a1), (2, .ref a2), (3, .int x3)] [] M (some (.int q.1)) q.2) (a0 : Nat) (a1 : Nat) (a2 : Nat) (x3 : Int32) (M : Mm) (hf : fL_law_b749 k18 a0 a1 a2 x3 M = some q) : AW l Γ yL_law cL_law 4 (ret) 46 t0 w0 749 [(0, .ref a0), (1, .ref a1), (2, .ref a2), (3, .int x3)] [] M (some (.int q.1)) q.2 := by
  unfold fL_law_b749 at hf
  refine a_aload_n dL_law_749 rfl 1 rfl ?_
  refine a_aload_n dL_law_750 rfl 0 rfl ?_
  refine a_iload_n dL_law_751 rfl 3 rfl ?_
  refine a_iconst (v := 1) dL_law_752 (by decide) ?_
  refine a_iadd dL_law_753 ?_
  obtain ⟨v1_, ev1_, hf⟩ := bnd hf
  refine a_iald dL_law_754 ev1_ ?_
  refine a_aload_n dL_law_755 rfl 0 rfl ?_
  refine a_iload_n dL_law_756 rfl 3 rfl ?_
  refine a_iconst (v := 2) dL_law_757 (by decide) ?_
  refine a_iadd dL_law_758 ?_
  obtain ⟨v2_, ev2_, hf⟩ := bnd hf
  refine a_iald dL_law_759 ev2_ ?_
  obtain ⟨q3_, eq3_, hf⟩ := bnd hf
  refine a_callV (As := [.int v1_, .int v2_]) (rest := []) dL_law_760 mfX8_ask cvL_71 (wX8_ask eq3_) rc8 (kX8_ask eq3_) (by decide) rfl rfl (Nat.le_of_ble_eq_true rfl) ?_
  refine a_aload_n dL_law_763 rfl 2 rfl ?_
  refine a_aload_n dL_law_764 rfl 0 rfl ?_
  refine a_iload_n dL_law_765 rfl 3 rfl ?_
  refine a_iconst (v := 1) dL_law_766 (by decide) ?_
  refine a_iadd dL_law_767 ?_
  obtain ⟨v4_, ev4_, hf⟩ := bnd hf
  refine a_iald dL_law_768 ev4_ ?_
  refine a_aload_n dL_law_769 rfl 0 rfl ?_
  refine a_iload_n dL_law_770 rfl 3 rfl ?_
  refine a_iconst (v := 2) dL_law_771 (by decide) ?_
  refine a_iadd dL_law_772 ?_
  obtain ⟨v5_, ev5_, hf⟩ := bnd hf
  refine a_iald dL_law_773 ev5_ ?_
  obtain ⟨q6_, eq6_, hf⟩ := bnd hf
  refine a_callV (As := [.int v4_, .int v5_]) (rest := [.int q3_.1]) dL_law_774 mfX9_ask cvL_74 (wX9_ask eq6_) rc9 (kX9_ask eq6_) (by decide) rfl rfl (Nat.le_of_ble_eq_true rfl) ?_
  refine a_icmp_eq dL_law_777 (tgt := 1705) (by decide) (fun c9 => ?_) (fun c9 => ?_)
  · replace hf := iteT hf c9
    refine a_iinc (v := x3 + (6 : Int32)) (lv1 := [(3, .int (x3 + (6 : Int32))), (0, .ref a0), (1, .ref a1), (2, .ref a2)]) dL_law_1705 3 rfl rfl (by decide) rfl ?_
    refine a_goto (tgt := 18) dL_law_1708 (by decide) ?_
    refine AW.sub (lv1 := [(0, .ref a0), (1, .ref a1), (2, .ref a2), (3, .int (x3 + (6 : Int32)))]) [1, 2, 3, 0] rfl ?_
    exact hk18 _ _ _ _ _ hf
  · replace hf := iteF hf c9
    refine a_iconst (v := 0) dL_law_780 (by decide) ?_
    have e9 := Option.some.inj hf
    subst e9
    exact a_zret rfl rfl dL_law_781 rfl
set_option maxHeartbeats 4000000 in
set_option maxRecDepth 100000 in
theorem wL_law_b782 {l : Launch} {Γ : Gx} {t0 w0 : Nat} {q : Int32 × Mm} (k18 : Nat → Nat → Nat → Int32 → Mm → Option (Int32 × Mm)) (hk18 : ∀ (a0 : Nat) (a1 : Nat) (a2 : Nat) (x3 : Int32) (M : Mm), k18 a0 a1 a2 x3 M = some q → AW l Γ yL_law cL_law 4 (ret) 46 t0 w0 18 [(0, .ref a0), (1, .ref a1), (2, .ref a2), (3, .int x3)] [] M (some (.int q.1)) q.2) (a0 : Nat) (a1 : Nat) (a2 : Nat) (x3 : Int32) (M : Mm) (hf : fL_law_b782 k18 a0 a1 a2 x3 M = some q) : AW l Γ yL_law cL_law 4 (ret) 46 t0 w0 782 [(0, .ref a0), (1, .ref a1), (2, .ref a2), (3, .int x3)] [] M (some (.int q.1)) q.2 := by
  unfold fL_law_b782 at hf
  refine a_aload_n dL_law_782 rfl 1 rfl ?_
  refine a_aload_n dL_law_783 rfl 0 rfl ?_
  refine a_iload_n dL_law_784 rfl 3 rfl ?_
  refine a_iconst (v := 1) dL_law_785 (by decide) ?_
  refine a_iadd dL_law_786 ?_
  obtain ⟨v1_, ev1_, hf⟩ := bnd hf
  refine a_iald dL_law_787 ev1_ ?_
  refine a_aload_n dL_law_788 rfl 0 rfl ?_
  refine a_iload_n dL_law_789 rfl 3 rfl ?_
  refine a_iconst (v := 2) dL_law_790 (by decide) ?_
  refine a_iadd dL_law_791 ?_
  obtain ⟨v2_, ev2_, hf⟩ := bnd hf
  refine a_iald dL_law_792 ev2_ ?_
  obtain ⟨q3_, eq3_, hf⟩ := bnd hf
  refine a_callV (As := [.int v1_, .int v2_]) (rest := []) dL_law_793 mfX8_signOf cvL_75 (wX8_signOf eq3_) rc8 (kX8_signOf eq3_) (by decide) rfl rfl (Nat.le_of_ble_eq_true rfl) ?_
  refine a_aload_n dL_law_796 rfl 2 rfl ?_
  refine a_aload_n dL_law_797 rfl 0 rfl ?_
  refine a_iload_n dL_law_798 rfl 3 rfl ?_
  refine a_iconst (v := 1) dL_law_799 (by decide) ?_
  refine a_iadd dL_law_800 ?_
  obtain ⟨v4_, ev4_, hf⟩ := bnd hf
  refine a_iald dL_law_801 ev4_ ?_
  refine a_aload_n dL_law_802 rfl 0 rfl ?_
  refine a_iload_n dL_law_803 rfl 3 rfl ?_
  refine a_iconst (v := 2) dL_law_804 (by decide) ?_
  refine a_iadd dL_law_805 ?_
  obtain ⟨v5_, ev5_, hf⟩ := bnd hf
  refine a_iald dL_law_806 ev5_ ?_
  obtain ⟨q6_, eq6_, hf⟩ := bnd hf
  refine a_callV (As := [.int v4_, .int v5_]) (rest := [.int q3_.1]) dL_law_807 mfX9_signOf cvL_78 (wX9_signOf eq6_) rc9 (kX9_signOf eq6_) (by decide) rfl rfl (Nat.le_of_ble_eq_true rfl) ?_
  refine a_icmp_eq dL_law_810 (tgt := 1705) (by decide) (fun c9 => ?_) (fun c9 => ?_)
  · replace hf := iteT hf c9
    refine a_iinc (v := x3 + (6 : Int32)) (lv1 := [(3, .int (x3 + (6 : Int32))), (0, .ref a0), (1, .ref a1), (2, .ref a2)]) dL_law_1705 3 rfl rfl (by decide) rfl ?_
    refine a_goto (tgt := 18) dL_law_1708 (by decide) ?_
    refine AW.sub (lv1 := [(0, .ref a0), (1, .ref a1), (2, .ref a2), (3, .int (x3 + (6 : Int32)))]) [1, 2, 3, 0] rfl ?_
    exact hk18 _ _ _ _ _ hf
  · replace hf := iteF hf c9
    refine a_iconst (v := 0) dL_law_813 (by decide) ?_
    have e9 := Option.some.inj hf
    subst e9
    exact a_zret rfl rfl dL_law_814 rfl
set_option maxHeartbeats 4000000 in
set_option maxRecDepth 100000 in
theorem wL_law_b815 {l : Launch} {Γ : Gx} {t0 w0 : Nat} {q : Int32 × Mm} (k18 : Nat → Nat → Nat → Int32 → Mm → Option (Int32 × Mm)) (hk18 : ∀ (a0 : Nat) (a1 : Nat) (a2 : Nat) (x3 : Int32) (M : Mm), k18 a0 a1 a2 x3 M = some q → AW l Γ yL_law cL_law 4 (ret) 46 t0 w0 18 [(0, .ref a0), (1, .ref a1), (2, .ref a2), (3, .int x3)] [] M (some (.int q.1)) q.2) (a0 : Nat) (a1 : Nat) (a2 : Nat) (x3 : Int32) (M : Mm) (hf : fL_law_b815 k18 a0 a1 a2 x3 M = some q) : AW l Γ yL_law cL_law 4 (ret) 46 t0 w0 815 [(0, .ref a0), (1, .ref a1), (2, .ref a2), (3, .int x3)] [] M (some (.int q.1)) q.2 := by
  unfold fL_law_b815 at hf
  refine a_aload_n dL_law_815 rfl 1 rfl ?_
  refine a_aload_n dL_law_816 rfl 0 rfl ?_
  refine a_iload_n dL_law_817 rfl 3 rfl ?_
  refine a_iconst (v := 1) dL_law_818 (by decide) ?_
  refine a_iadd dL_law_819 ?_
  obtain ⟨v1_, ev1_, hf⟩ := bnd hf
  refine a_iald dL_law_820 ev1_ ?_
  refine a_aload_n dL_law_821 rfl 0 rfl ?_
  refine a_iload_n dL_law_822 rfl 3 rfl ?_
  refine a_iconst (v := 2) dL_law_823 (by decide) ?_
  refine a_iadd dL_law_824 ?_
  obtain ⟨v2_, ev2_, hf⟩ := bnd hf
  refine a_iald dL_law_825 ev2_ ?_
  obtain ⟨q3_, eq3_, hf⟩ := bnd hf
  refine a_callV (As := [.int v1_, .int v2_]) (rest := []) dL_law_826 mfX8_thingOf cvL_79 (wX8_thingOf eq3_) rc8 (kX8_thingOf eq3_) (by decide) rfl rfl (Nat.le_of_ble_eq_true rfl) ?_
  refine a_aload_n dL_law_829 rfl 2 rfl ?_
  refine a_aload_n dL_law_830 rfl 0 rfl ?_
  refine a_iload_n dL_law_831 rfl 3 rfl ?_
  refine a_iconst (v := 1) dL_law_832 (by decide) ?_
  refine a_iadd dL_law_833 ?_
  obtain ⟨v4_, ev4_, hf⟩ := bnd hf
  refine a_iald dL_law_834 ev4_ ?_
  refine a_aload_n dL_law_835 rfl 0 rfl ?_
  refine a_iload_n dL_law_836 rfl 3 rfl ?_
  refine a_iconst (v := 2) dL_law_837 (by decide) ?_
  refine a_iadd dL_law_838 ?_
  obtain ⟨v5_, ev5_, hf⟩ := bnd hf
  refine a_iald dL_law_839 ev5_ ?_
  obtain ⟨q6_, eq6_, hf⟩ := bnd hf
  refine a_callV (As := [.int v4_, .int v5_]) (rest := [.int q3_.1]) dL_law_840 mfX9_thingOf cvL_82 (wX9_thingOf eq6_) rc9 (kX9_thingOf eq6_) (by decide) rfl rfl (Nat.le_of_ble_eq_true rfl) ?_
  refine a_icmp_eq dL_law_843 (tgt := 1705) (by decide) (fun c9 => ?_) (fun c9 => ?_)
  · replace hf := iteT hf c9
    refine a_iinc (v := x3 + (6 : Int32)) (lv1 := [(3, .int (x3 + (6 : Int32))), (0, .ref a0), (1, .ref a1), (2, .ref a2)]) dL_law_1705 3 rfl rfl (by decide) rfl ?_
    refine a_goto (tgt := 18) dL_law_1708 (by decide) ?_
    refine AW.sub (lv1 := [(0, .ref a0), (1, .ref a1), (2, .ref a2), (3, .int (x3 + (6 : Int32)))]) [1, 2, 3, 0] rfl ?_
    exact hk18 _ _ _ _ _ hf
  · replace hf := iteF hf c9
    refine a_iconst (v := 0) dL_law_846 (by decide) ?_
    have e9 := Option.some.inj hf
    subst e9
    exact a_zret rfl rfl dL_law_847 rfl
set_option maxHeartbeats 4000000 in
set_option maxRecDepth 100000 in
theorem wL_law_b848 {l : Launch} {Γ : Gx} {t0 w0 : Nat} {q : Int32 × Mm} (k18 : Nat → Nat → Nat → Int32 → Mm → Option (Int32 × Mm)) (hk18 : ∀ (a0 : Nat) (a1 : Nat) (a2 : Nat) (x3 : Int32) (M : Mm), k18 a0 a1 a2 x3 M = some q → AW l Γ yL_law cL_law 4 (ret) 46 t0 w0 18 [(0, .ref a0), (1, .ref a1), (2, .ref a2), (3, .int x3)] [] M (some (.int q.1)) q.2) (a0 : Nat) (a1 : Nat) (a2 : Nat) (x3 : Int32) (M : Mm) (hf : fL_law_b848 k18 a0 a1 a2 x3 M = some q) : AW l Γ yL_law cL_law 4 (ret) 46 t0 w0 848 [(0, .ref a0), (1, .ref a1), (2, .ref a2), (3, .int x3)] [] M (some (.int q.1)) q.2 := by
  unfold fL_law_b848 at hf
  refine a_aload_n dL_law_848 rfl 1 rfl ?_
  refine a_aload_n dL_law_849 rfl 0 rfl ?_
  refine a_iload_n dL_law_850 rfl 3 rfl ?_
  refine a_iconst (v := 1) dL_law_851 (by decide) ?_
  refine a_iadd dL_law_852 ?_
  obtain ⟨v1_, ev1_, hf⟩ := bnd hf
  refine a_iald dL_law_853 ev1_ ?_
  obtain ⟨q2_, eq2_, hf⟩ := bnd hf
  refine a_callV (As := [.int v1_]) (rest := []) dL_law_854 mfX8_clear cvL_83 (wX8_clear eq2_) rc8 (kX8_clear eq2_) (by decide) rfl rfl (Nat.le_of_ble_eq_true rfl) ?_
  refine a_aload_n dL_law_857 rfl 2 rfl ?_
  refine a_aload_n dL_law_858 rfl 0 rfl ?_
  refine a_iload_n dL_law_859 rfl 3 rfl ?_
  refine a_iconst (v := 1) dL_law_860 (by decide) ?_
  refine a_iadd dL_law_861 ?_
  obtain ⟨v3_, ev3_, hf⟩ := bnd hf
  refine a_iald dL_law_862 ev3_ ?_
  obtain ⟨q4_, eq4_, hf⟩ := bnd hf
  refine a_callV (As := [.int v3_]) (rest := [.int q2_.1]) dL_law_863 mfX9_clear cvL_86 (wX9_clear eq4_) rc9 (kX9_clear eq4_) (by decide) rfl rfl (Nat.le_of_ble_eq_true rfl) ?_
  refine a_icmp_eq dL_law_866 (tgt := 1705) (by decide) (fun c9 => ?_) (fun c9 => ?_)
  · replace hf := iteT hf c9
    refine a_iinc (v := x3 + (6 : Int32)) (lv1 := [(3, .int (x3 + (6 : Int32))), (0, .ref a0), (1, .ref a1), (2, .ref a2)]) dL_law_1705 3 rfl rfl (by decide) rfl ?_
    refine a_goto (tgt := 18) dL_law_1708 (by decide) ?_
    refine AW.sub (lv1 := [(0, .ref a0), (1, .ref a1), (2, .ref a2), (3, .int (x3 + (6 : Int32)))]) [1, 2, 3, 0] rfl ?_
    exact hk18 _ _ _ _ _ hf
  · replace hf := iteF hf c9
    refine a_iconst (v := 0) dL_law_869 (by decide) ?_
    have e9 := Option.some.inj hf
    subst e9
    exact a_zret rfl rfl dL_law_870 rfl
set_option maxHeartbeats 4000000 in
set_option maxRecDepth 100000 in
theorem wL_law_b871 {l : Launch} {Γ : Gx} {t0 w0 : Nat} {q : Int32 × Mm} (k18 : Nat → Nat → Nat → Int32 → Mm → Option (Int32 × Mm)) (hk18 : ∀ (a0 : Nat) (a1 : Nat) (a2 : Nat) (x3 : Int32) (M : Mm), k18 a0 a1 a2 x3 M = some q → AW l Γ yL_law cL_law 4 (ret) 46 t0 w0 18 [(0, .ref a0), (1, .ref a1), (2, .ref a2), (3, .int x3)] [] M (some (.int q.1)) q.2) (a0 : Nat) (a1 : Nat) (a2 : Nat) (x3 : Int32) (M : Mm) (hf : fL_law_b871 k18 a0 a1 a2 x3 M = some q) : AW l Γ yL_law cL_law 4 (ret) 46 t0 w0 871 [(0, .ref a0), (1, .ref a1), (2, .ref a2), (3, .int x3)] [] M (some (.int q.1)) q.2 := by
  unfold fL_law_b871 at hf
  refine a_aload_n dL_law_871 rfl 1 rfl ?_
  refine a_aload_n dL_law_872 rfl 0 rfl ?_
  refine a_iload_n dL_law_873 rfl 3 rfl ?_
  refine a_iconst (v := 1) dL_law_874 (by decide) ?_
  refine a_iadd dL_law_875 ?_
  obtain ⟨v1_, ev1_, hf⟩ := bnd hf
  refine a_iald dL_law_876 ev1_ ?_
  obtain ⟨q2_, eq2_, hf⟩ := bnd hf
  refine a_callV (As := [.int v1_]) (rest := []) dL_law_877 mfX8_town cvL_87 (wX8_town eq2_) rc8 (kX8_town eq2_) (by decide) rfl rfl (Nat.le_of_ble_eq_true rfl) ?_
  refine a_aload_n dL_law_880 rfl 2 rfl ?_
  refine a_aload_n dL_law_881 rfl 0 rfl ?_
  refine a_iload_n dL_law_882 rfl 3 rfl ?_
  refine a_iconst (v := 1) dL_law_883 (by decide) ?_
  refine a_iadd dL_law_884 ?_
  obtain ⟨v3_, ev3_, hf⟩ := bnd hf
  refine a_iald dL_law_885 ev3_ ?_
  obtain ⟨q4_, eq4_, hf⟩ := bnd hf
  refine a_callV (As := [.int v3_]) (rest := [.int q2_.1]) dL_law_886 mfX9_town cvL_90 (wX9_town eq4_) rc9 (kX9_town eq4_) (by decide) rfl rfl (Nat.le_of_ble_eq_true rfl) ?_
  refine a_icmp_eq dL_law_889 (tgt := 1705) (by decide) (fun c9 => ?_) (fun c9 => ?_)
  · replace hf := iteT hf c9
    refine a_iinc (v := x3 + (6 : Int32)) (lv1 := [(3, .int (x3 + (6 : Int32))), (0, .ref a0), (1, .ref a1), (2, .ref a2)]) dL_law_1705 3 rfl rfl (by decide) rfl ?_
    refine a_goto (tgt := 18) dL_law_1708 (by decide) ?_
    refine AW.sub (lv1 := [(0, .ref a0), (1, .ref a1), (2, .ref a2), (3, .int (x3 + (6 : Int32)))]) [1, 2, 3, 0] rfl ?_
    exact hk18 _ _ _ _ _ hf
  · replace hf := iteF hf c9
    refine a_iconst (v := 0) dL_law_892 (by decide) ?_
    have e9 := Option.some.inj hf
    subst e9
    exact a_zret rfl rfl dL_law_893 rfl
set_option maxHeartbeats 4000000 in
set_option maxRecDepth 100000 in
theorem wL_law_b894 {l : Launch} {Γ : Gx} {t0 w0 : Nat} {q : Int32 × Mm} (k18 : Nat → Nat → Nat → Int32 → Mm → Option (Int32 × Mm)) (hk18 : ∀ (a0 : Nat) (a1 : Nat) (a2 : Nat) (x3 : Int32) (M : Mm), k18 a0 a1 a2 x3 M = some q → AW l Γ yL_law cL_law 4 (ret) 46 t0 w0 18 [(0, .ref a0), (1, .ref a1), (2, .ref a2), (3, .int x3)] [] M (some (.int q.1)) q.2) (a0 : Nat) (a1 : Nat) (a2 : Nat) (x3 : Int32) (M : Mm) (hf : fL_law_b894 k18 a0 a1 a2 x3 M = some q) : AW l Γ yL_law cL_law 4 (ret) 46 t0 w0 894 [(0, .ref a0), (1, .ref a1), (2, .ref a2), (3, .int x3)] [] M (some (.int q.1)) q.2 := by
  unfold fL_law_b894 at hf
  refine a_aload_n dL_law_894 rfl 1 rfl ?_
  obtain ⟨q1_, eq1_, hf⟩ := bnd hf
  refine a_callV (As := []) (rest := []) dL_law_895 mfX8_fault cvL_91 (wX8_fault eq1_) rc8 (kX8_fault eq1_) (by decide) rfl rfl (Nat.le_of_ble_eq_true rfl) ?_
  refine a_aload_n dL_law_898 rfl 2 rfl ?_
  obtain ⟨q2_, eq2_, hf⟩ := bnd hf
  refine a_callV (As := []) (rest := [.int q1_.1]) dL_law_899 mfX9_fault cvL_95 (wX9_fault eq2_) rc9 (kX9_fault eq2_) (by decide) rfl rfl (Nat.le_of_ble_eq_true rfl) ?_
  refine a_icmp_eq dL_law_902 (tgt := 1705) (by decide) (fun c9 => ?_) (fun c9 => ?_)
  · replace hf := iteT hf c9
    refine a_iinc (v := x3 + (6 : Int32)) (lv1 := [(3, .int (x3 + (6 : Int32))), (0, .ref a0), (1, .ref a1), (2, .ref a2)]) dL_law_1705 3 rfl rfl (by decide) rfl ?_
    refine a_goto (tgt := 18) dL_law_1708 (by decide) ?_
    refine AW.sub (lv1 := [(0, .ref a0), (1, .ref a1), (2, .ref a2), (3, .int (x3 + (6 : Int32)))]) [1, 2, 3, 0] rfl ?_
    exact hk18 _ _ _ _ _ hf
  · replace hf := iteF hf c9
    refine a_iconst (v := 0) dL_law_905 (by decide) ?_
    have e9 := Option.some.inj hf
    subst e9
    exact a_zret rfl rfl dL_law_906 rfl
set_option maxHeartbeats 4000000 in
set_option maxRecDepth 100000 in
theorem wL_law_b907 {l : Launch} {Γ : Gx} {t0 w0 : Nat} {q : Int32 × Mm} (k18 : Nat → Nat → Nat → Int32 → Mm → Option (Int32 × Mm)) (hk18 : ∀ (a0 : Nat) (a1 : Nat) (a2 : Nat) (x3 : Int32) (M : Mm), k18 a0 a1 a2 x3 M = some q → AW l Γ yL_law cL_law 4 (ret) 46 t0 w0 18 [(0, .ref a0), (1, .ref a1), (2, .ref a2), (3, .int x3)] [] M (some (.int q.1)) q.2) (a0 : Nat) (a1 : Nat) (a2 : Nat) (x3 : Int32) (M : Mm) (hf : fL_law_b907 k18 a0 a1 a2 x3 M = some q) : AW l Γ yL_law cL_law 4 (ret) 46 t0 w0 907 [(0, .ref a0), (1, .ref a1), (2, .ref a2), (3, .int x3)] [] M (some (.int q.1)) q.2 := by
  unfold fL_law_b907 at hf
  refine a_aload_n dL_law_907 rfl 1 rfl ?_
  refine a_aload_n dL_law_908 rfl 0 rfl ?_
  refine a_iload_n dL_law_909 rfl 3 rfl ?_
  refine a_iconst (v := 1) dL_law_910 (by decide) ?_
  refine a_iadd dL_law_911 ?_
  obtain ⟨v1_, ev1_, hf⟩ := bnd hf
  refine a_iald dL_law_912 ev1_ ?_
  obtain ⟨q2_, eq2_, hf⟩ := bnd hf
  refine a_callV (As := [.int v1_]) (rest := []) dL_law_913 mfX8_lost cvL_96 (wX8_lost eq2_) rc8 (kX8_lost eq2_) (by decide) rfl rfl (Nat.le_of_ble_eq_true rfl) ?_
  refine a_aload_n dL_law_916 rfl 2 rfl ?_
  refine a_aload_n dL_law_917 rfl 0 rfl ?_
  refine a_iload_n dL_law_918 rfl 3 rfl ?_
  refine a_iconst (v := 1) dL_law_919 (by decide) ?_
  refine a_iadd dL_law_920 ?_
  obtain ⟨v3_, ev3_, hf⟩ := bnd hf
  refine a_iald dL_law_921 ev3_ ?_
  obtain ⟨q4_, eq4_, hf⟩ := bnd hf
  refine a_callV (As := [.int v3_]) (rest := [.int q2_.1]) dL_law_922 mfX9_lost cvL_99 (wX9_lost eq4_) rc9 (kX9_lost eq4_) (by decide) rfl rfl (Nat.le_of_ble_eq_true rfl) ?_
  refine a_icmp_eq dL_law_925 (tgt := 1705) (by decide) (fun c9 => ?_) (fun c9 => ?_)
  · replace hf := iteT hf c9
    refine a_iinc (v := x3 + (6 : Int32)) (lv1 := [(3, .int (x3 + (6 : Int32))), (0, .ref a0), (1, .ref a1), (2, .ref a2)]) dL_law_1705 3 rfl rfl (by decide) rfl ?_
    refine a_goto (tgt := 18) dL_law_1708 (by decide) ?_
    refine AW.sub (lv1 := [(0, .ref a0), (1, .ref a1), (2, .ref a2), (3, .int (x3 + (6 : Int32)))]) [1, 2, 3, 0] rfl ?_
    exact hk18 _ _ _ _ _ hf
  · replace hf := iteF hf c9
    refine a_iconst (v := 0) dL_law_928 (by decide) ?_
    have e9 := Option.some.inj hf
    subst e9
    exact a_zret rfl rfl dL_law_929 rfl
set_option maxHeartbeats 4000000 in
set_option maxRecDepth 100000 in
theorem wL_law_b930 {l : Launch} {Γ : Gx} {t0 w0 : Nat} {q : Int32 × Mm} (k18 : Nat → Nat → Nat → Int32 → Mm → Option (Int32 × Mm)) (hk18 : ∀ (a0 : Nat) (a1 : Nat) (a2 : Nat) (x3 : Int32) (M : Mm), k18 a0 a1 a2 x3 M = some q → AW l Γ yL_law cL_law 4 (ret) 46 t0 w0 18 [(0, .ref a0), (1, .ref a1), (2, .ref a2), (3, .int x3)] [] M (some (.int q.1)) q.2) (a0 : Nat) (a1 : Nat) (a2 : Nat) (x3 : Int32) (M : Mm) (hf : fL_law_b930 k18 a0 a1 a2 x3 M = some q) : AW l Γ yL_law cL_law 4 (ret) 46 t0 w0 930 [(0, .ref a0), (1, .ref a1), (2, .ref a2), (3, .int x3)] [] M (some (.int q.1)) q.2 := by
  unfold fL_law_b930 at hf
  refine a_aload_n dL_law_930 rfl 1 rfl ?_
  refine a_aload_n dL_law_931 rfl 0 rfl ?_
  refine a_iload_n dL_law_932 rfl 3 rfl ?_
  refine a_iconst (v := 1) dL_law_933 (by decide) ?_
  refine a_iadd dL_law_934 ?_
  obtain ⟨v1_, ev1_, hf⟩ := bnd hf
  refine a_iald dL_law_935 ev1_ ?_
  obtain ⟨q2_, eq2_, hf⟩ := bnd hf
  refine a_callV (As := [.int v1_]) (rest := []) dL_law_936 mfX8_odds cvL_100 (wX8_odds eq2_) rc8 (kX8_odds eq2_) (by decide) rfl rfl (Nat.le_of_ble_eq_true rfl) ?_
  refine a_aload_n dL_law_939 rfl 2 rfl ?_
  refine a_aload_n dL_law_940 rfl 0 rfl ?_
  refine a_iload_n dL_law_941 rfl 3 rfl ?_
  refine a_iconst (v := 1) dL_law_942 (by decide) ?_
  refine a_iadd dL_law_943 ?_
  obtain ⟨v3_, ev3_, hf⟩ := bnd hf
  refine a_iald dL_law_944 ev3_ ?_
  obtain ⟨q4_, eq4_, hf⟩ := bnd hf
  refine a_callV (As := [.int v3_]) (rest := [.long q2_.1]) dL_law_945 mfX9_odds cvL_104 (wX9_odds eq4_) rc9 (kX9_odds eq4_) (by decide) rfl rfl (Nat.le_of_ble_eq_true rfl) ?_
  refine a_lcmp_eq dL_law_948 dL_law_949 (tgt := 1705) (by decide) (fun c9 => ?_) (fun c9 => ?_)
  · replace hf := iteT hf c9
    refine a_iinc (v := x3 + (6 : Int32)) (lv1 := [(3, .int (x3 + (6 : Int32))), (0, .ref a0), (1, .ref a1), (2, .ref a2)]) dL_law_1705 3 rfl rfl (by decide) rfl ?_
    refine a_goto (tgt := 18) dL_law_1708 (by decide) ?_
    refine AW.sub (lv1 := [(0, .ref a0), (1, .ref a1), (2, .ref a2), (3, .int (x3 + (6 : Int32)))]) [1, 2, 3, 0] rfl ?_
    exact hk18 _ _ _ _ _ hf
  · replace hf := iteF hf c9
    refine a_iconst (v := 0) dL_law_952 (by decide) ?_
    have e9 := Option.some.inj hf
    subst e9
    exact a_zret rfl rfl dL_law_953 rfl
set_option maxHeartbeats 4000000 in
set_option maxRecDepth 100000 in
theorem wL_law_b954 {l : Launch} {Γ : Gx} {t0 w0 : Nat} {q : Int32 × Mm} (k18 : Nat → Nat → Nat → Int32 → Mm → Option (Int32 × Mm)) (hk18 : ∀ (a0 : Nat) (a1 : Nat) (a2 : Nat) (x3 : Int32) (M : Mm), k18 a0 a1 a2 x3 M = some q → AW l Γ yL_law cL_law 4 (ret) 46 t0 w0 18 [(0, .ref a0), (1, .ref a1), (2, .ref a2), (3, .int x3)] [] M (some (.int q.1)) q.2) (a0 : Nat) (a1 : Nat) (a2 : Nat) (x3 : Int32) (M : Mm) (hf : fL_law_b954 k18 a0 a1 a2 x3 M = some q) : AW l Γ yL_law cL_law 4 (ret) 46 t0 w0 954 [(0, .ref a0), (1, .ref a1), (2, .ref a2), (3, .int x3)] [] M (some (.int q.1)) q.2 := by
  unfold fL_law_b954 at hf
  refine a_aload_n dL_law_954 rfl 1 rfl ?_
  refine a_aload_n dL_law_955 rfl 0 rfl ?_
  refine a_iload_n dL_law_956 rfl 3 rfl ?_
  refine a_iconst (v := 1) dL_law_957 (by decide) ?_
  refine a_iadd dL_law_958 ?_
  obtain ⟨v1_, ev1_, hf⟩ := bnd hf
  refine a_iald dL_law_959 ev1_ ?_
  refine a_aload_n dL_law_960 rfl 0 rfl ?_
  refine a_iload_n dL_law_961 rfl 3 rfl ?_
  refine a_iconst (v := 2) dL_law_962 (by decide) ?_
  refine a_iadd dL_law_963 ?_
  obtain ⟨v2_, ev2_, hf⟩ := bnd hf
  refine a_iald dL_law_964 ev2_ ?_
  obtain ⟨q3_, eq3_, hf⟩ := bnd hf
  refine a_callV (As := [.int v1_, .int v2_]) (rest := []) dL_law_965 mfX8_strength cvL_105 (wX8_strength eq3_) rc8 (kX8_strength eq3_) (by decide) rfl rfl (Nat.le_of_ble_eq_true rfl) ?_
  refine a_aload_n dL_law_968 rfl 2 rfl ?_
  refine a_aload_n dL_law_969 rfl 0 rfl ?_
  refine a_iload_n dL_law_970 rfl 3 rfl ?_
  refine a_iconst (v := 1) dL_law_971 (by decide) ?_
  refine a_iadd dL_law_972 ?_
  obtain ⟨v4_, ev4_, hf⟩ := bnd hf
  refine a_iald dL_law_973 ev4_ ?_
  refine a_aload_n dL_law_974 rfl 0 rfl ?_
  refine a_iload_n dL_law_975 rfl 3 rfl ?_
  refine a_iconst (v := 2) dL_law_976 (by decide) ?_
  refine a_iadd dL_law_977 ?_
  obtain ⟨v5_, ev5_, hf⟩ := bnd hf
  refine a_iald dL_law_978 ev5_ ?_
  obtain ⟨q6_, eq6_, hf⟩ := bnd hf
  refine a_callV (As := [.int v4_, .int v5_]) (rest := [.int q3_.1]) dL_law_979 mfX9_strength cvL_108 (wX9_strength eq6_) rc9 (kX9_strength eq6_) (by decide) rfl rfl (Nat.le_of_ble_eq_true rfl) ?_
  refine a_icmp_eq dL_law_982 (tgt := 1705) (by decide) (fun c9 => ?_) (fun c9 => ?_)
  · replace hf := iteT hf c9
    refine a_iinc (v := x3 + (6 : Int32)) (lv1 := [(3, .int (x3 + (6 : Int32))), (0, .ref a0), (1, .ref a1), (2, .ref a2)]) dL_law_1705 3 rfl rfl (by decide) rfl ?_
    refine a_goto (tgt := 18) dL_law_1708 (by decide) ?_
    refine AW.sub (lv1 := [(0, .ref a0), (1, .ref a1), (2, .ref a2), (3, .int (x3 + (6 : Int32)))]) [1, 2, 3, 0] rfl ?_
    exact hk18 _ _ _ _ _ hf
  · replace hf := iteF hf c9
    refine a_iconst (v := 0) dL_law_985 (by decide) ?_
    have e9 := Option.some.inj hf
    subst e9
    exact a_zret rfl rfl dL_law_986 rfl
set_option maxHeartbeats 4000000 in
set_option maxRecDepth 100000 in
theorem wL_law_b1018 {l : Launch} {Γ : Gx} {t0 w0 : Nat} {q : Int32 × Mm} (k18 : Nat → Nat → Nat → Int32 → Mm → Option (Int32 × Mm)) (hk18 : ∀ (a0 : Nat) (a1 : Nat) (a2 : Nat) (x3 : Int32) (M : Mm), k18 a0 a1 a2 x3 M = some q → AW l Γ yL_law cL_law 4 (ret) 46 t0 w0 18 [(0, .ref a0), (1, .ref a1), (2, .ref a2), (3, .int x3)] [] M (some (.int q.1)) q.2) (a0 : Nat) (a1 : Nat) (a2 : Nat) (x3 : Int32) (s0 : Int32) (s1 : Nat) (s2 : Int32) (M : Mm) (hf : fL_law_b1018 k18 a0 a1 a2 x3 s0 s1 s2 M = some q) : AW l Γ yL_law cL_law 4 (ret) 46 t0 w0 1018 [(0, .ref a0), (1, .ref a1), (2, .ref a2), (3, .int x3)] [.int s2, .ref s1, .int s0] M (some (.int q.1)) q.2 := by
  unfold fL_law_b1018 at hf
  obtain ⟨q1_, eq1_, hf⟩ := bnd hf
  refine a_callV (As := [.int s2]) (rest := [.int s0]) dL_law_1018 mfX9_step cvL_113 (wX9_step eq1_) rc9 (kX9_step eq1_) (by decide) rfl rfl (Nat.le_of_ble_eq_true rfl) ?_
  refine a_icmp_eq dL_law_1021 (tgt := 1705) (by decide) (fun c9 => ?_) (fun c9 => ?_)
  · replace hf := iteT hf c9
    refine a_iinc (v := x3 + (6 : Int32)) (lv1 := [(3, .int (x3 + (6 : Int32))), (0, .ref a0), (1, .ref a1), (2, .ref a2)]) dL_law_1705 3 rfl rfl (by decide) rfl ?_
    refine a_goto (tgt := 18) dL_law_1708 (by decide) ?_
    refine AW.sub (lv1 := [(0, .ref a0), (1, .ref a1), (2, .ref a2), (3, .int (x3 + (6 : Int32)))]) [1, 2, 3, 0] rfl ?_
    exact hk18 _ _ _ _ _ hf
  · replace hf := iteF hf c9
    refine a_iconst (v := 0) dL_law_1024 (by decide) ?_
    have e9 := Option.some.inj hf
    subst e9
    exact a_zret rfl rfl dL_law_1025 rfl
set_option maxHeartbeats 4000000 in
set_option maxRecDepth 100000 in
theorem wL_law_b1001 {l : Launch} {Γ : Gx} {t0 w0 : Nat} {q : Int32 × Mm} (k18 : Nat → Nat → Nat → Int32 → Mm → Option (Int32 × Mm)) (hk18 : ∀ (a0 : Nat) (a1 : Nat) (a2 : Nat) (x3 : Int32) (M : Mm), k18 a0 a1 a2 x3 M = some q → AW l Γ yL_law cL_law 4 (ret) 46 t0 w0 18 [(0, .ref a0), (1, .ref a1), (2, .ref a2), (3, .int x3)] [] M (some (.int q.1)) q.2) (a0 : Nat) (a1 : Nat) (a2 : Nat) (x3 : Int32) (s0 : Nat) (s1 : Int32) (M : Mm) (hf : fL_law_b1001 k18 a0 a1 a2 x3 s0 s1 M = some q) : AW l Γ yL_law cL_law 4 (ret) 46 t0 w0 1001 [(0, .ref a0), (1, .ref a1), (2, .ref a2), (3, .int x3)] [.int s1, .ref s0] M (some (.int q.1)) q.2 := by
  unfold fL_law_b1001 at hf
  obtain ⟨q1_, eq1_, hf⟩ := bnd hf
  refine a_callV (As := [.int s1]) (rest := []) dL_law_1001 mfX8_step cvL_109 (wX8_step eq1_) rc8 (kX8_step eq1_) (by decide) rfl rfl (Nat.le_of_ble_eq_true rfl) ?_
  refine a_aload_n dL_law_1004 rfl 2 rfl ?_
  refine a_aload_n dL_law_1005 rfl 0 rfl ?_
  refine a_iload_n dL_law_1006 rfl 3 rfl ?_
  refine a_iconst (v := 1) dL_law_1007 (by decide) ?_
  refine a_iadd dL_law_1008 ?_
  obtain ⟨v2_, ev2_, hf⟩ := bnd hf
  refine a_iald dL_law_1009 ev2_ ?_
  refine a_if_eq dL_law_1010 (tgt := 1017) (by decide) (fun c9 => ?_) (fun c9 => ?_)
  · replace hf := iteT hf c9
    refine a_iconst (v := 0) dL_law_1017 (by decide) ?_
    exact wL_law_b1018 _ hk18 _ _ _ _ _ _ _ _ hf
  · replace hf := iteF hf c9
    refine a_iconst (v := 1) dL_law_1013 (by decide) ?_
    refine a_goto (tgt := 1018) dL_law_1014 (by decide) ?_
    exact wL_law_b1018 _ hk18 _ _ _ _ _ _ _ _ hf
set_option maxHeartbeats 4000000 in
set_option maxRecDepth 100000 in
theorem wL_law_b987 {l : Launch} {Γ : Gx} {t0 w0 : Nat} {q : Int32 × Mm} (k18 : Nat → Nat → Nat → Int32 → Mm → Option (Int32 × Mm)) (hk18 : ∀ (a0 : Nat) (a1 : Nat) (a2 : Nat) (x3 : Int32) (M : Mm), k18 a0 a1 a2 x3 M = some q → AW l Γ yL_law cL_law 4 (ret) 46 t0 w0 18 [(0, .ref a0), (1, .ref a1), (2, .ref a2), (3, .int x3)] [] M (some (.int q.1)) q.2) (a0 : Nat) (a1 : Nat) (a2 : Nat) (x3 : Int32) (M : Mm) (hf : fL_law_b987 k18 a0 a1 a2 x3 M = some q) : AW l Γ yL_law cL_law 4 (ret) 46 t0 w0 987 [(0, .ref a0), (1, .ref a1), (2, .ref a2), (3, .int x3)] [] M (some (.int q.1)) q.2 := by
  unfold fL_law_b987 at hf
  refine a_aload_n dL_law_987 rfl 1 rfl ?_
  refine a_aload_n dL_law_988 rfl 0 rfl ?_
  refine a_iload_n dL_law_989 rfl 3 rfl ?_
  refine a_iconst (v := 1) dL_law_990 (by decide) ?_
  refine a_iadd dL_law_991 ?_
  obtain ⟨v1_, ev1_, hf⟩ := bnd hf
  refine a_iald dL_law_992 ev1_ ?_
  refine a_if_eq dL_law_993 (tgt := 1000) (by decide) (fun c9 => ?_) (fun c9 => ?_)
  · replace hf := iteT hf c9
    refine a_iconst (v := 0) dL_law_1000 (by decide) ?_
    exact wL_law_b1001 _ hk18 _ _ _ _ _ _ _ hf
  · replace hf := iteF hf c9
    refine a_iconst (v := 1) dL_law_996 (by decide) ?_
    refine a_goto (tgt := 1001) dL_law_997 (by decide) ?_
    exact wL_law_b1001 _ hk18 _ _ _ _ _ _ _ hf
set_option maxHeartbeats 4000000 in
set_option maxRecDepth 100000 in
theorem wL_law_b1067 {l : Launch} {Γ : Gx} {t0 w0 : Nat} {q : Int32 × Mm} (k18 : Nat → Nat → Nat → Int32 → Mm → Option (Int32 × Mm)) (hk18 : ∀ (a0 : Nat) (a1 : Nat) (a2 : Nat) (x3 : Int32) (M : Mm), k18 a0 a1 a2 x3 M = some q → AW l Γ yL_law cL_law 4 (ret) 46 t0 w0 18 [(0, .ref a0), (1, .ref a1), (2, .ref a2), (3, .int x3)] [] M (some (.int q.1)) q.2) (a0 : Nat) (a1 : Nat) (a2 : Nat) (x3 : Int32) (s0 : Int32) (s1 : Nat) (s2 : Int32) (s3 : Int32) (M : Mm) (hf : fL_law_b1067 k18 a0 a1 a2 x3 s0 s1 s2 s3 M = some q) : AW l Γ yL_law cL_law 4 (ret) 46 t0 w0 1067 [(0, .ref a0), (1, .ref a1), (2, .ref a2), (3, .int x3)] [.int s3, .int s2, .ref s1, .int s0] M (some (.int q.1)) q.2 := by
  unfold fL_law_b1067 at hf
  obtain ⟨q1_, eq1_, hf⟩ := bnd hf
  refine a_callV (As := [.int s2, .int s3]) (rest := [.int s0]) dL_law_1067 mfX9_feel cvL_118 (wX9_feel eq1_) rc9 (kX9_feel eq1_) (by decide) rfl rfl (Nat.le_of_ble_eq_true rfl) ?_
  refine a_icmp_eq dL_law_1070 (tgt := 1705) (by decide) (fun c9 => ?_) (fun c9 => ?_)
  · replace hf := iteT hf c9
    refine a_iinc (v := x3 + (6 : Int32)) (lv1 := [(3, .int (x3 + (6 : Int32))), (0, .ref a0), (1, .ref a1), (2, .ref a2)]) dL_law_1705 3 rfl rfl (by decide) rfl ?_
    refine a_goto (tgt := 18) dL_law_1708 (by decide) ?_
    refine AW.sub (lv1 := [(0, .ref a0), (1, .ref a1), (2, .ref a2), (3, .int (x3 + (6 : Int32)))]) [1, 2, 3, 0] rfl ?_
    exact hk18 _ _ _ _ _ hf
  · replace hf := iteF hf c9
    refine a_iconst (v := 0) dL_law_1073 (by decide) ?_
    have e9 := Option.some.inj hf
    subst e9
    exact a_zret rfl rfl dL_law_1074 rfl
set_option maxHeartbeats 4000000 in
set_option maxRecDepth 100000 in
theorem wL_law_b1045 {l : Launch} {Γ : Gx} {t0 w0 : Nat} {q : Int32 × Mm} (k18 : Nat → Nat → Nat → Int32 → Mm → Option (Int32 × Mm)) (hk18 : ∀ (a0 : Nat) (a1 : Nat) (a2 : Nat) (x3 : Int32) (M : Mm), k18 a0 a1 a2 x3 M = some q → AW l Γ yL_law cL_law 4 (ret) 46 t0 w0 18 [(0, .ref a0), (1, .ref a1), (2, .ref a2), (3, .int x3)] [] M (some (.int q.1)) q.2) (a0 : Nat) (a1 : Nat) (a2 : Nat) (x3 : Int32) (s0 : Nat) (s1 : Int32) (s2 : Int32) (M : Mm) (hf : fL_law_b1045 k18 a0 a1 a2 x3 s0 s1 s2 M = some q) : AW l Γ yL_law cL_law 4 (ret) 46 t0 w0 1045 [(0, .ref a0), (1, .ref a1), (2, .ref a2), (3, .int x3)] [.int s2, .int s1, .ref s0] M (some (.int q.1)) q.2 := by
  unfold fL_law_b1045 at hf
  obtain ⟨q1_, eq1_, hf⟩ := bnd hf
  refine a_callV (As := [.int s1, .int s2]) (rest := []) dL_law_1045 mfX8_feel cvL_114 (wX8_feel eq1_) rc8 (kX8_feel eq1_) (by decide) rfl rfl (Nat.le_of_ble_eq_true rfl) ?_
  refine a_aload_n dL_law_1048 rfl 2 rfl ?_
  refine a_aload_n dL_law_1049 rfl 0 rfl ?_
  refine a_iload_n dL_law_1050 rfl 3 rfl ?_
  refine a_iconst (v := 1) dL_law_1051 (by decide) ?_
  refine a_iadd dL_law_1052 ?_
  obtain ⟨v2_, ev2_, hf⟩ := bnd hf
  refine a_iald dL_law_1053 ev2_ ?_
  refine a_aload_n dL_law_1054 rfl 0 rfl ?_
  refine a_iload_n dL_law_1055 rfl 3 rfl ?_
  refine a_iconst (v := 2) dL_law_1056 (by decide) ?_
  refine a_iadd dL_law_1057 ?_
  obtain ⟨v3_, ev3_, hf⟩ := bnd hf
  refine a_iald dL_law_1058 ev3_ ?_
  refine a_if_eq dL_law_1059 (tgt := 1066) (by decide) (fun c9 => ?_) (fun c9 => ?_)
  · replace hf := iteT hf c9
    refine a_iconst (v := 0) dL_law_1066 (by decide) ?_
    exact wL_law_b1067 _ hk18 _ _ _ _ _ _ _ _ _ hf
  · replace hf := iteF hf c9
    refine a_iconst (v := 1) dL_law_1062 (by decide) ?_
    refine a_goto (tgt := 1067) dL_law_1063 (by decide) ?_
    exact wL_law_b1067 _ hk18 _ _ _ _ _ _ _ _ _ hf
set_option maxHeartbeats 4000000 in
set_option maxRecDepth 100000 in
theorem wL_law_b1026 {l : Launch} {Γ : Gx} {t0 w0 : Nat} {q : Int32 × Mm} (k18 : Nat → Nat → Nat → Int32 → Mm → Option (Int32 × Mm)) (hk18 : ∀ (a0 : Nat) (a1 : Nat) (a2 : Nat) (x3 : Int32) (M : Mm), k18 a0 a1 a2 x3 M = some q → AW l Γ yL_law cL_law 4 (ret) 46 t0 w0 18 [(0, .ref a0), (1, .ref a1), (2, .ref a2), (3, .int x3)] [] M (some (.int q.1)) q.2) (a0 : Nat) (a1 : Nat) (a2 : Nat) (x3 : Int32) (M : Mm) (hf : fL_law_b1026 k18 a0 a1 a2 x3 M = some q) : AW l Γ yL_law cL_law 4 (ret) 46 t0 w0 1026 [(0, .ref a0), (1, .ref a1), (2, .ref a2), (3, .int x3)] [] M (some (.int q.1)) q.2 := by
  unfold fL_law_b1026 at hf
  refine a_aload_n dL_law_1026 rfl 1 rfl ?_
  refine a_aload_n dL_law_1027 rfl 0 rfl ?_
  refine a_iload_n dL_law_1028 rfl 3 rfl ?_
  refine a_iconst (v := 1) dL_law_1029 (by decide) ?_
  refine a_iadd dL_law_1030 ?_
  obtain ⟨v1_, ev1_, hf⟩ := bnd hf
  refine a_iald dL_law_1031 ev1_ ?_
  refine a_aload_n dL_law_1032 rfl 0 rfl ?_
  refine a_iload_n dL_law_1033 rfl 3 rfl ?_
  refine a_iconst (v := 2) dL_law_1034 (by decide) ?_
  refine a_iadd dL_law_1035 ?_
  obtain ⟨v2_, ev2_, hf⟩ := bnd hf
  refine a_iald dL_law_1036 ev2_ ?_
  refine a_if_eq dL_law_1037 (tgt := 1044) (by decide) (fun c9 => ?_) (fun c9 => ?_)
  · replace hf := iteT hf c9
    refine a_iconst (v := 0) dL_law_1044 (by decide) ?_
    exact wL_law_b1045 _ hk18 _ _ _ _ _ _ _ _ hf
  · replace hf := iteF hf c9
    refine a_iconst (v := 1) dL_law_1040 (by decide) ?_
    refine a_goto (tgt := 1045) dL_law_1041 (by decide) ?_
    exact wL_law_b1045 _ hk18 _ _ _ _ _ _ _ _ hf
set_option maxHeartbeats 4000000 in
set_option maxRecDepth 100000 in
theorem wL_law_b1075 {l : Launch} {Γ : Gx} {t0 w0 : Nat} {q : Int32 × Mm} (k18 : Nat → Nat → Nat → Int32 → Mm → Option (Int32 × Mm)) (hk18 : ∀ (a0 : Nat) (a1 : Nat) (a2 : Nat) (x3 : Int32) (M : Mm), k18 a0 a1 a2 x3 M = some q → AW l Γ yL_law cL_law 4 (ret) 46 t0 w0 18 [(0, .ref a0), (1, .ref a1), (2, .ref a2), (3, .int x3)] [] M (some (.int q.1)) q.2) (a0 : Nat) (a1 : Nat) (a2 : Nat) (x3 : Int32) (M : Mm) (hf : fL_law_b1075 k18 a0 a1 a2 x3 M = some q) : AW l Γ yL_law cL_law 4 (ret) 46 t0 w0 1075 [(0, .ref a0), (1, .ref a1), (2, .ref a2), (3, .int x3)] [] M (some (.int q.1)) q.2 := by
  unfold fL_law_b1075 at hf
  refine a_aload_n dL_law_1075 rfl 1 rfl ?_
  obtain ⟨q1_, eq1_, hf⟩ := bnd hf
  refine a_callV (As := []) (rest := []) dL_law_1076 mfX8_where cvL_119 (wX8_where eq1_) rc8 (kX8_where eq1_) (by decide) rfl rfl (Nat.le_of_ble_eq_true rfl) ?_
  refine a_aload_n dL_law_1079 rfl 2 rfl ?_
  obtain ⟨q2_, eq2_, hf⟩ := bnd hf
  refine a_callV (As := []) (rest := [.int q1_.1]) dL_law_1080 mfX9_where cvL_122 (wX9_where eq2_) rc9 (kX9_where eq2_) (by decide) rfl rfl (Nat.le_of_ble_eq_true rfl) ?_
  refine a_icmp_eq dL_law_1083 (tgt := 1705) (by decide) (fun c9 => ?_) (fun c9 => ?_)
  · replace hf := iteT hf c9
    refine a_iinc (v := x3 + (6 : Int32)) (lv1 := [(3, .int (x3 + (6 : Int32))), (0, .ref a0), (1, .ref a1), (2, .ref a2)]) dL_law_1705 3 rfl rfl (by decide) rfl ?_
    refine a_goto (tgt := 18) dL_law_1708 (by decide) ?_
    refine AW.sub (lv1 := [(0, .ref a0), (1, .ref a1), (2, .ref a2), (3, .int (x3 + (6 : Int32)))]) [1, 2, 3, 0] rfl ?_
    exact hk18 _ _ _ _ _ hf
  · replace hf := iteF hf c9
    refine a_iconst (v := 0) dL_law_1086 (by decide) ?_
    have e9 := Option.some.inj hf
    subst e9
    exact a_zret rfl rfl dL_law_1087 rfl
set_option maxHeartbeats 4000000 in
set_option maxRecDepth 100000 in
theorem wL_law_b1088 {l : Launch} {Γ : Gx} {t0 w0 : Nat} {q : Int32 × Mm} (k18 : Nat → Nat → Nat → Int32 → Mm → Option (Int32 × Mm)) (hk18 : ∀ (a0 : Nat) (a1 : Nat) (a2 : Nat) (x3 : Int32) (M : Mm), k18 a0 a1 a2 x3 M = some q → AW l Γ yL_law cL_law 4 (ret) 46 t0 w0 18 [(0, .ref a0), (1, .ref a1), (2, .ref a2), (3, .int x3)] [] M (some (.int q.1)) q.2) (a0 : Nat) (a1 : Nat) (a2 : Nat) (x3 : Int32) (M : Mm) (hf : fL_law_b1088 k18 a0 a1 a2 x3 M = some q) : AW l Γ yL_law cL_law 4 (ret) 46 t0 w0 1088 [(0, .ref a0), (1, .ref a1), (2, .ref a2), (3, .int x3)] [] M (some (.int q.1)) q.2 := by
  unfold fL_law_b1088 at hf
  refine a_aload_n dL_law_1088 rfl 1 rfl ?_
  obtain ⟨q1_, eq1_, hf⟩ := bnd hf
  refine a_callV (As := []) (rest := []) dL_law_1089 mfX8_isLost cvL_123 (wX8_isLost eq1_) rc8 (kX8_isLost eq1_) (by decide) rfl rfl (Nat.le_of_ble_eq_true rfl) ?_
  refine a_aload_n dL_law_1092 rfl 2 rfl ?_
  obtain ⟨q2_, eq2_, hf⟩ := bnd hf
  refine a_callV (As := []) (rest := [.int q1_.1]) dL_law_1093 mfX9_isLost cvL_126 (wX9_isLost eq2_) rc9 (kX9_isLost eq2_) (by decide) rfl rfl (Nat.le_of_ble_eq_true rfl) ?_
  refine a_icmp_eq dL_law_1096 (tgt := 1705) (by decide) (fun c9 => ?_) (fun c9 => ?_)
  · replace hf := iteT hf c9
    refine a_iinc (v := x3 + (6 : Int32)) (lv1 := [(3, .int (x3 + (6 : Int32))), (0, .ref a0), (1, .ref a1), (2, .ref a2)]) dL_law_1705 3 rfl rfl (by decide) rfl ?_
    refine a_goto (tgt := 18) dL_law_1708 (by decide) ?_
    refine AW.sub (lv1 := [(0, .ref a0), (1, .ref a1), (2, .ref a2), (3, .int (x3 + (6 : Int32)))]) [1, 2, 3, 0] rfl ?_
    exact hk18 _ _ _ _ _ hf
  · replace hf := iteF hf c9
    refine a_iconst (v := 0) dL_law_1099 (by decide) ?_
    have e9 := Option.some.inj hf
    subst e9
    exact a_zret rfl rfl dL_law_1100 rfl
set_option maxHeartbeats 4000000 in
set_option maxRecDepth 100000 in
theorem wL_law_b1101 {l : Launch} {Γ : Gx} {t0 w0 : Nat} {q : Int32 × Mm} (k18 : Nat → Nat → Nat → Int32 → Mm → Option (Int32 × Mm)) (hk18 : ∀ (a0 : Nat) (a1 : Nat) (a2 : Nat) (x3 : Int32) (M : Mm), k18 a0 a1 a2 x3 M = some q → AW l Γ yL_law cL_law 4 (ret) 46 t0 w0 18 [(0, .ref a0), (1, .ref a1), (2, .ref a2), (3, .int x3)] [] M (some (.int q.1)) q.2) (a0 : Nat) (a1 : Nat) (a2 : Nat) (x3 : Int32) (M : Mm) (hf : fL_law_b1101 k18 a0 a1 a2 x3 M = some q) : AW l Γ yL_law cL_law 4 (ret) 46 t0 w0 1101 [(0, .ref a0), (1, .ref a1), (2, .ref a2), (3, .int x3)] [] M (some (.int q.1)) q.2 := by
  unfold fL_law_b1101 at hf
  refine a_aload_n dL_law_1101 rfl 1 rfl ?_
  refine a_aload_n dL_law_1102 rfl 0 rfl ?_
  refine a_iload_n dL_law_1103 rfl 3 rfl ?_
  refine a_iconst (v := 1) dL_law_1104 (by decide) ?_
  refine a_iadd dL_law_1105 ?_
  obtain ⟨v1_, ev1_, hf⟩ := bnd hf
  refine a_iald dL_law_1106 ev1_ ?_
  refine a_aload_n dL_law_1107 rfl 0 rfl ?_
  refine a_iload_n dL_law_1108 rfl 3 rfl ?_
  refine a_iconst (v := 2) dL_law_1109 (by decide) ?_
  refine a_iadd dL_law_1110 ?_
  obtain ⟨v2_, ev2_, hf⟩ := bnd hf
  refine a_iald dL_law_1111 ev2_ ?_
  obtain ⟨q3_, eq3_, hf⟩ := bnd hf
  refine a_callV (As := [.int v1_, .int v2_]) (rest := []) dL_law_1112 mfX8_judge cvL_127 (wX8_judge eq3_) rc8 (kX8_judge eq3_) (by decide) rfl rfl (Nat.le_of_ble_eq_true rfl) ?_
  refine a_aload_n dL_law_1115 rfl 2 rfl ?_
  refine a_aload_n dL_law_1116 rfl 0 rfl ?_
  refine a_iload_n dL_law_1117 rfl 3 rfl ?_
  refine a_iconst (v := 1) dL_law_1118 (by decide) ?_
  refine a_iadd dL_law_1119 ?_
  obtain ⟨v4_, ev4_, hf⟩ := bnd hf
  refine a_iald dL_law_1120 ev4_ ?_
  refine a_aload_n dL_law_1121 rfl 0 rfl ?_
  refine a_iload_n dL_law_1122 rfl 3 rfl ?_
  refine a_iconst (v := 2) dL_law_1123 (by decide) ?_
  refine a_iadd dL_law_1124 ?_
  obtain ⟨v5_, ev5_, hf⟩ := bnd hf
  refine a_iald dL_law_1125 ev5_ ?_
  obtain ⟨q6_, eq6_, hf⟩ := bnd hf
  refine a_callV (As := [.int v4_, .int v5_]) (rest := [.int q3_.1]) dL_law_1126 mfX9_judge cvL_130 (wX9_judge eq6_) rc9 (kX9_judge eq6_) (by decide) rfl rfl (Nat.le_of_ble_eq_true rfl) ?_
  refine a_icmp_eq dL_law_1129 (tgt := 1705) (by decide) (fun c9 => ?_) (fun c9 => ?_)
  · replace hf := iteT hf c9
    refine a_iinc (v := x3 + (6 : Int32)) (lv1 := [(3, .int (x3 + (6 : Int32))), (0, .ref a0), (1, .ref a1), (2, .ref a2)]) dL_law_1705 3 rfl rfl (by decide) rfl ?_
    refine a_goto (tgt := 18) dL_law_1708 (by decide) ?_
    refine AW.sub (lv1 := [(0, .ref a0), (1, .ref a1), (2, .ref a2), (3, .int (x3 + (6 : Int32)))]) [1, 2, 3, 0] rfl ?_
    exact hk18 _ _ _ _ _ hf
  · replace hf := iteF hf c9
    refine a_iconst (v := 0) dL_law_1132 (by decide) ?_
    have e9 := Option.some.inj hf
    subst e9
    exact a_zret rfl rfl dL_law_1133 rfl
set_option maxHeartbeats 4000000 in
set_option maxRecDepth 100000 in
theorem wL_law_b1134 {l : Launch} {Γ : Gx} {t0 w0 : Nat} {q : Int32 × Mm} (k18 : Nat → Nat → Nat → Int32 → Mm → Option (Int32 × Mm)) (hk18 : ∀ (a0 : Nat) (a1 : Nat) (a2 : Nat) (x3 : Int32) (M : Mm), k18 a0 a1 a2 x3 M = some q → AW l Γ yL_law cL_law 4 (ret) 46 t0 w0 18 [(0, .ref a0), (1, .ref a1), (2, .ref a2), (3, .int x3)] [] M (some (.int q.1)) q.2) (a0 : Nat) (a1 : Nat) (a2 : Nat) (x3 : Int32) (M : Mm) (hf : fL_law_b1134 k18 a0 a1 a2 x3 M = some q) : AW l Γ yL_law cL_law 4 (ret) 46 t0 w0 1134 [(0, .ref a0), (1, .ref a1), (2, .ref a2), (3, .int x3)] [] M (some (.int q.1)) q.2 := by
  unfold fL_law_b1134 at hf
  refine a_aload_n dL_law_1134 rfl 1 rfl ?_
  refine a_aload_n dL_law_1135 rfl 0 rfl ?_
  refine a_iload_n dL_law_1136 rfl 3 rfl ?_
  refine a_iconst (v := 1) dL_law_1137 (by decide) ?_
  refine a_iadd dL_law_1138 ?_
  obtain ⟨v1_, ev1_, hf⟩ := bnd hf
  refine a_iald dL_law_1139 ev1_ ?_
  refine a_aload_n dL_law_1140 rfl 0 rfl ?_
  refine a_iload_n dL_law_1141 rfl 3 rfl ?_
  refine a_iconst (v := 2) dL_law_1142 (by decide) ?_
  refine a_iadd dL_law_1143 ?_
  obtain ⟨v2_, ev2_, hf⟩ := bnd hf
  refine a_iald dL_law_1144 ev2_ ?_
  obtain ⟨q3_, eq3_, hf⟩ := bnd hf
  refine a_callV (As := [.int v1_, .int v2_]) (rest := []) dL_law_1145 mfX8_told cvL_131 (wX8_told eq3_) rc8 (kX8_told eq3_) (by decide) rfl rfl (Nat.le_of_ble_eq_true rfl) ?_
  refine a_aload_n dL_law_1148 rfl 2 rfl ?_
  refine a_aload_n dL_law_1149 rfl 0 rfl ?_
  refine a_iload_n dL_law_1150 rfl 3 rfl ?_
  refine a_iconst (v := 1) dL_law_1151 (by decide) ?_
  refine a_iadd dL_law_1152 ?_
  obtain ⟨v4_, ev4_, hf⟩ := bnd hf
  refine a_iald dL_law_1153 ev4_ ?_
  refine a_aload_n dL_law_1154 rfl 0 rfl ?_
  refine a_iload_n dL_law_1155 rfl 3 rfl ?_
  refine a_iconst (v := 2) dL_law_1156 (by decide) ?_
  refine a_iadd dL_law_1157 ?_
  obtain ⟨v5_, ev5_, hf⟩ := bnd hf
  refine a_iald dL_law_1158 ev5_ ?_
  obtain ⟨q6_, eq6_, hf⟩ := bnd hf
  refine a_callV (As := [.int v4_, .int v5_]) (rest := [.int q3_.1]) dL_law_1159 mfX9_told cvL_134 (wX9_told eq6_) rc9 (kX9_told eq6_) (by decide) rfl rfl (Nat.le_of_ble_eq_true rfl) ?_
  refine a_icmp_eq dL_law_1162 (tgt := 1705) (by decide) (fun c9 => ?_) (fun c9 => ?_)
  · replace hf := iteT hf c9
    refine a_iinc (v := x3 + (6 : Int32)) (lv1 := [(3, .int (x3 + (6 : Int32))), (0, .ref a0), (1, .ref a1), (2, .ref a2)]) dL_law_1705 3 rfl rfl (by decide) rfl ?_
    refine a_goto (tgt := 18) dL_law_1708 (by decide) ?_
    refine AW.sub (lv1 := [(0, .ref a0), (1, .ref a1), (2, .ref a2), (3, .int (x3 + (6 : Int32)))]) [1, 2, 3, 0] rfl ?_
    exact hk18 _ _ _ _ _ hf
  · replace hf := iteF hf c9
    refine a_iconst (v := 0) dL_law_1165 (by decide) ?_
    have e9 := Option.some.inj hf
    subst e9
    exact a_zret rfl rfl dL_law_1166 rfl
set_option maxHeartbeats 4000000 in
set_option maxRecDepth 100000 in
theorem wL_law_b1167 {l : Launch} {Γ : Gx} {t0 w0 : Nat} {q : Int32 × Mm} (k18 : Nat → Nat → Nat → Int32 → Mm → Option (Int32 × Mm)) (hk18 : ∀ (a0 : Nat) (a1 : Nat) (a2 : Nat) (x3 : Int32) (M : Mm), k18 a0 a1 a2 x3 M = some q → AW l Γ yL_law cL_law 4 (ret) 46 t0 w0 18 [(0, .ref a0), (1, .ref a1), (2, .ref a2), (3, .int x3)] [] M (some (.int q.1)) q.2) (a0 : Nat) (a1 : Nat) (a2 : Nat) (x3 : Int32) (M : Mm) (hf : fL_law_b1167 k18 a0 a1 a2 x3 M = some q) : AW l Γ yL_law cL_law 4 (ret) 46 t0 w0 1167 [(0, .ref a0), (1, .ref a1), (2, .ref a2), (3, .int x3)] [] M (some (.int q.1)) q.2 := by
  unfold fL_law_b1167 at hf
  refine a_aload_n dL_law_1167 rfl 1 rfl ?_
  refine a_aload_n dL_law_1168 rfl 0 rfl ?_
  refine a_iload_n dL_law_1169 rfl 3 rfl ?_
  refine a_iconst (v := 1) dL_law_1170 (by decide) ?_
  refine a_iadd dL_law_1171 ?_
  obtain ⟨v1_, ev1_, hf⟩ := bnd hf
  refine a_iald dL_law_1172 ev1_ ?_
  obtain ⟨q2_, eq2_, hf⟩ := bnd hf
  refine a_callV (As := [.int v1_]) (rest := []) dL_law_1173 mfX8_worth cvL_135 (wX8_worth eq2_) rc8 (kX8_worth eq2_) (by decide) rfl rfl (Nat.le_of_ble_eq_true rfl) ?_
  refine a_aload_n dL_law_1176 rfl 2 rfl ?_
  refine a_aload_n dL_law_1177 rfl 0 rfl ?_
  refine a_iload_n dL_law_1178 rfl 3 rfl ?_
  refine a_iconst (v := 1) dL_law_1179 (by decide) ?_
  refine a_iadd dL_law_1180 ?_
  obtain ⟨v3_, ev3_, hf⟩ := bnd hf
  refine a_iald dL_law_1181 ev3_ ?_
  obtain ⟨q4_, eq4_, hf⟩ := bnd hf
  refine a_callV (As := [.int v3_]) (rest := [.long q2_.1]) dL_law_1182 mfX9_worth cvL_138 (wX9_worth eq4_) rc9 (kX9_worth eq4_) (by decide) rfl rfl (Nat.le_of_ble_eq_true rfl) ?_
  refine a_lcmp_eq dL_law_1185 dL_law_1186 (tgt := 1705) (by decide) (fun c9 => ?_) (fun c9 => ?_)
  · replace hf := iteT hf c9
    refine a_iinc (v := x3 + (6 : Int32)) (lv1 := [(3, .int (x3 + (6 : Int32))), (0, .ref a0), (1, .ref a1), (2, .ref a2)]) dL_law_1705 3 rfl rfl (by decide) rfl ?_
    refine a_goto (tgt := 18) dL_law_1708 (by decide) ?_
    refine AW.sub (lv1 := [(0, .ref a0), (1, .ref a1), (2, .ref a2), (3, .int (x3 + (6 : Int32)))]) [1, 2, 3, 0] rfl ?_
    exact hk18 _ _ _ _ _ hf
  · replace hf := iteF hf c9
    refine a_iconst (v := 0) dL_law_1189 (by decide) ?_
    have e9 := Option.some.inj hf
    subst e9
    exact a_zret rfl rfl dL_law_1190 rfl
set_option maxHeartbeats 4000000 in
set_option maxRecDepth 100000 in
theorem wL_law_b1191 {l : Launch} {Γ : Gx} {t0 w0 : Nat} {q : Int32 × Mm} (k18 : Nat → Nat → Nat → Int32 → Mm → Option (Int32 × Mm)) (hk18 : ∀ (a0 : Nat) (a1 : Nat) (a2 : Nat) (x3 : Int32) (M : Mm), k18 a0 a1 a2 x3 M = some q → AW l Γ yL_law cL_law 4 (ret) 46 t0 w0 18 [(0, .ref a0), (1, .ref a1), (2, .ref a2), (3, .int x3)] [] M (some (.int q.1)) q.2) (a0 : Nat) (a1 : Nat) (a2 : Nat) (x3 : Int32) (M : Mm) (hf : fL_law_b1191 k18 a0 a1 a2 x3 M = some q) : AW l Γ yL_law cL_law 4 (ret) 46 t0 w0 1191 [(0, .ref a0), (1, .ref a1), (2, .ref a2), (3, .int x3)] [] M (some (.int q.1)) q.2 := by
  unfold fL_law_b1191 at hf
  refine a_aload_n dL_law_1191 rfl 1 rfl ?_
  obtain ⟨q1_, eq1_, hf⟩ := bnd hf
  refine a_callV (As := []) (rest := []) dL_law_1192 mfX8_next cvL_139 (wX8_next eq1_) rc8 (kX8_next eq1_) (by decide) rfl rfl (Nat.le_of_ble_eq_true rfl) ?_
  refine a_aload_n dL_law_1195 rfl 2 rfl ?_
  obtain ⟨q2_, eq2_, hf⟩ := bnd hf
  refine a_callV (As := []) (rest := [.int q1_.1]) dL_law_1196 mfX9_next cvL_142 (wX9_next eq2_) rc9 (kX9_next eq2_) (by decide) rfl rfl (Nat.le_of_ble_eq_true rfl) ?_
  refine a_icmp_eq dL_law_1199 (tgt := 1705) (by decide) (fun c9 => ?_) (fun c9 => ?_)
  · replace hf := iteT hf c9
    refine a_iinc (v := x3 + (6 : Int32)) (lv1 := [(3, .int (x3 + (6 : Int32))), (0, .ref a0), (1, .ref a1), (2, .ref a2)]) dL_law_1705 3 rfl rfl (by decide) rfl ?_
    refine a_goto (tgt := 18) dL_law_1708 (by decide) ?_
    refine AW.sub (lv1 := [(0, .ref a0), (1, .ref a1), (2, .ref a2), (3, .int (x3 + (6 : Int32)))]) [1, 2, 3, 0] rfl ?_
    exact hk18 _ _ _ _ _ hf
  · replace hf := iteF hf c9
    refine a_iconst (v := 0) dL_law_1202 (by decide) ?_
    have e9 := Option.some.inj hf
    subst e9
    exact a_zret rfl rfl dL_law_1203 rfl
set_option maxHeartbeats 4000000 in
set_option maxRecDepth 100000 in
theorem wL_law_b1204 {l : Launch} {Γ : Gx} {t0 w0 : Nat} {q : Int32 × Mm} (k18 : Nat → Nat → Nat → Int32 → Mm → Option (Int32 × Mm)) (hk18 : ∀ (a0 : Nat) (a1 : Nat) (a2 : Nat) (x3 : Int32) (M : Mm), k18 a0 a1 a2 x3 M = some q → AW l Γ yL_law cL_law 4 (ret) 46 t0 w0 18 [(0, .ref a0), (1, .ref a1), (2, .ref a2), (3, .int x3)] [] M (some (.int q.1)) q.2) (a0 : Nat) (a1 : Nat) (a2 : Nat) (x3 : Int32) (M : Mm) (hf : fL_law_b1204 k18 a0 a1 a2 x3 M = some q) : AW l Γ yL_law cL_law 4 (ret) 46 t0 w0 1204 [(0, .ref a0), (1, .ref a1), (2, .ref a2), (3, .int x3)] [] M (some (.int q.1)) q.2 := by
  unfold fL_law_b1204 at hf
  refine a_aload_n dL_law_1204 rfl 1 rfl ?_
  obtain ⟨q1_, eq1_, hf⟩ := bnd hf
  refine a_callV (As := []) (rest := []) dL_law_1205 mfX8_ahead cvL_143 (wX8_ahead eq1_) rc8 (kX8_ahead eq1_) (by decide) rfl rfl (Nat.le_of_ble_eq_true rfl) ?_
  refine a_aload_n dL_law_1208 rfl 2 rfl ?_
  obtain ⟨q2_, eq2_, hf⟩ := bnd hf
  refine a_callV (As := []) (rest := [.int q1_.1]) dL_law_1209 mfX9_ahead cvL_146 (wX9_ahead eq2_) rc9 (kX9_ahead eq2_) (by decide) rfl rfl (Nat.le_of_ble_eq_true rfl) ?_
  refine a_icmp_eq dL_law_1212 (tgt := 1705) (by decide) (fun c9 => ?_) (fun c9 => ?_)
  · replace hf := iteT hf c9
    refine a_iinc (v := x3 + (6 : Int32)) (lv1 := [(3, .int (x3 + (6 : Int32))), (0, .ref a0), (1, .ref a1), (2, .ref a2)]) dL_law_1705 3 rfl rfl (by decide) rfl ?_
    refine a_goto (tgt := 18) dL_law_1708 (by decide) ?_
    refine AW.sub (lv1 := [(0, .ref a0), (1, .ref a1), (2, .ref a2), (3, .int (x3 + (6 : Int32)))]) [1, 2, 3, 0] rfl ?_
    exact hk18 _ _ _ _ _ hf
  · replace hf := iteF hf c9
    refine a_iconst (v := 0) dL_law_1215 (by decide) ?_
    have e9 := Option.some.inj hf
    subst e9
    exact a_zret rfl rfl dL_law_1216 rfl
set_option maxHeartbeats 4000000 in
set_option maxRecDepth 100000 in
theorem wL_law_b1217 {l : Launch} {Γ : Gx} {t0 w0 : Nat} {q : Int32 × Mm} (k18 : Nat → Nat → Nat → Int32 → Mm → Option (Int32 × Mm)) (hk18 : ∀ (a0 : Nat) (a1 : Nat) (a2 : Nat) (x3 : Int32) (M : Mm), k18 a0 a1 a2 x3 M = some q → AW l Γ yL_law cL_law 4 (ret) 46 t0 w0 18 [(0, .ref a0), (1, .ref a1), (2, .ref a2), (3, .int x3)] [] M (some (.int q.1)) q.2) (a0 : Nat) (a1 : Nat) (a2 : Nat) (x3 : Int32) (M : Mm) (hf : fL_law_b1217 k18 a0 a1 a2 x3 M = some q) : AW l Γ yL_law cL_law 4 (ret) 46 t0 w0 1217 [(0, .ref a0), (1, .ref a1), (2, .ref a2), (3, .int x3)] [] M (some (.int q.1)) q.2 := by
  unfold fL_law_b1217 at hf
  refine a_aload_n dL_law_1217 rfl 1 rfl ?_
  refine a_aload_n dL_law_1218 rfl 0 rfl ?_
  refine a_iload_n dL_law_1219 rfl 3 rfl ?_
  refine a_iconst (v := 1) dL_law_1220 (by decide) ?_
  refine a_iadd dL_law_1221 ?_
  obtain ⟨v1_, ev1_, hf⟩ := bnd hf
  refine a_iald dL_law_1222 ev1_ ?_
  obtain ⟨q2_, eq2_, hf⟩ := bnd hf
  refine a_callV (As := [.int v1_]) (rest := []) dL_law_1223 mfX8_least cvL_147 (wX8_least eq2_) rc8 (kX8_least eq2_) (by decide) rfl rfl (Nat.le_of_ble_eq_true rfl) ?_
  refine a_aload_n dL_law_1226 rfl 2 rfl ?_
  refine a_aload_n dL_law_1227 rfl 0 rfl ?_
  refine a_iload_n dL_law_1228 rfl 3 rfl ?_
  refine a_iconst (v := 1) dL_law_1229 (by decide) ?_
  refine a_iadd dL_law_1230 ?_
  obtain ⟨v3_, ev3_, hf⟩ := bnd hf
  refine a_iald dL_law_1231 ev3_ ?_
  obtain ⟨q4_, eq4_, hf⟩ := bnd hf
  refine a_callV (As := [.int v3_]) (rest := [.int q2_.1]) dL_law_1232 mfX9_least cvL_150 (wX9_least eq4_) rc9 (kX9_least eq4_) (by decide) rfl rfl (Nat.le_of_ble_eq_true rfl) ?_
  refine a_icmp_eq dL_law_1235 (tgt := 1705) (by decide) (fun c9 => ?_) (fun c9 => ?_)
  · replace hf := iteT hf c9
    refine a_iinc (v := x3 + (6 : Int32)) (lv1 := [(3, .int (x3 + (6 : Int32))), (0, .ref a0), (1, .ref a1), (2, .ref a2)]) dL_law_1705 3 rfl rfl (by decide) rfl ?_
    refine a_goto (tgt := 18) dL_law_1708 (by decide) ?_
    refine AW.sub (lv1 := [(0, .ref a0), (1, .ref a1), (2, .ref a2), (3, .int (x3 + (6 : Int32)))]) [1, 2, 3, 0] rfl ?_
    exact hk18 _ _ _ _ _ hf
  · replace hf := iteF hf c9
    refine a_iconst (v := 0) dL_law_1238 (by decide) ?_
    have e9 := Option.some.inj hf
    subst e9
    exact a_zret rfl rfl dL_law_1239 rfl
set_option maxHeartbeats 4000000 in
set_option maxRecDepth 100000 in
theorem wL_law_b1240 {l : Launch} {Γ : Gx} {t0 w0 : Nat} {q : Int32 × Mm} (k18 : Nat → Nat → Nat → Int32 → Mm → Option (Int32 × Mm)) (hk18 : ∀ (a0 : Nat) (a1 : Nat) (a2 : Nat) (x3 : Int32) (M : Mm), k18 a0 a1 a2 x3 M = some q → AW l Γ yL_law cL_law 4 (ret) 46 t0 w0 18 [(0, .ref a0), (1, .ref a1), (2, .ref a2), (3, .int x3)] [] M (some (.int q.1)) q.2) (a0 : Nat) (a1 : Nat) (a2 : Nat) (x3 : Int32) (M : Mm) (hf : fL_law_b1240 k18 a0 a1 a2 x3 M = some q) : AW l Γ yL_law cL_law 4 (ret) 46 t0 w0 1240 [(0, .ref a0), (1, .ref a1), (2, .ref a2), (3, .int x3)] [] M (some (.int q.1)) q.2 := by
  unfold fL_law_b1240 at hf
  refine a_aload_n dL_law_1240 rfl 1 rfl ?_
  refine a_aload_n dL_law_1241 rfl 0 rfl ?_
  refine a_iload_n dL_law_1242 rfl 3 rfl ?_
  refine a_iconst (v := 1) dL_law_1243 (by decide) ?_
  refine a_iadd dL_law_1244 ?_
  obtain ⟨v1_, ev1_, hf⟩ := bnd hf
  refine a_iald dL_law_1245 ev1_ ?_
  refine a_aload_n dL_law_1246 rfl 0 rfl ?_
  refine a_iload_n dL_law_1247 rfl 3 rfl ?_
  refine a_iconst (v := 2) dL_law_1248 (by decide) ?_
  refine a_iadd dL_law_1249 ?_
  obtain ⟨v2_, ev2_, hf⟩ := bnd hf
  refine a_iald dL_law_1250 ev2_ ?_
  obtain ⟨q3_, eq3_, hf⟩ := bnd hf
  refine a_callV (As := [.int v1_, .int v2_]) (rest := []) dL_law_1251 mfX8_safe cvL_151 (wX8_safe eq3_) rc8 (kX8_safe eq3_) (by decide) rfl rfl (Nat.le_of_ble_eq_true rfl) ?_
  refine a_aload_n dL_law_1254 rfl 2 rfl ?_
  refine a_aload_n dL_law_1255 rfl 0 rfl ?_
  refine a_iload_n dL_law_1256 rfl 3 rfl ?_
  refine a_iconst (v := 1) dL_law_1257 (by decide) ?_
  refine a_iadd dL_law_1258 ?_
  obtain ⟨v4_, ev4_, hf⟩ := bnd hf
  refine a_iald dL_law_1259 ev4_ ?_
  refine a_aload_n dL_law_1260 rfl 0 rfl ?_
  refine a_iload_n dL_law_1261 rfl 3 rfl ?_
  refine a_iconst (v := 2) dL_law_1262 (by decide) ?_
  refine a_iadd dL_law_1263 ?_
  obtain ⟨v5_, ev5_, hf⟩ := bnd hf
  refine a_iald dL_law_1264 ev5_ ?_
  obtain ⟨q6_, eq6_, hf⟩ := bnd hf
  refine a_callV (As := [.int v4_, .int v5_]) (rest := [.long q3_.1]) dL_law_1265 mfX9_safe cvL_154 (wX9_safe eq6_) rc9 (kX9_safe eq6_) (by decide) rfl rfl (Nat.le_of_ble_eq_true rfl) ?_
  refine a_lcmp_eq dL_law_1268 dL_law_1269 (tgt := 1705) (by decide) (fun c9 => ?_) (fun c9 => ?_)
  · replace hf := iteT hf c9
    refine a_iinc (v := x3 + (6 : Int32)) (lv1 := [(3, .int (x3 + (6 : Int32))), (0, .ref a0), (1, .ref a1), (2, .ref a2)]) dL_law_1705 3 rfl rfl (by decide) rfl ?_
    refine a_goto (tgt := 18) dL_law_1708 (by decide) ?_
    refine AW.sub (lv1 := [(0, .ref a0), (1, .ref a1), (2, .ref a2), (3, .int (x3 + (6 : Int32)))]) [1, 2, 3, 0] rfl ?_
    exact hk18 _ _ _ _ _ hf
  · replace hf := iteF hf c9
    refine a_iconst (v := 0) dL_law_1272 (by decide) ?_
    have e9 := Option.some.inj hf
    subst e9
    exact a_zret rfl rfl dL_law_1273 rfl
set_option maxHeartbeats 4000000 in
set_option maxRecDepth 100000 in
theorem wL_law_b1274 {l : Launch} {Γ : Gx} {t0 w0 : Nat} {q : Int32 × Mm} (k18 : Nat → Nat → Nat → Int32 → Mm → Option (Int32 × Mm)) (hk18 : ∀ (a0 : Nat) (a1 : Nat) (a2 : Nat) (x3 : Int32) (M : Mm), k18 a0 a1 a2 x3 M = some q → AW l Γ yL_law cL_law 4 (ret) 46 t0 w0 18 [(0, .ref a0), (1, .ref a1), (2, .ref a2), (3, .int x3)] [] M (some (.int q.1)) q.2) (a0 : Nat) (a1 : Nat) (a2 : Nat) (x3 : Int32) (M : Mm) (hf : fL_law_b1274 k18 a0 a1 a2 x3 M = some q) : AW l Γ yL_law cL_law 4 (ret) 46 t0 w0 1274 [(0, .ref a0), (1, .ref a1), (2, .ref a2), (3, .int x3)] [] M (some (.int q.1)) q.2 := by
  unfold fL_law_b1274 at hf
  refine a_aload_n dL_law_1274 rfl 1 rfl ?_
  refine a_aload_n dL_law_1275 rfl 0 rfl ?_
  refine a_iload_n dL_law_1276 rfl 3 rfl ?_
  refine a_iconst (v := 1) dL_law_1277 (by decide) ?_
  refine a_iadd dL_law_1278 ?_
  obtain ⟨v1_, ev1_, hf⟩ := bnd hf
  refine a_iald dL_law_1279 ev1_ ?_
  refine a_aload_n dL_law_1280 rfl 0 rfl ?_
  refine a_iload_n dL_law_1281 rfl 3 rfl ?_
  refine a_iconst (v := 2) dL_law_1282 (by decide) ?_
  refine a_iadd dL_law_1283 ?_
  obtain ⟨v2_, ev2_, hf⟩ := bnd hf
  refine a_iald dL_law_1284 ev2_ ?_
  obtain ⟨q3_, eq3_, hf⟩ := bnd hf
  refine a_callV (As := [.int v1_, .int v2_]) (rest := []) dL_law_1285 mfX8_first cvL_155 (wX8_first eq3_) rc8 (kX8_first eq3_) (by decide) rfl rfl (Nat.le_of_ble_eq_true rfl) ?_
  refine a_aload_n dL_law_1288 rfl 2 rfl ?_
  refine a_aload_n dL_law_1289 rfl 0 rfl ?_
  refine a_iload_n dL_law_1290 rfl 3 rfl ?_
  refine a_iconst (v := 1) dL_law_1291 (by decide) ?_
  refine a_iadd dL_law_1292 ?_
  obtain ⟨v4_, ev4_, hf⟩ := bnd hf
  refine a_iald dL_law_1293 ev4_ ?_
  refine a_aload_n dL_law_1294 rfl 0 rfl ?_
  refine a_iload_n dL_law_1295 rfl 3 rfl ?_
  refine a_iconst (v := 2) dL_law_1296 (by decide) ?_
  refine a_iadd dL_law_1297 ?_
  obtain ⟨v5_, ev5_, hf⟩ := bnd hf
  refine a_iald dL_law_1298 ev5_ ?_
  obtain ⟨q6_, eq6_, hf⟩ := bnd hf
  refine a_callV (As := [.int v4_, .int v5_]) (rest := [.int q3_.1]) dL_law_1299 mfX9_first cvL_158 (wX9_first eq6_) rc9 (kX9_first eq6_) (by decide) rfl rfl (Nat.le_of_ble_eq_true rfl) ?_
  refine a_icmp_eq dL_law_1302 (tgt := 1705) (by decide) (fun c9 => ?_) (fun c9 => ?_)
  · replace hf := iteT hf c9
    refine a_iinc (v := x3 + (6 : Int32)) (lv1 := [(3, .int (x3 + (6 : Int32))), (0, .ref a0), (1, .ref a1), (2, .ref a2)]) dL_law_1705 3 rfl rfl (by decide) rfl ?_
    refine a_goto (tgt := 18) dL_law_1708 (by decide) ?_
    refine AW.sub (lv1 := [(0, .ref a0), (1, .ref a1), (2, .ref a2), (3, .int (x3 + (6 : Int32)))]) [1, 2, 3, 0] rfl ?_
    exact hk18 _ _ _ _ _ hf
  · replace hf := iteF hf c9
    refine a_iconst (v := 0) dL_law_1305 (by decide) ?_
    have e9 := Option.some.inj hf
    subst e9
    exact a_zret rfl rfl dL_law_1306 rfl
set_option maxHeartbeats 4000000 in
set_option maxRecDepth 100000 in
theorem wL_law_b1307 {l : Launch} {Γ : Gx} {t0 w0 : Nat} {q : Int32 × Mm} (k18 : Nat → Nat → Nat → Int32 → Mm → Option (Int32 × Mm)) (hk18 : ∀ (a0 : Nat) (a1 : Nat) (a2 : Nat) (x3 : Int32) (M : Mm), k18 a0 a1 a2 x3 M = some q → AW l Γ yL_law cL_law 4 (ret) 46 t0 w0 18 [(0, .ref a0), (1, .ref a1), (2, .ref a2), (3, .int x3)] [] M (some (.int q.1)) q.2) (a0 : Nat) (a1 : Nat) (a2 : Nat) (x3 : Int32) (M : Mm) (hf : fL_law_b1307 k18 a0 a1 a2 x3 M = some q) : AW l Γ yL_law cL_law 4 (ret) 46 t0 w0 1307 [(0, .ref a0), (1, .ref a1), (2, .ref a2), (3, .int x3)] [] M (some (.int q.1)) q.2 := by
  unfold fL_law_b1307 at hf
  refine a_aload_n dL_law_1307 rfl 1 rfl ?_
  refine a_aload_n dL_law_1308 rfl 0 rfl ?_
  refine a_iload_n dL_law_1309 rfl 3 rfl ?_
  refine a_iconst (v := 1) dL_law_1310 (by decide) ?_
  refine a_iadd dL_law_1311 ?_
  obtain ⟨v1_, ev1_, hf⟩ := bnd hf
  refine a_iald dL_law_1312 ev1_ ?_
  refine a_aload_n dL_law_1313 rfl 0 rfl ?_
  refine a_iload_n dL_law_1314 rfl 3 rfl ?_
  refine a_iconst (v := 2) dL_law_1315 (by decide) ?_
  refine a_iadd dL_law_1316 ?_
  obtain ⟨v2_, ev2_, hf⟩ := bnd hf
  refine a_iald dL_law_1317 ev2_ ?_
  refine a_aload_n dL_law_1318 rfl 0 rfl ?_
  refine a_iload_n dL_law_1319 rfl 3 rfl ?_
  refine a_iconst (v := 3) dL_law_1320 (by decide) ?_
  refine a_iadd dL_law_1321 ?_
  obtain ⟨v3_, ev3_, hf⟩ := bnd hf
  refine a_iald dL_law_1322 ev3_ ?_
  obtain ⟨q4_, eq4_, hf⟩ := bnd hf
  refine a_callV (As := [.int v1_, .int v2_, .int v3_]) (rest := []) dL_law_1323 mfX8_order cvL_159 (wX8_order eq4_) rc8 (kX8_order eq4_) (by decide) rfl rfl (Nat.le_of_ble_eq_true rfl) ?_
  refine a_aload_n dL_law_1326 rfl 2 rfl ?_
  refine a_aload_n dL_law_1327 rfl 0 rfl ?_
  refine a_iload_n dL_law_1328 rfl 3 rfl ?_
  refine a_iconst (v := 1) dL_law_1329 (by decide) ?_
  refine a_iadd dL_law_1330 ?_
  obtain ⟨v5_, ev5_, hf⟩ := bnd hf
  refine a_iald dL_law_1331 ev5_ ?_
  refine a_aload_n dL_law_1332 rfl 0 rfl ?_
  refine a_iload_n dL_law_1333 rfl 3 rfl ?_
  refine a_iconst (v := 2) dL_law_1334 (by decide) ?_
  refine a_iadd dL_law_1335 ?_
  obtain ⟨v6_, ev6_, hf⟩ := bnd hf
  refine a_iald dL_law_1336 ev6_ ?_
  refine a_aload_n dL_law_1337 rfl 0 rfl ?_
  refine a_iload_n dL_law_1338 rfl 3 rfl ?_
  refine a_iconst (v := 3) dL_law_1339 (by decide) ?_
  refine a_iadd dL_law_1340 ?_
  obtain ⟨v7_, ev7_, hf⟩ := bnd hf
  refine a_iald dL_law_1341 ev7_ ?_
  obtain ⟨q8_, eq8_, hf⟩ := bnd hf
  refine a_callV (As := [.int v5_, .int v6_, .int v7_]) (rest := [.int q4_.1]) dL_law_1342 mfX9_order cvL_162 (wX9_order eq8_) rc9 (kX9_order eq8_) (by decide) rfl rfl (Nat.le_of_ble_eq_true rfl) ?_
  refine a_icmp_eq dL_law_1345 (tgt := 1705) (by decide) (fun c9 => ?_) (fun c9 => ?_)
  · replace hf := iteT hf c9
    refine a_iinc (v := x3 + (6 : Int32)) (lv1 := [(3, .int (x3 + (6 : Int32))), (0, .ref a0), (1, .ref a1), (2, .ref a2)]) dL_law_1705 3 rfl rfl (by decide) rfl ?_
    refine a_goto (tgt := 18) dL_law_1708 (by decide) ?_
    refine AW.sub (lv1 := [(0, .ref a0), (1, .ref a1), (2, .ref a2), (3, .int (x3 + (6 : Int32)))]) [1, 2, 3, 0] rfl ?_
    exact hk18 _ _ _ _ _ hf
  · replace hf := iteF hf c9
    refine a_iconst (v := 0) dL_law_1348 (by decide) ?_
    have e9 := Option.some.inj hf
    subst e9
    exact a_zret rfl rfl dL_law_1349 rfl
set_option maxHeartbeats 4000000 in
set_option maxRecDepth 100000 in
theorem wL_law_b1350 {l : Launch} {Γ : Gx} {t0 w0 : Nat} {q : Int32 × Mm} (k18 : Nat → Nat → Nat → Int32 → Mm → Option (Int32 × Mm)) (hk18 : ∀ (a0 : Nat) (a1 : Nat) (a2 : Nat) (x3 : Int32) (M : Mm), k18 a0 a1 a2 x3 M = some q → AW l Γ yL_law cL_law 4 (ret) 46 t0 w0 18 [(0, .ref a0), (1, .ref a1), (2, .ref a2), (3, .int x3)] [] M (some (.int q.1)) q.2) (a0 : Nat) (a1 : Nat) (a2 : Nat) (x3 : Int32) (M : Mm) (hf : fL_law_b1350 k18 a0 a1 a2 x3 M = some q) : AW l Γ yL_law cL_law 4 (ret) 46 t0 w0 1350 [(0, .ref a0), (1, .ref a1), (2, .ref a2), (3, .int x3)] [] M (some (.int q.1)) q.2 := by
  unfold fL_law_b1350 at hf
  refine a_aload_n dL_law_1350 rfl 1 rfl ?_
  refine a_aload_n dL_law_1351 rfl 0 rfl ?_
  refine a_iload_n dL_law_1352 rfl 3 rfl ?_
  refine a_iconst (v := 1) dL_law_1353 (by decide) ?_
  refine a_iadd dL_law_1354 ?_
  obtain ⟨v1_, ev1_, hf⟩ := bnd hf
  refine a_iald dL_law_1355 ev1_ ?_
  refine a_aload_n dL_law_1356 rfl 0 rfl ?_
  refine a_iload_n dL_law_1357 rfl 3 rfl ?_
  refine a_iconst (v := 2) dL_law_1358 (by decide) ?_
  refine a_iadd dL_law_1359 ?_
  obtain ⟨v2_, ev2_, hf⟩ := bnd hf
  refine a_iald dL_law_1360 ev2_ ?_
  refine a_aload_n dL_law_1361 rfl 0 rfl ?_
  refine a_iload_n dL_law_1362 rfl 3 rfl ?_
  refine a_iconst (v := 3) dL_law_1363 (by decide) ?_
  refine a_iadd dL_law_1364 ?_
  obtain ⟨v3_, ev3_, hf⟩ := bnd hf
  refine a_iald dL_law_1365 ev3_ ?_
  refine a_aload_n dL_law_1366 rfl 0 rfl ?_
  refine a_iload_n dL_law_1367 rfl 3 rfl ?_
  refine a_iconst (v := 4) dL_law_1368 (by decide) ?_
  refine a_iadd dL_law_1369 ?_
  obtain ⟨v4_, ev4_, hf⟩ := bnd hf
  refine a_iald dL_law_1370 ev4_ ?_
  obtain ⟨q5_, eq5_, hf⟩ := bnd hf
  refine a_callV (As := [.int v1_, .int v2_, .int v3_, .int v4_]) (rest := []) dL_law_1371 mfX8_over cvL_163 (wX8_over eq5_) rc8 (kX8_over eq5_) (by decide) rfl rfl (Nat.le_of_ble_eq_true rfl) ?_
  refine a_aload_n dL_law_1374 rfl 2 rfl ?_
  refine a_aload_n dL_law_1375 rfl 0 rfl ?_
  refine a_iload_n dL_law_1376 rfl 3 rfl ?_
  refine a_iconst (v := 1) dL_law_1377 (by decide) ?_
  refine a_iadd dL_law_1378 ?_
  obtain ⟨v6_, ev6_, hf⟩ := bnd hf
  refine a_iald dL_law_1379 ev6_ ?_
  refine a_aload_n dL_law_1380 rfl 0 rfl ?_
  refine a_iload_n dL_law_1381 rfl 3 rfl ?_
  refine a_iconst (v := 2) dL_law_1382 (by decide) ?_
  refine a_iadd dL_law_1383 ?_
  obtain ⟨v7_, ev7_, hf⟩ := bnd hf
  refine a_iald dL_law_1384 ev7_ ?_
  refine a_aload_n dL_law_1385 rfl 0 rfl ?_
  refine a_iload_n dL_law_1386 rfl 3 rfl ?_
  refine a_iconst (v := 3) dL_law_1387 (by decide) ?_
  refine a_iadd dL_law_1388 ?_
  obtain ⟨v8_, ev8_, hf⟩ := bnd hf
  refine a_iald dL_law_1389 ev8_ ?_
  refine a_aload_n dL_law_1390 rfl 0 rfl ?_
  refine a_iload_n dL_law_1391 rfl 3 rfl ?_
  refine a_iconst (v := 4) dL_law_1392 (by decide) ?_
  refine a_iadd dL_law_1393 ?_
  obtain ⟨v9_, ev9_, hf⟩ := bnd hf
  refine a_iald dL_law_1394 ev9_ ?_
  obtain ⟨q10_, eq10_, hf⟩ := bnd hf
  refine a_callV (As := [.int v6_, .int v7_, .int v8_, .int v9_]) (rest := [.int q5_.1]) dL_law_1395 mfX9_over cvL_166 (wX9_over eq10_) rc9 (kX9_over eq10_) (by decide) rfl rfl (Nat.le_of_ble_eq_true rfl) ?_
  refine a_icmp_eq dL_law_1398 (tgt := 1705) (by decide) (fun c9 => ?_) (fun c9 => ?_)
  · replace hf := iteT hf c9
    refine a_iinc (v := x3 + (6 : Int32)) (lv1 := [(3, .int (x3 + (6 : Int32))), (0, .ref a0), (1, .ref a1), (2, .ref a2)]) dL_law_1705 3 rfl rfl (by decide) rfl ?_
    refine a_goto (tgt := 18) dL_law_1708 (by decide) ?_
    refine AW.sub (lv1 := [(0, .ref a0), (1, .ref a1), (2, .ref a2), (3, .int (x3 + (6 : Int32)))]) [1, 2, 3, 0] rfl ?_
    exact hk18 _ _ _ _ _ hf
  · replace hf := iteF hf c9
    refine a_iconst (v := 0) dL_law_1401 (by decide) ?_
    have e9 := Option.some.inj hf
    subst e9
    exact a_zret rfl rfl dL_law_1402 rfl
set_option maxHeartbeats 4000000 in
set_option maxRecDepth 100000 in
theorem wL_law_b1403 {l : Launch} {Γ : Gx} {t0 w0 : Nat} {q : Int32 × Mm} (k18 : Nat → Nat → Nat → Int32 → Mm → Option (Int32 × Mm)) (hk18 : ∀ (a0 : Nat) (a1 : Nat) (a2 : Nat) (x3 : Int32) (M : Mm), k18 a0 a1 a2 x3 M = some q → AW l Γ yL_law cL_law 4 (ret) 46 t0 w0 18 [(0, .ref a0), (1, .ref a1), (2, .ref a2), (3, .int x3)] [] M (some (.int q.1)) q.2) (a0 : Nat) (a1 : Nat) (a2 : Nat) (x3 : Int32) (M : Mm) (hf : fL_law_b1403 k18 a0 a1 a2 x3 M = some q) : AW l Γ yL_law cL_law 4 (ret) 46 t0 w0 1403 [(0, .ref a0), (1, .ref a1), (2, .ref a2), (3, .int x3)] [] M (some (.int q.1)) q.2 := by
  unfold fL_law_b1403 at hf
  refine a_aload_n dL_law_1403 rfl 1 rfl ?_
  refine a_aload_n dL_law_1404 rfl 0 rfl ?_
  refine a_iload_n dL_law_1405 rfl 3 rfl ?_
  refine a_iconst (v := 1) dL_law_1406 (by decide) ?_
  refine a_iadd dL_law_1407 ?_
  obtain ⟨v1_, ev1_, hf⟩ := bnd hf
  refine a_iald dL_law_1408 ev1_ ?_
  refine a_aload_n dL_law_1409 rfl 0 rfl ?_
  refine a_iload_n dL_law_1410 rfl 3 rfl ?_
  refine a_iconst (v := 2) dL_law_1411 (by decide) ?_
  refine a_iadd dL_law_1412 ?_
  obtain ⟨v2_, ev2_, hf⟩ := bnd hf
  refine a_iald dL_law_1413 ev2_ ?_
  obtain ⟨q3_, eq3_, hf⟩ := bnd hf
  refine a_callV (As := [.int v1_, .int v2_]) (rest := []) dL_law_1414 mfX8_learnt cvL_167 (wX8_learnt eq3_) rc8 (kX8_learnt eq3_) (by decide) rfl rfl (Nat.le_of_ble_eq_true rfl) ?_
  refine a_aload_n dL_law_1417 rfl 2 rfl ?_
  refine a_aload_n dL_law_1418 rfl 0 rfl ?_
  refine a_iload_n dL_law_1419 rfl 3 rfl ?_
  refine a_iconst (v := 1) dL_law_1420 (by decide) ?_
  refine a_iadd dL_law_1421 ?_
  obtain ⟨v4_, ev4_, hf⟩ := bnd hf
  refine a_iald dL_law_1422 ev4_ ?_
  refine a_aload_n dL_law_1423 rfl 0 rfl ?_
  refine a_iload_n dL_law_1424 rfl 3 rfl ?_
  refine a_iconst (v := 2) dL_law_1425 (by decide) ?_
  refine a_iadd dL_law_1426 ?_
  obtain ⟨v5_, ev5_, hf⟩ := bnd hf
  refine a_iald dL_law_1427 ev5_ ?_
  obtain ⟨q6_, eq6_, hf⟩ := bnd hf
  refine a_callV (As := [.int v4_, .int v5_]) (rest := [.int q3_.1]) dL_law_1428 mfX9_learnt cvL_170 (wX9_learnt eq6_) rc9 (kX9_learnt eq6_) (by decide) rfl rfl (Nat.le_of_ble_eq_true rfl) ?_
  refine a_icmp_eq dL_law_1431 (tgt := 1705) (by decide) (fun c9 => ?_) (fun c9 => ?_)
  · replace hf := iteT hf c9
    refine a_iinc (v := x3 + (6 : Int32)) (lv1 := [(3, .int (x3 + (6 : Int32))), (0, .ref a0), (1, .ref a1), (2, .ref a2)]) dL_law_1705 3 rfl rfl (by decide) rfl ?_
    refine a_goto (tgt := 18) dL_law_1708 (by decide) ?_
    refine AW.sub (lv1 := [(0, .ref a0), (1, .ref a1), (2, .ref a2), (3, .int (x3 + (6 : Int32)))]) [1, 2, 3, 0] rfl ?_
    exact hk18 _ _ _ _ _ hf
  · replace hf := iteF hf c9
    refine a_iconst (v := 0) dL_law_1434 (by decide) ?_
    have e9 := Option.some.inj hf
    subst e9
    exact a_zret rfl rfl dL_law_1435 rfl
set_option maxHeartbeats 4000000 in
set_option maxRecDepth 100000 in
theorem wL_law_b1436 {l : Launch} {Γ : Gx} {t0 w0 : Nat} {q : Int32 × Mm} (k18 : Nat → Nat → Nat → Int32 → Mm → Option (Int32 × Mm)) (hk18 : ∀ (a0 : Nat) (a1 : Nat) (a2 : Nat) (x3 : Int32) (M : Mm), k18 a0 a1 a2 x3 M = some q → AW l Γ yL_law cL_law 4 (ret) 46 t0 w0 18 [(0, .ref a0), (1, .ref a1), (2, .ref a2), (3, .int x3)] [] M (some (.int q.1)) q.2) (a0 : Nat) (a1 : Nat) (a2 : Nat) (x3 : Int32) (M : Mm) (hf : fL_law_b1436 k18 a0 a1 a2 x3 M = some q) : AW l Γ yL_law cL_law 4 (ret) 46 t0 w0 1436 [(0, .ref a0), (1, .ref a1), (2, .ref a2), (3, .int x3)] [] M (some (.int q.1)) q.2 := by
  unfold fL_law_b1436 at hf
  refine a_aload_n dL_law_1436 rfl 1 rfl ?_
  refine a_aload_n dL_law_1437 rfl 0 rfl ?_
  refine a_iload_n dL_law_1438 rfl 3 rfl ?_
  refine a_iconst (v := 1) dL_law_1439 (by decide) ?_
  refine a_iadd dL_law_1440 ?_
  obtain ⟨v1_, ev1_, hf⟩ := bnd hf
  refine a_iald dL_law_1441 ev1_ ?_
  refine a_aload_n dL_law_1442 rfl 0 rfl ?_
  refine a_iload_n dL_law_1443 rfl 3 rfl ?_
  refine a_iconst (v := 2) dL_law_1444 (by decide) ?_
  refine a_iadd dL_law_1445 ?_
  obtain ⟨v2_, ev2_, hf⟩ := bnd hf
  refine a_iald dL_law_1446 ev2_ ?_
  obtain ⟨q3_, eq3_, hf⟩ := bnd hf
  refine a_callV (As := [.int v1_, .int v2_]) (rest := []) dL_law_1447 mfX8_goings cvL_171 (wX8_goings eq3_) rc8 (kX8_goings eq3_) (by decide) rfl rfl (Nat.le_of_ble_eq_true rfl) ?_
  refine a_aload_n dL_law_1450 rfl 2 rfl ?_
  refine a_aload_n dL_law_1451 rfl 0 rfl ?_
  refine a_iload_n dL_law_1452 rfl 3 rfl ?_
  refine a_iconst (v := 1) dL_law_1453 (by decide) ?_
  refine a_iadd dL_law_1454 ?_
  obtain ⟨v4_, ev4_, hf⟩ := bnd hf
  refine a_iald dL_law_1455 ev4_ ?_
  refine a_aload_n dL_law_1456 rfl 0 rfl ?_
  refine a_iload_n dL_law_1457 rfl 3 rfl ?_
  refine a_iconst (v := 2) dL_law_1458 (by decide) ?_
  refine a_iadd dL_law_1459 ?_
  obtain ⟨v5_, ev5_, hf⟩ := bnd hf
  refine a_iald dL_law_1460 ev5_ ?_
  obtain ⟨q6_, eq6_, hf⟩ := bnd hf
  refine a_callV (As := [.int v4_, .int v5_]) (rest := [.int q3_.1]) dL_law_1461 mfX9_goings cvL_174 (wX9_goings eq6_) rc9 (kX9_goings eq6_) (by decide) rfl rfl (Nat.le_of_ble_eq_true rfl) ?_
  refine a_icmp_eq dL_law_1464 (tgt := 1705) (by decide) (fun c9 => ?_) (fun c9 => ?_)
  · replace hf := iteT hf c9
    refine a_iinc (v := x3 + (6 : Int32)) (lv1 := [(3, .int (x3 + (6 : Int32))), (0, .ref a0), (1, .ref a1), (2, .ref a2)]) dL_law_1705 3 rfl rfl (by decide) rfl ?_
    refine a_goto (tgt := 18) dL_law_1708 (by decide) ?_
    refine AW.sub (lv1 := [(0, .ref a0), (1, .ref a1), (2, .ref a2), (3, .int (x3 + (6 : Int32)))]) [1, 2, 3, 0] rfl ?_
    exact hk18 _ _ _ _ _ hf
  · replace hf := iteF hf c9
    refine a_iconst (v := 0) dL_law_1467 (by decide) ?_
    have e9 := Option.some.inj hf
    subst e9
    exact a_zret rfl rfl dL_law_1468 rfl
set_option maxHeartbeats 4000000 in
set_option maxRecDepth 100000 in
theorem wL_law_b1469 {l : Launch} {Γ : Gx} {t0 w0 : Nat} {q : Int32 × Mm} (k18 : Nat → Nat → Nat → Int32 → Mm → Option (Int32 × Mm)) (hk18 : ∀ (a0 : Nat) (a1 : Nat) (a2 : Nat) (x3 : Int32) (M : Mm), k18 a0 a1 a2 x3 M = some q → AW l Γ yL_law cL_law 4 (ret) 46 t0 w0 18 [(0, .ref a0), (1, .ref a1), (2, .ref a2), (3, .int x3)] [] M (some (.int q.1)) q.2) (a0 : Nat) (a1 : Nat) (a2 : Nat) (x3 : Int32) (M : Mm) (hf : fL_law_b1469 k18 a0 a1 a2 x3 M = some q) : AW l Γ yL_law cL_law 4 (ret) 46 t0 w0 1469 [(0, .ref a0), (1, .ref a1), (2, .ref a2), (3, .int x3)] [] M (some (.int q.1)) q.2 := by
  unfold fL_law_b1469 at hf
  refine a_aload_n dL_law_1469 rfl 1 rfl ?_
  refine a_aload_n dL_law_1470 rfl 0 rfl ?_
  refine a_iload_n dL_law_1471 rfl 3 rfl ?_
  refine a_iconst (v := 1) dL_law_1472 (by decide) ?_
  refine a_iadd dL_law_1473 ?_
  obtain ⟨v1_, ev1_, hf⟩ := bnd hf
  refine a_iald dL_law_1474 ev1_ ?_
  obtain ⟨q2_, eq2_, hf⟩ := bnd hf
  refine a_callV (As := [.int v1_]) (rest := []) dL_law_1475 mfX8_begin cvL_175 (wX8_begin eq2_) rc8 (kX8_begin eq2_) (by decide) rfl rfl (Nat.le_of_ble_eq_true rfl) ?_
  refine a_aload_n dL_law_1478 rfl 2 rfl ?_
  refine a_aload_n dL_law_1479 rfl 0 rfl ?_
  refine a_iload_n dL_law_1480 rfl 3 rfl ?_
  refine a_iconst (v := 1) dL_law_1481 (by decide) ?_
  refine a_iadd dL_law_1482 ?_
  obtain ⟨v3_, ev3_, hf⟩ := bnd hf
  refine a_iald dL_law_1483 ev3_ ?_
  obtain ⟨q4_, eq4_, hf⟩ := bnd hf
  refine a_callV (As := [.int v3_]) (rest := [.int q2_.1]) dL_law_1484 mfX9_begin cvL_178 (wX9_begin eq4_) rc9 (kX9_begin eq4_) (by decide) rfl rfl (Nat.le_of_ble_eq_true rfl) ?_
  refine a_icmp_eq dL_law_1487 (tgt := 1705) (by decide) (fun c9 => ?_) (fun c9 => ?_)
  · replace hf := iteT hf c9
    refine a_iinc (v := x3 + (6 : Int32)) (lv1 := [(3, .int (x3 + (6 : Int32))), (0, .ref a0), (1, .ref a1), (2, .ref a2)]) dL_law_1705 3 rfl rfl (by decide) rfl ?_
    refine a_goto (tgt := 18) dL_law_1708 (by decide) ?_
    refine AW.sub (lv1 := [(0, .ref a0), (1, .ref a1), (2, .ref a2), (3, .int (x3 + (6 : Int32)))]) [1, 2, 3, 0] rfl ?_
    exact hk18 _ _ _ _ _ hf
  · replace hf := iteF hf c9
    refine a_iconst (v := 0) dL_law_1490 (by decide) ?_
    have e9 := Option.some.inj hf
    subst e9
    exact a_zret rfl rfl dL_law_1491 rfl
set_option maxHeartbeats 4000000 in
set_option maxRecDepth 100000 in
theorem wL_law_b1523 {l : Launch} {Γ : Gx} {t0 w0 : Nat} {q : Int32 × Mm} (k18 : Nat → Nat → Nat → Int32 → Mm → Option (Int32 × Mm)) (hk18 : ∀ (a0 : Nat) (a1 : Nat) (a2 : Nat) (x3 : Int32) (M : Mm), k18 a0 a1 a2 x3 M = some q → AW l Γ yL_law cL_law 4 (ret) 46 t0 w0 18 [(0, .ref a0), (1, .ref a1), (2, .ref a2), (3, .int x3)] [] M (some (.int q.1)) q.2) (a0 : Nat) (a1 : Nat) (a2 : Nat) (x3 : Int32) (s0 : Int32) (s1 : Nat) (s2 : Int32) (M : Mm) (hf : fL_law_b1523 k18 a0 a1 a2 x3 s0 s1 s2 M = some q) : AW l Γ yL_law cL_law 4 (ret) 46 t0 w0 1523 [(0, .ref a0), (1, .ref a1), (2, .ref a2), (3, .int x3)] [.int s2, .ref s1, .int s0] M (some (.int q.1)) q.2 := by
  unfold fL_law_b1523 at hf
  obtain ⟨q1_, eq1_, hf⟩ := bnd hf
  refine a_callV (As := [.int s2]) (rest := [.int s0]) dL_law_1523 mfX9_goes cvL_182 (wX9_goes eq1_) rc9 (kX9_goes eq1_) (by decide) rfl rfl (Nat.le_of_ble_eq_true rfl) ?_
  refine a_icmp_eq dL_law_1526 (tgt := 1705) (by decide) (fun c9 => ?_) (fun c9 => ?_)
  · replace hf := iteT hf c9
    refine a_iinc (v := x3 + (6 : Int32)) (lv1 := [(3, .int (x3 + (6 : Int32))), (0, .ref a0), (1, .ref a1), (2, .ref a2)]) dL_law_1705 3 rfl rfl (by decide) rfl ?_
    refine a_goto (tgt := 18) dL_law_1708 (by decide) ?_
    refine AW.sub (lv1 := [(0, .ref a0), (1, .ref a1), (2, .ref a2), (3, .int (x3 + (6 : Int32)))]) [1, 2, 3, 0] rfl ?_
    exact hk18 _ _ _ _ _ hf
  · replace hf := iteF hf c9
    refine a_iconst (v := 0) dL_law_1529 (by decide) ?_
    have e9 := Option.some.inj hf
    subst e9
    exact a_zret rfl rfl dL_law_1530 rfl
set_option maxHeartbeats 4000000 in
set_option maxRecDepth 100000 in
theorem wL_law_b1506 {l : Launch} {Γ : Gx} {t0 w0 : Nat} {q : Int32 × Mm} (k18 : Nat → Nat → Nat → Int32 → Mm → Option (Int32 × Mm)) (hk18 : ∀ (a0 : Nat) (a1 : Nat) (a2 : Nat) (x3 : Int32) (M : Mm), k18 a0 a1 a2 x3 M = some q → AW l Γ yL_law cL_law 4 (ret) 46 t0 w0 18 [(0, .ref a0), (1, .ref a1), (2, .ref a2), (3, .int x3)] [] M (some (.int q.1)) q.2) (a0 : Nat) (a1 : Nat) (a2 : Nat) (x3 : Int32) (s0 : Nat) (s1 : Int32) (M : Mm) (hf : fL_law_b1506 k18 a0 a1 a2 x3 s0 s1 M = some q) : AW l Γ yL_law cL_law 4 (ret) 46 t0 w0 1506 [(0, .ref a0), (1, .ref a1), (2, .ref a2), (3, .int x3)] [.int s1, .ref s0] M (some (.int q.1)) q.2 := by
  unfold fL_law_b1506 at hf
  obtain ⟨q1_, eq1_, hf⟩ := bnd hf
  refine a_callV (As := [.int s1]) (rest := []) dL_law_1506 mfX8_goes cvL_179 (wX8_goes eq1_) rc8 (kX8_goes eq1_) (by decide) rfl rfl (Nat.le_of_ble_eq_true rfl) ?_
  refine a_aload_n dL_law_1509 rfl 2 rfl ?_
  refine a_aload_n dL_law_1510 rfl 0 rfl ?_
  refine a_iload_n dL_law_1511 rfl 3 rfl ?_
  refine a_iconst (v := 1) dL_law_1512 (by decide) ?_
  refine a_iadd dL_law_1513 ?_
  obtain ⟨v2_, ev2_, hf⟩ := bnd hf
  refine a_iald dL_law_1514 ev2_ ?_
  refine a_if_eq dL_law_1515 (tgt := 1522) (by decide) (fun c9 => ?_) (fun c9 => ?_)
  · replace hf := iteT hf c9
    refine a_iconst (v := 0) dL_law_1522 (by decide) ?_
    exact wL_law_b1523 _ hk18 _ _ _ _ _ _ _ _ hf
  · replace hf := iteF hf c9
    refine a_iconst (v := 1) dL_law_1518 (by decide) ?_
    refine a_goto (tgt := 1523) dL_law_1519 (by decide) ?_
    exact wL_law_b1523 _ hk18 _ _ _ _ _ _ _ _ hf
set_option maxHeartbeats 4000000 in
set_option maxRecDepth 100000 in
theorem wL_law_b1492 {l : Launch} {Γ : Gx} {t0 w0 : Nat} {q : Int32 × Mm} (k18 : Nat → Nat → Nat → Int32 → Mm → Option (Int32 × Mm)) (hk18 : ∀ (a0 : Nat) (a1 : Nat) (a2 : Nat) (x3 : Int32) (M : Mm), k18 a0 a1 a2 x3 M = some q → AW l Γ yL_law cL_law 4 (ret) 46 t0 w0 18 [(0, .ref a0), (1, .ref a1), (2, .ref a2), (3, .int x3)] [] M (some (.int q.1)) q.2) (a0 : Nat) (a1 : Nat) (a2 : Nat) (x3 : Int32) (M : Mm) (hf : fL_law_b1492 k18 a0 a1 a2 x3 M = some q) : AW l Γ yL_law cL_law 4 (ret) 46 t0 w0 1492 [(0, .ref a0), (1, .ref a1), (2, .ref a2), (3, .int x3)] [] M (some (.int q.1)) q.2 := by
  unfold fL_law_b1492 at hf
  refine a_aload_n dL_law_1492 rfl 1 rfl ?_
  refine a_aload_n dL_law_1493 rfl 0 rfl ?_
  refine a_iload_n dL_law_1494 rfl 3 rfl ?_
  refine a_iconst (v := 1) dL_law_1495 (by decide) ?_
  refine a_iadd dL_law_1496 ?_
  obtain ⟨v1_, ev1_, hf⟩ := bnd hf
  refine a_iald dL_law_1497 ev1_ ?_
  refine a_if_eq dL_law_1498 (tgt := 1505) (by decide) (fun c9 => ?_) (fun c9 => ?_)
  · replace hf := iteT hf c9
    refine a_iconst (v := 0) dL_law_1505 (by decide) ?_
    exact wL_law_b1506 _ hk18 _ _ _ _ _ _ _ hf
  · replace hf := iteF hf c9
    refine a_iconst (v := 1) dL_law_1501 (by decide) ?_
    refine a_goto (tgt := 1506) dL_law_1502 (by decide) ?_
    exact wL_law_b1506 _ hk18 _ _ _ _ _ _ _ hf
set_option maxHeartbeats 4000000 in
set_option maxRecDepth 100000 in
theorem wL_law_b1531 {l : Launch} {Γ : Gx} {t0 w0 : Nat} {q : Int32 × Mm} (k18 : Nat → Nat → Nat → Int32 → Mm → Option (Int32 × Mm)) (hk18 : ∀ (a0 : Nat) (a1 : Nat) (a2 : Nat) (x3 : Int32) (M : Mm), k18 a0 a1 a2 x3 M = some q → AW l Γ yL_law cL_law 4 (ret) 46 t0 w0 18 [(0, .ref a0), (1, .ref a1), (2, .ref a2), (3, .int x3)] [] M (some (.int q.1)) q.2) (a0 : Nat) (a1 : Nat) (a2 : Nat) (x3 : Int32) (M : Mm) (hf : fL_law_b1531 k18 a0 a1 a2 x3 M = some q) : AW l Γ yL_law cL_law 4 (ret) 46 t0 w0 1531 [(0, .ref a0), (1, .ref a1), (2, .ref a2), (3, .int x3)] [] M (some (.int q.1)) q.2 := by
  unfold fL_law_b1531 at hf
  refine a_aload_n dL_law_1531 rfl 1 rfl ?_
  refine a_aload_n dL_law_1532 rfl 0 rfl ?_
  refine a_iload_n dL_law_1533 rfl 3 rfl ?_
  refine a_iconst (v := 1) dL_law_1534 (by decide) ?_
  refine a_iadd dL_law_1535 ?_
  obtain ⟨v1_, ev1_, hf⟩ := bnd hf
  refine a_iald dL_law_1536 ev1_ ?_
  obtain ⟨q2_, eq2_, hf⟩ := bnd hf
  refine a_callV (As := [.int v1_]) (rest := []) dL_law_1537 mfX8_looks cvL_183 (wX8_looks eq2_) rc8 (kX8_looks eq2_) (by decide) rfl rfl (Nat.le_of_ble_eq_true rfl) ?_
  refine a_aload_n dL_law_1540 rfl 2 rfl ?_
  refine a_aload_n dL_law_1541 rfl 0 rfl ?_
  refine a_iload_n dL_law_1542 rfl 3 rfl ?_
  refine a_iconst (v := 1) dL_law_1543 (by decide) ?_
  refine a_iadd dL_law_1544 ?_
  obtain ⟨v3_, ev3_, hf⟩ := bnd hf
  refine a_iald dL_law_1545 ev3_ ?_
  obtain ⟨q4_, eq4_, hf⟩ := bnd hf
  refine a_callV (As := [.int v3_]) (rest := [.int q2_.1]) dL_law_1546 mfX9_looks cvL_186 (wX9_looks eq4_) rc9 (kX9_looks eq4_) (by decide) rfl rfl (Nat.le_of_ble_eq_true rfl) ?_
  refine a_icmp_eq dL_law_1549 (tgt := 1705) (by decide) (fun c9 => ?_) (fun c9 => ?_)
  · replace hf := iteT hf c9
    refine a_iinc (v := x3 + (6 : Int32)) (lv1 := [(3, .int (x3 + (6 : Int32))), (0, .ref a0), (1, .ref a1), (2, .ref a2)]) dL_law_1705 3 rfl rfl (by decide) rfl ?_
    refine a_goto (tgt := 18) dL_law_1708 (by decide) ?_
    refine AW.sub (lv1 := [(0, .ref a0), (1, .ref a1), (2, .ref a2), (3, .int (x3 + (6 : Int32)))]) [1, 2, 3, 0] rfl ?_
    exact hk18 _ _ _ _ _ hf
  · replace hf := iteF hf c9
    refine a_iconst (v := 0) dL_law_1552 (by decide) ?_
    have e9 := Option.some.inj hf
    subst e9
    exact a_zret rfl rfl dL_law_1553 rfl
set_option maxHeartbeats 4000000 in
set_option maxRecDepth 100000 in
theorem wL_law_b1554 {l : Launch} {Γ : Gx} {t0 w0 : Nat} {q : Int32 × Mm} (k18 : Nat → Nat → Nat → Int32 → Mm → Option (Int32 × Mm)) (hk18 : ∀ (a0 : Nat) (a1 : Nat) (a2 : Nat) (x3 : Int32) (M : Mm), k18 a0 a1 a2 x3 M = some q → AW l Γ yL_law cL_law 4 (ret) 46 t0 w0 18 [(0, .ref a0), (1, .ref a1), (2, .ref a2), (3, .int x3)] [] M (some (.int q.1)) q.2) (a0 : Nat) (a1 : Nat) (a2 : Nat) (x3 : Int32) (M : Mm) (hf : fL_law_b1554 k18 a0 a1 a2 x3 M = some q) : AW l Γ yL_law cL_law 4 (ret) 46 t0 w0 1554 [(0, .ref a0), (1, .ref a1), (2, .ref a2), (3, .int x3)] [] M (some (.int q.1)) q.2 := by
  unfold fL_law_b1554 at hf
  refine a_aload_n dL_law_1554 rfl 1 rfl ?_
  obtain ⟨q1_, eq1_, hf⟩ := bnd hf
  refine a_callV (As := []) (rest := []) dL_law_1555 mfX8_right cvL_187 (wX8_right eq1_) rc8 (kX8_right eq1_) (by decide) rfl rfl (Nat.le_of_ble_eq_true rfl) ?_
  refine a_aload_n dL_law_1558 rfl 2 rfl ?_
  obtain ⟨q2_, eq2_, hf⟩ := bnd hf
  refine a_callV (As := []) (rest := [.int q1_.1]) dL_law_1559 mfX9_right cvL_190 (wX9_right eq2_) rc9 (kX9_right eq2_) (by decide) rfl rfl (Nat.le_of_ble_eq_true rfl) ?_
  refine a_icmp_eq dL_law_1562 (tgt := 1705) (by decide) (fun c9 => ?_) (fun c9 => ?_)
  · replace hf := iteT hf c9
    refine a_iinc (v := x3 + (6 : Int32)) (lv1 := [(3, .int (x3 + (6 : Int32))), (0, .ref a0), (1, .ref a1), (2, .ref a2)]) dL_law_1705 3 rfl rfl (by decide) rfl ?_
    refine a_goto (tgt := 18) dL_law_1708 (by decide) ?_
    refine AW.sub (lv1 := [(0, .ref a0), (1, .ref a1), (2, .ref a2), (3, .int (x3 + (6 : Int32)))]) [1, 2, 3, 0] rfl ?_
    exact hk18 _ _ _ _ _ hf
  · replace hf := iteF hf c9
    refine a_iconst (v := 0) dL_law_1565 (by decide) ?_
    have e9 := Option.some.inj hf
    subst e9
    exact a_zret rfl rfl dL_law_1566 rfl
set_option maxHeartbeats 4000000 in
set_option maxRecDepth 100000 in
theorem wL_law_b1567 {l : Launch} {Γ : Gx} {t0 w0 : Nat} {q : Int32 × Mm} (k18 : Nat → Nat → Nat → Int32 → Mm → Option (Int32 × Mm)) (hk18 : ∀ (a0 : Nat) (a1 : Nat) (a2 : Nat) (x3 : Int32) (M : Mm), k18 a0 a1 a2 x3 M = some q → AW l Γ yL_law cL_law 4 (ret) 46 t0 w0 18 [(0, .ref a0), (1, .ref a1), (2, .ref a2), (3, .int x3)] [] M (some (.int q.1)) q.2) (a0 : Nat) (a1 : Nat) (a2 : Nat) (x3 : Int32) (M : Mm) (hf : fL_law_b1567 k18 a0 a1 a2 x3 M = some q) : AW l Γ yL_law cL_law 4 (ret) 46 t0 w0 1567 [(0, .ref a0), (1, .ref a1), (2, .ref a2), (3, .int x3)] [] M (some (.int q.1)) q.2 := by
  unfold fL_law_b1567 at hf
  refine a_aload_n dL_law_1567 rfl 1 rfl ?_
  refine a_aload_n dL_law_1568 rfl 0 rfl ?_
  refine a_iload_n dL_law_1569 rfl 3 rfl ?_
  refine a_iconst (v := 1) dL_law_1570 (by decide) ?_
  refine a_iadd dL_law_1571 ?_
  obtain ⟨v1_, ev1_, hf⟩ := bnd hf
  refine a_iald dL_law_1572 ev1_ ?_
  obtain ⟨q2_, eq2_, hf⟩ := bnd hf
  refine a_callV (As := [.int v1_]) (rest := []) dL_law_1573 mfX8_seed cvL_191 (wX8_seed eq2_) rc8 (kX8_seed eq2_) (by decide) rfl rfl (Nat.le_of_ble_eq_true rfl) ?_
  refine a_aload_n dL_law_1576 rfl 2 rfl ?_
  refine a_aload_n dL_law_1577 rfl 0 rfl ?_
  refine a_iload_n dL_law_1578 rfl 3 rfl ?_
  refine a_iconst (v := 1) dL_law_1579 (by decide) ?_
  refine a_iadd dL_law_1580 ?_
  obtain ⟨v3_, ev3_, hf⟩ := bnd hf
  refine a_iald dL_law_1581 ev3_ ?_
  obtain ⟨q4_, eq4_, hf⟩ := bnd hf
  refine a_callV (As := [.int v3_]) (rest := [.int q2_.1]) dL_law_1582 mfX9_seed cvL_194 (wX9_seed eq4_) rc9 (kX9_seed eq4_) (by decide) rfl rfl (Nat.le_of_ble_eq_true rfl) ?_
  refine a_icmp_eq dL_law_1585 (tgt := 1705) (by decide) (fun c9 => ?_) (fun c9 => ?_)
  · replace hf := iteT hf c9
    refine a_iinc (v := x3 + (6 : Int32)) (lv1 := [(3, .int (x3 + (6 : Int32))), (0, .ref a0), (1, .ref a1), (2, .ref a2)]) dL_law_1705 3 rfl rfl (by decide) rfl ?_
    refine a_goto (tgt := 18) dL_law_1708 (by decide) ?_
    refine AW.sub (lv1 := [(0, .ref a0), (1, .ref a1), (2, .ref a2), (3, .int (x3 + (6 : Int32)))]) [1, 2, 3, 0] rfl ?_
    exact hk18 _ _ _ _ _ hf
  · replace hf := iteF hf c9
    refine a_iconst (v := 0) dL_law_1588 (by decide) ?_
    have e9 := Option.some.inj hf
    subst e9
    exact a_zret rfl rfl dL_law_1589 rfl
set_option maxHeartbeats 4000000 in
set_option maxRecDepth 100000 in
theorem wL_law_b1590 {l : Launch} {Γ : Gx} {t0 w0 : Nat} {q : Int32 × Mm} (k18 : Nat → Nat → Nat → Int32 → Mm → Option (Int32 × Mm)) (hk18 : ∀ (a0 : Nat) (a1 : Nat) (a2 : Nat) (x3 : Int32) (M : Mm), k18 a0 a1 a2 x3 M = some q → AW l Γ yL_law cL_law 4 (ret) 46 t0 w0 18 [(0, .ref a0), (1, .ref a1), (2, .ref a2), (3, .int x3)] [] M (some (.int q.1)) q.2) (a0 : Nat) (a1 : Nat) (a2 : Nat) (x3 : Int32) (M : Mm) (hf : fL_law_b1590 k18 a0 a1 a2 x3 M = some q) : AW l Γ yL_law cL_law 4 (ret) 46 t0 w0 1590 [(0, .ref a0), (1, .ref a1), (2, .ref a2), (3, .int x3)] [] M (some (.int q.1)) q.2 := by
  unfold fL_law_b1590 at hf
  refine a_aload_n dL_law_1590 rfl 1 rfl ?_
  refine a_aload_n dL_law_1591 rfl 0 rfl ?_
  refine a_iload_n dL_law_1592 rfl 3 rfl ?_
  refine a_iconst (v := 1) dL_law_1593 (by decide) ?_
  refine a_iadd dL_law_1594 ?_
  obtain ⟨v1_, ev1_, hf⟩ := bnd hf
  refine a_iald dL_law_1595 ev1_ ?_
  refine a_aload_n dL_law_1596 rfl 0 rfl ?_
  refine a_iload_n dL_law_1597 rfl 3 rfl ?_
  refine a_iconst (v := 2) dL_law_1598 (by decide) ?_
  refine a_iadd dL_law_1599 ?_
  obtain ⟨v2_, ev2_, hf⟩ := bnd hf
  refine a_iald dL_law_1600 ev2_ ?_
  refine a_aload_n dL_law_1601 rfl 0 rfl ?_
  refine a_iload_n dL_law_1602 rfl 3 rfl ?_
  refine a_iconst (v := 3) dL_law_1603 (by decide) ?_
  refine a_iadd dL_law_1604 ?_
  obtain ⟨v3_, ev3_, hf⟩ := bnd hf
  refine a_iald dL_law_1605 ev3_ ?_
  obtain ⟨q4_, eq4_, hf⟩ := bnd hf
  refine a_callV (As := [.int v1_, .int v2_, .int v3_]) (rest := []) dL_law_1606 mfX8_act cvL_195 (wX8_act eq4_) rc8 (kX8_act eq4_) (by decide) rfl rfl (Nat.le_of_ble_eq_true rfl) ?_
  refine a_aload_n dL_law_1609 rfl 2 rfl ?_
  refine a_aload_n dL_law_1610 rfl 0 rfl ?_
  refine a_iload_n dL_law_1611 rfl 3 rfl ?_
  refine a_iconst (v := 1) dL_law_1612 (by decide) ?_
  refine a_iadd dL_law_1613 ?_
  obtain ⟨v5_, ev5_, hf⟩ := bnd hf
  refine a_iald dL_law_1614 ev5_ ?_
  refine a_aload_n dL_law_1615 rfl 0 rfl ?_
  refine a_iload_n dL_law_1616 rfl 3 rfl ?_
  refine a_iconst (v := 2) dL_law_1617 (by decide) ?_
  refine a_iadd dL_law_1618 ?_
  obtain ⟨v6_, ev6_, hf⟩ := bnd hf
  refine a_iald dL_law_1619 ev6_ ?_
  refine a_aload_n dL_law_1620 rfl 0 rfl ?_
  refine a_iload_n dL_law_1621 rfl 3 rfl ?_
  refine a_iconst (v := 3) dL_law_1622 (by decide) ?_
  refine a_iadd dL_law_1623 ?_
  obtain ⟨v7_, ev7_, hf⟩ := bnd hf
  refine a_iald dL_law_1624 ev7_ ?_
  obtain ⟨q8_, eq8_, hf⟩ := bnd hf
  refine a_callV (As := [.int v5_, .int v6_, .int v7_]) (rest := [.int q4_.1]) dL_law_1625 mfX9_act cvL_198 (wX9_act eq8_) rc9 (kX9_act eq8_) (by decide) rfl rfl (Nat.le_of_ble_eq_true rfl) ?_
  refine a_icmp_eq dL_law_1628 (tgt := 1705) (by decide) (fun c9 => ?_) (fun c9 => ?_)
  · replace hf := iteT hf c9
    refine a_iinc (v := x3 + (6 : Int32)) (lv1 := [(3, .int (x3 + (6 : Int32))), (0, .ref a0), (1, .ref a1), (2, .ref a2)]) dL_law_1705 3 rfl rfl (by decide) rfl ?_
    refine a_goto (tgt := 18) dL_law_1708 (by decide) ?_
    refine AW.sub (lv1 := [(0, .ref a0), (1, .ref a1), (2, .ref a2), (3, .int (x3 + (6 : Int32)))]) [1, 2, 3, 0] rfl ?_
    exact hk18 _ _ _ _ _ hf
  · replace hf := iteF hf c9
    refine a_iconst (v := 0) dL_law_1631 (by decide) ?_
    have e9 := Option.some.inj hf
    subst e9
    exact a_zret rfl rfl dL_law_1632 rfl
set_option maxHeartbeats 4000000 in
set_option maxRecDepth 100000 in
theorem wL_law_b1633 {l : Launch} {Γ : Gx} {t0 w0 : Nat} {q : Int32 × Mm} (k18 : Nat → Nat → Nat → Int32 → Mm → Option (Int32 × Mm)) (hk18 : ∀ (a0 : Nat) (a1 : Nat) (a2 : Nat) (x3 : Int32) (M : Mm), k18 a0 a1 a2 x3 M = some q → AW l Γ yL_law cL_law 4 (ret) 46 t0 w0 18 [(0, .ref a0), (1, .ref a1), (2, .ref a2), (3, .int x3)] [] M (some (.int q.1)) q.2) (a0 : Nat) (a1 : Nat) (a2 : Nat) (x3 : Int32) (M : Mm) (hf : fL_law_b1633 k18 a0 a1 a2 x3 M = some q) : AW l Γ yL_law cL_law 4 (ret) 46 t0 w0 1633 [(0, .ref a0), (1, .ref a1), (2, .ref a2), (3, .int x3)] [] M (some (.int q.1)) q.2 := by
  unfold fL_law_b1633 at hf
  refine a_aload_n dL_law_1633 rfl 1 rfl ?_
  refine a_aload_n dL_law_1634 rfl 0 rfl ?_
  refine a_iload_n dL_law_1635 rfl 3 rfl ?_
  refine a_iconst (v := 1) dL_law_1636 (by decide) ?_
  refine a_iadd dL_law_1637 ?_
  obtain ⟨v1_, ev1_, hf⟩ := bnd hf
  refine a_iald dL_law_1638 ev1_ ?_
  obtain ⟨q2_, eq2_, hf⟩ := bnd hf
  refine a_callV (As := [.int v1_]) (rest := []) dL_law_1639 mfX8_trace cvL_199 (wX8_trace eq2_) rc8 (kX8_trace eq2_) (by decide) rfl rfl (Nat.le_of_ble_eq_true rfl) ?_
  refine a_aload_n dL_law_1642 rfl 2 rfl ?_
  refine a_aload_n dL_law_1643 rfl 0 rfl ?_
  refine a_iload_n dL_law_1644 rfl 3 rfl ?_
  refine a_iconst (v := 1) dL_law_1645 (by decide) ?_
  refine a_iadd dL_law_1646 ?_
  obtain ⟨v3_, ev3_, hf⟩ := bnd hf
  refine a_iald dL_law_1647 ev3_ ?_
  obtain ⟨q4_, eq4_, hf⟩ := bnd hf
  refine a_callV (As := [.int v3_]) (rest := [.int q2_.1]) dL_law_1648 mfX9_trace cvL_202 (wX9_trace eq4_) rc9 (kX9_trace eq4_) (by decide) rfl rfl (Nat.le_of_ble_eq_true rfl) ?_
  refine a_icmp_eq dL_law_1651 (tgt := 1705) (by decide) (fun c9 => ?_) (fun c9 => ?_)
  · replace hf := iteT hf c9
    refine a_iinc (v := x3 + (6 : Int32)) (lv1 := [(3, .int (x3 + (6 : Int32))), (0, .ref a0), (1, .ref a1), (2, .ref a2)]) dL_law_1705 3 rfl rfl (by decide) rfl ?_
    refine a_goto (tgt := 18) dL_law_1708 (by decide) ?_
    refine AW.sub (lv1 := [(0, .ref a0), (1, .ref a1), (2, .ref a2), (3, .int (x3 + (6 : Int32)))]) [1, 2, 3, 0] rfl ?_
    exact hk18 _ _ _ _ _ hf
  · replace hf := iteF hf c9
    refine a_iconst (v := 0) dL_law_1654 (by decide) ?_
    have e9 := Option.some.inj hf
    subst e9
    exact a_zret rfl rfl dL_law_1655 rfl
set_option maxHeartbeats 4000000 in
set_option maxRecDepth 100000 in
theorem wL_law_b1656 {l : Launch} {Γ : Gx} {t0 w0 : Nat} {q : Int32 × Mm} (k18 : Nat → Nat → Nat → Int32 → Mm → Option (Int32 × Mm)) (hk18 : ∀ (a0 : Nat) (a1 : Nat) (a2 : Nat) (x3 : Int32) (M : Mm), k18 a0 a1 a2 x3 M = some q → AW l Γ yL_law cL_law 4 (ret) 46 t0 w0 18 [(0, .ref a0), (1, .ref a1), (2, .ref a2), (3, .int x3)] [] M (some (.int q.1)) q.2) (a0 : Nat) (a1 : Nat) (a2 : Nat) (x3 : Int32) (M : Mm) (hf : fL_law_b1656 k18 a0 a1 a2 x3 M = some q) : AW l Γ yL_law cL_law 4 (ret) 46 t0 w0 1656 [(0, .ref a0), (1, .ref a1), (2, .ref a2), (3, .int x3)] [] M (some (.int q.1)) q.2 := by
  unfold fL_law_b1656 at hf
  refine a_aload_n dL_law_1656 rfl 1 rfl ?_
  obtain ⟨q1_, eq1_, hf⟩ := bnd hf
  refine a_callV (As := []) (rest := []) dL_law_1657 mfX8_image cvL_203 (wX8_image eq1_) rc8 (kX8_image eq1_) (by decide) rfl rfl (Nat.le_of_ble_eq_true rfl) ?_
  refine a_aload_n dL_law_1660 rfl 2 rfl ?_
  obtain ⟨q2_, eq2_, hf⟩ := bnd hf
  refine a_callV (As := []) (rest := [.int q1_.1]) dL_law_1661 mfX9_image cvL_206 (wX9_image eq2_) rc9 (kX9_image eq2_) (by decide) rfl rfl (Nat.le_of_ble_eq_true rfl) ?_
  refine a_icmp_eq dL_law_1664 (tgt := 1705) (by decide) (fun c9 => ?_) (fun c9 => ?_)
  · replace hf := iteT hf c9
    refine a_iinc (v := x3 + (6 : Int32)) (lv1 := [(3, .int (x3 + (6 : Int32))), (0, .ref a0), (1, .ref a1), (2, .ref a2)]) dL_law_1705 3 rfl rfl (by decide) rfl ?_
    refine a_goto (tgt := 18) dL_law_1708 (by decide) ?_
    refine AW.sub (lv1 := [(0, .ref a0), (1, .ref a1), (2, .ref a2), (3, .int (x3 + (6 : Int32)))]) [1, 2, 3, 0] rfl ?_
    exact hk18 _ _ _ _ _ hf
  · replace hf := iteF hf c9
    refine a_iconst (v := 0) dL_law_1667 (by decide) ?_
    have e9 := Option.some.inj hf
    subst e9
    exact a_zret rfl rfl dL_law_1668 rfl
set_option maxHeartbeats 4000000 in
set_option maxRecDepth 100000 in
theorem wL_law_b1669 {l : Launch} {Γ : Gx} {t0 w0 : Nat} {q : Int32 × Mm} (k18 : Nat → Nat → Nat → Int32 → Mm → Option (Int32 × Mm)) (hk18 : ∀ (a0 : Nat) (a1 : Nat) (a2 : Nat) (x3 : Int32) (M : Mm), k18 a0 a1 a2 x3 M = some q → AW l Γ yL_law cL_law 4 (ret) 46 t0 w0 18 [(0, .ref a0), (1, .ref a1), (2, .ref a2), (3, .int x3)] [] M (some (.int q.1)) q.2) (a0 : Nat) (a1 : Nat) (a2 : Nat) (x3 : Int32) (M : Mm) (hf : fL_law_b1669 k18 a0 a1 a2 x3 M = some q) : AW l Γ yL_law cL_law 4 (ret) 46 t0 w0 1669 [(0, .ref a0), (1, .ref a1), (2, .ref a2), (3, .int x3)] [] M (some (.int q.1)) q.2 := by
  unfold fL_law_b1669 at hf
  refine a_aload_n dL_law_1669 rfl 1 rfl ?_
  obtain ⟨q1_, eq1_, hf⟩ := bnd hf
  refine a_callV (As := []) (rest := []) dL_law_1670 mfX8_restore cvL_207 (wX8_restore eq1_) rc8 (kX8_restore eq1_) (by decide) rfl rfl (Nat.le_of_ble_eq_true rfl) ?_
  refine a_aload_n dL_law_1673 rfl 2 rfl ?_
  obtain ⟨q2_, eq2_, hf⟩ := bnd hf
  refine a_callV (As := []) (rest := [.int q1_.1]) dL_law_1674 mfX9_restore cvL_210 (wX9_restore eq2_) rc9 (kX9_restore eq2_) (by decide) rfl rfl (Nat.le_of_ble_eq_true rfl) ?_
  refine a_icmp_eq dL_law_1677 (tgt := 1705) (by decide) (fun c9 => ?_) (fun c9 => ?_)
  · replace hf := iteT hf c9
    refine a_iinc (v := x3 + (6 : Int32)) (lv1 := [(3, .int (x3 + (6 : Int32))), (0, .ref a0), (1, .ref a1), (2, .ref a2)]) dL_law_1705 3 rfl rfl (by decide) rfl ?_
    refine a_goto (tgt := 18) dL_law_1708 (by decide) ?_
    refine AW.sub (lv1 := [(0, .ref a0), (1, .ref a1), (2, .ref a2), (3, .int (x3 + (6 : Int32)))]) [1, 2, 3, 0] rfl ?_
    exact hk18 _ _ _ _ _ hf
  · replace hf := iteF hf c9
    refine a_iconst (v := 0) dL_law_1680 (by decide) ?_
    have e9 := Option.some.inj hf
    subst e9
    exact a_zret rfl rfl dL_law_1681 rfl
set_option maxHeartbeats 4000000 in
set_option maxRecDepth 100000 in
theorem wL_law_b1682 {l : Launch} {Γ : Gx} {t0 w0 : Nat} {q : Int32 × Mm} (k18 : Nat → Nat → Nat → Int32 → Mm → Option (Int32 × Mm)) (hk18 : ∀ (a0 : Nat) (a1 : Nat) (a2 : Nat) (x3 : Int32) (M : Mm), k18 a0 a1 a2 x3 M = some q → AW l Γ yL_law cL_law 4 (ret) 46 t0 w0 18 [(0, .ref a0), (1, .ref a1), (2, .ref a2), (3, .int x3)] [] M (some (.int q.1)) q.2) (a0 : Nat) (a1 : Nat) (a2 : Nat) (x3 : Int32) (M : Mm) (hf : fL_law_b1682 k18 a0 a1 a2 x3 M = some q) : AW l Γ yL_law cL_law 4 (ret) 46 t0 w0 1682 [(0, .ref a0), (1, .ref a1), (2, .ref a2), (3, .int x3)] [] M (some (.int q.1)) q.2 := by
  unfold fL_law_b1682 at hf
  refine a_aload_n dL_law_1682 rfl 1 rfl ?_
  refine a_aload_n dL_law_1683 rfl 0 rfl ?_
  refine a_iload_n dL_law_1684 rfl 3 rfl ?_
  refine a_iconst (v := 1) dL_law_1685 (by decide) ?_
  refine a_iadd dL_law_1686 ?_
  obtain ⟨v1_, ev1_, hf⟩ := bnd hf
  refine a_iald dL_law_1687 ev1_ ?_
  obtain ⟨q2_, eq2_, hf⟩ := bnd hf
  refine a_callV (As := [.int v1_]) (rest := []) dL_law_1688 mfX8_status cvL_211 (wX8_status eq2_) rc8 (kX8_status eq2_) (by decide) rfl rfl (Nat.le_of_ble_eq_true rfl) ?_
  refine a_aload_n dL_law_1691 rfl 2 rfl ?_
  refine a_aload_n dL_law_1692 rfl 0 rfl ?_
  refine a_iload_n dL_law_1693 rfl 3 rfl ?_
  refine a_iconst (v := 1) dL_law_1694 (by decide) ?_
  refine a_iadd dL_law_1695 ?_
  obtain ⟨v3_, ev3_, hf⟩ := bnd hf
  refine a_iald dL_law_1696 ev3_ ?_
  obtain ⟨q4_, eq4_, hf⟩ := bnd hf
  refine a_callV (As := [.int v3_]) (rest := [.int q2_.1]) dL_law_1697 mfX9_status cvL_214 (wX9_status eq4_) rc9 (kX9_status eq4_) (by decide) rfl rfl (Nat.le_of_ble_eq_true rfl) ?_
  refine a_icmp_eq dL_law_1700 (tgt := 1705) (by decide) (fun c9 => ?_) (fun c9 => ?_)
  · replace hf := iteT hf c9
    refine a_iinc (v := x3 + (6 : Int32)) (lv1 := [(3, .int (x3 + (6 : Int32))), (0, .ref a0), (1, .ref a1), (2, .ref a2)]) dL_law_1705 3 rfl rfl (by decide) rfl ?_
    refine a_goto (tgt := 18) dL_law_1708 (by decide) ?_
    refine AW.sub (lv1 := [(0, .ref a0), (1, .ref a1), (2, .ref a2), (3, .int (x3 + (6 : Int32)))]) [1, 2, 3, 0] rfl ?_
    exact hk18 _ _ _ _ _ hf
  · replace hf := iteF hf c9
    refine a_iconst (v := 0) dL_law_1703 (by decide) ?_
    have e9 := Option.some.inj hf
    subst e9
    exact a_zret rfl rfl dL_law_1704 rfl
set_option maxHeartbeats 4000000 in
set_option maxRecDepth 100000 in
theorem wL_law_b18 {l : Launch} {Γ : Gx} {t0 w0 : Nat} {q : Int32 × Mm} : ∀ (n : Nat) (a0 : Nat) (a1 : Nat) (a2 : Nat) (x3 : Int32) (M : Mm), fL_law_b18 n a0 a1 a2 x3 M = some q → AW l Γ yL_law cL_law 4 (ret) 46 t0 w0 18 [(0, .ref a0), (1, .ref a1), (2, .ref a2), (3, .int x3)] [] M (some (.int q.1)) q.2 := by
  intro n
  induction n with
  | zero =>
    intro a0 a1 a2 x3 M hf
    cases hf
  | succ n ih =>
    intro a0 a1 a2 x3 M hf
    rw [fL_law_b18.eq_2] at hf
    refine a_iload_n dL_law_18 rfl 3 rfl ?_
    refine a_aload_n dL_law_19 rfl 0 rfl ?_
    obtain ⟨v1_, ev1_, hf⟩ := bnd hf
    refine a_alen dL_law_20 ev1_ ?_
    refine a_bipush (v := 6) dL_law_21 (by decide) ?_
    refine a_isub dL_law_23 ?_
    refine a_icmp_gt dL_law_24 (tgt := 1711) (by decide) (fun c9 => ?_) (fun c9 => ?_)
    · replace hf := iteT hf c9
      refine a_iconst (v := 1) dL_law_1711 (by decide) ?_
      have e9 := Option.some.inj hf
      subst e9
      exact a_zret rfl rfl dL_law_1712 rfl
    · replace hf := iteF hf c9
      refine a_aload_n dL_law_27 rfl 0 rfl ?_
      refine a_iload_n dL_law_28 rfl 3 rfl ?_
      obtain ⟨v2_, ev2_, hf⟩ := bnd hf
      refine a_iald dL_law_29 ev2_ ?_
      refine a_bipush (v := 63) dL_law_30 (by decide) ?_
      refine a_iand dL_law_32 ?_
      by_cases c0 : (v2_ &&& ((63 : Int32))) = (0 : Int32)
      · replace hf := iteT hf c0
        refine a_tableAt 0 (off := 203) (tgt := 236) dL_law_33 ((congrArg Int32.toInt c0).trans rfl) (by decide) (by decide) ?_
        exact wL_law_b236 _ ih _ _ _ _ _ hf
      · replace hf := iteF hf c0
        by_cases c1 : (v2_ &&& ((63 : Int32))) = (1 : Int32)
        · replace hf := iteT hf c1
          refine a_tableAt 1 (off := 246) (tgt := 279) dL_law_33 ((congrArg Int32.toInt c1).trans rfl) (by decide) (by decide) ?_
          exact wL_law_b279 _ ih _ _ _ _ _ hf
        · replace hf := iteF hf c1
          by_cases c2 : (v2_ &&& ((63 : Int32))) = (2 : Int32)
          · replace hf := iteT hf c2
            refine a_tableAt 2 (off := 319) (tgt := 352) dL_law_33 ((congrArg Int32.toInt c2).trans rfl) (by decide) (by decide) ?_
            exact wL_law_b352 _ ih _ _ _ _ _ hf
          · replace hf := iteF hf c2
            by_cases c3 : (v2_ &&& ((63 : Int32))) = (3 : Int32)
            · replace hf := iteT hf c3
              refine a_tableAt 3 (off := 382) (tgt := 415) dL_law_33 ((congrArg Int32.toInt c3).trans rfl) (by decide) (by decide) ?_
              exact wL_law_b415 _ ih _ _ _ _ _ hf
            · replace hf := iteF hf c3
              by_cases c4 : (v2_ &&& ((63 : Int32))) = (4 : Int32)
              · replace hf := iteT hf c4
                refine a_tableAt 4 (off := 416) (tgt := 449) dL_law_33 ((congrArg Int32.toInt c4).trans rfl) (by decide) (by decide) ?_
                exact wL_law_b449 _ ih _ _ _ _ _ hf
              · replace hf := iteF hf c4
                by_cases c5 : (v2_ &&& ((63 : Int32))) = (5 : Int32)
                · replace hf := iteT hf c5
                  refine a_tableAt 5 (off := 449) (tgt := 482) dL_law_33 ((congrArg Int32.toInt c5).trans rfl) (by decide) (by decide) ?_
                  exact wL_law_b482 _ ih _ _ _ _ _ hf
                · replace hf := iteF hf c5
                  by_cases c6 : (v2_ &&& ((63 : Int32))) = (6 : Int32)
                  · replace hf := iteT hf c6
                    refine a_tableAt 6 (off := 472) (tgt := 505) dL_law_33 ((congrArg Int32.toInt c6).trans rfl) (by decide) (by decide) ?_
                    exact wL_law_b505 _ ih _ _ _ _ _ hf
                  · replace hf := iteF hf c6
                    by_cases c7 : (v2_ &&& ((63 : Int32))) = (7 : Int32)
                    · replace hf := iteT hf c7
                      refine a_tableAt 7 (off := 505) (tgt := 538) dL_law_33 ((congrArg Int32.toInt c7).trans rfl) (by decide) (by decide) ?_
                      exact wL_law_b538 _ ih _ _ _ _ _ hf
                    · replace hf := iteF hf c7
                      by_cases c8 : (v2_ &&& ((63 : Int32))) = (8 : Int32)
                      · replace hf := iteT hf c8
                        refine a_tableAt 8 (off := 528) (tgt := 561) dL_law_33 ((congrArg Int32.toInt c8).trans rfl) (by decide) (by decide) ?_
                        exact wL_law_b561 _ ih _ _ _ _ _ hf
                      · replace hf := iteF hf c8
                        by_cases c9 : (v2_ &&& ((63 : Int32))) = (9 : Int32)
                        · replace hf := iteT hf c9
                          refine a_tableAt 9 (off := 581) (tgt := 614) dL_law_33 ((congrArg Int32.toInt c9).trans rfl) (by decide) (by decide) ?_
                          exact wL_law_b614 _ ih _ _ _ _ _ hf
                        · replace hf := iteF hf c9
                          by_cases c10 : (v2_ &&& ((63 : Int32))) = (10 : Int32)
                          · replace hf := iteT hf c10
                            refine a_tableAt 10 (off := 640) (tgt := 673) dL_law_33 ((congrArg Int32.toInt c10).trans rfl) (by decide) (by decide) ?_
                            exact wL_law_b673 _ ih _ _ _ _ _ hf
                          · replace hf := iteF hf c10
                            by_cases c11 : (v2_ &&& ((63 : Int32))) = (11 : Int32)
                            · replace hf := iteT hf c11
                              refine a_tableAt 11 (off := 683) (tgt := 716) dL_law_33 ((congrArg Int32.toInt c11).trans rfl) (by decide) (by decide) ?_
                              exact wL_law_b716 _ ih _ _ _ _ _ hf
                            · replace hf := iteF hf c11
                              by_cases c12 : (v2_ &&& ((63 : Int32))) = (12 : Int32)
                              · replace hf := iteT hf c12
                                refine a_tableAt 12 (off := 716) (tgt := 749) dL_law_33 ((congrArg Int32.toInt c12).trans rfl) (by decide) (by decide) ?_
                                exact wL_law_b749 _ ih _ _ _ _ _ hf
                              · replace hf := iteF hf c12
                                by_cases c13 : (v2_ &&& ((63 : Int32))) = (13 : Int32)
                                · replace hf := iteT hf c13
                                  refine a_tableAt 13 (off := 749) (tgt := 782) dL_law_33 ((congrArg Int32.toInt c13).trans rfl) (by decide) (by decide) ?_
                                  exact wL_law_b782 _ ih _ _ _ _ _ hf
                                · replace hf := iteF hf c13
                                  by_cases c14 : (v2_ &&& ((63 : Int32))) = (14 : Int32)
                                  · replace hf := iteT hf c14
                                    refine a_tableAt 14 (off := 782) (tgt := 815) dL_law_33 ((congrArg Int32.toInt c14).trans rfl) (by decide) (by decide) ?_
                                    exact wL_law_b815 _ ih _ _ _ _ _ hf
                                  · replace hf := iteF hf c14
                                    by_cases c15 : (v2_ &&& ((63 : Int32))) = (15 : Int32)
                                    · replace hf := iteT hf c15
                                      refine a_tableAt 15 (off := 815) (tgt := 848) dL_law_33 ((congrArg Int32.toInt c15).trans rfl) (by decide) (by decide) ?_
                                      exact wL_law_b848 _ ih _ _ _ _ _ hf
                                    · replace hf := iteF hf c15
                                      by_cases c16 : (v2_ &&& ((63 : Int32))) = (16 : Int32)
                                      · replace hf := iteT hf c16
                                        refine a_tableAt 16 (off := 838) (tgt := 871) dL_law_33 ((congrArg Int32.toInt c16).trans rfl) (by decide) (by decide) ?_
                                        exact wL_law_b871 _ ih _ _ _ _ _ hf
                                      · replace hf := iteF hf c16
                                        by_cases c17 : (v2_ &&& ((63 : Int32))) = (17 : Int32)
                                        · replace hf := iteT hf c17
                                          refine a_tableAt 17 (off := 861) (tgt := 894) dL_law_33 ((congrArg Int32.toInt c17).trans rfl) (by decide) (by decide) ?_
                                          exact wL_law_b894 _ ih _ _ _ _ _ hf
                                        · replace hf := iteF hf c17
                                          by_cases c18 : (v2_ &&& ((63 : Int32))) = (18 : Int32)
                                          · replace hf := iteT hf c18
                                            refine a_tableAt 18 (off := 874) (tgt := 907) dL_law_33 ((congrArg Int32.toInt c18).trans rfl) (by decide) (by decide) ?_
                                            exact wL_law_b907 _ ih _ _ _ _ _ hf
                                          · replace hf := iteF hf c18
                                            by_cases c19 : (v2_ &&& ((63 : Int32))) = (19 : Int32)
                                            · replace hf := iteT hf c19
                                              refine a_tableAt 19 (off := 897) (tgt := 930) dL_law_33 ((congrArg Int32.toInt c19).trans rfl) (by decide) (by decide) ?_
                                              exact wL_law_b930 _ ih _ _ _ _ _ hf
                                            · replace hf := iteF hf c19
                                              by_cases c20 : (v2_ &&& ((63 : Int32))) = (20 : Int32)
                                              · replace hf := iteT hf c20
                                                refine a_tableAt 20 (off := 921) (tgt := 954) dL_law_33 ((congrArg Int32.toInt c20).trans rfl) (by decide) (by decide) ?_
                                                exact wL_law_b954 _ ih _ _ _ _ _ hf
                                              · replace hf := iteF hf c20
                                                by_cases c21 : (v2_ &&& ((63 : Int32))) = (21 : Int32)
                                                · replace hf := iteT hf c21
                                                  refine a_tableAt 21 (off := 954) (tgt := 987) dL_law_33 ((congrArg Int32.toInt c21).trans rfl) (by decide) (by decide) ?_
                                                  exact wL_law_b987 _ ih _ _ _ _ _ hf
                                                · replace hf := iteF hf c21
                                                  by_cases c22 : (v2_ &&& ((63 : Int32))) = (22 : Int32)
                                                  · replace hf := iteT hf c22
                                                    refine a_tableAt 22 (off := 993) (tgt := 1026) dL_law_33 ((congrArg Int32.toInt c22).trans rfl) (by decide) (by decide) ?_
                                                    exact wL_law_b1026 _ ih _ _ _ _ _ hf
                                                  · replace hf := iteF hf c22
                                                    by_cases c23 : (v2_ &&& ((63 : Int32))) = (23 : Int32)
                                                    · replace hf := iteT hf c23
                                                      refine a_tableAt 23 (off := 1042) (tgt := 1075) dL_law_33 ((congrArg Int32.toInt c23).trans rfl) (by decide) (by decide) ?_
                                                      exact wL_law_b1075 _ ih _ _ _ _ _ hf
                                                    · replace hf := iteF hf c23
                                                      by_cases c24 : (v2_ &&& ((63 : Int32))) = (24 : Int32)
                                                      · replace hf := iteT hf c24
                                                        refine a_tableAt 24 (off := 1055) (tgt := 1088) dL_law_33 ((congrArg Int32.toInt c24).trans rfl) (by decide) (by decide) ?_
                                                        exact wL_law_b1088 _ ih _ _ _ _ _ hf
                                                      · replace hf := iteF hf c24
                                                        by_cases c25 : (v2_ &&& ((63 : Int32))) = (25 : Int32)
                                                        · replace hf := iteT hf c25
                                                          refine a_tableAt 25 (off := 1068) (tgt := 1101) dL_law_33 ((congrArg Int32.toInt c25).trans rfl) (by decide) (by decide) ?_
                                                          exact wL_law_b1101 _ ih _ _ _ _ _ hf
                                                        · replace hf := iteF hf c25
                                                          by_cases c26 : (v2_ &&& ((63 : Int32))) = (26 : Int32)
                                                          · replace hf := iteT hf c26
                                                            refine a_tableAt 26 (off := 1101) (tgt := 1134) dL_law_33 ((congrArg Int32.toInt c26).trans rfl) (by decide) (by decide) ?_
                                                            exact wL_law_b1134 _ ih _ _ _ _ _ hf
                                                          · replace hf := iteF hf c26
                                                            by_cases c27 : (v2_ &&& ((63 : Int32))) = (27 : Int32)
                                                            · replace hf := iteT hf c27
                                                              refine a_tableAt 27 (off := 1134) (tgt := 1167) dL_law_33 ((congrArg Int32.toInt c27).trans rfl) (by decide) (by decide) ?_
                                                              exact wL_law_b1167 _ ih _ _ _ _ _ hf
                                                            · replace hf := iteF hf c27
                                                              by_cases c28 : (v2_ &&& ((63 : Int32))) = (28 : Int32)
                                                              · replace hf := iteT hf c28
                                                                refine a_tableAt 28 (off := 1158) (tgt := 1191) dL_law_33 ((congrArg Int32.toInt c28).trans rfl) (by decide) (by decide) ?_
                                                                exact wL_law_b1191 _ ih _ _ _ _ _ hf
                                                              · replace hf := iteF hf c28
                                                                by_cases c29 : (v2_ &&& ((63 : Int32))) = (29 : Int32)
                                                                · replace hf := iteT hf c29
                                                                  refine a_tableAt 29 (off := 1171) (tgt := 1204) dL_law_33 ((congrArg Int32.toInt c29).trans rfl) (by decide) (by decide) ?_
                                                                  exact wL_law_b1204 _ ih _ _ _ _ _ hf
                                                                · replace hf := iteF hf c29
                                                                  by_cases c30 : (v2_ &&& ((63 : Int32))) = (30 : Int32)
                                                                  · replace hf := iteT hf c30
                                                                    refine a_tableAt 30 (off := 1184) (tgt := 1217) dL_law_33 ((congrArg Int32.toInt c30).trans rfl) (by decide) (by decide) ?_
                                                                    exact wL_law_b1217 _ ih _ _ _ _ _ hf
                                                                  · replace hf := iteF hf c30
                                                                    by_cases c31 : (v2_ &&& ((63 : Int32))) = (31 : Int32)
                                                                    · replace hf := iteT hf c31
                                                                      refine a_tableAt 31 (off := 1207) (tgt := 1240) dL_law_33 ((congrArg Int32.toInt c31).trans rfl) (by decide) (by decide) ?_
                                                                      exact wL_law_b1240 _ ih _ _ _ _ _ hf
                                                                    · replace hf := iteF hf c31
                                                                      by_cases c32 : (v2_ &&& ((63 : Int32))) = (32 : Int32)
                                                                      · replace hf := iteT hf c32
                                                                        refine a_tableAt 32 (off := 1241) (tgt := 1274) dL_law_33 ((congrArg Int32.toInt c32).trans rfl) (by decide) (by decide) ?_
                                                                        exact wL_law_b1274 _ ih _ _ _ _ _ hf
                                                                      · replace hf := iteF hf c32
                                                                        by_cases c33 : (v2_ &&& ((63 : Int32))) = (33 : Int32)
                                                                        · replace hf := iteT hf c33
                                                                          refine a_tableAt 33 (off := 1274) (tgt := 1307) dL_law_33 ((congrArg Int32.toInt c33).trans rfl) (by decide) (by decide) ?_
                                                                          exact wL_law_b1307 _ ih _ _ _ _ _ hf
                                                                        · replace hf := iteF hf c33
                                                                          by_cases c34 : (v2_ &&& ((63 : Int32))) = (34 : Int32)
                                                                          · replace hf := iteT hf c34
                                                                            refine a_tableAt 34 (off := 1317) (tgt := 1350) dL_law_33 ((congrArg Int32.toInt c34).trans rfl) (by decide) (by decide) ?_
                                                                            exact wL_law_b1350 _ ih _ _ _ _ _ hf
                                                                          · replace hf := iteF hf c34
                                                                            by_cases c35 : (v2_ &&& ((63 : Int32))) = (35 : Int32)
                                                                            · replace hf := iteT hf c35
                                                                              refine a_tableAt 35 (off := 1370) (tgt := 1403) dL_law_33 ((congrArg Int32.toInt c35).trans rfl) (by decide) (by decide) ?_
                                                                              exact wL_law_b1403 _ ih _ _ _ _ _ hf
                                                                            · replace hf := iteF hf c35
                                                                              by_cases c36 : (v2_ &&& ((63 : Int32))) = (36 : Int32)
                                                                              · replace hf := iteT hf c36
                                                                                refine a_tableAt 36 (off := 1403) (tgt := 1436) dL_law_33 ((congrArg Int32.toInt c36).trans rfl) (by decide) (by decide) ?_
                                                                                exact wL_law_b1436 _ ih _ _ _ _ _ hf
                                                                              · replace hf := iteF hf c36
                                                                                by_cases c37 : (v2_ &&& ((63 : Int32))) = (37 : Int32)
                                                                                · replace hf := iteT hf c37
                                                                                  refine a_tableAt 37 (off := 1436) (tgt := 1469) dL_law_33 ((congrArg Int32.toInt c37).trans rfl) (by decide) (by decide) ?_
                                                                                  exact wL_law_b1469 _ ih _ _ _ _ _ hf
                                                                                · replace hf := iteF hf c37
                                                                                  by_cases c38 : (v2_ &&& ((63 : Int32))) = (38 : Int32)
                                                                                  · replace hf := iteT hf c38
                                                                                    refine a_tableAt 38 (off := 1459) (tgt := 1492) dL_law_33 ((congrArg Int32.toInt c38).trans rfl) (by decide) (by decide) ?_
                                                                                    exact wL_law_b1492 _ ih _ _ _ _ _ hf
                                                                                  · replace hf := iteF hf c38
                                                                                    by_cases c39 : (v2_ &&& ((63 : Int32))) = (39 : Int32)
                                                                                    · replace hf := iteT hf c39
                                                                                      refine a_tableAt 39 (off := 1498) (tgt := 1531) dL_law_33 ((congrArg Int32.toInt c39).trans rfl) (by decide) (by decide) ?_
                                                                                      exact wL_law_b1531 _ ih _ _ _ _ _ hf
                                                                                    · replace hf := iteF hf c39
                                                                                      by_cases c40 : (v2_ &&& ((63 : Int32))) = (40 : Int32)
                                                                                      · replace hf := iteT hf c40
                                                                                        refine a_tableAt 40 (off := 1521) (tgt := 1554) dL_law_33 ((congrArg Int32.toInt c40).trans rfl) (by decide) (by decide) ?_
                                                                                        exact wL_law_b1554 _ ih _ _ _ _ _ hf
                                                                                      · replace hf := iteF hf c40
                                                                                        by_cases c41 : (v2_ &&& ((63 : Int32))) = (41 : Int32)
                                                                                        · replace hf := iteT hf c41
                                                                                          refine a_tableAt 41 (off := 1534) (tgt := 1567) dL_law_33 ((congrArg Int32.toInt c41).trans rfl) (by decide) (by decide) ?_
                                                                                          exact wL_law_b1567 _ ih _ _ _ _ _ hf
                                                                                        · replace hf := iteF hf c41
                                                                                          by_cases c42 : (v2_ &&& ((63 : Int32))) = (42 : Int32)
                                                                                          · replace hf := iteT hf c42
                                                                                            refine a_tableAt 42 (off := 1557) (tgt := 1590) dL_law_33 ((congrArg Int32.toInt c42).trans rfl) (by decide) (by decide) ?_
                                                                                            exact wL_law_b1590 _ ih _ _ _ _ _ hf
                                                                                          · replace hf := iteF hf c42
                                                                                            by_cases c43 : (v2_ &&& ((63 : Int32))) = (43 : Int32)
                                                                                            · replace hf := iteT hf c43
                                                                                              refine a_tableAt 43 (off := 1600) (tgt := 1633) dL_law_33 ((congrArg Int32.toInt c43).trans rfl) (by decide) (by decide) ?_
                                                                                              exact wL_law_b1633 _ ih _ _ _ _ _ hf
                                                                                            · replace hf := iteF hf c43
                                                                                              by_cases c44 : (v2_ &&& ((63 : Int32))) = (44 : Int32)
                                                                                              · replace hf := iteT hf c44
                                                                                                refine a_tableAt 44 (off := 1623) (tgt := 1656) dL_law_33 ((congrArg Int32.toInt c44).trans rfl) (by decide) (by decide) ?_
                                                                                                exact wL_law_b1656 _ ih _ _ _ _ _ hf
                                                                                              · replace hf := iteF hf c44
                                                                                                by_cases c45 : (v2_ &&& ((63 : Int32))) = (45 : Int32)
                                                                                                · replace hf := iteT hf c45
                                                                                                  refine a_tableAt 45 (off := 1636) (tgt := 1669) dL_law_33 ((congrArg Int32.toInt c45).trans rfl) (by decide) (by decide) ?_
                                                                                                  exact wL_law_b1669 _ ih _ _ _ _ _ hf
                                                                                                · replace hf := iteF hf c45
                                                                                                  by_cases c46 : (v2_ &&& ((63 : Int32))) = (46 : Int32)
                                                                                                  · replace hf := iteT hf c46
                                                                                                    refine a_tableAt 46 (off := 1649) (tgt := 1682) dL_law_33 ((congrArg Int32.toInt c46).trans rfl) (by decide) (by decide) ?_
                                                                                                    exact wL_law_b1682 _ ih _ _ _ _ _ hf
                                                                                                  · replace hf := iteF hf c46
                                                                                                    refine a_tableOut (tgt := 1705) dL_law_33 (by have nc0 := swne c0 (k9 := 0) rfl; have nc1 := swne c1 (k9 := 1) rfl; have nc2 := swne c2 (k9 := 2) rfl; have nc3 := swne c3 (k9 := 3) rfl; have nc4 := swne c4 (k9 := 4) rfl; have nc5 := swne c5 (k9 := 5) rfl; have nc6 := swne c6 (k9 := 6) rfl; have nc7 := swne c7 (k9 := 7) rfl; have nc8 := swne c8 (k9 := 8) rfl; have nc9 := swne c9 (k9 := 9) rfl; have nc10 := swne c10 (k9 := 10) rfl; have nc11 := swne c11 (k9 := 11) rfl; have nc12 := swne c12 (k9 := 12) rfl; have nc13 := swne c13 (k9 := 13) rfl; have nc14 := swne c14 (k9 := 14) rfl; have nc15 := swne c15 (k9 := 15) rfl; have nc16 := swne c16 (k9 := 16) rfl; have nc17 := swne c17 (k9 := 17) rfl; have nc18 := swne c18 (k9 := 18) rfl; have nc19 := swne c19 (k9 := 19) rfl; have nc20 := swne c20 (k9 := 20) rfl; have nc21 := swne c21 (k9 := 21) rfl; have nc22 := swne c22 (k9 := 22) rfl; have nc23 := swne c23 (k9 := 23) rfl; have nc24 := swne c24 (k9 := 24) rfl; have nc25 := swne c25 (k9 := 25) rfl; have nc26 := swne c26 (k9 := 26) rfl; have nc27 := swne c27 (k9 := 27) rfl; have nc28 := swne c28 (k9 := 28) rfl; have nc29 := swne c29 (k9 := 29) rfl; have nc30 := swne c30 (k9 := 30) rfl; have nc31 := swne c31 (k9 := 31) rfl; have nc32 := swne c32 (k9 := 32) rfl; have nc33 := swne c33 (k9 := 33) rfl; have nc34 := swne c34 (k9 := 34) rfl; have nc35 := swne c35 (k9 := 35) rfl; have nc36 := swne c36 (k9 := 36) rfl; have nc37 := swne c37 (k9 := 37) rfl; have nc38 := swne c38 (k9 := 38) rfl; have nc39 := swne c39 (k9 := 39) rfl; have nc40 := swne c40 (k9 := 40) rfl; have nc41 := swne c41 (k9 := 41) rfl; have nc42 := swne c42 (k9 := 42) rfl; have nc43 := swne c43 (k9 := 43) rfl; have nc44 := swne c44 (k9 := 44) rfl; have nc45 := swne c45 (k9 := 45) rfl; have nc46 := swne c46 (k9 := 46) rfl; omega) (by decide) ?_
                                                                                                    refine a_iinc (v := x3 + (6 : Int32)) (lv1 := [(3, .int (x3 + (6 : Int32))), (0, .ref a0), (1, .ref a1), (2, .ref a2)]) dL_law_1705 3 rfl rfl (by decide) rfl ?_
                                                                                                    refine a_goto (tgt := 18) dL_law_1708 (by decide) ?_
                                                                                                    refine AW.sub (lv1 := [(0, .ref a0), (1, .ref a1), (2, .ref a2), (3, .int (x3 + (6 : Int32)))]) [1, 2, 3, 0] rfl ?_
                                                                                                    exact ih _ _ _ _ _ hf
set_option maxHeartbeats 4000000 in
set_option maxRecDepth 100000 in
theorem wL_law {l : Launch} {Γ : Gx} {t0 w0 : Nat} {a0 : Nat} {M : Mm} {q : Int32 × Mm} (hf : fL_law a0 M = some q) : AW l Γ yL_law cL_law 4 (ret) 46 t0 w0 0 [(0, .ref a0)] [] M (some (.int q.1)) q.2 := by
  unfold fL_law at hf
  obtain ⟨q1_, eq1_, hf⟩ := bnd hf
  refine a_new dL_law_0 nwL_7 rfl nz8 eq1_ ?_
  refine a_dup dL_law_3 rfl ?_
  obtain ⟨M2_, eM2_, hf⟩ := bnd hf
  refine a_callI (As := []) (rest := [.ref q1_.1]) dL_law_4 mfX8_init ciL_9 (wX8_init eM2_) (by decide) rfl rfl (Nat.le_of_ble_eq_true rfl) ?_
  refine a_astore_n (i := 1) (lv1 := [(1, .ref q1_.1), (0, .ref a0)]) dL_law_7 rfl (by decide) rfl ?_
  obtain ⟨q3_, eq3_, hf⟩ := bnd hf
  refine a_new dL_law_8 nwL_10 rfl nz9 eq3_ ?_
  refine a_dup dL_law_11 rfl ?_
  obtain ⟨M4_, eM4_, hf⟩ := bnd hf
  refine a_callI (As := []) (rest := [.ref q3_.1]) dL_law_12 mfX9_init ciL_12 (wX9_init eM4_) (by decide) rfl rfl (Nat.le_of_ble_eq_true rfl) ?_
  refine a_astore_n (i := 2) (lv1 := [(2, .ref q3_.1), (1, .ref q1_.1), (0, .ref a0)]) dL_law_15 rfl (by decide) rfl ?_
  refine a_iconst (v := 0) dL_law_16 (by decide) ?_
  refine a_istore_n (i := 3) (lv1 := [(3, .int ((0 : Int32))), (2, .ref q3_.1), (1, .ref q1_.1), (0, .ref a0)]) dL_law_17 rfl (by decide) rfl ?_
  refine AW.sub (lv1 := [(0, .ref a0), (1, .ref q1_.1), (2, .ref q3_.1), (3, .int ((0 : Int32)))]) [3, 2, 1, 0] rfl ?_
  exact wL_law_b18 _ _ _ _ _ _ hf
