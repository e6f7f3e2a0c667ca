section LAWCASES
variable {Δ : DD} {Γ : GG} {b L : Nat} {xs : Nat → Int32} {x : Int32} {σ : Mem}
theorem lc_row (C : Cx Δ Γ RL cL_law 4 30 (some .boolean)) (hX : SX Δ Γ b L xs) (hin : Hin x L) (hσ : Inv σ) (K : ∀ σ' : Mem, Inv σ' → V Δ Γ 4 1318 (LL Δ x b) [] σ') : V Δ Γ 4 212 (LL Δ x b) [] σ := by
  obtain ⟨q1, q2, e1, e2, er, hI⟩ := sim_row (xs (x + 1).toNatClampNeg) (xs (x + 2).toNatClampNeg) σ hσ
  refine v_aload_n C 1 2 dL_law_212 rfl rfl ?_
  refine v_arg C hX 1 dL_law_213 dL_law_214 dL_law_215 dL_law_216 dL_law_217 rfl (hin 1 (by decide)) ?_
  refine v_arg C hX 2 dL_law_218 dL_law_219 dL_law_220 dL_law_221 dL_law_222 rfl (hin 2 (by decide)) ?_
  refine v_cVi C mw_X8_row lk_L_13 [.int _, .int _] (M_X8_row (by decide) rfl e1) rfl rfl rfl (Nat.le_of_ble_eq_true rfl) dL_law_223 ?_
  refine v_aload_n C 2 1 dL_law_226 rfl rfl ?_
  refine v_arg C hX 1 dL_law_227 dL_law_228 dL_law_229 dL_law_230 dL_law_231 rfl (hin 1 (by decide)) ?_
  refine v_arg C hX 2 dL_law_232 dL_law_233 dL_law_234 dL_law_235 dL_law_236 rfl (hin 2 (by decide)) ?_
  refine v_cVi C mw_X9_row lk_L_17 [.int _, .int _] (M_X9_row (by decide) rfl e2) rfl rfl rfl (Nat.le_of_ble_eq_true rfl) dL_law_237 ?_
  exact v_icmp_eq C 1318 dL_law_240 (by decide) (fun _ => K _ hI) (fun h => absurd er h)
theorem lc_lay (C : Cx Δ Γ RL cL_law 4 30 (some .boolean)) (hX : SX Δ Γ b L xs) (hin : Hin x L) (hσ : Inv σ) (K : ∀ σ' : Mem, Inv σ' → V Δ Γ 4 1318 (LL Δ x b) [] σ') : V Δ Γ 4 245 (LL Δ x b) [] σ := by
  obtain ⟨q1, q2, e1, e2, er, hI⟩ := sim_lay (xs (x + 1).toNatClampNeg) (xs (x + 2).toNatClampNeg) (xs (x + 3).toNatClampNeg) σ hσ
  refine v_aload_n C 1 2 dL_law_245 rfl rfl ?_
  refine v_arg C hX 1 dL_law_246 dL_law_247 dL_law_248 dL_law_249 dL_law_250 rfl (hin 1 (by decide)) ?_
  refine v_arg C hX 2 dL_law_251 dL_law_252 dL_law_253 dL_law_254 dL_law_255 rfl (hin 2 (by decide)) ?_
  refine v_arg C hX 3 dL_law_256 dL_law_257 dL_law_258 dL_law_259 dL_law_260 rfl (hin 3 (by decide)) ?_
  refine v_cVi C mw_X8_lay lk_L_18 [.int _, .int _, .int _] (M_X8_lay (by decide) rfl e1) rfl rfl rfl (Nat.le_of_ble_eq_true rfl) dL_law_261 ?_
  refine v_aload_n C 2 1 dL_law_264 rfl rfl ?_
  refine v_arg C hX 1 dL_law_265 dL_law_266 dL_law_267 dL_law_268 dL_law_269 rfl (hin 1 (by decide)) ?_
  refine v_arg C hX 2 dL_law_270 dL_law_271 dL_law_272 dL_law_273 dL_law_274 rfl (hin 2 (by decide)) ?_
  refine v_arg C hX 3 dL_law_275 dL_law_276 dL_law_277 dL_law_278 dL_law_279 rfl (hin 3 (by decide)) ?_
  refine v_cVi C mw_X9_lay lk_L_22 [.int _, .int _, .int _] (M_X9_lay (by decide) rfl e2) rfl rfl rfl (Nat.le_of_ble_eq_true rfl) dL_law_280 ?_
  exact v_icmp_eq C 1318 dL_law_283 (by decide) (fun _ => K _ hI) (fun h => absurd er h)
theorem lc_at (C : Cx Δ Γ RL cL_law 4 30 (some .boolean)) (hX : SX Δ Γ b L xs) (hin : Hin x L) (hσ : Inv σ) (K : ∀ σ' : Mem, Inv σ' → V Δ Γ 4 1318 (LL Δ x b) [] σ') : V Δ Γ 4 288 (LL Δ x b) [] σ := by
  obtain ⟨q1, q2, e1, e2, er, hI⟩ := sim_at (xs (x + 1).toNatClampNeg) (xs (x + 2).toNatClampNeg) σ hσ
  refine v_aload_n C 1 2 dL_law_288 rfl rfl ?_
  refine v_arg C hX 1 dL_law_289 dL_law_290 dL_law_291 dL_law_292 dL_law_293 rfl (hin 1 (by decide)) ?_
  refine v_arg C hX 2 dL_law_294 dL_law_295 dL_law_296 dL_law_297 dL_law_298 rfl (hin 2 (by decide)) ?_
  refine v_cVi C mw_X8_at lk_L_23 [.int _, .int _] (M_X8_at (by decide) rfl e1) rfl rfl rfl (Nat.le_of_ble_eq_true rfl) dL_law_299 ?_
  refine v_aload_n C 2 1 dL_law_302 rfl rfl ?_
  refine v_arg C hX 1 dL_law_303 dL_law_304 dL_law_305 dL_law_306 dL_law_307 rfl (hin 1 (by decide)) ?_
  refine v_arg C hX 2 dL_law_308 dL_law_309 dL_law_310 dL_law_311 dL_law_312 rfl (hin 2 (by decide)) ?_
  refine v_cVi C mw_X9_at lk_L_26 [.int _, .int _] (M_X9_at (by decide) rfl e2) rfl rfl rfl (Nat.le_of_ble_eq_true rfl) dL_law_313 ?_
  exact v_icmp_eq C 1318 dL_law_316 (by decide) (fun _ => K _ hI) (fun h => absurd er h)
theorem lc_tear (C : Cx Δ Γ RL cL_law 4 30 (some .boolean)) (hX : SX Δ Γ b L xs) (hin : Hin x L) (hσ : Inv σ) (K : ∀ σ' : Mem, Inv σ' → V Δ Γ 4 1318 (LL Δ x b) [] σ') : V Δ Γ 4 321 (LL Δ x b) [] σ := by
  obtain ⟨q1, q2, e1, e2, er, hI⟩ := sim_tear (xs (x + 1).toNatClampNeg) σ hσ
  refine v_aload_n C 1 2 dL_law_321 rfl rfl ?_
  refine v_arg C hX 1 dL_law_322 dL_law_323 dL_law_324 dL_law_325 dL_law_326 rfl (hin 1 (by decide)) ?_
  refine v_cVi C mw_X8_tear lk_L_27 [.int _] (M_X8_tear (by decide) rfl e1) rfl rfl rfl (Nat.le_of_ble_eq_true rfl) dL_law_327 ?_
  refine v_aload_n C 2 1 dL_law_330 rfl rfl ?_
  refine v_arg C hX 1 dL_law_331 dL_law_332 dL_law_333 dL_law_334 dL_law_335 rfl (hin 1 (by decide)) ?_
  refine v_cVi C mw_X9_tear lk_L_31 [.int _] (M_X9_tear (by decide) rfl e2) rfl rfl rfl (Nat.le_of_ble_eq_true rfl) dL_law_336 ?_
  exact v_icmp_eq C 1318 dL_law_339 (by decide) (fun _ => K _ hI) (fun h => absurd er h)
theorem lc_copy (C : Cx Δ Γ RL cL_law 4 30 (some .boolean)) (hX : SX Δ Γ b L xs) (hin : Hin x L) (hσ : Inv σ) (K : ∀ σ' : Mem, Inv σ' → V Δ Γ 4 1318 (LL Δ x b) [] σ') : V Δ Γ 4 344 (LL Δ x b) [] σ := by
  obtain ⟨q1, q2, e1, e2, er, hI⟩ := sim_copy (xs (x + 1).toNatClampNeg) (xs (x + 2).toNatClampNeg) (xs (x + 3).toNatClampNeg) (xs (x + 4).toNatClampNeg) (xs (x + 5).toNatClampNeg) σ hσ
  refine v_aload_n C 1 2 dL_law_344 rfl rfl ?_
  refine v_arg C hX 1 dL_law_345 dL_law_346 dL_law_347 dL_law_348 dL_law_349 rfl (hin 1 (by decide)) ?_
  refine v_arg C hX 2 dL_law_350 dL_law_351 dL_law_352 dL_law_353 dL_law_354 rfl (hin 2 (by decide)) ?_
  refine v_arg C hX 3 dL_law_355 dL_law_356 dL_law_357 dL_law_358 dL_law_359 rfl (hin 3 (by decide)) ?_
  refine v_arg C hX 4 dL_law_360 dL_law_361 dL_law_362 dL_law_363 dL_law_364 rfl (hin 4 (by decide)) ?_
  refine v_arg C hX 5 dL_law_365 dL_law_366 dL_law_367 dL_law_368 dL_law_369 rfl (hin 5 (by decide)) ?_
  refine v_cVi C mw_X8_copy lk_L_32 [.int _, .int _, .int _, .int _, .int _] (M_X8_copy (by decide) rfl e1) rfl rfl rfl (Nat.le_of_ble_eq_true rfl) dL_law_370 ?_
  refine v_aload_n C 2 1 dL_law_373 rfl rfl ?_
  refine v_arg C hX 1 dL_law_374 dL_law_375 dL_law_376 dL_law_377 dL_law_378 rfl (hin 1 (by decide)) ?_
  refine v_arg C hX 2 dL_law_379 dL_law_380 dL_law_381 dL_law_382 dL_law_383 rfl (hin 2 (by decide)) ?_
  refine v_arg C hX 3 dL_law_384 dL_law_385 dL_law_386 dL_law_387 dL_law_388 rfl (hin 3 (by decide)) ?_
  refine v_arg C hX 4 dL_law_389 dL_law_390 dL_law_391 dL_law_392 dL_law_393 rfl (hin 4 (by decide)) ?_
  refine v_arg C hX 5 dL_law_394 dL_law_395 dL_law_396 dL_law_397 dL_law_398 rfl (hin 5 (by decide)) ?_
  refine v_cVi C mw_X9_copy lk_L_36 [.int _, .int _, .int _, .int _, .int _] (M_X9_copy (by decide) rfl e2) rfl rfl rfl (Nat.le_of_ble_eq_true rfl) dL_law_399 ?_
  exact v_icmp_eq C 1318 dL_law_402 (by decide) (fun _ => K _ hI) (fun h => absurd er h)
theorem lc_mean (C : Cx Δ Γ RL cL_law 4 30 (some .boolean)) (hX : SX Δ Γ b L xs) (hin : Hin x L) (hσ : Inv σ) (K : ∀ σ' : Mem, Inv σ' → V Δ Γ 4 1318 (LL Δ x b) [] σ') : V Δ Γ 4 407 (LL Δ x b) [] σ := by
  obtain ⟨q1, q2, e1, e2, er, hI⟩ := sim_mean (xs (x + 1).toNatClampNeg) σ hσ
  refine v_aload_n C 1 2 dL_law_407 rfl rfl ?_
  refine v_arg C hX 1 dL_law_408 dL_law_409 dL_law_410 dL_law_411 dL_law_412 rfl (hin 1 (by decide)) ?_
  refine v_cVi C mw_X8_mean lk_L_37 [.int _] (M_X8_mean (by decide) rfl e1) rfl rfl rfl (Nat.le_of_ble_eq_true rfl) dL_law_413 ?_
  refine v_aload_n C 2 1 dL_law_416 rfl rfl ?_
  refine v_arg C hX 1 dL_law_417 dL_law_418 dL_law_419 dL_law_420 dL_law_421 rfl (hin 1 (by decide)) ?_
  refine v_cVi C mw_X9_mean lk_L_40 [.int _] (M_X9_mean (by decide) rfl e2) rfl rfl rfl (Nat.le_of_ble_eq_true rfl) dL_law_422 ?_
  exact v_icmp_eq C 1318 dL_law_425 (by decide) (fun _ => K _ hI) (fun h => absurd er h)
theorem lc_text (C : Cx Δ Γ RL cL_law 4 30 (some .boolean)) (hX : SX Δ Γ b L xs) (hin : Hin x L) (hσ : Inv σ) (K : ∀ σ' : Mem, Inv σ' → V Δ Γ 4 1318 (LL Δ x b) [] σ') : V Δ Γ 4 430 (LL Δ x b) [] σ := by
  obtain ⟨q1, q2, e1, e2, er, hI⟩ := sim_text (xs (x + 1).toNatClampNeg) (xs (x + 2).toNatClampNeg) σ hσ
  refine v_aload_n C 1 2 dL_law_430 rfl rfl ?_
  refine v_arg C hX 1 dL_law_431 dL_law_432 dL_law_433 dL_law_434 dL_law_435 rfl (hin 1 (by decide)) ?_
  refine v_arg C hX 2 dL_law_436 dL_law_437 dL_law_438 dL_law_439 dL_law_440 rfl (hin 2 (by decide)) ?_
  refine v_cVi C mw_X8_text lk_L_41 [.int _, .int _] (M_X8_text (by decide) rfl e1) rfl rfl rfl (Nat.le_of_ble_eq_true rfl) dL_law_441 ?_
  refine v_aload_n C 2 1 dL_law_444 rfl rfl ?_
  refine v_arg C hX 1 dL_law_445 dL_law_446 dL_law_447 dL_law_448 dL_law_449 rfl (hin 1 (by decide)) ?_
  refine v_arg C hX 2 dL_law_450 dL_law_451 dL_law_452 dL_law_453 dL_law_454 rfl (hin 2 (by decide)) ?_
  refine v_cVi C mw_X9_text lk_L_44 [.int _, .int _] (M_X9_text (by decide) rfl e2) rfl rfl rfl (Nat.le_of_ble_eq_true rfl) dL_law_455 ?_
  exact v_icmp_eq C 1318 dL_law_458 (by decide) (fun _ => K _ hI) (fun h => absurd er h)
theorem lc_put (C : Cx Δ Γ RL cL_law 4 30 (some .boolean)) (hX : SX Δ Γ b L xs) (hin : Hin x L) (hσ : Inv σ) (K : ∀ σ' : Mem, Inv σ' → V Δ Γ 4 1318 (LL Δ x b) [] σ') : V Δ Γ 4 463 (LL Δ x b) [] σ := by
  obtain ⟨q1, q2, e1, e2, er, hI⟩ := sim_put (xs (x + 1).toNatClampNeg) (xs (x + 2).toNatClampNeg) (xs (x + 3).toNatClampNeg) σ hσ
  refine v_aload_n C 1 2 dL_law_463 rfl rfl ?_
  refine v_arg C hX 1 dL_law_464 dL_law_465 dL_law_466 dL_law_467 dL_law_468 rfl (hin 1 (by decide)) ?_
  refine v_arg C hX 2 dL_law_469 dL_law_470 dL_law_471 dL_law_472 dL_law_473 rfl (hin 2 (by decide)) ?_
  refine v_arg C hX 3 dL_law_474 dL_law_475 dL_law_476 dL_law_477 dL_law_478 rfl (hin 3 (by decide)) ?_
  refine v_cVi C mw_X8_put lk_L_45 [.int _, .int _, .int _] (M_X8_put (by decide) rfl e1) rfl rfl rfl (Nat.le_of_ble_eq_true rfl) dL_law_479 ?_
  refine v_aload_n C 2 1 dL_law_482 rfl rfl ?_
  refine v_arg C hX 1 dL_law_483 dL_law_484 dL_law_485 dL_law_486 dL_law_487 rfl (hin 1 (by decide)) ?_
  refine v_arg C hX 2 dL_law_488 dL_law_489 dL_law_490 dL_law_491 dL_law_492 rfl (hin 2 (by decide)) ?_
  refine v_arg C hX 3 dL_law_493 dL_law_494 dL_law_495 dL_law_496 dL_law_497 rfl (hin 3 (by decide)) ?_
  refine v_cVi C mw_X9_put lk_L_48 [.int _, .int _, .int _] (M_X9_put (by decide) rfl e2) rfl rfl rfl (Nat.le_of_ble_eq_true rfl) dL_law_498 ?_
  exact v_icmp_eq C 1318 dL_law_501 (by decide) (fun _ => K _ hI) (fun h => absurd er h)
theorem lc_fault (C : Cx Δ Γ RL cL_law 4 30 (some .boolean)) (hX : SX Δ Γ b L xs) (hin : Hin x L) (hσ : Inv σ) (K : ∀ σ' : Mem, Inv σ' → V Δ Γ 4 1318 (LL Δ x b) [] σ') : V Δ Γ 4 506 (LL Δ x b) [] σ := by
  obtain ⟨q1, q2, e1, e2, er, hI⟩ := sim_fault (xs (x + 1).toNatClampNeg) σ hσ
  refine v_aload_n C 1 2 dL_law_506 rfl rfl ?_
  refine v_arg C hX 1 dL_law_507 dL_law_508 dL_law_509 dL_law_510 dL_law_511 rfl (hin 1 (by decide)) ?_
  refine v_cVi C mw_X8_fault lk_L_49 [.int _] (M_X8_fault (by decide) rfl e1) rfl rfl rfl (Nat.le_of_ble_eq_true rfl) dL_law_512 ?_
  refine v_aload_n C 2 1 dL_law_515 rfl rfl ?_
  refine v_arg C hX 1 dL_law_516 dL_law_517 dL_law_518 dL_law_519 dL_law_520 rfl (hin 1 (by decide)) ?_
  refine v_cVi C mw_X9_fault lk_L_52 [.int _] (M_X9_fault (by decide) rfl e2) rfl rfl rfl (Nat.le_of_ble_eq_true rfl) dL_law_521 ?_
  exact v_icmp_eq C 1318 dL_law_524 (by decide) (fun _ => K _ hI) (fun h => absurd er h)
theorem lc_town (C : Cx Δ Γ RL cL_law 4 30 (some .boolean)) (hX : SX Δ Γ b L xs) (hin : Hin x L) (hσ : Inv σ) (K : ∀ σ' : Mem, Inv σ' → V Δ Γ 4 1318 (LL Δ x b) [] σ') : V Δ Γ 4 529 (LL Δ x b) [] σ := by
  obtain ⟨q1, q2, e1, e2, er, hI⟩ := sim_town (xs (x + 1).toNatClampNeg) σ hσ
  refine v_aload_n C 1 2 dL_law_529 rfl rfl ?_
  refine v_arg C hX 1 dL_law_530 dL_law_531 dL_law_532 dL_law_533 dL_law_534 rfl (hin 1 (by decide)) ?_
  refine v_cVi C mw_X8_town lk_L_53 [.int _] (M_X8_town (by decide) rfl e1) rfl rfl rfl (Nat.le_of_ble_eq_true rfl) dL_law_535 ?_
  refine v_aload_n C 2 1 dL_law_538 rfl rfl ?_
  refine v_arg C hX 1 dL_law_539 dL_law_540 dL_law_541 dL_law_542 dL_law_543 rfl (hin 1 (by decide)) ?_
  refine v_cVi C mw_X9_town lk_L_56 [.int _] (M_X9_town (by decide) rfl e2) rfl rfl rfl (Nat.le_of_ble_eq_true rfl) dL_law_544 ?_
  exact v_icmp_eq C 1318 dL_law_547 (by decide) (fun _ => K _ hI) (fun h => absurd er h)
theorem lc_bed (C : Cx Δ Γ RL cL_law 4 30 (some .boolean)) (hX : SX Δ Γ b L xs) (hin : Hin x L) (hσ : Inv σ) (K : ∀ σ' : Mem, Inv σ' → V Δ Γ 4 1318 (LL Δ x b) [] σ') : V Δ Γ 4 552 (LL Δ x b) [] σ := by
  obtain ⟨q1, q2, e1, e2, er, hI⟩ := sim_bed (xs (x + 1).toNatClampNeg) (xs (x + 2).toNatClampNeg) σ hσ
  refine v_aload_n C 1 2 dL_law_552 rfl rfl ?_
  refine v_arg C hX 1 dL_law_553 dL_law_554 dL_law_555 dL_law_556 dL_law_557 rfl (hin 1 (by decide)) ?_
  refine v_arg C hX 2 dL_law_558 dL_law_559 dL_law_560 dL_law_561 dL_law_562 rfl (hin 2 (by decide)) ?_
  refine v_cVi C mw_X8_bed lk_L_57 [.int _, .int _] (M_X8_bed (by decide) rfl e1) rfl rfl rfl (Nat.le_of_ble_eq_true rfl) dL_law_563 ?_
  refine v_aload_n C 2 1 dL_law_566 rfl rfl ?_
  refine v_arg C hX 1 dL_law_567 dL_law_568 dL_law_569 dL_law_570 dL_law_571 rfl (hin 1 (by decide)) ?_
  refine v_arg C hX 2 dL_law_572 dL_law_573 dL_law_574 dL_law_575 dL_law_576 rfl (hin 2 (by decide)) ?_
  refine v_cVi C mw_X9_bed lk_L_60 [.int _, .int _] (M_X9_bed (by decide) rfl e2) rfl rfl rfl (Nat.le_of_ble_eq_true rfl) dL_law_577 ?_
  exact v_icmp_eq C 1318 dL_law_580 (by decide) (fun _ => K _ hI) (fun h => absurd er h)
theorem lc_mark (C : Cx Δ Γ RL cL_law 4 30 (some .boolean)) (hX : SX Δ Γ b L xs) (hin : Hin x L) (hσ : Inv σ) (K : ∀ σ' : Mem, Inv σ' → V Δ Γ 4 1318 (LL Δ x b) [] σ') : V Δ Γ 4 585 (LL Δ x b) [] σ := by
  obtain ⟨q1, q2, e1, e2, er, hI⟩ := sim_mark (xs (x + 1).toNatClampNeg) (xs (x + 2).toNatClampNeg) σ hσ
  refine v_aload_n C 1 2 dL_law_585 rfl rfl ?_
  refine v_arg C hX 1 dL_law_586 dL_law_587 dL_law_588 dL_law_589 dL_law_590 rfl (hin 1 (by decide)) ?_
  refine v_arg C hX 2 dL_law_591 dL_law_592 dL_law_593 dL_law_594 dL_law_595 rfl (hin 2 (by decide)) ?_
  refine v_cVi C mw_X8_mark lk_L_61 [.int _, .int _] (M_X8_mark (by decide) rfl e1) rfl rfl rfl (Nat.le_of_ble_eq_true rfl) dL_law_596 ?_
  refine v_aload_n C 2 1 dL_law_599 rfl rfl ?_
  refine v_arg C hX 1 dL_law_600 dL_law_601 dL_law_602 dL_law_603 dL_law_604 rfl (hin 1 (by decide)) ?_
  refine v_arg C hX 2 dL_law_605 dL_law_606 dL_law_607 dL_law_608 dL_law_609 rfl (hin 2 (by decide)) ?_
  refine v_cVi C mw_X9_mark lk_L_64 [.int _, .int _] (M_X9_mark (by decide) rfl e2) rfl rfl rfl (Nat.le_of_ble_eq_true rfl) dL_law_610 ?_
  exact v_icmp_eq C 1318 dL_law_613 (by decide) (fun _ => K _ hI) (fun h => absurd er h)
theorem lc_cross (C : Cx Δ Γ RL cL_law 4 30 (some .boolean)) (hX : SX Δ Γ b L xs) (hin : Hin x L) (hσ : Inv σ) (K : ∀ σ' : Mem, Inv σ' → V Δ Γ 4 1318 (LL Δ x b) [] σ') : V Δ Γ 4 618 (LL Δ x b) [] σ := by
  obtain ⟨r, e1, e2⟩ := sim_cross (xs (x + 1).toNatClampNeg) (xs (x + 2).toNatClampNeg) σ hσ
  refine v_aload_n C 1 2 dL_law_618 rfl rfl ?_
  refine v_arg C hX 1 dL_law_619 dL_law_620 dL_law_621 dL_law_622 dL_law_623 rfl (hin 1 (by decide)) ?_
  refine v_arg C hX 2 dL_law_624 dL_law_625 dL_law_626 dL_law_627 dL_law_628 rfl (hin 2 (by decide)) ?_
  refine v_cVi C mw_X8_cross lk_L_65 [.int _, .int _] (M_X8_cross (by decide) rfl e1) rfl rfl rfl (Nat.le_of_ble_eq_true rfl) dL_law_629 ?_
  refine v_aload_n C 2 1 dL_law_632 rfl rfl ?_
  refine v_arg C hX 1 dL_law_633 dL_law_634 dL_law_635 dL_law_636 dL_law_637 rfl (hin 1 (by decide)) ?_
  refine v_arg C hX 2 dL_law_638 dL_law_639 dL_law_640 dL_law_641 dL_law_642 rfl (hin 2 (by decide)) ?_
  refine v_cVi C mw_X9_cross lk_L_68 [.int _, .int _] (M_X9_cross (by decide) rfl e2) rfl rfl rfl (Nat.le_of_ble_eq_true rfl) dL_law_643 ?_
  exact v_icmp_eq C 1318 dL_law_646 (by decide) (fun _ => K _ hσ) (fun h => absurd rfl h)
theorem lc_night (C : Cx Δ Γ RL cL_law 4 30 (some .boolean)) (hX : SX Δ Γ b L xs) (hin : Hin x L) (hσ : Inv σ) (K : ∀ σ' : Mem, Inv σ' → V Δ Γ 4 1318 (LL Δ x b) [] σ') : V Δ Γ 4 651 (LL Δ x b) [] σ := by
  obtain ⟨q1, q2, e1, e2, er, hI⟩ := sim_night  σ hσ
  refine v_aload_n C 1 2 dL_law_651 rfl rfl ?_
  refine v_cVi C mw_X8_night lk_L_69 [] (M_X8_night (by decide) rfl e1) rfl rfl rfl (Nat.le_of_ble_eq_true rfl) dL_law_652 ?_
  refine v_aload_n C 2 1 dL_law_655 rfl rfl ?_
  refine v_cVi C mw_X9_night lk_L_73 [] (M_X9_night (by decide) rfl e2) rfl rfl rfl (Nat.le_of_ble_eq_true rfl) dL_law_656 ?_
  exact v_icmp_eq C 1318 dL_law_659 (by decide) (fun _ => K _ hI) (fun h => absurd er h)
theorem lc_inspect (C : Cx Δ Γ RL cL_law 4 30 (some .boolean)) (hX : SX Δ Γ b L xs) (hin : Hin x L) (hσ : Inv σ) (K : ∀ σ' : Mem, Inv σ' → V Δ Γ 4 1318 (LL Δ x b) [] σ') : V Δ Γ 4 664 (LL Δ x b) [] σ := by
  obtain ⟨q1, q2, e1, e2, er, hI⟩ := sim_inspect (xs (x + 1).toNatClampNeg) σ hσ
  refine v_aload_n C 1 2 dL_law_664 rfl rfl ?_
  refine v_arg C hX 1 dL_law_665 dL_law_666 dL_law_667 dL_law_668 dL_law_669 rfl (hin 1 (by decide)) ?_
  refine v_cVi C mw_X8_inspect lk_L_74 [.int _] (M_X8_inspect (by decide) rfl e1) rfl rfl rfl (Nat.le_of_ble_eq_true rfl) dL_law_670 ?_
  refine v_aload_n C 2 1 dL_law_673 rfl rfl ?_
  refine v_arg C hX 1 dL_law_674 dL_law_675 dL_law_676 dL_law_677 dL_law_678 rfl (hin 1 (by decide)) ?_
  refine v_cVi C mw_X9_inspect lk_L_77 [.int _] (M_X9_inspect (by decide) rfl e2) rfl rfl rfl (Nat.le_of_ble_eq_true rfl) dL_law_679 ?_
  exact v_icmp_eq C 1318 dL_law_682 (by decide) (fun _ => K _ hI) (fun h => absurd er h)
theorem lc_thin (C : Cx Δ Γ RL cL_law 4 30 (some .boolean)) (hX : SX Δ Γ b L xs) (hin : Hin x L) (hσ : Inv σ) (K : ∀ σ' : Mem, Inv σ' → V Δ Γ 4 1318 (LL Δ x b) [] σ') : V Δ Γ 4 687 (LL Δ x b) [] σ := by
  obtain ⟨q1, q2, e1, e2, er, hI⟩ := sim_thin (xs (x + 1).toNatClampNeg) σ hσ
  refine v_aload_n C 1 2 dL_law_687 rfl rfl ?_
  refine v_arg C hX 1 dL_law_688 dL_law_689 dL_law_690 dL_law_691 dL_law_692 rfl (hin 1 (by decide)) ?_
  refine v_cVi C mw_X8_thin lk_L_78 [.int _] (M_X8_thin (by decide) rfl e1) rfl rfl rfl (Nat.le_of_ble_eq_true rfl) dL_law_693 ?_
  refine v_aload_n C 2 1 dL_law_696 rfl rfl ?_
  refine v_arg C hX 1 dL_law_697 dL_law_698 dL_law_699 dL_law_700 dL_law_701 rfl (hin 1 (by decide)) ?_
  refine v_cVi C mw_X9_thin lk_L_81 [.int _] (M_X9_thin (by decide) rfl e2) rfl rfl rfl (Nat.le_of_ble_eq_true rfl) dL_law_702 ?_
  exact v_icmp_eq C 1318 dL_law_705 (by decide) (fun _ => K _ hI) (fun h => absurd er h)
theorem lc_swap (C : Cx Δ Γ RL cL_law 4 30 (some .boolean)) (hX : SX Δ Γ b L xs) (hin : Hin x L) (hσ : Inv σ) (K : ∀ σ' : Mem, Inv σ' → V Δ Γ 4 1318 (LL Δ x b) [] σ') : V Δ Γ 4 710 (LL Δ x b) [] σ := by
  obtain ⟨q1, q2, e1, e2, er, hI⟩ := sim_swap (xs (x + 1).toNatClampNeg) (xs (x + 2).toNatClampNeg) σ hσ
  refine v_aload_n C 1 2 dL_law_710 rfl rfl ?_
  refine v_arg C hX 1 dL_law_711 dL_law_712 dL_law_713 dL_law_714 dL_law_715 rfl (hin 1 (by decide)) ?_
  refine v_arg C hX 2 dL_law_716 dL_law_717 dL_law_718 dL_law_719 dL_law_720 rfl (hin 2 (by decide)) ?_
  refine v_cVi C mw_X8_swap lk_L_82 [.int _, .int _] (M_X8_swap (by decide) rfl e1) rfl rfl rfl (Nat.le_of_ble_eq_true rfl) dL_law_721 ?_
  refine v_aload_n C 2 1 dL_law_724 rfl rfl ?_
  refine v_arg C hX 1 dL_law_725 dL_law_726 dL_law_727 dL_law_728 dL_law_729 rfl (hin 1 (by decide)) ?_
  refine v_arg C hX 2 dL_law_730 dL_law_731 dL_law_732 dL_law_733 dL_law_734 rfl (hin 2 (by decide)) ?_
  refine v_cVi C mw_X9_swap lk_L_85 [.int _, .int _] (M_X9_swap (by decide) rfl e2) rfl rfl rfl (Nat.le_of_ble_eq_true rfl) dL_law_735 ?_
  exact v_icmp_eq C 1318 dL_law_738 (by decide) (fun _ => K _ hI) (fun h => absurd er h)
theorem lc_undo (C : Cx Δ Γ RL cL_law 4 30 (some .boolean)) (hX : SX Δ Γ b L xs) (hin : Hin x L) (hσ : Inv σ) (K : ∀ σ' : Mem, Inv σ' → V Δ Γ 4 1318 (LL Δ x b) [] σ') : V Δ Γ 4 743 (LL Δ x b) [] σ := by
  obtain ⟨q1, q2, e1, e2, er, hI⟩ := sim_undo (xs (x + 1).toNatClampNeg) σ hσ
  refine v_aload_n C 1 2 dL_law_743 rfl rfl ?_
  refine v_arg C hX 1 dL_law_744 dL_law_745 dL_law_746 dL_law_747 dL_law_748 rfl (hin 1 (by decide)) ?_
  refine v_cVi C mw_X8_undo lk_L_86 [.int _] (M_X8_undo (by decide) rfl e1) rfl rfl rfl (Nat.le_of_ble_eq_true rfl) dL_law_749 ?_
  refine v_aload_n C 2 1 dL_law_752 rfl rfl ?_
  refine v_arg C hX 1 dL_law_753 dL_law_754 dL_law_755 dL_law_756 dL_law_757 rfl (hin 1 (by decide)) ?_
  refine v_cVi C mw_X9_undo lk_L_89 [.int _] (M_X9_undo (by decide) rfl e2) rfl rfl rfl (Nat.le_of_ble_eq_true rfl) dL_law_758 ?_
  exact v_icmp_eq C 1318 dL_law_761 (by decide) (fun _ => K _ hI) (fun h => absurd er h)
theorem lc_keep (C : Cx Δ Γ RL cL_law 4 30 (some .boolean)) (hX : SX Δ Γ b L xs) (hin : Hin x L) (hσ : Inv σ) (K : ∀ σ' : Mem, Inv σ' → V Δ Γ 4 1318 (LL Δ x b) [] σ') : V Δ Γ 4 766 (LL Δ x b) [] σ := by
  obtain ⟨q1, q2, e1, e2, er, hI⟩ := sim_keep (xs (x + 1).toNatClampNeg) σ hσ
  refine v_aload_n C 1 2 dL_law_766 rfl rfl ?_
  refine v_arg C hX 1 dL_law_767 dL_law_768 dL_law_769 dL_law_770 dL_law_771 rfl (hin 1 (by decide)) ?_
  refine v_cVi C mw_X8_keep lk_L_90 [.int _] (M_X8_keep (by decide) rfl e1) rfl rfl rfl (Nat.le_of_ble_eq_true rfl) dL_law_772 ?_
  refine v_aload_n C 2 1 dL_law_775 rfl rfl ?_
  refine v_arg C hX 1 dL_law_776 dL_law_777 dL_law_778 dL_law_779 dL_law_780 rfl (hin 1 (by decide)) ?_
  refine v_cVi C mw_X9_keep lk_L_93 [.int _] (M_X9_keep (by decide) rfl e2) rfl rfl rfl (Nat.le_of_ble_eq_true rfl) dL_law_781 ?_
  exact v_icmp_eq C 1318 dL_law_784 (by decide) (fun _ => K _ hI) (fun h => absurd er h)
theorem lc_on (C : Cx Δ Γ RL cL_law 4 30 (some .boolean)) (hX : SX Δ Γ b L xs) (hin : Hin x L) (hσ : Inv σ) (K : ∀ σ' : Mem, Inv σ' → V Δ Γ 4 1318 (LL Δ x b) [] σ') : V Δ Γ 4 789 (LL Δ x b) [] σ := by
  obtain ⟨q1, q2, e1, e2, er, hI⟩ := sim_on (xs (x + 1).toNatClampNeg) σ hσ
  refine v_aload_n C 1 2 dL_law_789 rfl rfl ?_
  refine v_arg C hX 1 dL_law_790 dL_law_791 dL_law_792 dL_law_793 dL_law_794 rfl (hin 1 (by decide)) ?_
  refine v_cVi C mw_X8_on lk_L_94 [.int _] (M_X8_on (by decide) rfl e1) rfl rfl rfl (Nat.le_of_ble_eq_true rfl) dL_law_795 ?_
  refine v_aload_n C 2 1 dL_law_798 rfl rfl ?_
  refine v_arg C hX 1 dL_law_799 dL_law_800 dL_law_801 dL_law_802 dL_law_803 rfl (hin 1 (by decide)) ?_
  refine v_cVi C mw_X9_on lk_L_97 [.int _] (M_X9_on (by decide) rfl e2) rfl rfl rfl (Nat.le_of_ble_eq_true rfl) dL_law_804 ?_
  exact v_icmp_eq C 1318 dL_law_807 (by decide) (fun _ => K _ hI) (fun h => absurd er h)
theorem lc_then (C : Cx Δ Γ RL cL_law 4 30 (some .boolean)) (hX : SX Δ Γ b L xs) (hin : Hin x L) (hσ : Inv σ) (K : ∀ σ' : Mem, Inv σ' → V Δ Γ 4 1318 (LL Δ x b) [] σ') : V Δ Γ 4 812 (LL Δ x b) [] σ := by
  obtain ⟨q1, q2, e1, e2, er, hI⟩ := sim_then (xs (x + 1).toNatClampNeg) (xs (x + 2).toNatClampNeg) σ hσ
  refine v_aload_n C 1 2 dL_law_812 rfl rfl ?_
  refine v_arg C hX 1 dL_law_813 dL_law_814 dL_law_815 dL_law_816 dL_law_817 rfl (hin 1 (by decide)) ?_
  refine v_arg C hX 2 dL_law_818 dL_law_819 dL_law_820 dL_law_821 dL_law_822 rfl (hin 2 (by decide)) ?_
  refine v_cVi C mw_X8_then lk_L_98 [.int _, .int _] (M_X8_then (by decide) rfl e1) rfl rfl rfl (Nat.le_of_ble_eq_true rfl) dL_law_823 ?_
  refine v_aload_n C 2 1 dL_law_826 rfl rfl ?_
  refine v_arg C hX 1 dL_law_827 dL_law_828 dL_law_829 dL_law_830 dL_law_831 rfl (hin 1 (by decide)) ?_
  refine v_arg C hX 2 dL_law_832 dL_law_833 dL_law_834 dL_law_835 dL_law_836 rfl (hin 2 (by decide)) ?_
  refine v_cVi C mw_X9_then lk_L_101 [.int _, .int _] (M_X9_then (by decide) rfl e2) rfl rfl rfl (Nat.le_of_ble_eq_true rfl) dL_law_837 ?_
  exact v_icmp_eq C 1318 dL_law_840 (by decide) (fun _ => K _ hI) (fun h => absurd er h)
theorem lc_when (C : Cx Δ Γ RL cL_law 4 30 (some .boolean)) (hX : SX Δ Γ b L xs) (hin : Hin x L) (hσ : Inv σ) (K : ∀ σ' : Mem, Inv σ' → V Δ Γ 4 1318 (LL Δ x b) [] σ') : V Δ Γ 4 845 (LL Δ x b) [] σ := by
  obtain ⟨q1, q2, e1, e2, er, hI⟩ := sim_when (xs (x + 1).toNatClampNeg) σ hσ
  refine v_aload_n C 1 2 dL_law_845 rfl rfl ?_
  refine v_arg C hX 1 dL_law_846 dL_law_847 dL_law_848 dL_law_849 dL_law_850 rfl (hin 1 (by decide)) ?_
  refine v_cVi C mw_X8_when lk_L_102 [.int _] (M_X8_when (by decide) rfl e1) rfl rfl rfl (Nat.le_of_ble_eq_true rfl) dL_law_851 ?_
  refine v_aload_n C 2 1 dL_law_854 rfl rfl ?_
  refine v_arg C hX 1 dL_law_855 dL_law_856 dL_law_857 dL_law_858 dL_law_859 rfl (hin 1 (by decide)) ?_
  refine v_cVi C mw_X9_when lk_L_105 [.int _] (M_X9_when (by decide) rfl e2) rfl rfl rfl (Nat.le_of_ble_eq_true rfl) dL_law_860 ?_
  exact v_icmp_eq C 1318 dL_law_863 (by decide) (fun _ => K _ hI) (fun h => absurd er h)
theorem lc_least (C : Cx Δ Γ RL cL_law 4 30 (some .boolean)) (hX : SX Δ Γ b L xs) (hin : Hin x L) (hσ : Inv σ) (K : ∀ σ' : Mem, Inv σ' → V Δ Γ 4 1318 (LL Δ x b) [] σ') : V Δ Γ 4 868 (LL Δ x b) [] σ := by
  obtain ⟨q1, q2, e1, e2, er, hI⟩ := sim_least (xs (x + 1).toNatClampNeg) (xs (x + 2).toNatClampNeg) σ hσ
  refine v_aload_n C 1 2 dL_law_868 rfl rfl ?_
  refine v_arg C hX 1 dL_law_869 dL_law_870 dL_law_871 dL_law_872 dL_law_873 rfl (hin 1 (by decide)) ?_
  refine v_arg C hX 2 dL_law_874 dL_law_875 dL_law_876 dL_law_877 dL_law_878 rfl (hin 2 (by decide)) ?_
  refine v_cVi C mw_X8_least lk_L_106 [.int _, .int _] (M_X8_least (by decide) rfl e1) rfl rfl rfl (Nat.le_of_ble_eq_true rfl) dL_law_879 ?_
  refine v_aload_n C 2 1 dL_law_882 rfl rfl ?_
  refine v_arg C hX 1 dL_law_883 dL_law_884 dL_law_885 dL_law_886 dL_law_887 rfl (hin 1 (by decide)) ?_
  refine v_arg C hX 2 dL_law_888 dL_law_889 dL_law_890 dL_law_891 dL_law_892 rfl (hin 2 (by decide)) ?_
  refine v_cVi C mw_X9_least lk_L_109 [.int _, .int _] (M_X9_least (by decide) rfl e2) rfl rfl rfl (Nat.le_of_ble_eq_true rfl) dL_law_893 ?_
  exact v_icmp_eq C 1318 dL_law_896 (by decide) (fun _ => K _ hI) (fun h => absurd er h)
theorem lc_round (C : Cx Δ Γ RL cL_law 4 30 (some .boolean)) (hX : SX Δ Γ b L xs) (hin : Hin x L) (hσ : Inv σ) (K : ∀ σ' : Mem, Inv σ' → V Δ Γ 4 1318 (LL Δ x b) [] σ') : V Δ Γ 4 901 (LL Δ x b) [] σ := by
  obtain ⟨q1, q2, e1, e2, er, hI⟩ := sim_round (xs (x + 1).toNatClampNeg) (xs (x + 2).toNatClampNeg) σ hσ
  refine v_aload_n C 1 2 dL_law_901 rfl rfl ?_
  refine v_arg C hX 1 dL_law_902 dL_law_903 dL_law_904 dL_law_905 dL_law_906 rfl (hin 1 (by decide)) ?_
  refine v_arg C hX 2 dL_law_907 dL_law_908 dL_law_909 dL_law_910 dL_law_911 rfl (hin 2 (by decide)) ?_
  refine v_cVi C mw_X8_round lk_L_110 [.int _, .int _] (M_X8_round (by decide) rfl e1) rfl rfl rfl (Nat.le_of_ble_eq_true rfl) dL_law_912 ?_
  refine v_aload_n C 2 1 dL_law_915 rfl rfl ?_
  refine v_arg C hX 1 dL_law_916 dL_law_917 dL_law_918 dL_law_919 dL_law_920 rfl (hin 1 (by decide)) ?_
  refine v_arg C hX 2 dL_law_921 dL_law_922 dL_law_923 dL_law_924 dL_law_925 rfl (hin 2 (by decide)) ?_
  refine v_cVi C mw_X9_round lk_L_113 [.int _, .int _] (M_X9_round (by decide) rfl e2) rfl rfl rfl (Nat.le_of_ble_eq_true rfl) dL_law_926 ?_
  exact v_icmp_eq C 1318 dL_law_929 (by decide) (fun _ => K _ hI) (fun h => absurd er h)
theorem lc_brings (C : Cx Δ Γ RL cL_law 4 30 (some .boolean)) (hX : SX Δ Γ b L xs) (hin : Hin x L) (hσ : Inv σ) (K : ∀ σ' : Mem, Inv σ' → V Δ Γ 4 1318 (LL Δ x b) [] σ') : V Δ Γ 4 934 (LL Δ x b) [] σ := by
  obtain ⟨q1, q2, e1, e2, er, hI⟩ := sim_brings (xs (x + 1).toNatClampNeg) σ hσ
  refine v_aload_n C 1 2 dL_law_934 rfl rfl ?_
  refine v_arg C hX 1 dL_law_935 dL_law_936 dL_law_937 dL_law_938 dL_law_939 rfl (hin 1 (by decide)) ?_
  refine v_cVi C mw_X8_brings lk_L_114 [.int _] (M_X8_brings (by decide) rfl e1) rfl rfl rfl (Nat.le_of_ble_eq_true rfl) dL_law_940 ?_
  refine v_aload_n C 2 1 dL_law_943 rfl rfl ?_
  refine v_arg C hX 1 dL_law_944 dL_law_945 dL_law_946 dL_law_947 dL_law_948 rfl (hin 1 (by decide)) ?_
  refine v_cVi C mw_X9_brings lk_L_117 [.int _] (M_X9_brings (by decide) rfl e2) rfl rfl rfl (Nat.le_of_ble_eq_true rfl) dL_law_949 ?_
  exact v_icmp_eq C 1318 dL_law_952 (by decide) (fun _ => K _ hI) (fun h => absurd er h)
theorem lc_marry (C : Cx Δ Γ RL cL_law 4 30 (some .boolean)) (hX : SX Δ Γ b L xs) (hin : Hin x L) (hσ : Inv σ) (K : ∀ σ' : Mem, Inv σ' → V Δ Γ 4 1318 (LL Δ x b) [] σ') : V Δ Γ 4 957 (LL Δ x b) [] σ := by
  obtain ⟨q1, q2, e1, e2, er, hI⟩ := sim_marry (xs (x + 1).toNatClampNeg) σ hσ
  refine v_aload_n C 1 2 dL_law_957 rfl rfl ?_
  refine v_arg C hX 1 dL_law_958 dL_law_959 dL_law_960 dL_law_961 dL_law_962 rfl (hin 1 (by decide)) ?_
  refine v_cVi C mw_X8_marry lk_L_118 [.int _] (M_X8_marry (by decide) rfl e1) rfl rfl rfl (Nat.le_of_ble_eq_true rfl) dL_law_963 ?_
  refine v_aload_n C 2 1 dL_law_966 rfl rfl ?_
  refine v_arg C hX 1 dL_law_967 dL_law_968 dL_law_969 dL_law_970 dL_law_971 rfl (hin 1 (by decide)) ?_
  refine v_cVi C mw_X9_marry lk_L_121 [.int _] (M_X9_marry (by decide) rfl e2) rfl rfl rfl (Nat.le_of_ble_eq_true rfl) dL_law_972 ?_
  exact v_icmp_eq C 1318 dL_law_975 (by decide) (fun _ => K _ hI) (fun h => absurd er h)
theorem lc_rather (C : Cx Δ Γ RL cL_law 4 30 (some .boolean)) (hX : SX Δ Γ b L xs) (hin : Hin x L) (hσ : Inv σ) (K : ∀ σ' : Mem, Inv σ' → V Δ Γ 4 1318 (LL Δ x b) [] σ') : V Δ Γ 4 980 (LL Δ x b) [] σ := by
  obtain ⟨q1, q2, e1, e2, er, hI⟩ := sim_rather  σ hσ
  refine v_aload_n C 1 2 dL_law_980 rfl rfl ?_
  refine v_cVi C mw_X8_rather lk_L_122 [] (M_X8_rather (by decide) rfl e1) rfl rfl rfl (Nat.le_of_ble_eq_true rfl) dL_law_981 ?_
  refine v_aload_n C 2 1 dL_law_984 rfl rfl ?_
  refine v_cVi C mw_X9_rather lk_L_125 [] (M_X9_rather (by decide) rfl e2) rfl rfl rfl (Nat.le_of_ble_eq_true rfl) dL_law_985 ?_
  exact v_icmp_eq C 1318 dL_law_988 (by decide) (fun _ => K _ hI) (fun h => absurd er h)
theorem lc_thicks (C : Cx Δ Γ RL cL_law 4 30 (some .boolean)) (hX : SX Δ Γ b L xs) (hin : Hin x L) (hσ : Inv σ) (K : ∀ σ' : Mem, Inv σ' → V Δ Γ 4 1318 (LL Δ x b) [] σ') : V Δ Γ 4 993 (LL Δ x b) [] σ := by
  obtain ⟨q1, q2, e1, e2, er, hI⟩ := sim_thicks (xs (x + 1).toNatClampNeg) (xs (x + 2).toNatClampNeg) σ hσ
  refine v_aload_n C 1 2 dL_law_993 rfl rfl ?_
  refine v_arg C hX 1 dL_law_994 dL_law_995 dL_law_996 dL_law_997 dL_law_998 rfl (hin 1 (by decide)) ?_
  refine v_arg C hX 2 dL_law_999 dL_law_1000 dL_law_1001 dL_law_1002 dL_law_1003 rfl (hin 2 (by decide)) ?_
  refine v_cVi C mw_X8_thicks lk_L_126 [.int _, .int _] (M_X8_thicks (by decide) rfl e1) rfl rfl rfl (Nat.le_of_ble_eq_true rfl) dL_law_1004 ?_
  refine v_aload_n C 2 1 dL_law_1007 rfl rfl ?_
  refine v_arg C hX 1 dL_law_1008 dL_law_1009 dL_law_1010 dL_law_1011 dL_law_1012 rfl (hin 1 (by decide)) ?_
  refine v_arg C hX 2 dL_law_1013 dL_law_1014 dL_law_1015 dL_law_1016 dL_law_1017 rfl (hin 2 (by decide)) ?_
  refine v_cVi C mw_X9_thicks lk_L_129 [.int _, .int _] (M_X9_thicks (by decide) rfl e2) rfl rfl rfl (Nat.le_of_ble_eq_true rfl) dL_law_1018 ?_
  exact v_icmp_eq C 1318 dL_law_1021 (by decide) (fun _ => K _ hI) (fun h => absurd er h)
theorem lc_kinds (C : Cx Δ Γ RL cL_law 4 30 (some .boolean)) (hX : SX Δ Γ b L xs) (hin : Hin x L) (hσ : Inv σ) (K : ∀ σ' : Mem, Inv σ' → V Δ Γ 4 1318 (LL Δ x b) [] σ') : V Δ Γ 4 1026 (LL Δ x b) [] σ := by
  obtain ⟨q1, q2, e1, e2, er, hI⟩ := sim_kinds (xs (x + 1).toNatClampNeg) (xs (x + 2).toNatClampNeg) σ hσ
  refine v_aload_n C 1 2 dL_law_1026 rfl rfl ?_
  refine v_arg C hX 1 dL_law_1027 dL_law_1028 dL_law_1029 dL_law_1030 dL_law_1031 rfl (hin 1 (by decide)) ?_
  refine v_arg C hX 2 dL_law_1032 dL_law_1033 dL_law_1034 dL_law_1035 dL_law_1036 rfl (hin 2 (by decide)) ?_
  refine v_cVi C mw_X8_kinds lk_L_130 [.int _, .int _] (M_X8_kinds (by decide) rfl e1) rfl rfl rfl (Nat.le_of_ble_eq_true rfl) dL_law_1037 ?_
  refine v_aload_n C 2 1 dL_law_1040 rfl rfl ?_
  refine v_arg C hX 1 dL_law_1041 dL_law_1042 dL_law_1043 dL_law_1044 dL_law_1045 rfl (hin 1 (by decide)) ?_
  refine v_arg C hX 2 dL_law_1046 dL_law_1047 dL_law_1048 dL_law_1049 dL_law_1050 rfl (hin 2 (by decide)) ?_
  refine v_cVi C mw_X9_kinds lk_L_133 [.int _, .int _] (M_X9_kinds (by decide) rfl e2) rfl rfl rfl (Nat.le_of_ble_eq_true rfl) dL_law_1051 ?_
  exact v_icmp_eq C 1318 dL_law_1054 (by decide) (fun _ => K _ hI) (fun h => absurd er h)
theorem lc_test (C : Cx Δ Γ RL cL_law 4 30 (some .boolean)) (hX : SX Δ Γ b L xs) (hin : Hin x L) (hσ : Inv σ) (K : ∀ σ' : Mem, Inv σ' → V Δ Γ 4 1318 (LL Δ x b) [] σ') : V Δ Γ 4 1059 (LL Δ x b) [] σ := by
  obtain ⟨q1, q2, e1, e2, er, hI⟩ := sim_test (xs (x + 1).toNatClampNeg) (xs (x + 2).toNatClampNeg) σ hσ
  refine v_aload_n C 1 2 dL_law_1059 rfl rfl ?_
  refine v_arg C hX 1 dL_law_1060 dL_law_1061 dL_law_1062 dL_law_1063 dL_law_1064 rfl (hin 1 (by decide)) ?_
  refine v_arg C hX 2 dL_law_1065 dL_law_1066 dL_law_1067 dL_law_1068 dL_law_1069 rfl (hin 2 (by decide)) ?_
  refine v_cVi C mw_X8_test lk_L_134 [.int _, .int _] (M_X8_test (by decide) rfl e1) rfl rfl rfl (Nat.le_of_ble_eq_true rfl) dL_law_1070 ?_
  refine v_aload_n C 2 1 dL_law_1073 rfl rfl ?_
  refine v_arg C hX 1 dL_law_1074 dL_law_1075 dL_law_1076 dL_law_1077 dL_law_1078 rfl (hin 1 (by decide)) ?_
  refine v_arg C hX 2 dL_law_1079 dL_law_1080 dL_law_1081 dL_law_1082 dL_law_1083 rfl (hin 2 (by decide)) ?_
  refine v_cVi C mw_X9_test lk_L_137 [.int _, .int _] (M_X9_test (by decide) rfl e2) rfl rfl rfl (Nat.le_of_ble_eq_true rfl) dL_law_1084 ?_
  exact v_icmp_eq C 1318 dL_law_1087 (by decide) (fun _ => K _ hI) (fun h => absurd er h)
theorem lc_duel (C : Cx Δ Γ RL cL_law 4 30 (some .boolean)) (hX : SX Δ Γ b L xs) (hin : Hin x L) (hσ : Inv σ) (K : ∀ σ' : Mem, Inv σ' → V Δ Γ 4 1318 (LL Δ x b) [] σ') : V Δ Γ 4 1092 (LL Δ x b) [] σ := by
  obtain ⟨q1, q2, e1, e2, er, hI⟩ := sim_duel (xs (x + 1).toNatClampNeg) σ hσ
  refine v_aload_n C 1 2 dL_law_1092 rfl rfl ?_
  refine v_arg C hX 1 dL_law_1093 dL_law_1094 dL_law_1095 dL_law_1096 dL_law_1097 rfl (hin 1 (by decide)) ?_
  refine v_cVi C mw_X8_duel lk_L_138 [.int _] (M_X8_duel (by decide) rfl e1) rfl rfl rfl (Nat.le_of_ble_eq_true rfl) dL_law_1098 ?_
  refine v_aload_n C 2 1 dL_law_1101 rfl rfl ?_
  refine v_arg C hX 1 dL_law_1102 dL_law_1103 dL_law_1104 dL_law_1105 dL_law_1106 rfl (hin 1 (by decide)) ?_
  refine v_cVi C mw_X9_duel lk_L_141 [.int _] (M_X9_duel (by decide) rfl e2) rfl rfl rfl (Nat.le_of_ble_eq_true rfl) dL_law_1107 ?_
  exact v_icmp_eq C 1318 dL_law_1110 (by decide) (fun _ => K _ hI) (fun h => absurd er h)
theorem lc_odds (C : Cx Δ Γ RL cL_law 4 30 (some .boolean)) (hX : SX Δ Γ b L xs) (hin : Hin x L) (hσ : Inv σ) (K : ∀ σ' : Mem, Inv σ' → V Δ Γ 4 1318 (LL Δ x b) [] σ') : V Δ Γ 4 1115 (LL Δ x b) [] σ := by
  obtain ⟨q1, q2, e1, e2, er, hI⟩ := sim_odds (xs (x + 1).toNatClampNeg) (xs (x + 2).toNatClampNeg) σ hσ
  refine v_aload_n C 1 2 dL_law_1115 rfl rfl ?_
  refine v_arg C hX 1 dL_law_1116 dL_law_1117 dL_law_1118 dL_law_1119 dL_law_1120 rfl (hin 1 (by decide)) ?_
  refine v_arg C hX 2 dL_law_1121 dL_law_1122 dL_law_1123 dL_law_1124 dL_law_1125 rfl (hin 2 (by decide)) ?_
  refine v_cVi C mw_X8_odds lk_L_142 [.int _, .int _] (M_X8_odds (by decide) rfl e1) rfl rfl rfl (Nat.le_of_ble_eq_true rfl) dL_law_1126 ?_
  refine v_aload_n C 2 1 dL_law_1129 rfl rfl ?_
  refine v_arg C hX 1 dL_law_1130 dL_law_1131 dL_law_1132 dL_law_1133 dL_law_1134 rfl (hin 1 (by decide)) ?_
  refine v_arg C hX 2 dL_law_1135 dL_law_1136 dL_law_1137 dL_law_1138 dL_law_1139 rfl (hin 2 (by decide)) ?_
  refine v_cVi C mw_X9_odds lk_L_145 [.int _, .int _] (M_X9_odds (by decide) rfl e2) rfl rfl rfl (Nat.le_of_ble_eq_true rfl) dL_law_1140 ?_
  exact v_icmp_eq C 1318 dL_law_1143 (by decide) (fun _ => K _ hI) (fun h => absurd er h)
theorem lc_mid (C : Cx Δ Γ RL cL_law 4 30 (some .boolean)) (hX : SX Δ Γ b L xs) (hin : Hin x L) (hσ : Inv σ) (K : ∀ σ' : Mem, Inv σ' → V Δ Γ 4 1318 (LL Δ x b) [] σ') : V Δ Γ 4 1148 (LL Δ x b) [] σ := by
  obtain ⟨q1, q2, e1, e2, er, hI⟩ := sim_mid (xs (x + 1).toNatClampNeg) σ hσ
  refine v_aload_n C 1 2 dL_law_1148 rfl rfl ?_
  refine v_arg C hX 1 dL_law_1149 dL_law_1150 dL_law_1151 dL_law_1152 dL_law_1153 rfl (hin 1 (by decide)) ?_
  refine v_cVi C mw_X8_mid lk_L_146 [.int _] (M_X8_mid (by decide) rfl e1) rfl rfl rfl (Nat.le_of_ble_eq_true rfl) dL_law_1154 ?_
  refine v_aload_n C 2 1 dL_law_1157 rfl rfl ?_
  refine v_arg C hX 1 dL_law_1158 dL_law_1159 dL_law_1160 dL_law_1161 dL_law_1162 rfl (hin 1 (by decide)) ?_
  refine v_cVi C mw_X9_mid lk_L_149 [.int _] (M_X9_mid (by decide) rfl e2) rfl rfl rfl (Nat.le_of_ble_eq_true rfl) dL_law_1163 ?_
  exact v_icmp_eq C 1318 dL_law_1166 (by decide) (fun _ => K _ hI) (fun h => absurd er h)
theorem lc_lots (C : Cx Δ Γ RL cL_law 4 30 (some .boolean)) (hX : SX Δ Γ b L xs) (hin : Hin x L) (hσ : Inv σ) (K : ∀ σ' : Mem, Inv σ' → V Δ Γ 4 1318 (LL Δ x b) [] σ') : V Δ Γ 4 1171 (LL Δ x b) [] σ := by
  obtain ⟨q1, q2, e1, e2, er, hI⟩ := sim_lots (xs (x + 1).toNatClampNeg) (xs (x + 2).toNatClampNeg) σ hσ
  refine v_aload_n C 1 2 dL_law_1171 rfl rfl ?_
  refine v_arg C hX 1 dL_law_1172 dL_law_1173 dL_law_1174 dL_law_1175 dL_law_1176 rfl (hin 1 (by decide)) ?_
  refine v_arg C hX 2 dL_law_1177 dL_law_1178 dL_law_1179 dL_law_1180 dL_law_1181 rfl (hin 2 (by decide)) ?_
  refine v_cVi C mw_X8_lots lk_L_150 [.int _, .int _] (M_X8_lots (by decide) rfl e1) rfl rfl rfl (Nat.le_of_ble_eq_true rfl) dL_law_1182 ?_
  refine v_aload_n C 2 1 dL_law_1185 rfl rfl ?_
  refine v_arg C hX 1 dL_law_1186 dL_law_1187 dL_law_1188 dL_law_1189 dL_law_1190 rfl (hin 1 (by decide)) ?_
  refine v_arg C hX 2 dL_law_1191 dL_law_1192 dL_law_1193 dL_law_1194 dL_law_1195 rfl (hin 2 (by decide)) ?_
  refine v_cVi C mw_X9_lots lk_L_153 [.int _, .int _] (M_X9_lots (by decide) rfl e2) rfl rfl rfl (Nat.le_of_ble_eq_true rfl) dL_law_1196 ?_
  exact v_icmp_eq C 1318 dL_law_1199 (by decide) (fun _ => K _ hI) (fun h => absurd er h)
theorem lc_asked (C : Cx Δ Γ RL cL_law 4 30 (some .boolean)) (hX : SX Δ Γ b L xs) (hin : Hin x L) (hσ : Inv σ) (K : ∀ σ' : Mem, Inv σ' → V Δ Γ 4 1318 (LL Δ x b) [] σ') : V Δ Γ 4 1204 (LL Δ x b) [] σ := by
  obtain ⟨r, e1, e2⟩ := sim_asked  σ hσ
  refine v_aload_n C 1 2 dL_law_1204 rfl rfl ?_
  refine v_cVi C mw_X8_asked lk_L_154 [] (M_X8_asked (by decide) rfl e1) rfl rfl rfl (Nat.le_of_ble_eq_true rfl) dL_law_1205 ?_
  refine v_aload_n C 2 1 dL_law_1208 rfl rfl ?_
  refine v_cVi C mw_X9_asked lk_L_157 [] (M_X9_asked (by decide) rfl e2) rfl rfl rfl (Nat.le_of_ble_eq_true rfl) dL_law_1209 ?_
  exact v_icmp_eq C 1318 dL_law_1212 (by decide) (fun _ => K _ hσ) (fun h => absurd rfl h)
theorem lc_upper (C : Cx Δ Γ RL cL_law 4 30 (some .boolean)) (hX : SX Δ Γ b L xs) (hin : Hin x L) (hσ : Inv σ) (K : ∀ σ' : Mem, Inv σ' → V Δ Γ 4 1318 (LL Δ x b) [] σ') : V Δ Γ 4 1217 (LL Δ x b) [] σ := by
  obtain ⟨r, e1, e2⟩ := sim_upper  σ hσ
  refine v_aload_n C 1 2 dL_law_1217 rfl rfl ?_
  refine v_cVl C mw_X8_upper lk_L_158 [] (M_X8_upper (by decide) rfl e1) rfl rfl rfl (Nat.le_of_ble_eq_true rfl) dL_law_1218 ?_
  refine v_aload_n C 2 1 dL_law_1221 rfl rfl ?_
  refine v_cVl C mw_X9_upper lk_L_162 [] (M_X9_upper (by decide) rfl e2) rfl rfl rfl (Nat.le_of_ble_eq_true rfl) dL_law_1222 ?_
  refine v_lcmp C dL_law_1225 ?_
  exact v_if_eq C 1318 dL_law_1226 (by decide) (fun _ => K _ hσ) (fun h => absurd (lg_cmp_self _) h)
theorem lc_lower (C : Cx Δ Γ RL cL_law 4 30 (some .boolean)) (hX : SX Δ Γ b L xs) (hin : Hin x L) (hσ : Inv σ) (K : ∀ σ' : Mem, Inv σ' → V Δ Γ 4 1318 (LL Δ x b) [] σ') : V Δ Γ 4 1231 (LL Δ x b) [] σ := by
  obtain ⟨r, e1, e2⟩ := sim_lower  σ hσ
  refine v_aload_n C 1 2 dL_law_1231 rfl rfl ?_
  refine v_cVl C mw_X8_lower lk_L_163 [] (M_X8_lower (by decide) rfl e1) rfl rfl rfl (Nat.le_of_ble_eq_true rfl) dL_law_1232 ?_
  refine v_aload_n C 2 1 dL_law_1235 rfl rfl ?_
  refine v_cVl C mw_X9_lower lk_L_166 [] (M_X9_lower (by decide) rfl e2) rfl rfl rfl (Nat.le_of_ble_eq_true rfl) dL_law_1236 ?_
  refine v_lcmp C dL_law_1239 ?_
  exact v_if_eq C 1318 dL_law_1240 (by decide) (fun _ => K _ hσ) (fun h => absurd (lg_cmp_self _) h)
theorem lc_count (C : Cx Δ Γ RL cL_law 4 30 (some .boolean)) (hX : SX Δ Γ b L xs) (hin : Hin x L) (hσ : Inv σ) (K : ∀ σ' : Mem, Inv σ' → V Δ Γ 4 1318 (LL Δ x b) [] σ') : V Δ Γ 4 1245 (LL Δ x b) [] σ := by
  obtain ⟨r, e1, e2⟩ := sim_count (xs (x + 1).toNatClampNeg) σ hσ
  refine v_aload_n C 1 2 dL_law_1245 rfl rfl ?_
  refine v_arg C hX 1 dL_law_1246 dL_law_1247 dL_law_1248 dL_law_1249 dL_law_1250 rfl (hin 1 (by decide)) ?_
  refine v_cVi C mw_X8_count lk_L_167 [.int _] (M_X8_count (by decide) rfl e1) rfl rfl rfl (Nat.le_of_ble_eq_true rfl) dL_law_1251 ?_
  refine v_aload_n C 2 1 dL_law_1254 rfl rfl ?_
  refine v_arg C hX 1 dL_law_1255 dL_law_1256 dL_law_1257 dL_law_1258 dL_law_1259 rfl (hin 1 (by decide)) ?_
  refine v_cVi C mw_X9_count lk_L_170 [.int _] (M_X9_count (by decide) rfl e2) rfl rfl rfl (Nat.le_of_ble_eq_true rfl) dL_law_1260 ?_
  exact v_icmp_eq C 1318 dL_law_1263 (by decide) (fun _ => K _ hσ) (fun h => absurd rfl h)
theorem lc_finding (C : Cx Δ Γ RL cL_law 4 30 (some .boolean)) (hX : SX Δ Γ b L xs) (hin : Hin x L) (hσ : Inv σ) (K : ∀ σ' : Mem, Inv σ' → V Δ Γ 4 1318 (LL Δ x b) [] σ') : V Δ Γ 4 1268 (LL Δ x b) [] σ := by
  obtain ⟨r, e1, e2⟩ := sim_finding  σ hσ
  refine v_aload_n C 1 2 dL_law_1268 rfl rfl ?_
  refine v_cVi C mw_X8_finding lk_L_171 [] (M_X8_finding (by decide) rfl e1) rfl rfl rfl (Nat.le_of_ble_eq_true rfl) dL_law_1269 ?_
  refine v_aload_n C 2 1 dL_law_1272 rfl rfl ?_
  refine v_cVi C mw_X9_finding lk_L_174 [] (M_X9_finding (by decide) rfl e2) rfl rfl rfl (Nat.le_of_ble_eq_true rfl) dL_law_1273 ?_
  exact v_icmp_eq C 1318 dL_law_1276 (by decide) (fun _ => K _ hσ) (fun h => absurd rfl h)
theorem lc_findings (C : Cx Δ Γ RL cL_law 4 30 (some .boolean)) (hX : SX Δ Γ b L xs) (hin : Hin x L) (hσ : Inv σ) (K : ∀ σ' : Mem, Inv σ' → V Δ Γ 4 1318 (LL Δ x b) [] σ') : V Δ Γ 4 1281 (LL Δ x b) [] σ := by
  obtain ⟨r, e1, e2⟩ := sim_findings (xs (x + 1).toNatClampNeg) σ hσ
  refine v_aload_n C 1 2 dL_law_1281 rfl rfl ?_
  refine v_arg C hX 1 dL_law_1282 dL_law_1283 dL_law_1284 dL_law_1285 dL_law_1286 rfl (hin 1 (by decide)) ?_
  refine v_cVi C mw_X8_findings lk_L_175 [.int _] (M_X8_findings (by decide) rfl e1) rfl rfl rfl (Nat.le_of_ble_eq_true rfl) dL_law_1287 ?_
  refine v_aload_n C 2 1 dL_law_1290 rfl rfl ?_
  refine v_arg C hX 1 dL_law_1291 dL_law_1292 dL_law_1293 dL_law_1294 dL_law_1295 rfl (hin 1 (by decide)) ?_
  refine v_cVi C mw_X9_findings lk_L_178 [.int _] (M_X9_findings (by decide) rfl e2) rfl rfl rfl (Nat.le_of_ble_eq_true rfl) dL_law_1296 ?_
  exact v_icmp_eq C 1318 dL_law_1299 (by decide) (fun _ => K _ hσ) (fun h => absurd rfl h)
theorem lc_digest (C : Cx Δ Γ RL cL_law 4 30 (some .boolean)) (hX : SX Δ Γ b L xs) (hin : Hin x L) (hσ : Inv σ) (K : ∀ σ' : Mem, Inv σ' → V Δ Γ 4 1318 (LL Δ x b) [] σ') : V Δ Γ 4 1304 (LL Δ x b) [] σ := by
  obtain ⟨r, σ1, e1, e2, hI⟩ := sim_digest σ hσ
  refine v_aload_n C 1 2 dL_law_1304 rfl rfl ?_
  refine v_cVl C mw_X8_digest lk_L_179 [] (M_X8_digest (by decide) rfl e1) rfl rfl rfl (Nat.le_of_ble_eq_true rfl) dL_law_1305 ?_
  refine v_aload_n C 2 1 dL_law_1308 rfl rfl ?_
  refine v_cVl C mw_X9_digest lk_L_182 [] (M_X9_digest (by decide) rfl e2) rfl rfl rfl (Nat.le_of_ble_eq_true rfl) dL_law_1309 ?_
  refine v_lcmp C dL_law_1312 ?_
  exact v_if_eq C 1318 dL_law_1313 (by decide) (fun _ => K _ hI) (fun h => absurd (lg_cmp_self _) h)
theorem lc_all (C : Cx Δ Γ RL cL_law 4 30 (some .boolean)) (hX : SX Δ Γ b L xs) (hin : Hin x L) (hσ : Inv σ) (K : ∀ σ' : Mem, Inv σ' → V Δ Γ 4 1318 (LL Δ x b) [] σ') (y : Int32) : V Δ Γ 4 33 (LL Δ x b) [.int y] σ := by
  by_cases h0 : y = 0
  · exact v_tableEq C 212 0 179 dL_law_33 h0 (by decide) (by decide) (by decide) (by decide) (lc_row C hX hin hσ K)
  by_cases h1 : y = 1
  · exact v_tableEq C 245 1 212 dL_law_33 h1 (by decide) (by decide) (by decide) (by decide) (lc_lay C hX hin hσ K)
  by_cases h2 : y = 2
  · exact v_tableEq C 288 2 255 dL_law_33 h2 (by decide) (by decide) (by decide) (by decide) (lc_at C hX hin hσ K)
  by_cases h3 : y = 3
  · exact v_tableEq C 321 3 288 dL_law_33 h3 (by decide) (by decide) (by decide) (by decide) (lc_tear C hX hin hσ K)
  by_cases h4 : y = 4
  · exact v_tableEq C 344 4 311 dL_law_33 h4 (by decide) (by decide) (by decide) (by decide) (lc_copy C hX hin hσ K)
  by_cases h5 : y = 5
  · exact v_tableEq C 407 5 374 dL_law_33 h5 (by decide) (by decide) (by decide) (by decide) (lc_mean C hX hin hσ K)
  by_cases h6 : y = 6
  · exact v_tableEq C 430 6 397 dL_law_33 h6 (by decide) (by decide) (by decide) (by decide) (lc_text C hX hin hσ K)
  by_cases h7 : y = 7
  · exact v_tableEq C 463 7 430 dL_law_33 h7 (by decide) (by decide) (by decide) (by decide) (lc_put C hX hin hσ K)
  by_cases h8 : y = 8
  · exact v_tableEq C 506 8 473 dL_law_33 h8 (by decide) (by decide) (by decide) (by decide) (lc_fault C hX hin hσ K)
  by_cases h9 : y = 9
  · exact v_tableEq C 529 9 496 dL_law_33 h9 (by decide) (by decide) (by decide) (by decide) (lc_town C hX hin hσ K)
  by_cases h10 : y = 10
  · exact v_tableEq C 552 10 519 dL_law_33 h10 (by decide) (by decide) (by decide) (by decide) (lc_bed C hX hin hσ K)
  by_cases h11 : y = 11
  · exact v_tableEq C 585 11 552 dL_law_33 h11 (by decide) (by decide) (by decide) (by decide) (lc_mark C hX hin hσ K)
  by_cases h12 : y = 12
  · exact v_tableEq C 618 12 585 dL_law_33 h12 (by decide) (by decide) (by decide) (by decide) (lc_cross C hX hin hσ K)
  by_cases h13 : y = 13
  · exact v_tableEq C 651 13 618 dL_law_33 h13 (by decide) (by decide) (by decide) (by decide) (lc_night C hX hin hσ K)
  by_cases h14 : y = 14
  · exact v_tableEq C 664 14 631 dL_law_33 h14 (by decide) (by decide) (by decide) (by decide) (lc_inspect C hX hin hσ K)
  by_cases h15 : y = 15
  · exact v_tableEq C 687 15 654 dL_law_33 h15 (by decide) (by decide) (by decide) (by decide) (lc_thin C hX hin hσ K)
  by_cases h16 : y = 16
  · exact v_tableEq C 710 16 677 dL_law_33 h16 (by decide) (by decide) (by decide) (by decide) (lc_swap C hX hin hσ K)
  by_cases h17 : y = 17
  · exact v_tableEq C 743 17 710 dL_law_33 h17 (by decide) (by decide) (by decide) (by decide) (lc_undo C hX hin hσ K)
  by_cases h18 : y = 18
  · exact v_tableEq C 766 18 733 dL_law_33 h18 (by decide) (by decide) (by decide) (by decide) (lc_keep C hX hin hσ K)
  by_cases h19 : y = 19
  · exact v_tableEq C 789 19 756 dL_law_33 h19 (by decide) (by decide) (by decide) (by decide) (lc_on C hX hin hσ K)
  by_cases h20 : y = 20
  · exact v_tableEq C 812 20 779 dL_law_33 h20 (by decide) (by decide) (by decide) (by decide) (lc_then C hX hin hσ K)
  by_cases h21 : y = 21
  · exact v_tableEq C 845 21 812 dL_law_33 h21 (by decide) (by decide) (by decide) (by decide) (lc_when C hX hin hσ K)
  by_cases h22 : y = 22
  · exact v_tableEq C 868 22 835 dL_law_33 h22 (by decide) (by decide) (by decide) (by decide) (lc_least C hX hin hσ K)
  by_cases h23 : y = 23
  · exact v_tableEq C 901 23 868 dL_law_33 h23 (by decide) (by decide) (by decide) (by decide) (lc_round C hX hin hσ K)
  by_cases h24 : y = 24
  · exact v_tableEq C 934 24 901 dL_law_33 h24 (by decide) (by decide) (by decide) (by decide) (lc_brings C hX hin hσ K)
  by_cases h25 : y = 25
  · exact v_tableEq C 957 25 924 dL_law_33 h25 (by decide) (by decide) (by decide) (by decide) (lc_marry C hX hin hσ K)
  by_cases h26 : y = 26
  · exact v_tableEq C 980 26 947 dL_law_33 h26 (by decide) (by decide) (by decide) (by decide) (lc_rather C hX hin hσ K)
  by_cases h27 : y = 27
  · exact v_tableEq C 993 27 960 dL_law_33 h27 (by decide) (by decide) (by decide) (by decide) (lc_thicks C hX hin hσ K)
  by_cases h28 : y = 28
  · exact v_tableEq C 1026 28 993 dL_law_33 h28 (by decide) (by decide) (by decide) (by decide) (lc_kinds C hX hin hσ K)
  by_cases h29 : y = 29
  · exact v_tableEq C 1059 29 1026 dL_law_33 h29 (by decide) (by decide) (by decide) (by decide) (lc_test C hX hin hσ K)
  by_cases h30 : y = 30
  · exact v_tableEq C 1092 30 1059 dL_law_33 h30 (by decide) (by decide) (by decide) (by decide) (lc_duel C hX hin hσ K)
  by_cases h31 : y = 31
  · exact v_tableEq C 1115 31 1082 dL_law_33 h31 (by decide) (by decide) (by decide) (by decide) (lc_odds C hX hin hσ K)
  by_cases h32 : y = 32
  · exact v_tableEq C 1148 32 1115 dL_law_33 h32 (by decide) (by decide) (by decide) (by decide) (lc_mid C hX hin hσ K)
  by_cases h33 : y = 33
  · exact v_tableEq C 1171 33 1138 dL_law_33 h33 (by decide) (by decide) (by decide) (by decide) (lc_lots C hX hin hσ K)
  by_cases h34 : y = 34
  · exact v_tableEq C 1204 34 1171 dL_law_33 h34 (by decide) (by decide) (by decide) (by decide) (lc_asked C hX hin hσ K)
  by_cases h35 : y = 35
  · exact v_tableEq C 1217 35 1184 dL_law_33 h35 (by decide) (by decide) (by decide) (by decide) (lc_upper C hX hin hσ K)
  by_cases h36 : y = 36
  · exact v_tableEq C 1231 36 1198 dL_law_33 h36 (by decide) (by decide) (by decide) (by decide) (lc_lower C hX hin hσ K)
  by_cases h37 : y = 37
  · exact v_tableEq C 1245 37 1212 dL_law_33 h37 (by decide) (by decide) (by decide) (by decide) (lc_count C hX hin hσ K)
  by_cases h38 : y = 38
  · exact v_tableEq C 1268 38 1235 dL_law_33 h38 (by decide) (by decide) (by decide) (by decide) (lc_finding C hX hin hσ K)
  by_cases h39 : y = 39
  · exact v_tableEq C 1281 39 1248 dL_law_33 h39 (by decide) (by decide) (by decide) (by decide) (lc_findings C hX hin hσ K)
  by_cases h40 : y = 40
  · exact v_tableEq C 1304 40 1271 dL_law_33 h40 (by decide) (by decide) (by decide) (by decide) (lc_digest C hX hin hσ K)
  refine v_tableOut C 1318 dL_law_33 ?_ (by decide) (K σ hσ)
  refine Classical.byContradiction fun hc => ?_
  have hy : 0 ≤ y.toInt ∧ y.toInt ≤ 40 := ⟨by omega, by omega⟩
  have e : ∀ k : Nat, k ≤ 40 → y.toInt = (k : Int) → y = Int32.ofNat k := fun k hk h => Int32.toInt_inj.mp (by rw [h, Int32.toInt_ofNat_of_lt (by omega)])
  have g0 : y.toInt ≠ 0 := fun h => h0 (e 0 (by decide) h)
  have g1 : y.toInt ≠ 1 := fun h => h1 (e 1 (by decide) h)
  have g2 : y.toInt ≠ 2 := fun h => h2 (e 2 (by decide) h)
  have g3 : y.toInt ≠ 3 := fun h => h3 (e 3 (by decide) h)
  have g4 : y.toInt ≠ 4 := fun h => h4 (e 4 (by decide) h)
  have g5 : y.toInt ≠ 5 := fun h => h5 (e 5 (by decide) h)
  have g6 : y.toInt ≠ 6 := fun h => h6 (e 6 (by decide) h)
  have g7 : y.toInt ≠ 7 := fun h => h7 (e 7 (by decide) h)
  have g8 : y.toInt ≠ 8 := fun h => h8 (e 8 (by decide) h)
  have g9 : y.toInt ≠ 9 := fun h => h9 (e 9 (by decide) h)
  have g10 : y.toInt ≠ 10 := fun h => h10 (e 10 (by decide) h)
  have g11 : y.toInt ≠ 11 := fun h => h11 (e 11 (by decide) h)
  have g12 : y.toInt ≠ 12 := fun h => h12 (e 12 (by decide) h)
  have g13 : y.toInt ≠ 13 := fun h => h13 (e 13 (by decide) h)
  have g14 : y.toInt ≠ 14 := fun h => h14 (e 14 (by decide) h)
  have g15 : y.toInt ≠ 15 := fun h => h15 (e 15 (by decide) h)
  have g16 : y.toInt ≠ 16 := fun h => h16 (e 16 (by decide) h)
  have g17 : y.toInt ≠ 17 := fun h => h17 (e 17 (by decide) h)
  have g18 : y.toInt ≠ 18 := fun h => h18 (e 18 (by decide) h)
  have g19 : y.toInt ≠ 19 := fun h => h19 (e 19 (by decide) h)
  have g20 : y.toInt ≠ 20 := fun h => h20 (e 20 (by decide) h)
  have g21 : y.toInt ≠ 21 := fun h => h21 (e 21 (by decide) h)
  have g22 : y.toInt ≠ 22 := fun h => h22 (e 22 (by decide) h)
  have g23 : y.toInt ≠ 23 := fun h => h23 (e 23 (by decide) h)
  have g24 : y.toInt ≠ 24 := fun h => h24 (e 24 (by decide) h)
  have g25 : y.toInt ≠ 25 := fun h => h25 (e 25 (by decide) h)
  have g26 : y.toInt ≠ 26 := fun h => h26 (e 26 (by decide) h)
  have g27 : y.toInt ≠ 27 := fun h => h27 (e 27 (by decide) h)
  have g28 : y.toInt ≠ 28 := fun h => h28 (e 28 (by decide) h)
  have g29 : y.toInt ≠ 29 := fun h => h29 (e 29 (by decide) h)
  have g30 : y.toInt ≠ 30 := fun h => h30 (e 30 (by decide) h)
  have g31 : y.toInt ≠ 31 := fun h => h31 (e 31 (by decide) h)
  have g32 : y.toInt ≠ 32 := fun h => h32 (e 32 (by decide) h)
  have g33 : y.toInt ≠ 33 := fun h => h33 (e 33 (by decide) h)
  have g34 : y.toInt ≠ 34 := fun h => h34 (e 34 (by decide) h)
  have g35 : y.toInt ≠ 35 := fun h => h35 (e 35 (by decide) h)
  have g36 : y.toInt ≠ 36 := fun h => h36 (e 36 (by decide) h)
  have g37 : y.toInt ≠ 37 := fun h => h37 (e 37 (by decide) h)
  have g38 : y.toInt ≠ 38 := fun h => h38 (e 38 (by decide) h)
  have g39 : y.toInt ≠ 39 := fun h => h39 (e 39 (by decide) h)
  have g40 : y.toInt ≠ 40 := fun h => h40 (e 40 (by decide) h)
  omega
end LAWCASES
