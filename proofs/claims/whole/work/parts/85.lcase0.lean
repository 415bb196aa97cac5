/-! ===== the law: cases ===== -/
theorem lc_0 {K : lx_K} {i b L : Nat} {xs : Nat → Int32} {μC μM : o_Mem} (h : Inv μC μM) (hi : i + 6 ≤ L) (hL : L ≤ 3072) (kk : ∀ μC' μM', Inv μC' μM' → lq_Ev K 2425 i b L xs [] μC' μM') : lq_Ev K 292 i b L xs [] μC μM := by
  refine lq_a1 dL_292 ?_
  obtain ⟨r, μ1, μ2, e1, e2, h2⟩ := pu_status h 
  refine lq_callC (d := 30) (C := mX11_status) (As := []) clL_13 dL_293 rfl rfl (Nat.le_of_ble_eq_true rfl) (Nat.le_of_ble_eq_true rfl) (by decide) (dnX11_status (q := fun x ν => x = r ∧ ν = μ1) (d := 30) (xC_ok K) (xC_0 K) ⟨_, e1, rfl, rfl⟩) (fun v ν hv => ?_)
  obtain ⟨x, rfl, hr, hm⟩ := hv
  rw [hr, hm]
  show lq_Ev K 296 i b L xs [.int r] μ1 μM
  refine lq_a2 dL_296 ?_
  refine lq_callM (d := 30) (C := mX12_status) (As := []) clL_17 dL_297 rfl rfl (Nat.le_of_ble_eq_true rfl) (Nat.le_of_ble_eq_true rfl) (by decide) (dnX12_status (q := fun x ν => x = r ∧ ν = μ2) (d := 30) (xM_ok K) (xM_0 K) ⟨_, e2, rfl, rfl⟩) (fun v ν hv => ?_)
  obtain ⟨x, rfl, hr, hm⟩ := hv
  rw [hr, hm]
  show lq_Ev K 300 i b L xs [.int r, .int r] μ1 μ2
  exact lq_eq (tgt := 2425) dL_300 (by decide) rfl (kk _ _ h2)
theorem lc_1 {K : lx_K} {i b L : Nat} {xs : Nat → Int32} {μC μM : o_Mem} (h : Inv μC μM) (hi : i + 6 ≤ L) (hL : L ≤ 3072) (kk : ∀ μC' μM', Inv μC' μM' → lq_Ev K 2425 i b L xs [] μC' μM') : lq_Ev K 305 i b L xs [] μC μM := by
  refine lq_a1 dL_305 ?_
  obtain ⟨r, μ1, μ2, e1, e2, h2⟩ := pu_top h 
  refine lq_callC (d := 30) (C := mX11_top) (As := []) clL_18 dL_306 rfl rfl (Nat.le_of_ble_eq_true rfl) (Nat.le_of_ble_eq_true rfl) (by decide) (dnX11_top (q := fun x ν => x = r ∧ ν = μ1) (d := 30) (xC_ok K) (xC_0 K) ⟨_, e1, rfl, rfl⟩) (fun v ν hv => ?_)
  obtain ⟨x, rfl, hr, hm⟩ := hv
  rw [hr, hm]
  show lq_Ev K 309 i b L xs [.long r] μ1 μM
  refine lq_a2 dL_309 ?_
  refine lq_callM (d := 30) (C := mX12_top) (As := []) clL_22 dL_310 rfl rfl (Nat.le_of_ble_eq_true rfl) (Nat.le_of_ble_eq_true rfl) (by decide) (dnX12_top (q := fun x ν => x = r ∧ ν = μ2) (d := 30) (xM_ok K) (xM_0 K) ⟨_, e2, rfl, rfl⟩) (fun v ν hv => ?_)
  obtain ⟨x, rfl, hr, hm⟩ := hv
  rw [hr, hm]
  show lq_Ev K 313 i b L xs [.long r, .long r] μ1 μ2
  exact lq_lcmp dL_313 (lq_if (tgt := 2425) dL_314 (by decide) (fun _ => kk _ _ h2) (fun hn => absurd ((lg_cmp_eq r r).mpr rfl) hn))
theorem lc_2 {K : lx_K} {i b L : Nat} {xs : Nat → Int32} {μC μM : o_Mem} (h : Inv μC μM) (hi : i + 6 ≤ L) (hL : L ≤ 3072) (kk : ∀ μC' μM', Inv μC' μM' → lq_Ev K 2425 i b L xs [] μC' μM') : lq_Ev K 319 i b L xs [] μC μM := by
  refine lq_a1 dL_319 ?_
  obtain ⟨r, μ1, μ2, e1, e2, h2⟩ := pu_bottom h 
  refine lq_callC (d := 30) (C := mX11_bottom) (As := []) clL_23 dL_320 rfl rfl (Nat.le_of_ble_eq_true rfl) (Nat.le_of_ble_eq_true rfl) (by decide) (dnX11_bottom (q := fun x ν => x = r ∧ ν = μ1) (d := 30) (xC_ok K) (xC_0 K) ⟨_, e1, rfl, rfl⟩) (fun v ν hv => ?_)
  obtain ⟨x, rfl, hr, hm⟩ := hv
  rw [hr, hm]
  show lq_Ev K 323 i b L xs [.long r] μ1 μM
  refine lq_a2 dL_323 ?_
  refine lq_callM (d := 30) (C := mX12_bottom) (As := []) clL_26 dL_324 rfl rfl (Nat.le_of_ble_eq_true rfl) (Nat.le_of_ble_eq_true rfl) (by decide) (dnX12_bottom (q := fun x ν => x = r ∧ ν = μ2) (d := 30) (xM_ok K) (xM_0 K) ⟨_, e2, rfl, rfl⟩) (fun v ν hv => ?_)
  obtain ⟨x, rfl, hr, hm⟩ := hv
  rw [hr, hm]
  show lq_Ev K 327 i b L xs [.long r, .long r] μ1 μ2
  exact lq_lcmp dL_327 (lq_if (tgt := 2425) dL_328 (by decide) (fun _ => kk _ _ h2) (fun hn => absurd ((lg_cmp_eq r r).mpr rfl) hn))
theorem lc_3 {K : lx_K} {i b L : Nat} {xs : Nat → Int32} {μC μM : o_Mem} (h : Inv μC μM) (hi : i + 6 ≤ L) (hL : L ≤ 3072) (kk : ∀ μC' μM', Inv μC' μM' → lq_Ev K 2425 i b L xs [] μC' μM') : lq_Ev K 333 i b L xs [] μC μM := by
  refine lq_a1 dL_333 ?_
  refine lq_ld (j := 1) (by omega) hL (show Int32.ofInt 1 = 1 by decide) rfl dL_334 dL_335 dL_336 dL_337 dL_338 ?_
  refine lq_ld (j := 2) (by omega) hL (show Int32.ofInt 2 = 2 by decide) rfl dL_339 dL_340 dL_341 dL_342 dL_343 ?_
  refine lq_ld (j := 3) (by omega) hL (show Int32.ofInt 3 = 3 by decide) rfl dL_344 dL_345 dL_346 dL_347 dL_348 ?_
  obtain ⟨r, μ1, μ2, e1, e2, h2⟩ := pu_tray h (xs (i + 1)) (xs (i + 2)) (xs (i + 3))
  refine lq_callC (d := 30) (C := mX11_tray) (As := [.int (xs (i + 1)), .int (xs (i + 2)), .int (xs (i + 3))]) clL_27 dL_349 rfl rfl (Nat.le_of_ble_eq_true rfl) (Nat.le_of_ble_eq_true rfl) (by decide) (dnX11_tray (q := fun x ν => x = r ∧ ν = μ1) (d := 28) (xC_ok K) (xC_0 K) ⟨_, e1, rfl, rfl⟩) (fun v ν hv => ?_)
  obtain ⟨x, rfl, -, hr, hm⟩ := hv
  rw [hr, hm]
  show lq_Ev K 352 i b L xs [.int r] μ1 μM
  refine lq_a2 dL_352 ?_
  refine lq_ld (j := 1) (by omega) hL (show Int32.ofInt 1 = 1 by decide) rfl dL_353 dL_354 dL_355 dL_356 dL_357 ?_
  refine lq_ld (j := 2) (by omega) hL (show Int32.ofInt 2 = 2 by decide) rfl dL_358 dL_359 dL_360 dL_361 dL_362 ?_
  refine lq_ld (j := 3) (by omega) hL (show Int32.ofInt 3 = 3 by decide) rfl dL_363 dL_364 dL_365 dL_366 dL_367 ?_
  refine lq_callM (d := 30) (C := mX12_tray) (As := [.int (xs (i + 1)), .int (xs (i + 2)), .int (xs (i + 3))]) clL_31 dL_368 rfl rfl (Nat.le_of_ble_eq_true rfl) (Nat.le_of_ble_eq_true rfl) (by decide) (dnX12_tray (q := fun x ν => x = r ∧ ν = μ2) (d := 29) (xM_ok K) (xM_0 K) ⟨_, e2, rfl, rfl⟩) (fun v ν hv => ?_)
  obtain ⟨x, rfl, -, hr, hm⟩ := hv
  rw [hr, hm]
  show lq_Ev K 371 i b L xs [.int r, .int r] μ1 μ2
  exact lq_eq (tgt := 2425) dL_371 (by decide) rfl (kk _ _ h2)
theorem lc_4 {K : lx_K} {i b L : Nat} {xs : Nat → Int32} {μC μM : o_Mem} (h : Inv μC μM) (hi : i + 6 ≤ L) (hL : L ≤ 3072) (kk : ∀ μC' μM', Inv μC' μM' → lq_Ev K 2425 i b L xs [] μC' μM') : lq_Ev K 376 i b L xs [] μC μM := by
  refine lq_a1 dL_376 ?_
  refine lq_ld (j := 1) (by omega) hL (show Int32.ofInt 1 = 1 by decide) rfl dL_377 dL_378 dL_379 dL_380 dL_381 ?_
  refine lq_ld (j := 2) (by omega) hL (show Int32.ofInt 2 = 2 by decide) rfl dL_382 dL_383 dL_384 dL_385 dL_386 ?_
  refine lq_ld (j := 3) (by omega) hL (show Int32.ofInt 3 = 3 by decide) rfl dL_387 dL_388 dL_389 dL_390 dL_391 ?_
  refine lq_i2l dL_392 ?_
  refine lq_bipush (v := 32) dL_393 (by decide) ?_
  refine lq_lshl dL_395 ?_
  refine lq_ld (j := 4) (by omega) hL (show Int32.ofInt 4 = 4 by decide) rfl dL_396 dL_397 dL_398 dL_399 dL_400 ?_
  refine lq_i2l dL_401 ?_
  refine lq_ldc2 (v := 4294967295) dL_402 w_9_158 ?_
  refine lq_land dL_405 ?_
  refine lq_lor dL_406 ?_
  obtain ⟨r, μ1, μ2, e1, e2, h2⟩ := pu_write h (xs (i + 1)) (xs (i + 2)) (((xs (i + 3)).toInt64 <<< ((32 : Int32).toInt64 &&& 63)) ||| ((xs (i + 4)).toInt64 &&& 4294967295))
  refine lq_callC (d := 30) (C := mX11_write) (As := [.int (xs (i + 1)), .int (xs (i + 2)), .long (((xs (i + 3)).toInt64 <<< ((32 : Int32).toInt64 &&& 63)) ||| ((xs (i + 4)).toInt64 &&& 4294967295))]) clL_34 dL_407 rfl rfl (Nat.le_of_ble_eq_true rfl) (Nat.le_of_ble_eq_true rfl) (by decide) (dnX11_write (q := fun x ν => x = r ∧ ν = μ1) (d := 27) (xC_ok K) (xC_0 K) ⟨_, e1, rfl, rfl⟩) (fun v ν hv => ?_)
  obtain ⟨x, rfl, -, hr, hm⟩ := hv
  rw [hr, hm]
  show lq_Ev K 410 i b L xs [.int r] μ1 μM
  refine lq_a2 dL_410 ?_
  refine lq_ld (j := 1) (by omega) hL (show Int32.ofInt 1 = 1 by decide) rfl dL_411 dL_412 dL_413 dL_414 dL_415 ?_
  refine lq_ld (j := 2) (by omega) hL (show Int32.ofInt 2 = 2 by decide) rfl dL_416 dL_417 dL_418 dL_419 dL_420 ?_
  refine lq_ld (j := 3) (by omega) hL (show Int32.ofInt 3 = 3 by decide) rfl dL_421 dL_422 dL_423 dL_424 dL_425 ?_
  refine lq_i2l dL_426 ?_
  refine lq_bipush (v := 32) dL_427 (by decide) ?_
  refine lq_lshl dL_429 ?_
  refine lq_ld (j := 4) (by omega) hL (show Int32.ofInt 4 = 4 by decide) rfl dL_430 dL_431 dL_432 dL_433 dL_434 ?_
  refine lq_i2l dL_435 ?_
  refine lq_ldc2 (v := 4294967295) dL_436 w_9_158 ?_
  refine lq_land dL_439 ?_
  refine lq_lor dL_440 ?_
  refine lq_callM (d := 30) (C := mX12_write) (As := [.int (xs (i + 1)), .int (xs (i + 2)), .long (((xs (i + 3)).toInt64 <<< ((32 : Int32).toInt64 &&& 63)) ||| ((xs (i + 4)).toInt64 &&& 4294967295))]) clL_38 dL_441 rfl rfl (Nat.le_of_ble_eq_true rfl) (Nat.le_of_ble_eq_true rfl) (by decide) (dnX12_write (q := fun x ν => x = r ∧ ν = μ2) (d := 28) (xM_ok K) (xM_0 K) ⟨_, e2, rfl, rfl⟩) (fun v ν hv => ?_)
  obtain ⟨x, rfl, -, hr, hm⟩ := hv
  rw [hr, hm]
  show lq_Ev K 444 i b L xs [.int r, .int r] μ1 μ2
  exact lq_eq (tgt := 2425) dL_444 (by decide) rfl (kk _ _ h2)
theorem lc_5 {K : lx_K} {i b L : Nat} {xs : Nat → Int32} {μC μM : o_Mem} (h : Inv μC μM) (hi : i + 6 ≤ L) (hL : L ≤ 3072) (kk : ∀ μC' μM', Inv μC' μM' → lq_Ev K 2425 i b L xs [] μC' μM') : lq_Ev K 449 i b L xs [] μC μM := by
  refine lq_a1 dL_449 ?_
  refine lq_ld (j := 1) (by omega) hL (show Int32.ofInt 1 = 1 by decide) rfl dL_450 dL_451 dL_452 dL_453 dL_454 ?_
  refine lq_ld (j := 2) (by omega) hL (show Int32.ofInt 2 = 2 by decide) rfl dL_455 dL_456 dL_457 dL_458 dL_459 ?_
  obtain ⟨r, μ1, μ2, e1, e2, h2⟩ := pu_read h (xs (i + 1)) (xs (i + 2))
  refine lq_callC (d := 30) (C := mX11_read) (As := [.int (xs (i + 1)), .int (xs (i + 2))]) clL_39 dL_460 rfl rfl (Nat.le_of_ble_eq_true rfl) (Nat.le_of_ble_eq_true rfl) (by decide) (dnX11_read (q := fun x ν => x = r ∧ ν = μ1) (d := 27) (xC_ok K) (xC_0 K) ⟨_, e1, rfl, rfl⟩) (fun v ν hv => ?_)
  obtain ⟨x, rfl, hr, hm⟩ := hv
  rw [hr, hm]
  show lq_Ev K 463 i b L xs [.long r] μ1 μM
  refine lq_a2 dL_463 ?_
  refine lq_ld (j := 1) (by omega) hL (show Int32.ofInt 1 = 1 by decide) rfl dL_464 dL_465 dL_466 dL_467 dL_468 ?_
  refine lq_ld (j := 2) (by omega) hL (show Int32.ofInt 2 = 2 by decide) rfl dL_469 dL_470 dL_471 dL_472 dL_473 ?_
  refine lq_callM (d := 30) (C := mX12_read) (As := [.int (xs (i + 1)), .int (xs (i + 2))]) clL_43 dL_474 rfl rfl (Nat.le_of_ble_eq_true rfl) (Nat.le_of_ble_eq_true rfl) (by decide) (dnX12_read (q := fun x ν => x = r ∧ ν = μ2) (d := 28) (xM_ok K) (xM_0 K) ⟨_, e2, rfl, rfl⟩) (fun v ν hv => ?_)
  obtain ⟨x, rfl, hr, hm⟩ := hv
  rw [hr, hm]
  show lq_Ev K 477 i b L xs [.long r, .long r] μ1 μ2
  exact lq_lcmp dL_477 (lq_if (tgt := 2425) dL_478 (by decide) (fun _ => kk _ _ h2) (fun hn => absurd ((lg_cmp_eq r r).mpr rfl) hn))
theorem lc_6 {K : lx_K} {i b L : Nat} {xs : Nat → Int32} {μC μM : o_Mem} (h : Inv μC μM) (hi : i + 6 ≤ L) (hL : L ≤ 3072) (kk : ∀ μC' μM', Inv μC' μM' → lq_Ev K 2425 i b L xs [] μC' μM') : lq_Ev K 483 i b L xs [] μC μM := by
  refine lq_a1 dL_483 ?_
  refine lq_ld (j := 1) (by omega) hL (show Int32.ofInt 1 = 1 by decide) rfl dL_484 dL_485 dL_486 dL_487 dL_488 ?_
  refine lq_ld (j := 2) (by omega) hL (show Int32.ofInt 2 = 2 by decide) rfl dL_489 dL_490 dL_491 dL_492 dL_493 ?_
  refine lq_ld (j := 3) (by omega) hL (show Int32.ofInt 3 = 3 by decide) rfl dL_494 dL_495 dL_496 dL_497 dL_498 ?_
  refine lq_ld (j := 4) (by omega) hL (show Int32.ofInt 4 = 4 by decide) rfl dL_499 dL_500 dL_501 dL_502 dL_503 ?_
  refine lq_ld (j := 5) (by omega) hL (show Int32.ofInt 5 = 5 by decide) rfl dL_504 dL_505 dL_506 dL_507 dL_508 ?_
  obtain ⟨r, μ1, μ2, e1, e2, h2⟩ := pu_pour h (xs (i + 1)) (xs (i + 2)) (xs (i + 3)) (xs (i + 4)) (xs (i + 5))
  refine lq_callC (d := 30) (C := mX11_pour) (As := [.int (xs (i + 1)), .int (xs (i + 2)), .int (xs (i + 3)), .int (xs (i + 4)), .int (xs (i + 5))]) clL_44 dL_509 rfl rfl (Nat.le_of_ble_eq_true rfl) (Nat.le_of_ble_eq_true rfl) (by decide) (dnX11_pour (q := fun x ν => x = r ∧ ν = μ1) (d := 28) (xC_ok K) (xC_0 K) ⟨_, e1, rfl, rfl⟩) (fun v ν hv => ?_)
  obtain ⟨x, rfl, -, hr, hm⟩ := hv
  rw [hr, hm]
  show lq_Ev K 512 i b L xs [.int r] μ1 μM
  refine lq_a2 dL_512 ?_
  refine lq_ld (j := 1) (by omega) hL (show Int32.ofInt 1 = 1 by decide) rfl dL_513 dL_514 dL_515 dL_516 dL_517 ?_
  refine lq_ld (j := 2) (by omega) hL (show Int32.ofInt 2 = 2 by decide) rfl dL_518 dL_519 dL_520 dL_521 dL_522 ?_
  refine lq_ld (j := 3) (by omega) hL (show Int32.ofInt 3 = 3 by decide) rfl dL_523 dL_524 dL_525 dL_526 dL_527 ?_
  refine lq_ld (j := 4) (by omega) hL (show Int32.ofInt 4 = 4 by decide) rfl dL_528 dL_529 dL_530 dL_531 dL_532 ?_
  refine lq_ld (j := 5) (by omega) hL (show Int32.ofInt 5 = 5 by decide) rfl dL_533 dL_534 dL_535 dL_536 dL_537 ?_
  refine lq_callM (d := 30) (C := mX12_pour) (As := [.int (xs (i + 1)), .int (xs (i + 2)), .int (xs (i + 3)), .int (xs (i + 4)), .int (xs (i + 5))]) clL_48 dL_538 rfl rfl (Nat.le_of_ble_eq_true rfl) (Nat.le_of_ble_eq_true rfl) (by decide) (dnX12_pour (q := fun x ν => x = r ∧ ν = μ2) (d := 29) (xM_ok K) (xM_0 K) ⟨_, e2, rfl, rfl⟩) (fun v ν hv => ?_)
  obtain ⟨x, rfl, -, hr, hm⟩ := hv
  rw [hr, hm]
  show lq_Ev K 541 i b L xs [.int r, .int r] μ1 μ2
  exact lq_eq (tgt := 2425) dL_541 (by decide) rfl (kk _ _ h2)
theorem lc_7 {K : lx_K} {i b L : Nat} {xs : Nat → Int32} {μC μM : o_Mem} (h : Inv μC μM) (hi : i + 6 ≤ L) (hL : L ≤ 3072) (kk : ∀ μC' μM', Inv μC' μM' → lq_Ev K 2425 i b L xs [] μC' μM') : lq_Ev K 546 i b L xs [] μC μM := by
  refine lq_a1 dL_546 ?_
  refine lq_ld (j := 1) (by omega) hL (show Int32.ofInt 1 = 1 by decide) rfl dL_547 dL_548 dL_549 dL_550 dL_551 ?_
  refine lq_ld (j := 2) (by omega) hL (show Int32.ofInt 2 = 2 by decide) rfl dL_552 dL_553 dL_554 dL_555 dL_556 ?_
  refine lq_ld (j := 3) (by omega) hL (show Int32.ofInt 3 = 3 by decide) rfl dL_557 dL_558 dL_559 dL_560 dL_561 ?_
  refine lq_ld (j := 4) (by omega) hL (show Int32.ofInt 4 = 4 by decide) rfl dL_562 dL_563 dL_564 dL_565 dL_566 ?_
  refine lq_ld (j := 5) (by omega) hL (show Int32.ofInt 5 = 5 by decide) rfl dL_567 dL_568 dL_569 dL_570 dL_571 ?_
  obtain ⟨r, μ1, μ2, e1, e2, h2⟩ := pu_feed h (xs (i + 1)) (xs (i + 2)) (xs (i + 3)) (xs (i + 4)) (xs (i + 5))
  refine lq_callC (d := 30) (C := mX11_feed) (As := [.int (xs (i + 1)), .int (xs (i + 2)), .int (xs (i + 3)), .int (xs (i + 4)), .int (xs (i + 5))]) clL_49 dL_572 rfl rfl (Nat.le_of_ble_eq_true rfl) (Nat.le_of_ble_eq_true rfl) (by decide) (dnX11_feed (q := fun x ν => x = r ∧ ν = μ1) (d := 29) (xC_ok K) (xC_0 K) ⟨_, e1, rfl, rfl⟩) (fun v ν hv => ?_)
  obtain ⟨x, rfl, hr, hm⟩ := hv
  rw [hr, hm]
  show lq_Ev K 575 i b L xs [.int r] μ1 μM
  refine lq_a2 dL_575 ?_
  refine lq_ld (j := 1) (by omega) hL (show Int32.ofInt 1 = 1 by decide) rfl dL_576 dL_577 dL_578 dL_579 dL_580 ?_
  refine lq_ld (j := 2) (by omega) hL (show Int32.ofInt 2 = 2 by decide) rfl dL_581 dL_582 dL_583 dL_584 dL_585 ?_
  refine lq_ld (j := 3) (by omega) hL (show Int32.ofInt 3 = 3 by decide) rfl dL_586 dL_587 dL_588 dL_589 dL_590 ?_
  refine lq_ld (j := 4) (by omega) hL (show Int32.ofInt 4 = 4 by decide) rfl dL_591 dL_592 dL_593 dL_594 dL_595 ?_
  refine lq_ld (j := 5) (by omega) hL (show Int32.ofInt 5 = 5 by decide) rfl dL_596 dL_597 dL_598 dL_599 dL_600 ?_
  refine lq_callM (d := 30) (C := mX12_feed) (As := [.int (xs (i + 1)), .int (xs (i + 2)), .int (xs (i + 3)), .int (xs (i + 4)), .int (xs (i + 5))]) clL_53 dL_601 rfl rfl (Nat.le_of_ble_eq_true rfl) (Nat.le_of_ble_eq_true rfl) (by decide) (dnX12_feed (q := fun x ν => x = r ∧ ν = μ2) (d := 29) (xM_ok K) (xM_0 K) ⟨_, e2, rfl, rfl⟩) (fun v ν hv => ?_)
  obtain ⟨x, rfl, hr, hm⟩ := hv
  rw [hr, hm]
  show lq_Ev K 604 i b L xs [.int r, .int r] μ1 μ2
  exact lq_eq (tgt := 2425) dL_604 (by decide) rfl (kk _ _ h2)
theorem lc_8 {K : lx_K} {i b L : Nat} {xs : Nat → Int32} {μC μM : o_Mem} (h : Inv μC μM) (hi : i + 6 ≤ L) (hL : L ≤ 3072) (kk : ∀ μC' μM', Inv μC' μM' → lq_Ev K 2425 i b L xs [] μC' μM') : lq_Ev K 609 i b L xs [] μC μM := by
  refine lq_a1 dL_609 ?_
  refine lq_ld (j := 1) (by omega) hL (show Int32.ofInt 1 = 1 by decide) rfl dL_610 dL_611 dL_612 dL_613 dL_614 ?_
  obtain ⟨r, μ1, μ2, e1, e2, h2⟩ := pu_valley h (xs (i + 1))
  refine lq_callC (d := 30) (C := mX11_valley) (As := [.int (xs (i + 1))]) clL_54 dL_615 rfl rfl (Nat.le_of_ble_eq_true rfl) (Nat.le_of_ble_eq_true rfl) (by decide) (dnX11_valley (q := fun x ν => x = r ∧ ν = μ1) (d := 20) (xC_ok K) (xC_0 K) ⟨_, e1, rfl, rfl⟩) (fun v ν hv => ?_)
  obtain ⟨x, rfl, hr, hm⟩ := hv
  rw [hr, hm]
  show lq_Ev K 618 i b L xs [.int r] μ1 μM
  refine lq_a2 dL_618 ?_
  refine lq_ld (j := 1) (by omega) hL (show Int32.ofInt 1 = 1 by decide) rfl dL_619 dL_620 dL_621 dL_622 dL_623 ?_
  refine lq_callM (d := 30) (C := mX12_valley) (As := [.int (xs (i + 1))]) clL_58 dL_624 rfl rfl (Nat.le_of_ble_eq_true rfl) (Nat.le_of_ble_eq_true rfl) (by decide) (dnX12_valley (q := fun x ν => x = r ∧ ν = μ2) (d := 19) (xM_ok K) (xM_0 K) ⟨_, e2, rfl, rfl⟩) (fun v ν hv => ?_)
  obtain ⟨x, rfl, hr, hm⟩ := hv
  rw [hr, hm]
  show lq_Ev K 627 i b L xs [.int r, .int r] μ1 μ2
  exact lq_eq (tgt := 2425) dL_627 (by decide) rfl (kk _ _ h2)
theorem lc_9 {K : lx_K} {i b L : Nat} {xs : Nat → Int32} {μC μM : o_Mem} (h : Inv μC μM) (hi : i + 6 ≤ L) (hL : L ≤ 3072) (kk : ∀ μC' μM', Inv μC' μM' → lq_Ev K 2425 i b L xs [] μC' μM') : lq_Ev K 632 i b L xs [] μC μM := by
  refine lq_a1 dL_632 ?_
  refine lq_ld (j := 1) (by omega) hL (show Int32.ofInt 1 = 1 by decide) rfl dL_633 dL_634 dL_635 dL_636 dL_637 ?_
  obtain ⟨r, μ1, μ2, e1, e2, h2⟩ := pu_weeks h (xs (i + 1))
  refine lq_callC (d := 30) (C := mX11_weeks) (As := [.int (xs (i + 1))]) clL_59 dL_638 rfl rfl (Nat.le_of_ble_eq_true rfl) (Nat.le_of_ble_eq_true rfl) (by decide) (dnX11_weeks (q := fun x ν => x = r ∧ ν = μ1) (d := 20) (xC_ok K) (xC_0 K) ⟨_, e1, rfl, rfl⟩) (fun v ν hv => ?_)
  obtain ⟨x, rfl, hr, hm⟩ := hv
  rw [hr, hm]
  show lq_Ev K 641 i b L xs [.int r] μ1 μM
  refine lq_a2 dL_641 ?_
  refine lq_ld (j := 1) (by omega) hL (show Int32.ofInt 1 = 1 by decide) rfl dL_642 dL_643 dL_644 dL_645 dL_646 ?_
  refine lq_callM (d := 30) (C := mX12_weeks) (As := [.int (xs (i + 1))]) clL_62 dL_647 rfl rfl (Nat.le_of_ble_eq_true rfl) (Nat.le_of_ble_eq_true rfl) (by decide) (dnX12_weeks (q := fun x ν => x = r ∧ ν = μ2) (d := 20) (xM_ok K) (xM_0 K) ⟨_, e2, rfl, rfl⟩) (fun v ν hv => ?_)
  obtain ⟨x, rfl, hr, hm⟩ := hv
  rw [hr, hm]
  show lq_Ev K 650 i b L xs [.int r, .int r] μ1 μ2
  exact lq_eq (tgt := 2425) dL_650 (by decide) rfl (kk _ _ h2)
theorem lc_10 {K : lx_K} {i b L : Nat} {xs : Nat → Int32} {μC μM : o_Mem} (h : Inv μC μM) (hi : i + 6 ≤ L) (hL : L ≤ 3072) (kk : ∀ μC' μM', Inv μC' μM' → lq_Ev K 2425 i b L xs [] μC' μM') : lq_Ev K 655 i b L xs [] μC μM := by
  refine lq_a1 dL_655 ?_
  refine lq_ld (j := 1) (by omega) hL (show Int32.ofInt 1 = 1 by decide) rfl dL_656 dL_657 dL_658 dL_659 dL_660 ?_
  obtain ⟨r, μ1, μ2, e1, e2, h2⟩ := pu_fault h (xs (i + 1))
  refine lq_callC (d := 30) (C := mX11_fault) (As := [.int (xs (i + 1))]) clL_63 dL_661 rfl rfl (Nat.le_of_ble_eq_true rfl) (Nat.le_of_ble_eq_true rfl) (by decide) (dnX11_fault (q := fun x ν => x = r ∧ ν = μ1) (d := 30) (xC_ok K) (xC_0 K) ⟨_, e1, rfl, rfl⟩) (fun v ν hv => ?_)
  obtain ⟨x, rfl, hr, hm⟩ := hv
  rw [hr, hm]
  show lq_Ev K 664 i b L xs [.int r] μ1 μM
  refine lq_a2 dL_664 ?_
  refine lq_ld (j := 1) (by omega) hL (show Int32.ofInt 1 = 1 by decide) rfl dL_665 dL_666 dL_667 dL_668 dL_669 ?_
  refine lq_callM (d := 30) (C := mX12_fault) (As := [.int (xs (i + 1))]) clL_66 dL_670 rfl rfl (Nat.le_of_ble_eq_true rfl) (Nat.le_of_ble_eq_true rfl) (by decide) (dnX12_fault (q := fun x ν => x = r ∧ ν = μ2) (d := 30) (xM_ok K) (xM_0 K) ⟨_, e2, rfl, rfl⟩) (fun v ν hv => ?_)
  obtain ⟨x, rfl, hr, hm⟩ := hv
  rw [hr, hm]
  show lq_Ev K 673 i b L xs [.int r, .int r] μ1 μ2
  exact lq_eq (tgt := 2425) dL_673 (by decide) rfl (kk _ _ h2)
theorem lc_11 {K : lx_K} {i b L : Nat} {xs : Nat → Int32} {μC μM : o_Mem} (h : Inv μC μM) (hi : i + 6 ≤ L) (hL : L ≤ 3072) (kk : ∀ μC' μM', Inv μC' μM' → lq_Ev K 2425 i b L xs [] μC' μM') : lq_Ev K 678 i b L xs [] μC μM := by
  refine lq_a1 dL_678 ?_
  refine lq_ld (j := 1) (by omega) hL (show Int32.ofInt 1 = 1 by decide) rfl dL_679 dL_680 dL_681 dL_682 dL_683 ?_
  obtain ⟨r, μ1, μ2, e1, e2, h2⟩ := pu_told h (xs (i + 1))
  refine lq_callC (d := 30) (C := mX11_told) (As := [.int (xs (i + 1))]) clL_67 dL_684 rfl rfl (Nat.le_of_ble_eq_true rfl) (Nat.le_of_ble_eq_true rfl) (by decide) (dnX11_told (q := fun x ν => x = r ∧ ν = μ1) (d := 29) (xC_ok K) (xC_0 K) ⟨_, e1, rfl, rfl⟩) (fun v ν hv => ?_)
  obtain ⟨x, rfl, hr, hm⟩ := hv
  rw [hr, hm]
  show lq_Ev K 687 i b L xs [.int r] μ1 μM
  refine lq_a2 dL_687 ?_
  refine lq_ld (j := 1) (by omega) hL (show Int32.ofInt 1 = 1 by decide) rfl dL_688 dL_689 dL_690 dL_691 dL_692 ?_
  refine lq_callM (d := 30) (C := mX12_told) (As := [.int (xs (i + 1))]) clL_70 dL_693 rfl rfl (Nat.le_of_ble_eq_true rfl) (Nat.le_of_ble_eq_true rfl) (by decide) (dnX12_told (q := fun x ν => x = r ∧ ν = μ2) (d := 29) (xM_ok K) (xM_0 K) ⟨_, e2, rfl, rfl⟩) (fun v ν hv => ?_)
  obtain ⟨x, rfl, hr, hm⟩ := hv
  rw [hr, hm]
  show lq_Ev K 696 i b L xs [.int r, .int r] μ1 μ2
  exact lq_eq (tgt := 2425) dL_696 (by decide) rfl (kk _ _ h2)
theorem lc_12 {K : lx_K} {i b L : Nat} {xs : Nat → Int32} {μC μM : o_Mem} (h : Inv μC μM) (hi : i + 6 ≤ L) (hL : L ≤ 3072) (kk : ∀ μC' μM', Inv μC' μM' → lq_Ev K 2425 i b L xs [] μC' μM') : lq_Ev K 701 i b L xs [] μC μM := by
  refine lq_a1 dL_701 ?_
  refine lq_ld (j := 1) (by omega) hL (show Int32.ofInt 1 = 1 by decide) rfl dL_702 dL_703 dL_704 dL_705 dL_706 ?_
  obtain ⟨r, μ1, μ2, e1, e2, h2⟩ := pu_worth h (xs (i + 1))
  refine lq_callC (d := 30) (C := mX11_worth) (As := [.int (xs (i + 1))]) clL_71 dL_707 rfl rfl (Nat.le_of_ble_eq_true rfl) (Nat.le_of_ble_eq_true rfl) (by decide) (dnX11_worth (q := fun x ν => x = r ∧ ν = μ1) (d := 29) (xC_ok K) (xC_0 K) ⟨_, e1, rfl, rfl⟩) (fun v ν hv => ?_)
  obtain ⟨x, rfl, hr, hm⟩ := hv
  rw [hr, hm]
  show lq_Ev K 710 i b L xs [.int r] μ1 μM
  refine lq_a2 dL_710 ?_
  refine lq_ld (j := 1) (by omega) hL (show Int32.ofInt 1 = 1 by decide) rfl dL_711 dL_712 dL_713 dL_714 dL_715 ?_
  refine lq_callM (d := 30) (C := mX12_worth) (As := [.int (xs (i + 1))]) clL_74 dL_716 rfl rfl (Nat.le_of_ble_eq_true rfl) (Nat.le_of_ble_eq_true rfl) (by decide) (dnX12_worth (q := fun x ν => x = r ∧ ν = μ2) (d := 29) (xM_ok K) (xM_0 K) ⟨_, e2, rfl, rfl⟩) (fun v ν hv => ?_)
  obtain ⟨x, rfl, hr, hm⟩ := hv
  rw [hr, hm]
  show lq_Ev K 719 i b L xs [.int r, .int r] μ1 μ2
  exact lq_eq (tgt := 2425) dL_719 (by decide) rfl (kk _ _ h2)
theorem lc_13 {K : lx_K} {i b L : Nat} {xs : Nat → Int32} {μC μM : o_Mem} (h : Inv μC μM) (hi : i + 6 ≤ L) (hL : L ≤ 3072) (kk : ∀ μC' μM', Inv μC' μM' → lq_Ev K 2425 i b L xs [] μC' μM') : lq_Ev K 724 i b L xs [] μC μM := by
  refine lq_a1 dL_724 ?_
  refine lq_ld (j := 1) (by omega) hL (show Int32.ofInt 1 = 1 by decide) rfl dL_725 dL_726 dL_727 dL_728 dL_729 ?_
  obtain ⟨r, μ1, μ2, e1, e2, h2⟩ := pu_hand h (xs (i + 1))
  refine lq_callC (d := 30) (C := mX11_hand) (As := [.int (xs (i + 1))]) clL_75 dL_730 rfl rfl (Nat.le_of_ble_eq_true rfl) (Nat.le_of_ble_eq_true rfl) (by decide) (dnX11_hand (q := fun x ν => x = r ∧ ν = μ1) (d := 29) (xC_ok K) (xC_0 K) ⟨_, e1, rfl, rfl⟩) (fun v ν hv => ?_)
  obtain ⟨x, rfl, hr, hm⟩ := hv
  rw [hr, hm]
  show lq_Ev K 733 i b L xs [.int r] μ1 μM
  refine lq_a2 dL_733 ?_
  refine lq_ld (j := 1) (by omega) hL (show Int32.ofInt 1 = 1 by decide) rfl dL_734 dL_735 dL_736 dL_737 dL_738 ?_
  refine lq_callM (d := 30) (C := mX12_hand) (As := [.int (xs (i + 1))]) clL_78 dL_739 rfl rfl (Nat.le_of_ble_eq_true rfl) (Nat.le_of_ble_eq_true rfl) (by decide) (dnX12_hand (q := fun x ν => x = r ∧ ν = μ2) (d := 29) (xM_ok K) (xM_0 K) ⟨_, e2, rfl, rfl⟩) (fun v ν hv => ?_)
  obtain ⟨x, rfl, hr, hm⟩ := hv
  rw [hr, hm]
  show lq_Ev K 742 i b L xs [.int r, .int r] μ1 μ2
  exact lq_eq (tgt := 2425) dL_742 (by decide) rfl (kk _ _ h2)
theorem lc_14 {K : lx_K} {i b L : Nat} {xs : Nat → Int32} {μC μM : o_Mem} (h : Inv μC μM) (hi : i + 6 ≤ L) (hL : L ≤ 3072) (kk : ∀ μC' μM', Inv μC' μM' → lq_Ev K 2425 i b L xs [] μC' μM') : lq_Ev K 747 i b L xs [] μC μM := by
  refine lq_a1 dL_747 ?_
  refine lq_ld (j := 1) (by omega) hL (show Int32.ofInt 1 = 1 by decide) rfl dL_748 dL_749 dL_750 dL_751 dL_752 ?_
  refine lq_ld (j := 2) (by omega) hL (show Int32.ofInt 2 = 2 by decide) rfl dL_753 dL_754 dL_755 dL_756 dL_757 ?_
  obtain ⟨r, μ1, μ2, e1, e2, h2⟩ := pu_law h (xs (i + 1)) (xs (i + 2))
  refine lq_callC (d := 30) (C := mX11_law) (As := [.int (xs (i + 1)), .int (xs (i + 2))]) clL_79 dL_758 rfl rfl (Nat.le_of_ble_eq_true rfl) (Nat.le_of_ble_eq_true rfl) (by decide) (dnX11_law (q := fun x ν => x = r ∧ ν = μ1) (d := 28) (xC_ok K) (xC_0 K) ⟨_, e1, rfl, rfl⟩) (fun v ν hv => ?_)
  obtain ⟨x, rfl, hr, hm⟩ := hv
  rw [hr, hm]
  show lq_Ev K 761 i b L xs [.int r] μ1 μM
  refine lq_a2 dL_761 ?_
  refine lq_ld (j := 1) (by omega) hL (show Int32.ofInt 1 = 1 by decide) rfl dL_762 dL_763 dL_764 dL_765 dL_766 ?_
  refine lq_ld (j := 2) (by omega) hL (show Int32.ofInt 2 = 2 by decide) rfl dL_767 dL_768 dL_769 dL_770 dL_771 ?_
  refine lq_callM (d := 30) (C := mX12_law) (As := [.int (xs (i + 1)), .int (xs (i + 2))]) clL_83 dL_772 rfl rfl (Nat.le_of_ble_eq_true rfl) (Nat.le_of_ble_eq_true rfl) (by decide) (dnX12_law (q := fun x ν => x = r ∧ ν = μ2) (d := 28) (xM_ok K) (xM_0 K) ⟨_, e2, rfl, rfl⟩) (fun v ν hv => ?_)
  obtain ⟨x, rfl, hr, hm⟩ := hv
  rw [hr, hm]
  show lq_Ev K 775 i b L xs [.int r, .int r] μ1 μ2
  exact lq_eq (tgt := 2425) dL_775 (by decide) rfl (kk _ _ h2)
theorem lc_15 {K : lx_K} {i b L : Nat} {xs : Nat → Int32} {μC μM : o_Mem} (h : Inv μC μM) (hi : i + 6 ≤ L) (hL : L ≤ 3072) (kk : ∀ μC' μM', Inv μC' μM' → lq_Ev K 2425 i b L xs [] μC' μM') : lq_Ev K 780 i b L xs [] μC μM := by
  refine lq_a1 dL_780 ?_
  refine lq_ld (j := 1) (by omega) hL (show Int32.ofInt 1 = 1 by decide) rfl dL_781 dL_782 dL_783 dL_784 dL_785 ?_
  refine lq_ld (j := 2) (by omega) hL (show Int32.ofInt 2 = 2 by decide) rfl dL_786 dL_787 dL_788 dL_789 dL_790 ?_
  refine lq_ld (j := 3) (by omega) hL (show Int32.ofInt 3 = 3 by decide) rfl dL_791 dL_792 dL_793 dL_794 dL_795 ?_
  obtain ⟨r, μ1, μ2, e1, e2, h2⟩ := pu_acts h (xs (i + 1)) (xs (i + 2)) (xs (i + 3))
  refine lq_callC (d := 30) (C := mX11_acts) (As := [.int (xs (i + 1)), .int (xs (i + 2)), .int (xs (i + 3))]) clL_84 dL_796 rfl rfl (Nat.le_of_ble_eq_true rfl) (Nat.le_of_ble_eq_true rfl) (by decide) (dnX11_acts (q := fun x ν => x = r ∧ ν = μ1) (d := 28) (xC_ok K) (xC_0 K) ⟨_, e1, rfl, rfl⟩) (fun v ν hv => ?_)
  obtain ⟨x, rfl, hr, hm⟩ := hv
  rw [hr, hm]
  show lq_Ev K 799 i b L xs [.int r] μ1 μM
  refine lq_a2 dL_799 ?_
  refine lq_ld (j := 1) (by omega) hL (show Int32.ofInt 1 = 1 by decide) rfl dL_800 dL_801 dL_802 dL_803 dL_804 ?_
  refine lq_ld (j := 2) (by omega) hL (show Int32.ofInt 2 = 2 by decide) rfl dL_805 dL_806 dL_807 dL_808 dL_809 ?_
  refine lq_ld (j := 3) (by omega) hL (show Int32.ofInt 3 = 3 by decide) rfl dL_810 dL_811 dL_812 dL_813 dL_814 ?_
  refine lq_callM (d := 30) (C := mX12_acts) (As := [.int (xs (i + 1)), .int (xs (i + 2)), .int (xs (i + 3))]) clL_88 dL_815 rfl rfl (Nat.le_of_ble_eq_true rfl) (Nat.le_of_ble_eq_true rfl) (by decide) (dnX12_acts (q := fun x ν => x = r ∧ ν = μ2) (d := 29) (xM_ok K) (xM_0 K) ⟨_, e2, rfl, rfl⟩) (fun v ν hv => ?_)
  obtain ⟨x, rfl, hr, hm⟩ := hv
  rw [hr, hm]
  show lq_Ev K 818 i b L xs [.int r, .int r] μ1 μ2
  exact lq_eq (tgt := 2425) dL_818 (by decide) rfl (kk _ _ h2)
