/-! ===== the law: its code ===== -/
theorem dL_0 : decode code 0 = .ok (.new 7, 3) := by decide +kernel
theorem dL_3 : decode code 3 = .ok (.dup, 1) := by decide +kernel
theorem dL_4 : decode code 4 = .ok (.invokespecial 9, 3) := by decide +kernel
theorem dL_7 : decode code 7 = .ok (.astore_n 1, 1) := by decide +kernel
theorem dL_8 : decode code 8 = .ok (.new 10, 3) := by decide +kernel
theorem dL_11 : decode code 11 = .ok (.dup, 1) := by decide +kernel
theorem dL_12 : decode code 12 = .ok (.invokespecial 12, 3) := by decide +kernel
theorem dL_15 : decode code 15 = .ok (.astore_n 2, 1) := by decide +kernel
theorem dL_16 : decode code 16 = .ok (.iconst 0, 1) := by decide +kernel
theorem dL_17 : decode code 17 = .ok (.istore_n 3, 1) := by decide +kernel
theorem dL_18 : decode code 18 = .ok (.iload_n 3, 1) := by decide +kernel
theorem dL_19 : decode code 19 = .ok (.aload_n 0, 1) := by decide +kernel
theorem dL_20 : decode code 20 = .ok (.arraylength, 1) := by decide +kernel
theorem dL_21 : decode code 21 = .ok (.bipush 6, 2) := by decide +kernel
theorem dL_23 : decode code 23 = .ok (.isub, 1) := by decide +kernel
theorem dL_24 : decode code 24 = .ok (.if_icmp .gt 2407, 3) := by decide +kernel
theorem dL_27 : decode code 27 = .ok (.aload_n 0, 1) := by decide +kernel
theorem dL_28 : decode code 28 = .ok (.iload_n 3, 1) := by decide +kernel
theorem dL_29 : decode code 29 = .ok (.iaload, 1) := by decide +kernel
theorem dL_30 : decode code 30 = .ok (.bipush 63, 2) := by decide +kernel
theorem dL_32 : decode code 32 = .ok (.iand, 1) := by decide +kernel
theorem dL_33 : decode code 33 = .ok (.tableswitch 2392 0 60 #[259, 272, 286, 300, 343, 416, 450, 513, 576, 599, 622, 645, 668, 691, 714, 747, 790, 823, 856, 879, 932, 955, 994, 1017, 1050, 1083, 1136, 1169, 1192, 1215, 1268, 1321, 1374, 1427, 1490, 1553, 1606, 1669, 1712, 1725, 1778, 1831, 1864, 1897, 1910, 1923, 1957, 1990, 2013, 2046, 2099, 2152, 2205, 2218, 2241, 2264, 2287, 2310, 2333, 2366, 2379], 259) := by decide +kernel
theorem dL_292 : decode code 292 = .ok (.aload_n 1, 1) := by decide +kernel
theorem dL_293 : decode code 293 = .ok (.invokevirtual 13, 3) := by decide +kernel
theorem dL_296 : decode code 296 = .ok (.aload_n 2, 1) := by decide +kernel
theorem dL_297 : decode code 297 = .ok (.invokevirtual 17, 3) := by decide +kernel
theorem dL_300 : decode code 300 = .ok (.if_icmp .eq 2125, 3) := by decide +kernel
theorem dL_305 : decode code 305 = .ok (.aload_n 1, 1) := by decide +kernel
theorem dL_306 : decode code 306 = .ok (.invokevirtual 18, 3) := by decide +kernel
theorem dL_309 : decode code 309 = .ok (.aload_n 2, 1) := by decide +kernel
theorem dL_310 : decode code 310 = .ok (.invokevirtual 22, 3) := by decide +kernel
theorem dL_313 : decode code 313 = .ok (.lcmp, 1) := by decide +kernel
theorem dL_314 : decode code 314 = .ok (.ifCond .eq 2111, 3) := by decide +kernel
theorem dL_319 : decode code 319 = .ok (.aload_n 1, 1) := by decide +kernel
theorem dL_320 : decode code 320 = .ok (.invokevirtual 23, 3) := by decide +kernel
theorem dL_323 : decode code 323 = .ok (.aload_n 2, 1) := by decide +kernel
theorem dL_324 : decode code 324 = .ok (.invokevirtual 26, 3) := by decide +kernel
theorem dL_327 : decode code 327 = .ok (.lcmp, 1) := by decide +kernel
theorem dL_328 : decode code 328 = .ok (.ifCond .eq 2097, 3) := by decide +kernel
theorem dL_333 : decode code 333 = .ok (.aload_n 1, 1) := by decide +kernel
theorem dL_334 : decode code 334 = .ok (.aload_n 0, 1) := by decide +kernel
theorem dL_335 : decode code 335 = .ok (.iload_n 3, 1) := by decide +kernel
theorem dL_336 : decode code 336 = .ok (.iconst 1, 1) := by decide +kernel
theorem dL_337 : decode code 337 = .ok (.iadd, 1) := by decide +kernel
theorem dL_338 : decode code 338 = .ok (.iaload, 1) := by decide +kernel
theorem dL_339 : decode code 339 = .ok (.aload_n 0, 1) := by decide +kernel
theorem dL_340 : decode code 340 = .ok (.iload_n 3, 1) := by decide +kernel
theorem dL_341 : decode code 341 = .ok (.iconst 2, 1) := by decide +kernel
theorem dL_342 : decode code 342 = .ok (.iadd, 1) := by decide +kernel
theorem dL_343 : decode code 343 = .ok (.iaload, 1) := by decide +kernel
theorem dL_344 : decode code 344 = .ok (.aload_n 0, 1) := by decide +kernel
theorem dL_345 : decode code 345 = .ok (.iload_n 3, 1) := by decide +kernel
theorem dL_346 : decode code 346 = .ok (.iconst 3, 1) := by decide +kernel
theorem dL_347 : decode code 347 = .ok (.iadd, 1) := by decide +kernel
theorem dL_348 : decode code 348 = .ok (.iaload, 1) := by decide +kernel
theorem dL_349 : decode code 349 = .ok (.invokevirtual 27, 3) := by decide +kernel
theorem dL_352 : decode code 352 = .ok (.aload_n 2, 1) := by decide +kernel
theorem dL_353 : decode code 353 = .ok (.aload_n 0, 1) := by decide +kernel
theorem dL_354 : decode code 354 = .ok (.iload_n 3, 1) := by decide +kernel
theorem dL_355 : decode code 355 = .ok (.iconst 1, 1) := by decide +kernel
theorem dL_356 : decode code 356 = .ok (.iadd, 1) := by decide +kernel
theorem dL_357 : decode code 357 = .ok (.iaload, 1) := by decide +kernel
theorem dL_358 : decode code 358 = .ok (.aload_n 0, 1) := by decide +kernel
theorem dL_359 : decode code 359 = .ok (.iload_n 3, 1) := by decide +kernel
theorem dL_360 : decode code 360 = .ok (.iconst 2, 1) := by decide +kernel
theorem dL_361 : decode code 361 = .ok (.iadd, 1) := by decide +kernel
theorem dL_362 : decode code 362 = .ok (.iaload, 1) := by decide +kernel
theorem dL_363 : decode code 363 = .ok (.aload_n 0, 1) := by decide +kernel
theorem dL_364 : decode code 364 = .ok (.iload_n 3, 1) := by decide +kernel
theorem dL_365 : decode code 365 = .ok (.iconst 3, 1) := by decide +kernel
theorem dL_366 : decode code 366 = .ok (.iadd, 1) := by decide +kernel
theorem dL_367 : decode code 367 = .ok (.iaload, 1) := by decide +kernel
theorem dL_368 : decode code 368 = .ok (.invokevirtual 31, 3) := by decide +kernel
theorem dL_371 : decode code 371 = .ok (.if_icmp .eq 2054, 3) := by decide +kernel
theorem dL_376 : decode code 376 = .ok (.aload_n 1, 1) := by decide +kernel
theorem dL_377 : decode code 377 = .ok (.aload_n 0, 1) := by decide +kernel
theorem dL_378 : decode code 378 = .ok (.iload_n 3, 1) := by decide +kernel
theorem dL_379 : decode code 379 = .ok (.iconst 1, 1) := by decide +kernel
theorem dL_380 : decode code 380 = .ok (.iadd, 1) := by decide +kernel
theorem dL_381 : decode code 381 = .ok (.iaload, 1) := by decide +kernel
theorem dL_382 : decode code 382 = .ok (.aload_n 0, 1) := by decide +kernel
theorem dL_383 : decode code 383 = .ok (.iload_n 3, 1) := by decide +kernel
theorem dL_384 : decode code 384 = .ok (.iconst 2, 1) := by decide +kernel
theorem dL_385 : decode code 385 = .ok (.iadd, 1) := by decide +kernel
theorem dL_386 : decode code 386 = .ok (.iaload, 1) := by decide +kernel
theorem dL_387 : decode code 387 = .ok (.aload_n 0, 1) := by decide +kernel
theorem dL_388 : decode code 388 = .ok (.iload_n 3, 1) := by decide +kernel
theorem dL_389 : decode code 389 = .ok (.iconst 3, 1) := by decide +kernel
theorem dL_390 : decode code 390 = .ok (.iadd, 1) := by decide +kernel
theorem dL_391 : decode code 391 = .ok (.iaload, 1) := by decide +kernel
theorem dL_392 : decode code 392 = .ok (.i2l, 1) := by decide +kernel
theorem dL_393 : decode code 393 = .ok (.bipush 32, 2) := by decide +kernel
theorem dL_395 : decode code 395 = .ok (.lshl, 1) := by decide +kernel
theorem dL_396 : decode code 396 = .ok (.aload_n 0, 1) := by decide +kernel
theorem dL_397 : decode code 397 = .ok (.iload_n 3, 1) := by decide +kernel
theorem dL_398 : decode code 398 = .ok (.iconst 4, 1) := by decide +kernel
theorem dL_399 : decode code 399 = .ok (.iadd, 1) := by decide +kernel
theorem dL_400 : decode code 400 = .ok (.iaload, 1) := by decide +kernel
theorem dL_401 : decode code 401 = .ok (.i2l, 1) := by decide +kernel
theorem dL_402 : decode code 402 = .ok (.ldc2_w 32, 3) := by decide +kernel
theorem dL_405 : decode code 405 = .ok (.land, 1) := by decide +kernel
theorem dL_406 : decode code 406 = .ok (.lor, 1) := by decide +kernel
theorem dL_407 : decode code 407 = .ok (.invokevirtual 34, 3) := by decide +kernel
theorem dL_410 : decode code 410 = .ok (.aload_n 2, 1) := by decide +kernel
theorem dL_411 : decode code 411 = .ok (.aload_n 0, 1) := by decide +kernel
theorem dL_412 : decode code 412 = .ok (.iload_n 3, 1) := by decide +kernel
theorem dL_413 : decode code 413 = .ok (.iconst 1, 1) := by decide +kernel
theorem dL_414 : decode code 414 = .ok (.iadd, 1) := by decide +kernel
theorem dL_415 : decode code 415 = .ok (.iaload, 1) := by decide +kernel
theorem dL_416 : decode code 416 = .ok (.aload_n 0, 1) := by decide +kernel
theorem dL_417 : decode code 417 = .ok (.iload_n 3, 1) := by decide +kernel
theorem dL_418 : decode code 418 = .ok (.iconst 2, 1) := by decide +kernel
theorem dL_419 : decode code 419 = .ok (.iadd, 1) := by decide +kernel
theorem dL_420 : decode code 420 = .ok (.iaload, 1) := by decide +kernel
theorem dL_421 : decode code 421 = .ok (.aload_n 0, 1) := by decide +kernel
theorem dL_422 : decode code 422 = .ok (.iload_n 3, 1) := by decide +kernel
theorem dL_423 : decode code 423 = .ok (.iconst 3, 1) := by decide +kernel
theorem dL_424 : decode code 424 = .ok (.iadd, 1) := by decide +kernel
theorem dL_425 : decode code 425 = .ok (.iaload, 1) := by decide +kernel
theorem dL_426 : decode code 426 = .ok (.i2l, 1) := by decide +kernel
theorem dL_427 : decode code 427 = .ok (.bipush 32, 2) := by decide +kernel
theorem dL_429 : decode code 429 = .ok (.lshl, 1) := by decide +kernel
theorem dL_430 : decode code 430 = .ok (.aload_n 0, 1) := by decide +kernel
theorem dL_431 : decode code 431 = .ok (.iload_n 3, 1) := by decide +kernel
theorem dL_432 : decode code 432 = .ok (.iconst 4, 1) := by decide +kernel
theorem dL_433 : decode code 433 = .ok (.iadd, 1) := by decide +kernel
theorem dL_434 : decode code 434 = .ok (.iaload, 1) := by decide +kernel
theorem dL_435 : decode code 435 = .ok (.i2l, 1) := by decide +kernel
theorem dL_436 : decode code 436 = .ok (.ldc2_w 32, 3) := by decide +kernel
theorem dL_439 : decode code 439 = .ok (.land, 1) := by decide +kernel
theorem dL_440 : decode code 440 = .ok (.lor, 1) := by decide +kernel
theorem dL_441 : decode code 441 = .ok (.invokevirtual 38, 3) := by decide +kernel
theorem dL_444 : decode code 444 = .ok (.if_icmp .eq 1981, 3) := by decide +kernel
theorem dL_449 : decode code 449 = .ok (.aload_n 1, 1) := by decide +kernel
theorem dL_450 : decode code 450 = .ok (.aload_n 0, 1) := by decide +kernel
theorem dL_451 : decode code 451 = .ok (.iload_n 3, 1) := by decide +kernel
theorem dL_452 : decode code 452 = .ok (.iconst 1, 1) := by decide +kernel
theorem dL_453 : decode code 453 = .ok (.iadd, 1) := by decide +kernel
theorem dL_454 : decode code 454 = .ok (.iaload, 1) := by decide +kernel
theorem dL_455 : decode code 455 = .ok (.aload_n 0, 1) := by decide +kernel
theorem dL_456 : decode code 456 = .ok (.iload_n 3, 1) := by decide +kernel
theorem dL_457 : decode code 457 = .ok (.iconst 2, 1) := by decide +kernel
theorem dL_458 : decode code 458 = .ok (.iadd, 1) := by decide +kernel
theorem dL_459 : decode code 459 = .ok (.iaload, 1) := by decide +kernel
theorem dL_460 : decode code 460 = .ok (.invokevirtual 39, 3) := by decide +kernel
theorem dL_463 : decode code 463 = .ok (.aload_n 2, 1) := by decide +kernel
theorem dL_464 : decode code 464 = .ok (.aload_n 0, 1) := by decide +kernel
theorem dL_465 : decode code 465 = .ok (.iload_n 3, 1) := by decide +kernel
theorem dL_466 : decode code 466 = .ok (.iconst 1, 1) := by decide +kernel
theorem dL_467 : decode code 467 = .ok (.iadd, 1) := by decide +kernel
theorem dL_468 : decode code 468 = .ok (.iaload, 1) := by decide +kernel
theorem dL_469 : decode code 469 = .ok (.aload_n 0, 1) := by decide +kernel
theorem dL_470 : decode code 470 = .ok (.iload_n 3, 1) := by decide +kernel
theorem dL_471 : decode code 471 = .ok (.iconst 2, 1) := by decide +kernel
theorem dL_472 : decode code 472 = .ok (.iadd, 1) := by decide +kernel
theorem dL_473 : decode code 473 = .ok (.iaload, 1) := by decide +kernel
theorem dL_474 : decode code 474 = .ok (.invokevirtual 43, 3) := by decide +kernel
theorem dL_477 : decode code 477 = .ok (.lcmp, 1) := by decide +kernel
theorem dL_478 : decode code 478 = .ok (.ifCond .eq 1947, 3) := by decide +kernel
theorem dL_483 : decode code 483 = .ok (.aload_n 1, 1) := by decide +kernel
theorem dL_484 : decode code 484 = .ok (.aload_n 0, 1) := by decide +kernel
theorem dL_485 : decode code 485 = .ok (.iload_n 3, 1) := by decide +kernel
theorem dL_486 : decode code 486 = .ok (.iconst 1, 1) := by decide +kernel
theorem dL_487 : decode code 487 = .ok (.iadd, 1) := by decide +kernel
theorem dL_488 : decode code 488 = .ok (.iaload, 1) := by decide +kernel
theorem dL_489 : decode code 489 = .ok (.aload_n 0, 1) := by decide +kernel
theorem dL_490 : decode code 490 = .ok (.iload_n 3, 1) := by decide +kernel
theorem dL_491 : decode code 491 = .ok (.iconst 2, 1) := by decide +kernel
theorem dL_492 : decode code 492 = .ok (.iadd, 1) := by decide +kernel
theorem dL_493 : decode code 493 = .ok (.iaload, 1) := by decide +kernel
theorem dL_494 : decode code 494 = .ok (.aload_n 0, 1) := by decide +kernel
theorem dL_495 : decode code 495 = .ok (.iload_n 3, 1) := by decide +kernel
theorem dL_496 : decode code 496 = .ok (.iconst 3, 1) := by decide +kernel
theorem dL_497 : decode code 497 = .ok (.iadd, 1) := by decide +kernel
theorem dL_498 : decode code 498 = .ok (.iaload, 1) := by decide +kernel
theorem dL_499 : decode code 499 = .ok (.aload_n 0, 1) := by decide +kernel
theorem dL_500 : decode code 500 = .ok (.iload_n 3, 1) := by decide +kernel
theorem dL_501 : decode code 501 = .ok (.iconst 4, 1) := by decide +kernel
theorem dL_502 : decode code 502 = .ok (.iadd, 1) := by decide +kernel
theorem dL_503 : decode code 503 = .ok (.iaload, 1) := by decide +kernel
theorem dL_504 : decode code 504 = .ok (.aload_n 0, 1) := by decide +kernel
theorem dL_505 : decode code 505 = .ok (.iload_n 3, 1) := by decide +kernel
theorem dL_506 : decode code 506 = .ok (.iconst 5, 1) := by decide +kernel
theorem dL_507 : decode code 507 = .ok (.iadd, 1) := by decide +kernel
theorem dL_508 : decode code 508 = .ok (.iaload, 1) := by decide +kernel
theorem dL_509 : decode code 509 = .ok (.invokevirtual 44, 3) := by decide +kernel
theorem dL_512 : decode code 512 = .ok (.aload_n 2, 1) := by decide +kernel
theorem dL_513 : decode code 513 = .ok (.aload_n 0, 1) := by decide +kernel
theorem dL_514 : decode code 514 = .ok (.iload_n 3, 1) := by decide +kernel
theorem dL_515 : decode code 515 = .ok (.iconst 1, 1) := by decide +kernel
theorem dL_516 : decode code 516 = .ok (.iadd, 1) := by decide +kernel
theorem dL_517 : decode code 517 = .ok (.iaload, 1) := by decide +kernel
theorem dL_518 : decode code 518 = .ok (.aload_n 0, 1) := by decide +kernel
theorem dL_519 : decode code 519 = .ok (.iload_n 3, 1) := by decide +kernel
theorem dL_520 : decode code 520 = .ok (.iconst 2, 1) := by decide +kernel
theorem dL_521 : decode code 521 = .ok (.iadd, 1) := by decide +kernel
theorem dL_522 : decode code 522 = .ok (.iaload, 1) := by decide +kernel
theorem dL_523 : decode code 523 = .ok (.aload_n 0, 1) := by decide +kernel
theorem dL_524 : decode code 524 = .ok (.iload_n 3, 1) := by decide +kernel
theorem dL_525 : decode code 525 = .ok (.iconst 3, 1) := by decide +kernel
theorem dL_526 : decode code 526 = .ok (.iadd, 1) := by decide +kernel
theorem dL_527 : decode code 527 = .ok (.iaload, 1) := by decide +kernel
theorem dL_528 : decode code 528 = .ok (.aload_n 0, 1) := by decide +kernel
theorem dL_529 : decode code 529 = .ok (.iload_n 3, 1) := by decide +kernel
theorem dL_530 : decode code 530 = .ok (.iconst 4, 1) := by decide +kernel
theorem dL_531 : decode code 531 = .ok (.iadd, 1) := by decide +kernel
theorem dL_532 : decode code 532 = .ok (.iaload, 1) := by decide +kernel
theorem dL_533 : decode code 533 = .ok (.aload_n 0, 1) := by decide +kernel
theorem dL_534 : decode code 534 = .ok (.iload_n 3, 1) := by decide +kernel
theorem dL_535 : decode code 535 = .ok (.iconst 5, 1) := by decide +kernel
theorem dL_536 : decode code 536 = .ok (.iadd, 1) := by decide +kernel
theorem dL_537 : decode code 537 = .ok (.iaload, 1) := by decide +kernel
theorem dL_538 : decode code 538 = .ok (.invokevirtual 48, 3) := by decide +kernel
theorem dL_541 : decode code 541 = .ok (.if_icmp .eq 1884, 3) := by decide +kernel
theorem dL_546 : decode code 546 = .ok (.aload_n 1, 1) := by decide +kernel
theorem dL_547 : decode code 547 = .ok (.aload_n 0, 1) := by decide +kernel
theorem dL_548 : decode code 548 = .ok (.iload_n 3, 1) := by decide +kernel
theorem dL_549 : decode code 549 = .ok (.iconst 1, 1) := by decide +kernel
theorem dL_550 : decode code 550 = .ok (.iadd, 1) := by decide +kernel
theorem dL_551 : decode code 551 = .ok (.iaload, 1) := by decide +kernel
theorem dL_552 : decode code 552 = .ok (.aload_n 0, 1) := by decide +kernel
theorem dL_553 : decode code 553 = .ok (.iload_n 3, 1) := by decide +kernel
theorem dL_554 : decode code 554 = .ok (.iconst 2, 1) := by decide +kernel
theorem dL_555 : decode code 555 = .ok (.iadd, 1) := by decide +kernel
theorem dL_556 : decode code 556 = .ok (.iaload, 1) := by decide +kernel
theorem dL_557 : decode code 557 = .ok (.aload_n 0, 1) := by decide +kernel
theorem dL_558 : decode code 558 = .ok (.iload_n 3, 1) := by decide +kernel
theorem dL_559 : decode code 559 = .ok (.iconst 3, 1) := by decide +kernel
theorem dL_560 : decode code 560 = .ok (.iadd, 1) := by decide +kernel
theorem dL_561 : decode code 561 = .ok (.iaload, 1) := by decide +kernel
theorem dL_562 : decode code 562 = .ok (.aload_n 0, 1) := by decide +kernel
theorem dL_563 : decode code 563 = .ok (.iload_n 3, 1) := by decide +kernel
theorem dL_564 : decode code 564 = .ok (.iconst 4, 1) := by decide +kernel
theorem dL_565 : decode code 565 = .ok (.iadd, 1) := by decide +kernel
theorem dL_566 : decode code 566 = .ok (.iaload, 1) := by decide +kernel
theorem dL_567 : decode code 567 = .ok (.aload_n 0, 1) := by decide +kernel
theorem dL_568 : decode code 568 = .ok (.iload_n 3, 1) := by decide +kernel
theorem dL_569 : decode code 569 = .ok (.iconst 5, 1) := by decide +kernel
theorem dL_570 : decode code 570 = .ok (.iadd, 1) := by decide +kernel
theorem dL_571 : decode code 571 = .ok (.iaload, 1) := by decide +kernel
theorem dL_572 : decode code 572 = .ok (.invokevirtual 49, 3) := by decide +kernel
theorem dL_575 : decode code 575 = .ok (.aload_n 2, 1) := by decide +kernel
theorem dL_576 : decode code 576 = .ok (.aload_n 0, 1) := by decide +kernel
theorem dL_577 : decode code 577 = .ok (.iload_n 3, 1) := by decide +kernel
theorem dL_578 : decode code 578 = .ok (.iconst 1, 1) := by decide +kernel
theorem dL_579 : decode code 579 = .ok (.iadd, 1) := by decide +kernel
theorem dL_580 : decode code 580 = .ok (.iaload, 1) := by decide +kernel
theorem dL_581 : decode code 581 = .ok (.aload_n 0, 1) := by decide +kernel
theorem dL_582 : decode code 582 = .ok (.iload_n 3, 1) := by decide +kernel
theorem dL_583 : decode code 583 = .ok (.iconst 2, 1) := by decide +kernel
theorem dL_584 : decode code 584 = .ok (.iadd, 1) := by decide +kernel
theorem dL_585 : decode code 585 = .ok (.iaload, 1) := by decide +kernel
theorem dL_586 : decode code 586 = .ok (.aload_n 0, 1) := by decide +kernel
theorem dL_587 : decode code 587 = .ok (.iload_n 3, 1) := by decide +kernel
theorem dL_588 : decode code 588 = .ok (.iconst 3, 1) := by decide +kernel
theorem dL_589 : decode code 589 = .ok (.iadd, 1) := by decide +kernel
theorem dL_590 : decode code 590 = .ok (.iaload, 1) := by decide +kernel
theorem dL_591 : decode code 591 = .ok (.aload_n 0, 1) := by decide +kernel
theorem dL_592 : decode code 592 = .ok (.iload_n 3, 1) := by decide +kernel
theorem dL_593 : decode code 593 = .ok (.iconst 4, 1) := by decide +kernel
theorem dL_594 : decode code 594 = .ok (.iadd, 1) := by decide +kernel
theorem dL_595 : decode code 595 = .ok (.iaload, 1) := by decide +kernel
theorem dL_596 : decode code 596 = .ok (.aload_n 0, 1) := by decide +kernel
theorem dL_597 : decode code 597 = .ok (.iload_n 3, 1) := by decide +kernel
theorem dL_598 : decode code 598 = .ok (.iconst 5, 1) := by decide +kernel
theorem dL_599 : decode code 599 = .ok (.iadd, 1) := by decide +kernel
theorem dL_600 : decode code 600 = .ok (.iaload, 1) := by decide +kernel
theorem dL_601 : decode code 601 = .ok (.invokevirtual 53, 3) := by decide +kernel
theorem dL_604 : decode code 604 = .ok (.if_icmp .eq 1821, 3) := by decide +kernel
theorem dL_609 : decode code 609 = .ok (.aload_n 1, 1) := by decide +kernel
theorem dL_610 : decode code 610 = .ok (.aload_n 0, 1) := by decide +kernel
theorem dL_611 : decode code 611 = .ok (.iload_n 3, 1) := by decide +kernel
theorem dL_612 : decode code 612 = .ok (.iconst 1, 1) := by decide +kernel
theorem dL_613 : decode code 613 = .ok (.iadd, 1) := by decide +kernel
theorem dL_614 : decode code 614 = .ok (.iaload, 1) := by decide +kernel
theorem dL_615 : decode code 615 = .ok (.invokevirtual 54, 3) := by decide +kernel
theorem dL_618 : decode code 618 = .ok (.aload_n 2, 1) := by decide +kernel
theorem dL_619 : decode code 619 = .ok (.aload_n 0, 1) := by decide +kernel
theorem dL_620 : decode code 620 = .ok (.iload_n 3, 1) := by decide +kernel
theorem dL_621 : decode code 621 = .ok (.iconst 1, 1) := by decide +kernel
theorem dL_622 : decode code 622 = .ok (.iadd, 1) := by decide +kernel
theorem dL_623 : decode code 623 = .ok (.iaload, 1) := by decide +kernel
theorem dL_624 : decode code 624 = .ok (.invokevirtual 58, 3) := by decide +kernel
theorem dL_627 : decode code 627 = .ok (.if_icmp .eq 1798, 3) := by decide +kernel
theorem dL_632 : decode code 632 = .ok (.aload_n 1, 1) := by decide +kernel
theorem dL_633 : decode code 633 = .ok (.aload_n 0, 1) := by decide +kernel
theorem dL_634 : decode code 634 = .ok (.iload_n 3, 1) := by decide +kernel
theorem dL_635 : decode code 635 = .ok (.iconst 1, 1) := by decide +kernel
theorem dL_636 : decode code 636 = .ok (.iadd, 1) := by decide +kernel
theorem dL_637 : decode code 637 = .ok (.iaload, 1) := by decide +kernel
theorem dL_638 : decode code 638 = .ok (.invokevirtual 59, 3) := by decide +kernel
theorem dL_641 : decode code 641 = .ok (.aload_n 2, 1) := by decide +kernel
theorem dL_642 : decode code 642 = .ok (.aload_n 0, 1) := by decide +kernel
theorem dL_643 : decode code 643 = .ok (.iload_n 3, 1) := by decide +kernel
theorem dL_644 : decode code 644 = .ok (.iconst 1, 1) := by decide +kernel
theorem dL_645 : decode code 645 = .ok (.iadd, 1) := by decide +kernel
theorem dL_646 : decode code 646 = .ok (.iaload, 1) := by decide +kernel
theorem dL_647 : decode code 647 = .ok (.invokevirtual 62, 3) := by decide +kernel
theorem dL_650 : decode code 650 = .ok (.if_icmp .eq 1775, 3) := by decide +kernel
theorem dL_655 : decode code 655 = .ok (.aload_n 1, 1) := by decide +kernel
theorem dL_656 : decode code 656 = .ok (.aload_n 0, 1) := by decide +kernel
theorem dL_657 : decode code 657 = .ok (.iload_n 3, 1) := by decide +kernel
theorem dL_658 : decode code 658 = .ok (.iconst 1, 1) := by decide +kernel
theorem dL_659 : decode code 659 = .ok (.iadd, 1) := by decide +kernel
theorem dL_660 : decode code 660 = .ok (.iaload, 1) := by decide +kernel
theorem dL_661 : decode code 661 = .ok (.invokevirtual 63, 3) := by decide +kernel
theorem dL_664 : decode code 664 = .ok (.aload_n 2, 1) := by decide +kernel
theorem dL_665 : decode code 665 = .ok (.aload_n 0, 1) := by decide +kernel
theorem dL_666 : decode code 666 = .ok (.iload_n 3, 1) := by decide +kernel
theorem dL_667 : decode code 667 = .ok (.iconst 1, 1) := by decide +kernel
theorem dL_668 : decode code 668 = .ok (.iadd, 1) := by decide +kernel
theorem dL_669 : decode code 669 = .ok (.iaload, 1) := by decide +kernel
theorem dL_670 : decode code 670 = .ok (.invokevirtual 66, 3) := by decide +kernel
theorem dL_673 : decode code 673 = .ok (.if_icmp .eq 1752, 3) := by decide +kernel
theorem dL_678 : decode code 678 = .ok (.aload_n 1, 1) := by decide +kernel
theorem dL_679 : decode code 679 = .ok (.aload_n 0, 1) := by decide +kernel
theorem dL_680 : decode code 680 = .ok (.iload_n 3, 1) := by decide +kernel
theorem dL_681 : decode code 681 = .ok (.iconst 1, 1) := by decide +kernel
theorem dL_682 : decode code 682 = .ok (.iadd, 1) := by decide +kernel
theorem dL_683 : decode code 683 = .ok (.iaload, 1) := by decide +kernel
theorem dL_684 : decode code 684 = .ok (.invokevirtual 67, 3) := by decide +kernel
theorem dL_687 : decode code 687 = .ok (.aload_n 2, 1) := by decide +kernel
theorem dL_688 : decode code 688 = .ok (.aload_n 0, 1) := by decide +kernel
theorem dL_689 : decode code 689 = .ok (.iload_n 3, 1) := by decide +kernel
theorem dL_690 : decode code 690 = .ok (.iconst 1, 1) := by decide +kernel
theorem dL_691 : decode code 691 = .ok (.iadd, 1) := by decide +kernel
theorem dL_692 : decode code 692 = .ok (.iaload, 1) := by decide +kernel
theorem dL_693 : decode code 693 = .ok (.invokevirtual 70, 3) := by decide +kernel
theorem dL_696 : decode code 696 = .ok (.if_icmp .eq 1729, 3) := by decide +kernel
theorem dL_701 : decode code 701 = .ok (.aload_n 1, 1) := by decide +kernel
theorem dL_702 : decode code 702 = .ok (.aload_n 0, 1) := by decide +kernel
theorem dL_703 : decode code 703 = .ok (.iload_n 3, 1) := by decide +kernel
theorem dL_704 : decode code 704 = .ok (.iconst 1, 1) := by decide +kernel
theorem dL_705 : decode code 705 = .ok (.iadd, 1) := by decide +kernel
theorem dL_706 : decode code 706 = .ok (.iaload, 1) := by decide +kernel
theorem dL_707 : decode code 707 = .ok (.invokevirtual 71, 3) := by decide +kernel
theorem dL_710 : decode code 710 = .ok (.aload_n 2, 1) := by decide +kernel
theorem dL_711 : decode code 711 = .ok (.aload_n 0, 1) := by decide +kernel
theorem dL_712 : decode code 712 = .ok (.iload_n 3, 1) := by decide +kernel
theorem dL_713 : decode code 713 = .ok (.iconst 1, 1) := by decide +kernel
theorem dL_714 : decode code 714 = .ok (.iadd, 1) := by decide +kernel
theorem dL_715 : decode code 715 = .ok (.iaload, 1) := by decide +kernel
theorem dL_716 : decode code 716 = .ok (.invokevirtual 74, 3) := by decide +kernel
theorem dL_719 : decode code 719 = .ok (.if_icmp .eq 1706, 3) := by decide +kernel
theorem dL_724 : decode code 724 = .ok (.aload_n 1, 1) := by decide +kernel
theorem dL_725 : decode code 725 = .ok (.aload_n 0, 1) := by decide +kernel
theorem dL_726 : decode code 726 = .ok (.iload_n 3, 1) := by decide +kernel
theorem dL_727 : decode code 727 = .ok (.iconst 1, 1) := by decide +kernel
theorem dL_728 : decode code 728 = .ok (.iadd, 1) := by decide +kernel
theorem dL_729 : decode code 729 = .ok (.iaload, 1) := by decide +kernel
theorem dL_730 : decode code 730 = .ok (.invokevirtual 75, 3) := by decide +kernel
theorem dL_733 : decode code 733 = .ok (.aload_n 2, 1) := by decide +kernel
theorem dL_734 : decode code 734 = .ok (.aload_n 0, 1) := by decide +kernel
theorem dL_735 : decode code 735 = .ok (.iload_n 3, 1) := by decide +kernel
theorem dL_736 : decode code 736 = .ok (.iconst 1, 1) := by decide +kernel
theorem dL_737 : decode code 737 = .ok (.iadd, 1) := by decide +kernel
theorem dL_738 : decode code 738 = .ok (.iaload, 1) := by decide +kernel
theorem dL_739 : decode code 739 = .ok (.invokevirtual 78, 3) := by decide +kernel
theorem dL_742 : decode code 742 = .ok (.if_icmp .eq 1683, 3) := by decide +kernel
theorem dL_747 : decode code 747 = .ok (.aload_n 1, 1) := by decide +kernel
theorem dL_748 : decode code 748 = .ok (.aload_n 0, 1) := by decide +kernel
theorem dL_749 : decode code 749 = .ok (.iload_n 3, 1) := by decide +kernel
theorem dL_750 : decode code 750 = .ok (.iconst 1, 1) := by decide +kernel
theorem dL_751 : decode code 751 = .ok (.iadd, 1) := by decide +kernel
theorem dL_752 : decode code 752 = .ok (.iaload, 1) := by decide +kernel
theorem dL_753 : decode code 753 = .ok (.aload_n 0, 1) := by decide +kernel
theorem dL_754 : decode code 754 = .ok (.iload_n 3, 1) := by decide +kernel
theorem dL_755 : decode code 755 = .ok (.iconst 2, 1) := by decide +kernel
theorem dL_756 : decode code 756 = .ok (.iadd, 1) := by decide +kernel
theorem dL_757 : decode code 757 = .ok (.iaload, 1) := by decide +kernel
theorem dL_758 : decode code 758 = .ok (.invokevirtual 79, 3) := by decide +kernel
theorem dL_761 : decode code 761 = .ok (.aload_n 2, 1) := by decide +kernel
theorem dL_762 : decode code 762 = .ok (.aload_n 0, 1) := by decide +kernel
theorem dL_763 : decode code 763 = .ok (.iload_n 3, 1) := by decide +kernel
theorem dL_764 : decode code 764 = .ok (.iconst 1, 1) := by decide +kernel
theorem dL_765 : decode code 765 = .ok (.iadd, 1) := by decide +kernel
theorem dL_766 : decode code 766 = .ok (.iaload, 1) := by decide +kernel
theorem dL_767 : decode code 767 = .ok (.aload_n 0, 1) := by decide +kernel
theorem dL_768 : decode code 768 = .ok (.iload_n 3, 1) := by decide +kernel
theorem dL_769 : decode code 769 = .ok (.iconst 2, 1) := by decide +kernel
theorem dL_770 : decode code 770 = .ok (.iadd, 1) := by decide +kernel
theorem dL_771 : decode code 771 = .ok (.iaload, 1) := by decide +kernel
theorem dL_772 : decode code 772 = .ok (.invokevirtual 83, 3) := by decide +kernel
theorem dL_775 : decode code 775 = .ok (.if_icmp .eq 1650, 3) := by decide +kernel
theorem dL_780 : decode code 780 = .ok (.aload_n 1, 1) := by decide +kernel
theorem dL_781 : decode code 781 = .ok (.aload_n 0, 1) := by decide +kernel
theorem dL_782 : decode code 782 = .ok (.iload_n 3, 1) := by decide +kernel
theorem dL_783 : decode code 783 = .ok (.iconst 1, 1) := by decide +kernel
theorem dL_784 : decode code 784 = .ok (.iadd, 1) := by decide +kernel
theorem dL_785 : decode code 785 = .ok (.iaload, 1) := by decide +kernel
theorem dL_786 : decode code 786 = .ok (.aload_n 0, 1) := by decide +kernel
theorem dL_787 : decode code 787 = .ok (.iload_n 3, 1) := by decide +kernel
theorem dL_788 : decode code 788 = .ok (.iconst 2, 1) := by decide +kernel
theorem dL_789 : decode code 789 = .ok (.iadd, 1) := by decide +kernel
theorem dL_790 : decode code 790 = .ok (.iaload, 1) := by decide +kernel
theorem dL_791 : decode code 791 = .ok (.aload_n 0, 1) := by decide +kernel
theorem dL_792 : decode code 792 = .ok (.iload_n 3, 1) := by decide +kernel
theorem dL_793 : decode code 793 = .ok (.iconst 3, 1) := by decide +kernel
theorem dL_794 : decode code 794 = .ok (.iadd, 1) := by decide +kernel
theorem dL_795 : decode code 795 = .ok (.iaload, 1) := by decide +kernel
theorem dL_796 : decode code 796 = .ok (.invokevirtual 84, 3) := by decide +kernel
theorem dL_799 : decode code 799 = .ok (.aload_n 2, 1) := by decide +kernel
theorem dL_800 : decode code 800 = .ok (.aload_n 0, 1) := by decide +kernel
theorem dL_801 : decode code 801 = .ok (.iload_n 3, 1) := by decide +kernel
theorem dL_802 : decode code 802 = .ok (.iconst 1, 1) := by decide +kernel
theorem dL_803 : decode code 803 = .ok (.iadd, 1) := by decide +kernel
theorem dL_804 : decode code 804 = .ok (.iaload, 1) := by decide +kernel
theorem dL_805 : decode code 805 = .ok (.aload_n 0, 1) := by decide +kernel
theorem dL_806 : decode code 806 = .ok (.iload_n 3, 1) := by decide +kernel
theorem dL_807 : decode code 807 = .ok (.iconst 2, 1) := by decide +kernel
theorem dL_808 : decode code 808 = .ok (.iadd, 1) := by decide +kernel
theorem dL_809 : decode code 809 = .ok (.iaload, 1) := by decide +kernel
theorem dL_810 : decode code 810 = .ok (.aload_n 0, 1) := by decide +kernel
theorem dL_811 : decode code 811 = .ok (.iload_n 3, 1) := by decide +kernel
theorem dL_812 : decode code 812 = .ok (.iconst 3, 1) := by decide +kernel
