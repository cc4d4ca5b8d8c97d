theorem dL_law_0 : decode cL_law 0 = .ok (.new 8, 3) := by decide +kernel
theorem dL_law_3 : decode cL_law 3 = .ok (.dup, 1) := by decide +kernel
theorem dL_law_4 : decode cL_law 4 = .ok (.invokespecial 193, 3) := by decide +kernel
theorem dL_law_7 : decode cL_law 7 = .ok (.astore_n 1, 1) := by decide +kernel
theorem dL_law_8 : decode cL_law 8 = .ok (.new 194, 3) := by decide +kernel
theorem dL_law_11 : decode cL_law 11 = .ok (.dup, 1) := by decide +kernel
theorem dL_law_12 : decode cL_law 12 = .ok (.invokespecial 196, 3) := by decide +kernel
theorem dL_law_15 : decode cL_law 15 = .ok (.astore_n 2, 1) := by decide +kernel
theorem dL_law_16 : decode cL_law 16 = .ok (.iconst 1, 1) := by decide +kernel
theorem dL_law_17 : decode cL_law 17 = .ok (.newarray .long, 2) := by decide +kernel
theorem dL_law_19 : decode cL_law 19 = .ok (.astore_n 3, 1) := by decide +kernel
theorem dL_law_20 : decode cL_law 20 = .ok (.iconst 1, 1) := by decide +kernel
theorem dL_law_21 : decode cL_law 21 = .ok (.newarray .double, 2) := by decide +kernel
theorem dL_law_23 : decode cL_law 23 = .ok (.astore 4, 2) := by decide +kernel
theorem dL_law_25 : decode cL_law 25 = .ok (.iconst 0, 1) := by decide +kernel
theorem dL_law_26 : decode cL_law 26 = .ok (.istore 5, 2) := by decide +kernel
theorem dL_law_28 : decode cL_law 28 = .ok (.iload 5, 2) := by decide +kernel
theorem dL_law_30 : decode cL_law 30 = .ok (.aload_n 0, 1) := by decide +kernel
theorem dL_law_31 : decode cL_law 31 = .ok (.arraylength, 1) := by decide +kernel
theorem dL_law_32 : decode cL_law 32 = .ok (.iconst 4, 1) := by decide +kernel
theorem dL_law_33 : decode cL_law 33 = .ok (.isub, 1) := by decide +kernel
theorem dL_law_34 : decode cL_law 34 = .ok (.if_icmp .gt 3562, 3) := by decide +kernel
theorem dL_law_37 : decode cL_law 37 = .ok (.aload_n 0, 1) := by decide +kernel
theorem dL_law_38 : decode cL_law 38 = .ok (.iload 5, 2) := by decide +kernel
theorem dL_law_40 : decode cL_law 40 = .ok (.iaload, 1) := by decide +kernel
theorem dL_law_41 : decode cL_law 41 = .ok (.bipush 63, 2) := by decide +kernel
theorem dL_law_43 : decode cL_law 43 = .ok (.iand, 1) := by decide +kernel
theorem dL_law_44 : decode cL_law 44 = .ok (.tableswitch 3546 0 60 #[260, 330, 343, 399, 455, 518, 581, 644, 707, 763, 819, 875, 931, 1006, 1074, 1130, 1186, 1242, 1298, 1366, 1422, 1490, 1546, 1614, 1682, 1738, 1794, 1850, 1906, 1974, 2051, 2128, 2210, 2278, 2346, 2402, 2458, 2526, 2603, 2678, 2734, 2747, 2803, 2816, 2829, 2842, 2855, 2911, 2976, 3042, 3055, 3111, 3167, 3225, 3269, 3313, 3357, 3401, 3445, 3489, 3502], 260) := by decide +kernel
theorem dL_law_304 : decode cL_law 304 = .ok (.aload_n 1, 1) := by decide +kernel
theorem dL_law_305 : decode cL_law 305 = .ok (.aload_n 0, 1) := by decide +kernel
theorem dL_law_306 : decode cL_law 306 = .ok (.iload 5, 2) := by decide +kernel
theorem dL_law_308 : decode cL_law 308 = .ok (.iconst 1, 1) := by decide +kernel
theorem dL_law_309 : decode cL_law 309 = .ok (.iadd, 1) := by decide +kernel
theorem dL_law_310 : decode cL_law 310 = .ok (.iaload, 1) := by decide +kernel
theorem dL_law_311 : decode cL_law 311 = .ok (.i2c, 1) := by decide +kernel
theorem dL_law_312 : decode cL_law 312 = .ok (.aload_n 0, 1) := by decide +kernel
theorem dL_law_313 : decode cL_law 313 = .ok (.iload 5, 2) := by decide +kernel
theorem dL_law_315 : decode cL_law 315 = .ok (.iconst 2, 1) := by decide +kernel
theorem dL_law_316 : decode cL_law 316 = .ok (.iadd, 1) := by decide +kernel
theorem dL_law_317 : decode cL_law 317 = .ok (.iaload, 1) := by decide +kernel
theorem dL_law_318 : decode cL_law 318 = .ok (.aload_n 3, 1) := by decide +kernel
theorem dL_law_319 : decode cL_law 319 = .ok (.invokestatic 197, 3) := by decide +kernel
theorem dL_law_322 : decode cL_law 322 = .ok (.istore 6, 2) := by decide +kernel
theorem dL_law_324 : decode cL_law 324 = .ok (.aload_n 2, 1) := by decide +kernel
theorem dL_law_325 : decode cL_law 325 = .ok (.aload_n 0, 1) := by decide +kernel
theorem dL_law_326 : decode cL_law 326 = .ok (.iload 5, 2) := by decide +kernel
theorem dL_law_328 : decode cL_law 328 = .ok (.iconst 1, 1) := by decide +kernel
theorem dL_law_329 : decode cL_law 329 = .ok (.iadd, 1) := by decide +kernel
theorem dL_law_330 : decode cL_law 330 = .ok (.iaload, 1) := by decide +kernel
theorem dL_law_331 : decode cL_law 331 = .ok (.i2c, 1) := by decide +kernel
theorem dL_law_332 : decode cL_law 332 = .ok (.aload_n 0, 1) := by decide +kernel
theorem dL_law_333 : decode cL_law 333 = .ok (.iload 5, 2) := by decide +kernel
theorem dL_law_335 : decode cL_law 335 = .ok (.iconst 2, 1) := by decide +kernel
theorem dL_law_336 : decode cL_law 336 = .ok (.iadd, 1) := by decide +kernel
theorem dL_law_337 : decode cL_law 337 = .ok (.iaload, 1) := by decide +kernel
theorem dL_law_338 : decode cL_law 338 = .ok (.invokevirtual 202, 3) := by decide +kernel
theorem dL_law_341 : decode cL_law 341 = .ok (.istore 7, 2) := by decide +kernel
theorem dL_law_343 : decode cL_law 343 = .ok (.aload_n 2, 1) := by decide +kernel
theorem dL_law_344 : decode cL_law 344 = .ok (.invokevirtual 203, 3) := by decide +kernel
theorem dL_law_347 : decode cL_law 347 = .ok (.iload 6, 2) := by decide +kernel
theorem dL_law_349 : decode cL_law 349 = .ok (.if_icmp .eq 5, 3) := by decide +kernel
theorem dL_law_352 : decode cL_law 352 = .ok (.iconst 0, 1) := by decide +kernel
theorem dL_law_353 : decode cL_law 353 = .ok (.ireturn, 1) := by decide +kernel
theorem dL_law_354 : decode cL_law 354 = .ok (.iload 6, 2) := by decide +kernel
theorem dL_law_356 : decode cL_law 356 = .ok (.ifCond .ne 15, 3) := by decide +kernel
theorem dL_law_359 : decode cL_law 359 = .ok (.aload_n 3, 1) := by decide +kernel
theorem dL_law_360 : decode cL_law 360 = .ok (.iconst 0, 1) := by decide +kernel
theorem dL_law_361 : decode cL_law 361 = .ok (.laload, 1) := by decide +kernel
theorem dL_law_362 : decode cL_law 362 = .ok (.iload 7, 2) := by decide +kernel
theorem dL_law_364 : decode cL_law 364 = .ok (.i2l, 1) := by decide +kernel
theorem dL_law_365 : decode cL_law 365 = .ok (.lcmp, 1) := by decide +kernel
theorem dL_law_366 : decode cL_law 366 = .ok (.ifCond .eq 5, 3) := by decide +kernel
theorem dL_law_369 : decode cL_law 369 = .ok (.iconst 0, 1) := by decide +kernel
theorem dL_law_370 : decode cL_law 370 = .ok (.ireturn, 1) := by decide +kernel
theorem dL_law_371 : decode cL_law 371 = .ok (.goto 3219, 3) := by decide +kernel
theorem dL_law_374 : decode cL_law 374 = .ok (.aload_n 1, 1) := by decide +kernel
theorem dL_law_375 : decode cL_law 375 = .ok (.invokevirtual 206, 3) := by decide +kernel
theorem dL_law_378 : decode cL_law 378 = .ok (.aload_n 2, 1) := by decide +kernel
theorem dL_law_379 : decode cL_law 379 = .ok (.invokevirtual 209, 3) := by decide +kernel
theorem dL_law_382 : decode cL_law 382 = .ok (.if_icmp .eq 3208, 3) := by decide +kernel
theorem dL_law_385 : decode cL_law 385 = .ok (.iconst 0, 1) := by decide +kernel
theorem dL_law_386 : decode cL_law 386 = .ok (.ireturn, 1) := by decide +kernel
theorem dL_law_387 : decode cL_law 387 = .ok (.aload_n 1, 1) := by decide +kernel
theorem dL_law_388 : decode cL_law 388 = .ok (.aload_n 0, 1) := by decide +kernel
theorem dL_law_389 : decode cL_law 389 = .ok (.iload 5, 2) := by decide +kernel
theorem dL_law_391 : decode cL_law 391 = .ok (.iconst 1, 1) := by decide +kernel
theorem dL_law_392 : decode cL_law 392 = .ok (.iadd, 1) := by decide +kernel
theorem dL_law_393 : decode cL_law 393 = .ok (.iaload, 1) := by decide +kernel
theorem dL_law_394 : decode cL_law 394 = .ok (.aload_n 3, 1) := by decide +kernel
theorem dL_law_395 : decode cL_law 395 = .ok (.invokestatic 210, 3) := by decide +kernel
theorem dL_law_398 : decode cL_law 398 = .ok (.istore 6, 2) := by decide +kernel
theorem dL_law_400 : decode cL_law 400 = .ok (.aload_n 2, 1) := by decide +kernel
theorem dL_law_401 : decode cL_law 401 = .ok (.aload_n 0, 1) := by decide +kernel
theorem dL_law_402 : decode cL_law 402 = .ok (.iload 5, 2) := by decide +kernel
theorem dL_law_404 : decode cL_law 404 = .ok (.iconst 1, 1) := by decide +kernel
theorem dL_law_405 : decode cL_law 405 = .ok (.iadd, 1) := by decide +kernel
theorem dL_law_406 : decode cL_law 406 = .ok (.iaload, 1) := by decide +kernel
theorem dL_law_407 : decode cL_law 407 = .ok (.invokevirtual 213, 3) := by decide +kernel
theorem dL_law_410 : decode cL_law 410 = .ok (.istore 7, 2) := by decide +kernel
theorem dL_law_412 : decode cL_law 412 = .ok (.aload_n 2, 1) := by decide +kernel
theorem dL_law_413 : decode cL_law 413 = .ok (.invokevirtual 203, 3) := by decide +kernel
theorem dL_law_416 : decode cL_law 416 = .ok (.iload 6, 2) := by decide +kernel
theorem dL_law_418 : decode cL_law 418 = .ok (.if_icmp .eq 5, 3) := by decide +kernel
theorem dL_law_421 : decode cL_law 421 = .ok (.iconst 0, 1) := by decide +kernel
theorem dL_law_422 : decode cL_law 422 = .ok (.ireturn, 1) := by decide +kernel
theorem dL_law_423 : decode cL_law 423 = .ok (.iload 6, 2) := by decide +kernel
theorem dL_law_425 : decode cL_law 425 = .ok (.ifCond .ne 15, 3) := by decide +kernel
theorem dL_law_428 : decode cL_law 428 = .ok (.aload_n 3, 1) := by decide +kernel
theorem dL_law_429 : decode cL_law 429 = .ok (.iconst 0, 1) := by decide +kernel
theorem dL_law_430 : decode cL_law 430 = .ok (.laload, 1) := by decide +kernel
theorem dL_law_431 : decode cL_law 431 = .ok (.iload 7, 2) := by decide +kernel
theorem dL_law_433 : decode cL_law 433 = .ok (.i2l, 1) := by decide +kernel
theorem dL_law_434 : decode cL_law 434 = .ok (.lcmp, 1) := by decide +kernel
theorem dL_law_435 : decode cL_law 435 = .ok (.ifCond .eq 5, 3) := by decide +kernel
theorem dL_law_438 : decode cL_law 438 = .ok (.iconst 0, 1) := by decide +kernel
theorem dL_law_439 : decode cL_law 439 = .ok (.ireturn, 1) := by decide +kernel
theorem dL_law_440 : decode cL_law 440 = .ok (.goto 3150, 3) := by decide +kernel
theorem dL_law_443 : decode cL_law 443 = .ok (.aload_n 1, 1) := by decide +kernel
theorem dL_law_444 : decode cL_law 444 = .ok (.aload_n 0, 1) := by decide +kernel
theorem dL_law_445 : decode cL_law 445 = .ok (.iload 5, 2) := by decide +kernel
theorem dL_law_447 : decode cL_law 447 = .ok (.iconst 1, 1) := by decide +kernel
theorem dL_law_448 : decode cL_law 448 = .ok (.iadd, 1) := by decide +kernel
theorem dL_law_449 : decode cL_law 449 = .ok (.iaload, 1) := by decide +kernel
theorem dL_law_450 : decode cL_law 450 = .ok (.aload_n 3, 1) := by decide +kernel
theorem dL_law_451 : decode cL_law 451 = .ok (.invokestatic 214, 3) := by decide +kernel
theorem dL_law_454 : decode cL_law 454 = .ok (.istore 6, 2) := by decide +kernel
theorem dL_law_456 : decode cL_law 456 = .ok (.aload_n 2, 1) := by decide +kernel
theorem dL_law_457 : decode cL_law 457 = .ok (.aload_n 0, 1) := by decide +kernel
theorem dL_law_458 : decode cL_law 458 = .ok (.iload 5, 2) := by decide +kernel
theorem dL_law_460 : decode cL_law 460 = .ok (.iconst 1, 1) := by decide +kernel
theorem dL_law_461 : decode cL_law 461 = .ok (.iadd, 1) := by decide +kernel
theorem dL_law_462 : decode cL_law 462 = .ok (.iaload, 1) := by decide +kernel
theorem dL_law_463 : decode cL_law 463 = .ok (.invokevirtual 216, 3) := by decide +kernel
theorem dL_law_466 : decode cL_law 466 = .ok (.istore 7, 2) := by decide +kernel
theorem dL_law_468 : decode cL_law 468 = .ok (.aload_n 2, 1) := by decide +kernel
theorem dL_law_469 : decode cL_law 469 = .ok (.invokevirtual 203, 3) := by decide +kernel
theorem dL_law_472 : decode cL_law 472 = .ok (.iload 6, 2) := by decide +kernel
theorem dL_law_474 : decode cL_law 474 = .ok (.if_icmp .eq 5, 3) := by decide +kernel
theorem dL_law_477 : decode cL_law 477 = .ok (.iconst 0, 1) := by decide +kernel
theorem dL_law_478 : decode cL_law 478 = .ok (.ireturn, 1) := by decide +kernel
theorem dL_law_479 : decode cL_law 479 = .ok (.iload 6, 2) := by decide +kernel
theorem dL_law_481 : decode cL_law 481 = .ok (.ifCond .ne 15, 3) := by decide +kernel
theorem dL_law_484 : decode cL_law 484 = .ok (.aload_n 3, 1) := by decide +kernel
theorem dL_law_485 : decode cL_law 485 = .ok (.iconst 0, 1) := by decide +kernel
theorem dL_law_486 : decode cL_law 486 = .ok (.laload, 1) := by decide +kernel
theorem dL_law_487 : decode cL_law 487 = .ok (.iload 7, 2) := by decide +kernel
theorem dL_law_489 : decode cL_law 489 = .ok (.i2l, 1) := by decide +kernel
theorem dL_law_490 : decode cL_law 490 = .ok (.lcmp, 1) := by decide +kernel
theorem dL_law_491 : decode cL_law 491 = .ok (.ifCond .eq 5, 3) := by decide +kernel
theorem dL_law_494 : decode cL_law 494 = .ok (.iconst 0, 1) := by decide +kernel
theorem dL_law_495 : decode cL_law 495 = .ok (.ireturn, 1) := by decide +kernel
theorem dL_law_496 : decode cL_law 496 = .ok (.goto 3094, 3) := by decide +kernel
theorem dL_law_499 : decode cL_law 499 = .ok (.aload_n 1, 1) := by decide +kernel
theorem dL_law_500 : decode cL_law 500 = .ok (.aload_n 0, 1) := by decide +kernel
theorem dL_law_501 : decode cL_law 501 = .ok (.iload 5, 2) := by decide +kernel
theorem dL_law_503 : decode cL_law 503 = .ok (.iconst 1, 1) := by decide +kernel
theorem dL_law_504 : decode cL_law 504 = .ok (.iadd, 1) := by decide +kernel
theorem dL_law_505 : decode cL_law 505 = .ok (.iaload, 1) := by decide +kernel
theorem dL_law_506 : decode cL_law 506 = .ok (.aload_n 3, 1) := by decide +kernel
theorem dL_law_507 : decode cL_law 507 = .ok (.invokestatic 217, 3) := by decide +kernel
theorem dL_law_510 : decode cL_law 510 = .ok (.istore 6, 2) := by decide +kernel
theorem dL_law_512 : decode cL_law 512 = .ok (.aload_n 2, 1) := by decide +kernel
theorem dL_law_513 : decode cL_law 513 = .ok (.aload_n 0, 1) := by decide +kernel
theorem dL_law_514 : decode cL_law 514 = .ok (.iload 5, 2) := by decide +kernel
theorem dL_law_516 : decode cL_law 516 = .ok (.iconst 1, 1) := by decide +kernel
theorem dL_law_517 : decode cL_law 517 = .ok (.iadd, 1) := by decide +kernel
theorem dL_law_518 : decode cL_law 518 = .ok (.iaload, 1) := by decide +kernel
theorem dL_law_519 : decode cL_law 519 = .ok (.invokevirtual 219, 3) := by decide +kernel
theorem dL_law_522 : decode cL_law 522 = .ok (.istore 7, 2) := by decide +kernel
theorem dL_law_524 : decode cL_law 524 = .ok (.aload_n 2, 1) := by decide +kernel
theorem dL_law_525 : decode cL_law 525 = .ok (.invokevirtual 203, 3) := by decide +kernel
theorem dL_law_528 : decode cL_law 528 = .ok (.iload 6, 2) := by decide +kernel
theorem dL_law_530 : decode cL_law 530 = .ok (.if_icmp .eq 5, 3) := by decide +kernel
theorem dL_law_533 : decode cL_law 533 = .ok (.iconst 0, 1) := by decide +kernel
theorem dL_law_534 : decode cL_law 534 = .ok (.ireturn, 1) := by decide +kernel
theorem dL_law_535 : decode cL_law 535 = .ok (.iload 6, 2) := by decide +kernel
theorem dL_law_537 : decode cL_law 537 = .ok (.ifCond .ne 22, 3) := by decide +kernel
theorem dL_law_540 : decode cL_law 540 = .ok (.aload_n 3, 1) := by decide +kernel
theorem dL_law_541 : decode cL_law 541 = .ok (.iconst 0, 1) := by decide +kernel
theorem dL_law_542 : decode cL_law 542 = .ok (.laload, 1) := by decide +kernel
theorem dL_law_543 : decode cL_law 543 = .ok (.iload 7, 2) := by decide +kernel
theorem dL_law_545 : decode cL_law 545 = .ok (.ifCond .eq 7, 3) := by decide +kernel
theorem dL_law_548 : decode cL_law 548 = .ok (.lconst 1, 1) := by decide +kernel
theorem dL_law_549 : decode cL_law 549 = .ok (.goto 4, 3) := by decide +kernel
theorem dL_law_552 : decode cL_law 552 = .ok (.lconst 0, 1) := by decide +kernel
theorem dL_law_553 : decode cL_law 553 = .ok (.lcmp, 1) := by decide +kernel
theorem dL_law_554 : decode cL_law 554 = .ok (.ifCond .eq 5, 3) := by decide +kernel
theorem dL_law_557 : decode cL_law 557 = .ok (.iconst 0, 1) := by decide +kernel
theorem dL_law_558 : decode cL_law 558 = .ok (.ireturn, 1) := by decide +kernel
theorem dL_law_559 : decode cL_law 559 = .ok (.goto 3031, 3) := by decide +kernel
theorem dL_law_562 : decode cL_law 562 = .ok (.aload_n 1, 1) := by decide +kernel
theorem dL_law_563 : decode cL_law 563 = .ok (.aload_n 0, 1) := by decide +kernel
theorem dL_law_564 : decode cL_law 564 = .ok (.iload 5, 2) := by decide +kernel
theorem dL_law_566 : decode cL_law 566 = .ok (.iconst 1, 1) := by decide +kernel
theorem dL_law_567 : decode cL_law 567 = .ok (.iadd, 1) := by decide +kernel
theorem dL_law_568 : decode cL_law 568 = .ok (.iaload, 1) := by decide +kernel
theorem dL_law_569 : decode cL_law 569 = .ok (.aload_n 3, 1) := by decide +kernel
theorem dL_law_570 : decode cL_law 570 = .ok (.invokestatic 220, 3) := by decide +kernel
theorem dL_law_573 : decode cL_law 573 = .ok (.istore 6, 2) := by decide +kernel
theorem dL_law_575 : decode cL_law 575 = .ok (.aload_n 2, 1) := by decide +kernel
theorem dL_law_576 : decode cL_law 576 = .ok (.aload_n 0, 1) := by decide +kernel
theorem dL_law_577 : decode cL_law 577 = .ok (.iload 5, 2) := by decide +kernel
theorem dL_law_579 : decode cL_law 579 = .ok (.iconst 1, 1) := by decide +kernel
theorem dL_law_580 : decode cL_law 580 = .ok (.iadd, 1) := by decide +kernel
theorem dL_law_581 : decode cL_law 581 = .ok (.iaload, 1) := by decide +kernel
theorem dL_law_582 : decode cL_law 582 = .ok (.invokevirtual 222, 3) := by decide +kernel
theorem dL_law_585 : decode cL_law 585 = .ok (.istore 7, 2) := by decide +kernel
theorem dL_law_587 : decode cL_law 587 = .ok (.aload_n 2, 1) := by decide +kernel
theorem dL_law_588 : decode cL_law 588 = .ok (.invokevirtual 203, 3) := by decide +kernel
theorem dL_law_591 : decode cL_law 591 = .ok (.iload 6, 2) := by decide +kernel
theorem dL_law_593 : decode cL_law 593 = .ok (.if_icmp .eq 5, 3) := by decide +kernel
theorem dL_law_596 : decode cL_law 596 = .ok (.iconst 0, 1) := by decide +kernel
theorem dL_law_597 : decode cL_law 597 = .ok (.ireturn, 1) := by decide +kernel
theorem dL_law_598 : decode cL_law 598 = .ok (.iload 6, 2) := by decide +kernel
theorem dL_law_600 : decode cL_law 600 = .ok (.ifCond .ne 22, 3) := by decide +kernel
theorem dL_law_603 : decode cL_law 603 = .ok (.aload_n 3, 1) := by decide +kernel
theorem dL_law_604 : decode cL_law 604 = .ok (.iconst 0, 1) := by decide +kernel
theorem dL_law_605 : decode cL_law 605 = .ok (.laload, 1) := by decide +kernel
theorem dL_law_606 : decode cL_law 606 = .ok (.iload 7, 2) := by decide +kernel
theorem dL_law_608 : decode cL_law 608 = .ok (.ifCond .eq 7, 3) := by decide +kernel
theorem dL_law_611 : decode cL_law 611 = .ok (.lconst 1, 1) := by decide +kernel
theorem dL_law_612 : decode cL_law 612 = .ok (.goto 4, 3) := by decide +kernel
theorem dL_law_615 : decode cL_law 615 = .ok (.lconst 0, 1) := by decide +kernel
theorem dL_law_616 : decode cL_law 616 = .ok (.lcmp, 1) := by decide +kernel
theorem dL_law_617 : decode cL_law 617 = .ok (.ifCond .eq 5, 3) := by decide +kernel
theorem dL_law_620 : decode cL_law 620 = .ok (.iconst 0, 1) := by decide +kernel
theorem dL_law_621 : decode cL_law 621 = .ok (.ireturn, 1) := by decide +kernel
theorem dL_law_622 : decode cL_law 622 = .ok (.goto 2968, 3) := by decide +kernel
theorem dL_law_625 : decode cL_law 625 = .ok (.aload_n 1, 1) := by decide +kernel
theorem dL_law_626 : decode cL_law 626 = .ok (.aload_n 0, 1) := by decide +kernel
theorem dL_law_627 : decode cL_law 627 = .ok (.iload 5, 2) := by decide +kernel
theorem dL_law_629 : decode cL_law 629 = .ok (.iconst 1, 1) := by decide +kernel
theorem dL_law_630 : decode cL_law 630 = .ok (.iadd, 1) := by decide +kernel
theorem dL_law_631 : decode cL_law 631 = .ok (.iaload, 1) := by decide +kernel
theorem dL_law_632 : decode cL_law 632 = .ok (.aload_n 3, 1) := by decide +kernel
theorem dL_law_633 : decode cL_law 633 = .ok (.invokestatic 223, 3) := by decide +kernel
theorem dL_law_636 : decode cL_law 636 = .ok (.istore 6, 2) := by decide +kernel
theorem dL_law_638 : decode cL_law 638 = .ok (.aload_n 2, 1) := by decide +kernel
theorem dL_law_639 : decode cL_law 639 = .ok (.aload_n 0, 1) := by decide +kernel
theorem dL_law_640 : decode cL_law 640 = .ok (.iload 5, 2) := by decide +kernel
theorem dL_law_642 : decode cL_law 642 = .ok (.iconst 1, 1) := by decide +kernel
theorem dL_law_643 : decode cL_law 643 = .ok (.iadd, 1) := by decide +kernel
theorem dL_law_644 : decode cL_law 644 = .ok (.iaload, 1) := by decide +kernel
theorem dL_law_645 : decode cL_law 645 = .ok (.invokevirtual 225, 3) := by decide +kernel
theorem dL_law_648 : decode cL_law 648 = .ok (.istore 7, 2) := by decide +kernel
theorem dL_law_650 : decode cL_law 650 = .ok (.aload_n 2, 1) := by decide +kernel
theorem dL_law_651 : decode cL_law 651 = .ok (.invokevirtual 203, 3) := by decide +kernel
theorem dL_law_654 : decode cL_law 654 = .ok (.iload 6, 2) := by decide +kernel
theorem dL_law_656 : decode cL_law 656 = .ok (.if_icmp .eq 5, 3) := by decide +kernel
theorem dL_law_659 : decode cL_law 659 = .ok (.iconst 0, 1) := by decide +kernel
theorem dL_law_660 : decode cL_law 660 = .ok (.ireturn, 1) := by decide +kernel
theorem dL_law_661 : decode cL_law 661 = .ok (.iload 6, 2) := by decide +kernel
theorem dL_law_663 : decode cL_law 663 = .ok (.ifCond .ne 22, 3) := by decide +kernel
theorem dL_law_666 : decode cL_law 666 = .ok (.aload_n 3, 1) := by decide +kernel
theorem dL_law_667 : decode cL_law 667 = .ok (.iconst 0, 1) := by decide +kernel
theorem dL_law_668 : decode cL_law 668 = .ok (.laload, 1) := by decide +kernel
theorem dL_law_669 : decode cL_law 669 = .ok (.iload 7, 2) := by decide +kernel
theorem dL_law_671 : decode cL_law 671 = .ok (.ifCond .eq 7, 3) := by decide +kernel
theorem dL_law_674 : decode cL_law 674 = .ok (.lconst 1, 1) := by decide +kernel
theorem dL_law_675 : decode cL_law 675 = .ok (.goto 4, 3) := by decide +kernel
theorem dL_law_678 : decode cL_law 678 = .ok (.lconst 0, 1) := by decide +kernel
theorem dL_law_679 : decode cL_law 679 = .ok (.lcmp, 1) := by decide +kernel
theorem dL_law_680 : decode cL_law 680 = .ok (.ifCond .eq 5, 3) := by decide +kernel
theorem dL_law_683 : decode cL_law 683 = .ok (.iconst 0, 1) := by decide +kernel
theorem dL_law_684 : decode cL_law 684 = .ok (.ireturn, 1) := by decide +kernel
theorem dL_law_685 : decode cL_law 685 = .ok (.goto 2905, 3) := by decide +kernel
theorem dL_law_688 : decode cL_law 688 = .ok (.aload_n 1, 1) := by decide +kernel
theorem dL_law_689 : decode cL_law 689 = .ok (.aload_n 0, 1) := by decide +kernel
theorem dL_law_690 : decode cL_law 690 = .ok (.iload 5, 2) := by decide +kernel
theorem dL_law_692 : decode cL_law 692 = .ok (.iconst 1, 1) := by decide +kernel
theorem dL_law_693 : decode cL_law 693 = .ok (.iadd, 1) := by decide +kernel
theorem dL_law_694 : decode cL_law 694 = .ok (.iaload, 1) := by decide +kernel
theorem dL_law_695 : decode cL_law 695 = .ok (.aload_n 3, 1) := by decide +kernel
theorem dL_law_696 : decode cL_law 696 = .ok (.invokestatic 226, 3) := by decide +kernel
theorem dL_law_699 : decode cL_law 699 = .ok (.istore 6, 2) := by decide +kernel
theorem dL_law_701 : decode cL_law 701 = .ok (.aload_n 2, 1) := by decide +kernel
theorem dL_law_702 : decode cL_law 702 = .ok (.aload_n 0, 1) := by decide +kernel
theorem dL_law_703 : decode cL_law 703 = .ok (.iload 5, 2) := by decide +kernel
theorem dL_law_705 : decode cL_law 705 = .ok (.iconst 1, 1) := by decide +kernel
theorem dL_law_706 : decode cL_law 706 = .ok (.iadd, 1) := by decide +kernel
theorem dL_law_707 : decode cL_law 707 = .ok (.iaload, 1) := by decide +kernel
theorem dL_law_708 : decode cL_law 708 = .ok (.invokevirtual 228, 3) := by decide +kernel
theorem dL_law_711 : decode cL_law 711 = .ok (.istore 7, 2) := by decide +kernel
theorem dL_law_713 : decode cL_law 713 = .ok (.aload_n 2, 1) := by decide +kernel
theorem dL_law_714 : decode cL_law 714 = .ok (.invokevirtual 203, 3) := by decide +kernel
theorem dL_law_717 : decode cL_law 717 = .ok (.iload 6, 2) := by decide +kernel
theorem dL_law_719 : decode cL_law 719 = .ok (.if_icmp .eq 5, 3) := by decide +kernel
theorem dL_law_722 : decode cL_law 722 = .ok (.iconst 0, 1) := by decide +kernel
theorem dL_law_723 : decode cL_law 723 = .ok (.ireturn, 1) := by decide +kernel
theorem dL_law_724 : decode cL_law 724 = .ok (.iload 6, 2) := by decide +kernel
theorem dL_law_726 : decode cL_law 726 = .ok (.ifCond .ne 22, 3) := by decide +kernel
theorem dL_law_729 : decode cL_law 729 = .ok (.aload_n 3, 1) := by decide +kernel
theorem dL_law_730 : decode cL_law 730 = .ok (.iconst 0, 1) := by decide +kernel
theorem dL_law_731 : decode cL_law 731 = .ok (.laload, 1) := by decide +kernel
theorem dL_law_732 : decode cL_law 732 = .ok (.iload 7, 2) := by decide +kernel
theorem dL_law_734 : decode cL_law 734 = .ok (.ifCond .eq 7, 3) := by decide +kernel
theorem dL_law_737 : decode cL_law 737 = .ok (.lconst 1, 1) := by decide +kernel
theorem dL_law_738 : decode cL_law 738 = .ok (.goto 4, 3) := by decide +kernel
theorem dL_law_741 : decode cL_law 741 = .ok (.lconst 0, 1) := by decide +kernel
theorem dL_law_742 : decode cL_law 742 = .ok (.lcmp, 1) := by decide +kernel
theorem dL_law_743 : decode cL_law 743 = .ok (.ifCond .eq 5, 3) := by decide +kernel
theorem dL_law_746 : decode cL_law 746 = .ok (.iconst 0, 1) := by decide +kernel
theorem dL_law_747 : decode cL_law 747 = .ok (.ireturn, 1) := by decide +kernel
theorem dL_law_748 : decode cL_law 748 = .ok (.goto 2842, 3) := by decide +kernel
theorem dL_law_751 : decode cL_law 751 = .ok (.aload_n 1, 1) := by decide +kernel
theorem dL_law_752 : decode cL_law 752 = .ok (.aload_n 0, 1) := by decide +kernel
theorem dL_law_753 : decode cL_law 753 = .ok (.iload 5, 2) := by decide +kernel
theorem dL_law_755 : decode cL_law 755 = .ok (.iconst 1, 1) := by decide +kernel
theorem dL_law_756 : decode cL_law 756 = .ok (.iadd, 1) := by decide +kernel
theorem dL_law_757 : decode cL_law 757 = .ok (.iaload, 1) := by decide +kernel
theorem dL_law_758 : decode cL_law 758 = .ok (.aload_n 3, 1) := by decide +kernel
theorem dL_law_759 : decode cL_law 759 = .ok (.invokestatic 229, 3) := by decide +kernel
theorem dL_law_762 : decode cL_law 762 = .ok (.istore 6, 2) := by decide +kernel
theorem dL_law_764 : decode cL_law 764 = .ok (.aload_n 2, 1) := by decide +kernel
theorem dL_law_765 : decode cL_law 765 = .ok (.aload_n 0, 1) := by decide +kernel
theorem dL_law_766 : decode cL_law 766 = .ok (.iload 5, 2) := by decide +kernel
theorem dL_law_768 : decode cL_law 768 = .ok (.iconst 1, 1) := by decide +kernel
theorem dL_law_769 : decode cL_law 769 = .ok (.iadd, 1) := by decide +kernel
theorem dL_law_770 : decode cL_law 770 = .ok (.iaload, 1) := by decide +kernel
theorem dL_law_771 : decode cL_law 771 = .ok (.invokevirtual 231, 3) := by decide +kernel
theorem dL_law_774 : decode cL_law 774 = .ok (.istore 7, 2) := by decide +kernel
theorem dL_law_776 : decode cL_law 776 = .ok (.aload_n 2, 1) := by decide +kernel
theorem dL_law_777 : decode cL_law 777 = .ok (.invokevirtual 203, 3) := by decide +kernel
theorem dL_law_780 : decode cL_law 780 = .ok (.iload 6, 2) := by decide +kernel
theorem dL_law_782 : decode cL_law 782 = .ok (.if_icmp .eq 5, 3) := by decide +kernel
theorem dL_law_785 : decode cL_law 785 = .ok (.iconst 0, 1) := by decide +kernel
theorem dL_law_786 : decode cL_law 786 = .ok (.ireturn, 1) := by decide +kernel
theorem dL_law_787 : decode cL_law 787 = .ok (.iload 6, 2) := by decide +kernel
theorem dL_law_789 : decode cL_law 789 = .ok (.ifCond .ne 15, 3) := by decide +kernel
theorem dL_law_792 : decode cL_law 792 = .ok (.aload_n 3, 1) := by decide +kernel
theorem dL_law_793 : decode cL_law 793 = .ok (.iconst 0, 1) := by decide +kernel
theorem dL_law_794 : decode cL_law 794 = .ok (.laload, 1) := by decide +kernel
theorem dL_law_795 : decode cL_law 795 = .ok (.iload 7, 2) := by decide +kernel
theorem dL_law_797 : decode cL_law 797 = .ok (.i2l, 1) := by decide +kernel
theorem dL_law_798 : decode cL_law 798 = .ok (.lcmp, 1) := by decide +kernel
theorem dL_law_799 : decode cL_law 799 = .ok (.ifCond .eq 5, 3) := by decide +kernel
theorem dL_law_802 : decode cL_law 802 = .ok (.iconst 0, 1) := by decide +kernel
theorem dL_law_803 : decode cL_law 803 = .ok (.ireturn, 1) := by decide +kernel
theorem dL_law_804 : decode cL_law 804 = .ok (.goto 2786, 3) := by decide +kernel
theorem dL_law_807 : decode cL_law 807 = .ok (.aload_n 1, 1) := by decide +kernel
theorem dL_law_808 : decode cL_law 808 = .ok (.aload_n 0, 1) := by decide +kernel
theorem dL_law_809 : decode cL_law 809 = .ok (.iload 5, 2) := by decide +kernel
theorem dL_law_811 : decode cL_law 811 = .ok (.iconst 1, 1) := by decide +kernel
theorem dL_law_812 : decode cL_law 812 = .ok (.iadd, 1) := by decide +kernel
theorem dL_law_813 : decode cL_law 813 = .ok (.iaload, 1) := by decide +kernel
theorem dL_law_814 : decode cL_law 814 = .ok (.aload_n 3, 1) := by decide +kernel
theorem dL_law_815 : decode cL_law 815 = .ok (.invokestatic 232, 3) := by decide +kernel
theorem dL_law_818 : decode cL_law 818 = .ok (.istore 6, 2) := by decide +kernel
theorem dL_law_820 : decode cL_law 820 = .ok (.aload_n 2, 1) := by decide +kernel
theorem dL_law_821 : decode cL_law 821 = .ok (.aload_n 0, 1) := by decide +kernel
theorem dL_law_822 : decode cL_law 822 = .ok (.iload 5, 2) := by decide +kernel
theorem dL_law_824 : decode cL_law 824 = .ok (.iconst 1, 1) := by decide +kernel
theorem dL_law_825 : decode cL_law 825 = .ok (.iadd, 1) := by decide +kernel
theorem dL_law_826 : decode cL_law 826 = .ok (.iaload, 1) := by decide +kernel
theorem dL_law_827 : decode cL_law 827 = .ok (.invokevirtual 234, 3) := by decide +kernel
theorem dL_law_830 : decode cL_law 830 = .ok (.istore 7, 2) := by decide +kernel
theorem dL_law_832 : decode cL_law 832 = .ok (.aload_n 2, 1) := by decide +kernel
theorem dL_law_833 : decode cL_law 833 = .ok (.invokevirtual 203, 3) := by decide +kernel
theorem dL_law_836 : decode cL_law 836 = .ok (.iload 6, 2) := by decide +kernel
theorem dL_law_838 : decode cL_law 838 = .ok (.if_icmp .eq 5, 3) := by decide +kernel
theorem dL_law_841 : decode cL_law 841 = .ok (.iconst 0, 1) := by decide +kernel
theorem dL_law_842 : decode cL_law 842 = .ok (.ireturn, 1) := by decide +kernel
theorem dL_law_843 : decode cL_law 843 = .ok (.iload 6, 2) := by decide +kernel
theorem dL_law_845 : decode cL_law 845 = .ok (.ifCond .ne 15, 3) := by decide +kernel
theorem dL_law_848 : decode cL_law 848 = .ok (.aload_n 3, 1) := by decide +kernel
theorem dL_law_849 : decode cL_law 849 = .ok (.iconst 0, 1) := by decide +kernel
theorem dL_law_850 : decode cL_law 850 = .ok (.laload, 1) := by decide +kernel
theorem dL_law_851 : decode cL_law 851 = .ok (.iload 7, 2) := by decide +kernel
theorem dL_law_853 : decode cL_law 853 = .ok (.i2l, 1) := by decide +kernel
theorem dL_law_854 : decode cL_law 854 = .ok (.lcmp, 1) := by decide +kernel
theorem dL_law_855 : decode cL_law 855 = .ok (.ifCond .eq 5, 3) := by decide +kernel
theorem dL_law_858 : decode cL_law 858 = .ok (.iconst 0, 1) := by decide +kernel
theorem dL_law_859 : decode cL_law 859 = .ok (.ireturn, 1) := by decide +kernel
theorem dL_law_860 : decode cL_law 860 = .ok (.goto 2730, 3) := by decide +kernel
theorem dL_law_863 : decode cL_law 863 = .ok (.aload_n 1, 1) := by decide +kernel
theorem dL_law_864 : decode cL_law 864 = .ok (.aload_n 0, 1) := by decide +kernel
theorem dL_law_865 : decode cL_law 865 = .ok (.iload 5, 2) := by decide +kernel
theorem dL_law_867 : decode cL_law 867 = .ok (.iconst 1, 1) := by decide +kernel
theorem dL_law_868 : decode cL_law 868 = .ok (.iadd, 1) := by decide +kernel
theorem dL_law_869 : decode cL_law 869 = .ok (.iaload, 1) := by decide +kernel
theorem dL_law_870 : decode cL_law 870 = .ok (.aload_n 3, 1) := by decide +kernel
theorem dL_law_871 : decode cL_law 871 = .ok (.invokestatic 235, 3) := by decide +kernel
theorem dL_law_874 : decode cL_law 874 = .ok (.istore 6, 2) := by decide +kernel
theorem dL_law_876 : decode cL_law 876 = .ok (.aload_n 2, 1) := by decide +kernel
theorem dL_law_877 : decode cL_law 877 = .ok (.aload_n 0, 1) := by decide +kernel
theorem dL_law_878 : decode cL_law 878 = .ok (.iload 5, 2) := by decide +kernel
theorem dL_law_880 : decode cL_law 880 = .ok (.iconst 1, 1) := by decide +kernel
theorem dL_law_881 : decode cL_law 881 = .ok (.iadd, 1) := by decide +kernel
theorem dL_law_882 : decode cL_law 882 = .ok (.iaload, 1) := by decide +kernel
theorem dL_law_883 : decode cL_law 883 = .ok (.invokevirtual 237, 3) := by decide +kernel
theorem dL_law_886 : decode cL_law 886 = .ok (.istore 7, 2) := by decide +kernel
theorem dL_law_888 : decode cL_law 888 = .ok (.aload_n 2, 1) := by decide +kernel
theorem dL_law_889 : decode cL_law 889 = .ok (.invokevirtual 203, 3) := by decide +kernel
theorem dL_law_892 : decode cL_law 892 = .ok (.iload 6, 2) := by decide +kernel
theorem dL_law_894 : decode cL_law 894 = .ok (.if_icmp .eq 5, 3) := by decide +kernel
theorem dL_law_897 : decode cL_law 897 = .ok (.iconst 0, 1) := by decide +kernel
theorem dL_law_898 : decode cL_law 898 = .ok (.ireturn, 1) := by decide +kernel
theorem dL_law_899 : decode cL_law 899 = .ok (.iload 6, 2) := by decide +kernel
theorem dL_law_901 : decode cL_law 901 = .ok (.ifCond .ne 15, 3) := by decide +kernel
theorem dL_law_904 : decode cL_law 904 = .ok (.aload_n 3, 1) := by decide +kernel
theorem dL_law_905 : decode cL_law 905 = .ok (.iconst 0, 1) := by decide +kernel
theorem dL_law_906 : decode cL_law 906 = .ok (.laload, 1) := by decide +kernel
theorem dL_law_907 : decode cL_law 907 = .ok (.iload 7, 2) := by decide +kernel
theorem dL_law_909 : decode cL_law 909 = .ok (.i2l, 1) := by decide +kernel
theorem dL_law_910 : decode cL_law 910 = .ok (.lcmp, 1) := by decide +kernel
theorem dL_law_911 : decode cL_law 911 = .ok (.ifCond .eq 5, 3) := by decide +kernel
theorem dL_law_914 : decode cL_law 914 = .ok (.iconst 0, 1) := by decide +kernel
theorem dL_law_915 : decode cL_law 915 = .ok (.ireturn, 1) := by decide +kernel
theorem dL_law_916 : decode cL_law 916 = .ok (.goto 2674, 3) := by decide +kernel
theorem dL_law_919 : decode cL_law 919 = .ok (.aload_n 1, 1) := by decide +kernel
theorem dL_law_920 : decode cL_law 920 = .ok (.aload_n 0, 1) := by decide +kernel
theorem dL_law_921 : decode cL_law 921 = .ok (.iload 5, 2) := by decide +kernel
theorem dL_law_923 : decode cL_law 923 = .ok (.iconst 1, 1) := by decide +kernel
theorem dL_law_924 : decode cL_law 924 = .ok (.iadd, 1) := by decide +kernel
theorem dL_law_925 : decode cL_law 925 = .ok (.iaload, 1) := by decide +kernel
theorem dL_law_926 : decode cL_law 926 = .ok (.aload_n 3, 1) := by decide +kernel
theorem dL_law_927 : decode cL_law 927 = .ok (.invokestatic 238, 3) := by decide +kernel
theorem dL_law_930 : decode cL_law 930 = .ok (.istore 6, 2) := by decide +kernel
theorem dL_law_932 : decode cL_law 932 = .ok (.aload_n 2, 1) := by decide +kernel
theorem dL_law_933 : decode cL_law 933 = .ok (.aload_n 0, 1) := by decide +kernel
theorem dL_law_934 : decode cL_law 934 = .ok (.iload 5, 2) := by decide +kernel
theorem dL_law_936 : decode cL_law 936 = .ok (.iconst 1, 1) := by decide +kernel
theorem dL_law_937 : decode cL_law 937 = .ok (.iadd, 1) := by decide +kernel
theorem dL_law_938 : decode cL_law 938 = .ok (.iaload, 1) := by decide +kernel
theorem dL_law_939 : decode cL_law 939 = .ok (.invokevirtual 240, 3) := by decide +kernel
theorem dL_law_942 : decode cL_law 942 = .ok (.istore 7, 2) := by decide +kernel
theorem dL_law_944 : decode cL_law 944 = .ok (.aload_n 2, 1) := by decide +kernel
theorem dL_law_945 : decode cL_law 945 = .ok (.invokevirtual 203, 3) := by decide +kernel
theorem dL_law_948 : decode cL_law 948 = .ok (.iload 6, 2) := by decide +kernel
theorem dL_law_950 : decode cL_law 950 = .ok (.if_icmp .eq 5, 3) := by decide +kernel
theorem dL_law_953 : decode cL_law 953 = .ok (.iconst 0, 1) := by decide +kernel
theorem dL_law_954 : decode cL_law 954 = .ok (.ireturn, 1) := by decide +kernel
theorem dL_law_955 : decode cL_law 955 = .ok (.iload 6, 2) := by decide +kernel
theorem dL_law_957 : decode cL_law 957 = .ok (.ifCond .ne 15, 3) := by decide +kernel
theorem dL_law_960 : decode cL_law 960 = .ok (.aload_n 3, 1) := by decide +kernel
theorem dL_law_961 : decode cL_law 961 = .ok (.iconst 0, 1) := by decide +kernel
theorem dL_law_962 : decode cL_law 962 = .ok (.laload, 1) := by decide +kernel
theorem dL_law_963 : decode cL_law 963 = .ok (.iload 7, 2) := by decide +kernel
theorem dL_law_965 : decode cL_law 965 = .ok (.i2l, 1) := by decide +kernel
theorem dL_law_966 : decode cL_law 966 = .ok (.lcmp, 1) := by decide +kernel
theorem dL_law_967 : decode cL_law 967 = .ok (.ifCond .eq 5, 3) := by decide +kernel
theorem dL_law_970 : decode cL_law 970 = .ok (.iconst 0, 1) := by decide +kernel
theorem dL_law_971 : decode cL_law 971 = .ok (.ireturn, 1) := by decide +kernel
theorem dL_law_972 : decode cL_law 972 = .ok (.goto 2618, 3) := by decide +kernel
theorem dL_law_975 : decode cL_law 975 = .ok (.aload_n 1, 1) := by decide +kernel
theorem dL_law_976 : decode cL_law 976 = .ok (.aload_n 0, 1) := by decide +kernel
theorem dL_law_977 : decode cL_law 977 = .ok (.iload 5, 2) := by decide +kernel
theorem dL_law_979 : decode cL_law 979 = .ok (.iconst 1, 1) := by decide +kernel
theorem dL_law_980 : decode cL_law 980 = .ok (.iadd, 1) := by decide +kernel
theorem dL_law_981 : decode cL_law 981 = .ok (.iaload, 1) := by decide +kernel
theorem dL_law_982 : decode cL_law 982 = .ok (.aload_n 0, 1) := by decide +kernel
theorem dL_law_983 : decode cL_law 983 = .ok (.iload 5, 2) := by decide +kernel
theorem dL_law_985 : decode cL_law 985 = .ok (.iconst 2, 1) := by decide +kernel
theorem dL_law_986 : decode cL_law 986 = .ok (.iadd, 1) := by decide +kernel
theorem dL_law_987 : decode cL_law 987 = .ok (.iaload, 1) := by decide +kernel
theorem dL_law_988 : decode cL_law 988 = .ok (.aload_n 3, 1) := by decide +kernel
theorem dL_law_989 : decode cL_law 989 = .ok (.invokestatic 241, 3) := by decide +kernel
theorem dL_law_992 : decode cL_law 992 = .ok (.istore 6, 2) := by decide +kernel
theorem dL_law_994 : decode cL_law 994 = .ok (.aload_n 2, 1) := by decide +kernel
theorem dL_law_995 : decode cL_law 995 = .ok (.aload_n 0, 1) := by decide +kernel
theorem dL_law_996 : decode cL_law 996 = .ok (.iload 5, 2) := by decide +kernel
theorem dL_law_998 : decode cL_law 998 = .ok (.iconst 1, 1) := by decide +kernel
theorem dL_law_999 : decode cL_law 999 = .ok (.iadd, 1) := by decide +kernel
theorem dL_law_1000 : decode cL_law 1000 = .ok (.iaload, 1) := by decide +kernel
theorem dL_law_1001 : decode cL_law 1001 = .ok (.aload_n 0, 1) := by decide +kernel
theorem dL_law_1002 : decode cL_law 1002 = .ok (.iload 5, 2) := by decide +kernel
theorem dL_law_1004 : decode cL_law 1004 = .ok (.iconst 2, 1) := by decide +kernel
theorem dL_law_1005 : decode cL_law 1005 = .ok (.iadd, 1) := by decide +kernel
theorem dL_law_1006 : decode cL_law 1006 = .ok (.iaload, 1) := by decide +kernel
theorem dL_law_1007 : decode cL_law 1007 = .ok (.invokevirtual 244, 3) := by decide +kernel
theorem dL_law_1010 : decode cL_law 1010 = .ok (.istore 7, 2) := by decide +kernel
theorem dL_law_1012 : decode cL_law 1012 = .ok (.aload_n 2, 1) := by decide +kernel
theorem dL_law_1013 : decode cL_law 1013 = .ok (.invokevirtual 203, 3) := by decide +kernel
theorem dL_law_1016 : decode cL_law 1016 = .ok (.iload 6, 2) := by decide +kernel
theorem dL_law_1018 : decode cL_law 1018 = .ok (.if_icmp .eq 5, 3) := by decide +kernel
theorem dL_law_1021 : decode cL_law 1021 = .ok (.iconst 0, 1) := by decide +kernel
theorem dL_law_1022 : decode cL_law 1022 = .ok (.ireturn, 1) := by decide +kernel
theorem dL_law_1023 : decode cL_law 1023 = .ok (.iload 6, 2) := by decide +kernel
theorem dL_law_1025 : decode cL_law 1025 = .ok (.ifCond .ne 22, 3) := by decide +kernel
theorem dL_law_1028 : decode cL_law 1028 = .ok (.aload_n 3, 1) := by decide +kernel
theorem dL_law_1029 : decode cL_law 1029 = .ok (.iconst 0, 1) := by decide +kernel
theorem dL_law_1030 : decode cL_law 1030 = .ok (.laload, 1) := by decide +kernel
theorem dL_law_1031 : decode cL_law 1031 = .ok (.iload 7, 2) := by decide +kernel
theorem dL_law_1033 : decode cL_law 1033 = .ok (.ifCond .eq 7, 3) := by decide +kernel
theorem dL_law_1036 : decode cL_law 1036 = .ok (.lconst 1, 1) := by decide +kernel
theorem dL_law_1037 : decode cL_law 1037 = .ok (.goto 4, 3) := by decide +kernel
theorem dL_law_1040 : decode cL_law 1040 = .ok (.lconst 0, 1) := by decide +kernel
theorem dL_law_1041 : decode cL_law 1041 = .ok (.lcmp, 1) := by decide +kernel
theorem dL_law_1042 : decode cL_law 1042 = .ok (.ifCond .eq 5, 3) := by decide +kernel
theorem dL_law_1045 : decode cL_law 1045 = .ok (.iconst 0, 1) := by decide +kernel
theorem dL_law_1046 : decode cL_law 1046 = .ok (.ireturn, 1) := by decide +kernel
theorem dL_law_1047 : decode cL_law 1047 = .ok (.goto 2543, 3) := by decide +kernel
theorem dL_law_1050 : decode cL_law 1050 = .ok (.aload_n 1, 1) := by decide +kernel
theorem dL_law_1051 : decode cL_law 1051 = .ok (.aload_n 0, 1) := by decide +kernel
theorem dL_law_1052 : decode cL_law 1052 = .ok (.iload 5, 2) := by decide +kernel
theorem dL_law_1054 : decode cL_law 1054 = .ok (.iconst 1, 1) := by decide +kernel
theorem dL_law_1055 : decode cL_law 1055 = .ok (.iadd, 1) := by decide +kernel
theorem dL_law_1056 : decode cL_law 1056 = .ok (.iaload, 1) := by decide +kernel
theorem dL_law_1057 : decode cL_law 1057 = .ok (.aload_n 0, 1) := by decide +kernel
theorem dL_law_1058 : decode cL_law 1058 = .ok (.iload 5, 2) := by decide +kernel
theorem dL_law_1060 : decode cL_law 1060 = .ok (.iconst 2, 1) := by decide +kernel
theorem dL_law_1061 : decode cL_law 1061 = .ok (.iadd, 1) := by decide +kernel
theorem dL_law_1062 : decode cL_law 1062 = .ok (.iaload, 1) := by decide +kernel
theorem dL_law_1063 : decode cL_law 1063 = .ok (.aload_n 3, 1) := by decide +kernel
theorem dL_law_1064 : decode cL_law 1064 = .ok (.invokestatic 245, 3) := by decide +kernel
theorem dL_law_1067 : decode cL_law 1067 = .ok (.istore 6, 2) := by decide +kernel
theorem dL_law_1069 : decode cL_law 1069 = .ok (.aload_n 2, 1) := by decide +kernel
theorem dL_law_1070 : decode cL_law 1070 = .ok (.aload_n 0, 1) := by decide +kernel
theorem dL_law_1071 : decode cL_law 1071 = .ok (.iload 5, 2) := by decide +kernel
theorem dL_law_1073 : decode cL_law 1073 = .ok (.iconst 1, 1) := by decide +kernel
theorem dL_law_1074 : decode cL_law 1074 = .ok (.iadd, 1) := by decide +kernel
theorem dL_law_1075 : decode cL_law 1075 = .ok (.iaload, 1) := by decide +kernel
theorem dL_law_1076 : decode cL_law 1076 = .ok (.aload_n 0, 1) := by decide +kernel
theorem dL_law_1077 : decode cL_law 1077 = .ok (.iload 5, 2) := by decide +kernel
theorem dL_law_1079 : decode cL_law 1079 = .ok (.iconst 2, 1) := by decide +kernel
theorem dL_law_1080 : decode cL_law 1080 = .ok (.iadd, 1) := by decide +kernel
theorem dL_law_1081 : decode cL_law 1081 = .ok (.iaload, 1) := by decide +kernel
theorem dL_law_1082 : decode cL_law 1082 = .ok (.invokevirtual 247, 3) := by decide +kernel
theorem dL_law_1085 : decode cL_law 1085 = .ok (.istore 7, 2) := by decide +kernel
theorem dL_law_1087 : decode cL_law 1087 = .ok (.aload_n 2, 1) := by decide +kernel
theorem dL_law_1088 : decode cL_law 1088 = .ok (.invokevirtual 203, 3) := by decide +kernel
theorem dL_law_1091 : decode cL_law 1091 = .ok (.iload 6, 2) := by decide +kernel
theorem dL_law_1093 : decode cL_law 1093 = .ok (.if_icmp .eq 5, 3) := by decide +kernel
theorem dL_law_1096 : decode cL_law 1096 = .ok (.iconst 0, 1) := by decide +kernel
theorem dL_law_1097 : decode cL_law 1097 = .ok (.ireturn, 1) := by decide +kernel
theorem dL_law_1098 : decode cL_law 1098 = .ok (.iload 6, 2) := by decide +kernel
theorem dL_law_1100 : decode cL_law 1100 = .ok (.ifCond .ne 15, 3) := by decide +kernel
theorem dL_law_1103 : decode cL_law 1103 = .ok (.aload_n 3, 1) := by decide +kernel
theorem dL_law_1104 : decode cL_law 1104 = .ok (.iconst 0, 1) := by decide +kernel
theorem dL_law_1105 : decode cL_law 1105 = .ok (.laload, 1) := by decide +kernel
theorem dL_law_1106 : decode cL_law 1106 = .ok (.iload 7, 2) := by decide +kernel
theorem dL_law_1108 : decode cL_law 1108 = .ok (.i2l, 1) := by decide +kernel
theorem dL_law_1109 : decode cL_law 1109 = .ok (.lcmp, 1) := by decide +kernel
theorem dL_law_1110 : decode cL_law 1110 = .ok (.ifCond .eq 5, 3) := by decide +kernel
theorem dL_law_1113 : decode cL_law 1113 = .ok (.iconst 0, 1) := by decide +kernel
theorem dL_law_1114 : decode cL_law 1114 = .ok (.ireturn, 1) := by decide +kernel
theorem dL_law_1115 : decode cL_law 1115 = .ok (.goto 2475, 3) := by decide +kernel
theorem dL_law_1118 : decode cL_law 1118 = .ok (.aload_n 1, 1) := by decide +kernel
theorem dL_law_1119 : decode cL_law 1119 = .ok (.aload_n 0, 1) := by decide +kernel
theorem dL_law_1120 : decode cL_law 1120 = .ok (.iload 5, 2) := by decide +kernel
theorem dL_law_1122 : decode cL_law 1122 = .ok (.iconst 1, 1) := by decide +kernel
theorem dL_law_1123 : decode cL_law 1123 = .ok (.iadd, 1) := by decide +kernel
theorem dL_law_1124 : decode cL_law 1124 = .ok (.iaload, 1) := by decide +kernel
theorem dL_law_1125 : decode cL_law 1125 = .ok (.aload_n 3, 1) := by decide +kernel
theorem dL_law_1126 : decode cL_law 1126 = .ok (.invokestatic 248, 3) := by decide +kernel
theorem dL_law_1129 : decode cL_law 1129 = .ok (.istore 6, 2) := by decide +kernel
theorem dL_law_1131 : decode cL_law 1131 = .ok (.aload_n 2, 1) := by decide +kernel
theorem dL_law_1132 : decode cL_law 1132 = .ok (.aload_n 0, 1) := by decide +kernel
theorem dL_law_1133 : decode cL_law 1133 = .ok (.iload 5, 2) := by decide +kernel
theorem dL_law_1135 : decode cL_law 1135 = .ok (.iconst 1, 1) := by decide +kernel
theorem dL_law_1136 : decode cL_law 1136 = .ok (.iadd, 1) := by decide +kernel
theorem dL_law_1137 : decode cL_law 1137 = .ok (.iaload, 1) := by decide +kernel
theorem dL_law_1138 : decode cL_law 1138 = .ok (.invokevirtual 250, 3) := by decide +kernel
theorem dL_law_1141 : decode cL_law 1141 = .ok (.istore 7, 2) := by decide +kernel
theorem dL_law_1143 : decode cL_law 1143 = .ok (.aload_n 2, 1) := by decide +kernel
theorem dL_law_1144 : decode cL_law 1144 = .ok (.invokevirtual 203, 3) := by decide +kernel
theorem dL_law_1147 : decode cL_law 1147 = .ok (.iload 6, 2) := by decide +kernel
theorem dL_law_1149 : decode cL_law 1149 = .ok (.if_icmp .eq 5, 3) := by decide +kernel
theorem dL_law_1152 : decode cL_law 1152 = .ok (.iconst 0, 1) := by decide +kernel
theorem dL_law_1153 : decode cL_law 1153 = .ok (.ireturn, 1) := by decide +kernel
theorem dL_law_1154 : decode cL_law 1154 = .ok (.iload 6, 2) := by decide +kernel
theorem dL_law_1156 : decode cL_law 1156 = .ok (.ifCond .ne 15, 3) := by decide +kernel
theorem dL_law_1159 : decode cL_law 1159 = .ok (.aload_n 3, 1) := by decide +kernel
theorem dL_law_1160 : decode cL_law 1160 = .ok (.iconst 0, 1) := by decide +kernel
theorem dL_law_1161 : decode cL_law 1161 = .ok (.laload, 1) := by decide +kernel
theorem dL_law_1162 : decode cL_law 1162 = .ok (.iload 7, 2) := by decide +kernel
theorem dL_law_1164 : decode cL_law 1164 = .ok (.i2l, 1) := by decide +kernel
theorem dL_law_1165 : decode cL_law 1165 = .ok (.lcmp, 1) := by decide +kernel
theorem dL_law_1166 : decode cL_law 1166 = .ok (.ifCond .eq 5, 3) := by decide +kernel
theorem dL_law_1169 : decode cL_law 1169 = .ok (.iconst 0, 1) := by decide +kernel
theorem dL_law_1170 : decode cL_law 1170 = .ok (.ireturn, 1) := by decide +kernel
theorem dL_law_1171 : decode cL_law 1171 = .ok (.goto 2419, 3) := by decide +kernel
theorem dL_law_1174 : decode cL_law 1174 = .ok (.aload_n 1, 1) := by decide +kernel
theorem dL_law_1175 : decode cL_law 1175 = .ok (.aload_n 0, 1) := by decide +kernel
theorem dL_law_1176 : decode cL_law 1176 = .ok (.iload 5, 2) := by decide +kernel
theorem dL_law_1178 : decode cL_law 1178 = .ok (.iconst 1, 1) := by decide +kernel
theorem dL_law_1179 : decode cL_law 1179 = .ok (.iadd, 1) := by decide +kernel
theorem dL_law_1180 : decode cL_law 1180 = .ok (.iaload, 1) := by decide +kernel
theorem dL_law_1181 : decode cL_law 1181 = .ok (.aload_n 3, 1) := by decide +kernel
theorem dL_law_1182 : decode cL_law 1182 = .ok (.invokestatic 251, 3) := by decide +kernel
theorem dL_law_1185 : decode cL_law 1185 = .ok (.istore 6, 2) := by decide +kernel
theorem dL_law_1187 : decode cL_law 1187 = .ok (.aload_n 2, 1) := by decide +kernel
theorem dL_law_1188 : decode cL_law 1188 = .ok (.aload_n 0, 1) := by decide +kernel
theorem dL_law_1189 : decode cL_law 1189 = .ok (.iload 5, 2) := by decide +kernel
theorem dL_law_1191 : decode cL_law 1191 = .ok (.iconst 1, 1) := by decide +kernel
theorem dL_law_1192 : decode cL_law 1192 = .ok (.iadd, 1) := by decide +kernel
theorem dL_law_1193 : decode cL_law 1193 = .ok (.iaload, 1) := by decide +kernel
theorem dL_law_1194 : decode cL_law 1194 = .ok (.invokevirtual 253, 3) := by decide +kernel
theorem dL_law_1197 : decode cL_law 1197 = .ok (.istore 7, 2) := by decide +kernel
theorem dL_law_1199 : decode cL_law 1199 = .ok (.aload_n 2, 1) := by decide +kernel
theorem dL_law_1200 : decode cL_law 1200 = .ok (.invokevirtual 203, 3) := by decide +kernel
theorem dL_law_1203 : decode cL_law 1203 = .ok (.iload 6, 2) := by decide +kernel
theorem dL_law_1205 : decode cL_law 1205 = .ok (.if_icmp .eq 5, 3) := by decide +kernel
theorem dL_law_1208 : decode cL_law 1208 = .ok (.iconst 0, 1) := by decide +kernel
theorem dL_law_1209 : decode cL_law 1209 = .ok (.ireturn, 1) := by decide +kernel
theorem dL_law_1210 : decode cL_law 1210 = .ok (.iload 6, 2) := by decide +kernel
theorem dL_law_1212 : decode cL_law 1212 = .ok (.ifCond .ne 15, 3) := by decide +kernel
theorem dL_law_1215 : decode cL_law 1215 = .ok (.aload_n 3, 1) := by decide +kernel
theorem dL_law_1216 : decode cL_law 1216 = .ok (.iconst 0, 1) := by decide +kernel
theorem dL_law_1217 : decode cL_law 1217 = .ok (.laload, 1) := by decide +kernel
theorem dL_law_1218 : decode cL_law 1218 = .ok (.iload 7, 2) := by decide +kernel
theorem dL_law_1220 : decode cL_law 1220 = .ok (.i2l, 1) := by decide +kernel
theorem dL_law_1221 : decode cL_law 1221 = .ok (.lcmp, 1) := by decide +kernel
theorem dL_law_1222 : decode cL_law 1222 = .ok (.ifCond .eq 5, 3) := by decide +kernel
theorem dL_law_1225 : decode cL_law 1225 = .ok (.iconst 0, 1) := by decide +kernel
theorem dL_law_1226 : decode cL_law 1226 = .ok (.ireturn, 1) := by decide +kernel
theorem dL_law_1227 : decode cL_law 1227 = .ok (.goto 2363, 3) := by decide +kernel
theorem dL_law_1230 : decode cL_law 1230 = .ok (.aload_n 1, 1) := by decide +kernel
theorem dL_law_1231 : decode cL_law 1231 = .ok (.aload_n 0, 1) := by decide +kernel
theorem dL_law_1232 : decode cL_law 1232 = .ok (.iload 5, 2) := by decide +kernel
theorem dL_law_1234 : decode cL_law 1234 = .ok (.iconst 1, 1) := by decide +kernel
theorem dL_law_1235 : decode cL_law 1235 = .ok (.iadd, 1) := by decide +kernel
theorem dL_law_1236 : decode cL_law 1236 = .ok (.iaload, 1) := by decide +kernel
theorem dL_law_1237 : decode cL_law 1237 = .ok (.aload_n 3, 1) := by decide +kernel
theorem dL_law_1238 : decode cL_law 1238 = .ok (.invokestatic 254, 3) := by decide +kernel
theorem dL_law_1241 : decode cL_law 1241 = .ok (.istore 6, 2) := by decide +kernel
theorem dL_law_1243 : decode cL_law 1243 = .ok (.aload_n 2, 1) := by decide +kernel
theorem dL_law_1244 : decode cL_law 1244 = .ok (.aload_n 0, 1) := by decide +kernel
theorem dL_law_1245 : decode cL_law 1245 = .ok (.iload 5, 2) := by decide +kernel
theorem dL_law_1247 : decode cL_law 1247 = .ok (.iconst 1, 1) := by decide +kernel
theorem dL_law_1248 : decode cL_law 1248 = .ok (.iadd, 1) := by decide +kernel
theorem dL_law_1249 : decode cL_law 1249 = .ok (.iaload, 1) := by decide +kernel
theorem dL_law_1250 : decode cL_law 1250 = .ok (.invokevirtual 256, 3) := by decide +kernel
theorem dL_law_1253 : decode cL_law 1253 = .ok (.istore 7, 2) := by decide +kernel
theorem dL_law_1255 : decode cL_law 1255 = .ok (.aload_n 2, 1) := by decide +kernel
theorem dL_law_1256 : decode cL_law 1256 = .ok (.invokevirtual 203, 3) := by decide +kernel
theorem dL_law_1259 : decode cL_law 1259 = .ok (.iload 6, 2) := by decide +kernel
theorem dL_law_1261 : decode cL_law 1261 = .ok (.if_icmp .eq 5, 3) := by decide +kernel
theorem dL_law_1264 : decode cL_law 1264 = .ok (.iconst 0, 1) := by decide +kernel
theorem dL_law_1265 : decode cL_law 1265 = .ok (.ireturn, 1) := by decide +kernel
theorem dL_law_1266 : decode cL_law 1266 = .ok (.iload 6, 2) := by decide +kernel
theorem dL_law_1268 : decode cL_law 1268 = .ok (.ifCond .ne 15, 3) := by decide +kernel
theorem dL_law_1271 : decode cL_law 1271 = .ok (.aload_n 3, 1) := by decide +kernel
theorem dL_law_1272 : decode cL_law 1272 = .ok (.iconst 0, 1) := by decide +kernel
theorem dL_law_1273 : decode cL_law 1273 = .ok (.laload, 1) := by decide +kernel
theorem dL_law_1274 : decode cL_law 1274 = .ok (.iload 7, 2) := by decide +kernel
theorem dL_law_1276 : decode cL_law 1276 = .ok (.i2l, 1) := by decide +kernel
theorem dL_law_1277 : decode cL_law 1277 = .ok (.lcmp, 1) := by decide +kernel
theorem dL_law_1278 : decode cL_law 1278 = .ok (.ifCond .eq 5, 3) := by decide +kernel
theorem dL_law_1281 : decode cL_law 1281 = .ok (.iconst 0, 1) := by decide +kernel
theorem dL_law_1282 : decode cL_law 1282 = .ok (.ireturn, 1) := by decide +kernel
theorem dL_law_1283 : decode cL_law 1283 = .ok (.goto 2307, 3) := by decide +kernel
theorem dL_law_1286 : decode cL_law 1286 = .ok (.aload_n 1, 1) := by decide +kernel
theorem dL_law_1287 : decode cL_law 1287 = .ok (.aload_n 0, 1) := by decide +kernel
theorem dL_law_1288 : decode cL_law 1288 = .ok (.iload 5, 2) := by decide +kernel
theorem dL_law_1290 : decode cL_law 1290 = .ok (.iconst 1, 1) := by decide +kernel
theorem dL_law_1291 : decode cL_law 1291 = .ok (.iadd, 1) := by decide +kernel
theorem dL_law_1292 : decode cL_law 1292 = .ok (.iaload, 1) := by decide +kernel
theorem dL_law_1293 : decode cL_law 1293 = .ok (.aload_n 3, 1) := by decide +kernel
theorem dL_law_1294 : decode cL_law 1294 = .ok (.invokestatic 257, 3) := by decide +kernel
theorem dL_law_1297 : decode cL_law 1297 = .ok (.istore 6, 2) := by decide +kernel
theorem dL_law_1299 : decode cL_law 1299 = .ok (.aload_n 2, 1) := by decide +kernel
theorem dL_law_1300 : decode cL_law 1300 = .ok (.aload_n 0, 1) := by decide +kernel
theorem dL_law_1301 : decode cL_law 1301 = .ok (.iload 5, 2) := by decide +kernel
theorem dL_law_1303 : decode cL_law 1303 = .ok (.iconst 1, 1) := by decide +kernel
theorem dL_law_1304 : decode cL_law 1304 = .ok (.iadd, 1) := by decide +kernel
theorem dL_law_1305 : decode cL_law 1305 = .ok (.iaload, 1) := by decide +kernel
theorem dL_law_1306 : decode cL_law 1306 = .ok (.invokevirtual 259, 3) := by decide +kernel
theorem dL_law_1309 : decode cL_law 1309 = .ok (.istore 7, 2) := by decide +kernel
theorem dL_law_1311 : decode cL_law 1311 = .ok (.aload_n 2, 1) := by decide +kernel
theorem dL_law_1312 : decode cL_law 1312 = .ok (.invokevirtual 203, 3) := by decide +kernel
theorem dL_law_1315 : decode cL_law 1315 = .ok (.iload 6, 2) := by decide +kernel
theorem dL_law_1317 : decode cL_law 1317 = .ok (.if_icmp .eq 5, 3) := by decide +kernel
theorem dL_law_1320 : decode cL_law 1320 = .ok (.iconst 0, 1) := by decide +kernel
theorem dL_law_1321 : decode cL_law 1321 = .ok (.ireturn, 1) := by decide +kernel
theorem dL_law_1322 : decode cL_law 1322 = .ok (.iload 6, 2) := by decide +kernel
theorem dL_law_1324 : decode cL_law 1324 = .ok (.ifCond .ne 15, 3) := by decide +kernel
theorem dL_law_1327 : decode cL_law 1327 = .ok (.aload_n 3, 1) := by decide +kernel
theorem dL_law_1328 : decode cL_law 1328 = .ok (.iconst 0, 1) := by decide +kernel
theorem dL_law_1329 : decode cL_law 1329 = .ok (.laload, 1) := by decide +kernel
theorem dL_law_1330 : decode cL_law 1330 = .ok (.iload 7, 2) := by decide +kernel
theorem dL_law_1332 : decode cL_law 1332 = .ok (.i2l, 1) := by decide +kernel
theorem dL_law_1333 : decode cL_law 1333 = .ok (.lcmp, 1) := by decide +kernel
theorem dL_law_1334 : decode cL_law 1334 = .ok (.ifCond .eq 5, 3) := by decide +kernel
theorem dL_law_1337 : decode cL_law 1337 = .ok (.iconst 0, 1) := by decide +kernel
theorem dL_law_1338 : decode cL_law 1338 = .ok (.ireturn, 1) := by decide +kernel
theorem dL_law_1339 : decode cL_law 1339 = .ok (.goto 2251, 3) := by decide +kernel
theorem dL_law_1342 : decode cL_law 1342 = .ok (.aload_n 1, 1) := by decide +kernel
theorem dL_law_1343 : decode cL_law 1343 = .ok (.aload_n 0, 1) := by decide +kernel
theorem dL_law_1344 : decode cL_law 1344 = .ok (.iload 5, 2) := by decide +kernel
theorem dL_law_1346 : decode cL_law 1346 = .ok (.iconst 1, 1) := by decide +kernel
theorem dL_law_1347 : decode cL_law 1347 = .ok (.iadd, 1) := by decide +kernel
theorem dL_law_1348 : decode cL_law 1348 = .ok (.iaload, 1) := by decide +kernel
theorem dL_law_1349 : decode cL_law 1349 = .ok (.aload_n 0, 1) := by decide +kernel
theorem dL_law_1350 : decode cL_law 1350 = .ok (.iload 5, 2) := by decide +kernel
theorem dL_law_1352 : decode cL_law 1352 = .ok (.iconst 2, 1) := by decide +kernel
theorem dL_law_1353 : decode cL_law 1353 = .ok (.iadd, 1) := by decide +kernel
theorem dL_law_1354 : decode cL_law 1354 = .ok (.iaload, 1) := by decide +kernel
theorem dL_law_1355 : decode cL_law 1355 = .ok (.aload_n 3, 1) := by decide +kernel
theorem dL_law_1356 : decode cL_law 1356 = .ok (.invokestatic 260, 3) := by decide +kernel
theorem dL_law_1359 : decode cL_law 1359 = .ok (.istore 6, 2) := by decide +kernel
theorem dL_law_1361 : decode cL_law 1361 = .ok (.aload_n 2, 1) := by decide +kernel
theorem dL_law_1362 : decode cL_law 1362 = .ok (.aload_n 0, 1) := by decide +kernel
theorem dL_law_1363 : decode cL_law 1363 = .ok (.iload 5, 2) := by decide +kernel
theorem dL_law_1365 : decode cL_law 1365 = .ok (.iconst 1, 1) := by decide +kernel
theorem dL_law_1366 : decode cL_law 1366 = .ok (.iadd, 1) := by decide +kernel
theorem dL_law_1367 : decode cL_law 1367 = .ok (.iaload, 1) := by decide +kernel
theorem dL_law_1368 : decode cL_law 1368 = .ok (.aload_n 0, 1) := by decide +kernel
theorem dL_law_1369 : decode cL_law 1369 = .ok (.iload 5, 2) := by decide +kernel
theorem dL_law_1371 : decode cL_law 1371 = .ok (.iconst 2, 1) := by decide +kernel
theorem dL_law_1372 : decode cL_law 1372 = .ok (.iadd, 1) := by decide +kernel
theorem dL_law_1373 : decode cL_law 1373 = .ok (.iaload, 1) := by decide +kernel
theorem dL_law_1374 : decode cL_law 1374 = .ok (.invokevirtual 262, 3) := by decide +kernel
theorem dL_law_1377 : decode cL_law 1377 = .ok (.istore 7, 2) := by decide +kernel
theorem dL_law_1379 : decode cL_law 1379 = .ok (.aload_n 2, 1) := by decide +kernel
theorem dL_law_1380 : decode cL_law 1380 = .ok (.invokevirtual 203, 3) := by decide +kernel
theorem dL_law_1383 : decode cL_law 1383 = .ok (.iload 6, 2) := by decide +kernel
theorem dL_law_1385 : decode cL_law 1385 = .ok (.if_icmp .eq 5, 3) := by decide +kernel
theorem dL_law_1388 : decode cL_law 1388 = .ok (.iconst 0, 1) := by decide +kernel
theorem dL_law_1389 : decode cL_law 1389 = .ok (.ireturn, 1) := by decide +kernel
theorem dL_law_1390 : decode cL_law 1390 = .ok (.iload 6, 2) := by decide +kernel
theorem dL_law_1392 : decode cL_law 1392 = .ok (.ifCond .ne 15, 3) := by decide +kernel
theorem dL_law_1395 : decode cL_law 1395 = .ok (.aload_n 3, 1) := by decide +kernel
theorem dL_law_1396 : decode cL_law 1396 = .ok (.iconst 0, 1) := by decide +kernel
theorem dL_law_1397 : decode cL_law 1397 = .ok (.laload, 1) := by decide +kernel
theorem dL_law_1398 : decode cL_law 1398 = .ok (.iload 7, 2) := by decide +kernel
theorem dL_law_1400 : decode cL_law 1400 = .ok (.i2l, 1) := by decide +kernel
theorem dL_law_1401 : decode cL_law 1401 = .ok (.lcmp, 1) := by decide +kernel
theorem dL_law_1402 : decode cL_law 1402 = .ok (.ifCond .eq 5, 3) := by decide +kernel
theorem dL_law_1405 : decode cL_law 1405 = .ok (.iconst 0, 1) := by decide +kernel
theorem dL_law_1406 : decode cL_law 1406 = .ok (.ireturn, 1) := by decide +kernel
theorem dL_law_1407 : decode cL_law 1407 = .ok (.goto 2183, 3) := by decide +kernel
theorem dL_law_1410 : decode cL_law 1410 = .ok (.aload_n 1, 1) := by decide +kernel
theorem dL_law_1411 : decode cL_law 1411 = .ok (.aload_n 0, 1) := by decide +kernel
theorem dL_law_1412 : decode cL_law 1412 = .ok (.iload 5, 2) := by decide +kernel
theorem dL_law_1414 : decode cL_law 1414 = .ok (.iconst 1, 1) := by decide +kernel
theorem dL_law_1415 : decode cL_law 1415 = .ok (.iadd, 1) := by decide +kernel
theorem dL_law_1416 : decode cL_law 1416 = .ok (.iaload, 1) := by decide +kernel
theorem dL_law_1417 : decode cL_law 1417 = .ok (.aload_n 3, 1) := by decide +kernel
theorem dL_law_1418 : decode cL_law 1418 = .ok (.invokestatic 263, 3) := by decide +kernel
theorem dL_law_1421 : decode cL_law 1421 = .ok (.istore 6, 2) := by decide +kernel
theorem dL_law_1423 : decode cL_law 1423 = .ok (.aload_n 2, 1) := by decide +kernel
theorem dL_law_1424 : decode cL_law 1424 = .ok (.aload_n 0, 1) := by decide +kernel
theorem dL_law_1425 : decode cL_law 1425 = .ok (.iload 5, 2) := by decide +kernel
theorem dL_law_1427 : decode cL_law 1427 = .ok (.iconst 1, 1) := by decide +kernel
theorem dL_law_1428 : decode cL_law 1428 = .ok (.iadd, 1) := by decide +kernel
theorem dL_law_1429 : decode cL_law 1429 = .ok (.iaload, 1) := by decide +kernel
theorem dL_law_1430 : decode cL_law 1430 = .ok (.invokevirtual 265, 3) := by decide +kernel
theorem dL_law_1433 : decode cL_law 1433 = .ok (.istore 7, 2) := by decide +kernel
theorem dL_law_1435 : decode cL_law 1435 = .ok (.aload_n 2, 1) := by decide +kernel
theorem dL_law_1436 : decode cL_law 1436 = .ok (.invokevirtual 203, 3) := by decide +kernel
theorem dL_law_1439 : decode cL_law 1439 = .ok (.iload 6, 2) := by decide +kernel
theorem dL_law_1441 : decode cL_law 1441 = .ok (.if_icmp .eq 5, 3) := by decide +kernel
theorem dL_law_1444 : decode cL_law 1444 = .ok (.iconst 0, 1) := by decide +kernel
theorem dL_law_1445 : decode cL_law 1445 = .ok (.ireturn, 1) := by decide +kernel
theorem dL_law_1446 : decode cL_law 1446 = .ok (.iload 6, 2) := by decide +kernel
theorem dL_law_1448 : decode cL_law 1448 = .ok (.ifCond .ne 15, 3) := by decide +kernel
theorem dL_law_1451 : decode cL_law 1451 = .ok (.aload_n 3, 1) := by decide +kernel
theorem dL_law_1452 : decode cL_law 1452 = .ok (.iconst 0, 1) := by decide +kernel
theorem dL_law_1453 : decode cL_law 1453 = .ok (.laload, 1) := by decide +kernel
theorem dL_law_1454 : decode cL_law 1454 = .ok (.iload 7, 2) := by decide +kernel
theorem dL_law_1456 : decode cL_law 1456 = .ok (.i2l, 1) := by decide +kernel
theorem dL_law_1457 : decode cL_law 1457 = .ok (.lcmp, 1) := by decide +kernel
theorem dL_law_1458 : decode cL_law 1458 = .ok (.ifCond .eq 5, 3) := by decide +kernel
theorem dL_law_1461 : decode cL_law 1461 = .ok (.iconst 0, 1) := by decide +kernel
theorem dL_law_1462 : decode cL_law 1462 = .ok (.ireturn, 1) := by decide +kernel
theorem dL_law_1463 : decode cL_law 1463 = .ok (.goto 2127, 3) := by decide +kernel
theorem dL_law_1466 : decode cL_law 1466 = .ok (.aload_n 1, 1) := by decide +kernel
theorem dL_law_1467 : decode cL_law 1467 = .ok (.aload_n 0, 1) := by decide +kernel
theorem dL_law_1468 : decode cL_law 1468 = .ok (.iload 5, 2) := by decide +kernel
theorem dL_law_1470 : decode cL_law 1470 = .ok (.iconst 1, 1) := by decide +kernel
theorem dL_law_1471 : decode cL_law 1471 = .ok (.iadd, 1) := by decide +kernel
theorem dL_law_1472 : decode cL_law 1472 = .ok (.iaload, 1) := by decide +kernel
theorem dL_law_1473 : decode cL_law 1473 = .ok (.aload_n 0, 1) := by decide +kernel
theorem dL_law_1474 : decode cL_law 1474 = .ok (.iload 5, 2) := by decide +kernel
theorem dL_law_1476 : decode cL_law 1476 = .ok (.iconst 2, 1) := by decide +kernel
theorem dL_law_1477 : decode cL_law 1477 = .ok (.iadd, 1) := by decide +kernel
theorem dL_law_1478 : decode cL_law 1478 = .ok (.iaload, 1) := by decide +kernel
theorem dL_law_1479 : decode cL_law 1479 = .ok (.aload_n 3, 1) := by decide +kernel
theorem dL_law_1480 : decode cL_law 1480 = .ok (.invokestatic 266, 3) := by decide +kernel
theorem dL_law_1483 : decode cL_law 1483 = .ok (.istore 6, 2) := by decide +kernel
theorem dL_law_1485 : decode cL_law 1485 = .ok (.aload_n 2, 1) := by decide +kernel
theorem dL_law_1486 : decode cL_law 1486 = .ok (.aload_n 0, 1) := by decide +kernel
theorem dL_law_1487 : decode cL_law 1487 = .ok (.iload 5, 2) := by decide +kernel
theorem dL_law_1489 : decode cL_law 1489 = .ok (.iconst 1, 1) := by decide +kernel
theorem dL_law_1490 : decode cL_law 1490 = .ok (.iadd, 1) := by decide +kernel
theorem dL_law_1491 : decode cL_law 1491 = .ok (.iaload, 1) := by decide +kernel
theorem dL_law_1492 : decode cL_law 1492 = .ok (.aload_n 0, 1) := by decide +kernel
theorem dL_law_1493 : decode cL_law 1493 = .ok (.iload 5, 2) := by decide +kernel
theorem dL_law_1495 : decode cL_law 1495 = .ok (.iconst 2, 1) := by decide +kernel
theorem dL_law_1496 : decode cL_law 1496 = .ok (.iadd, 1) := by decide +kernel
theorem dL_law_1497 : decode cL_law 1497 = .ok (.iaload, 1) := by decide +kernel
theorem dL_law_1498 : decode cL_law 1498 = .ok (.invokevirtual 268, 3) := by decide +kernel
theorem dL_law_1501 : decode cL_law 1501 = .ok (.istore 7, 2) := by decide +kernel
theorem dL_law_1503 : decode cL_law 1503 = .ok (.aload_n 2, 1) := by decide +kernel
theorem dL_law_1504 : decode cL_law 1504 = .ok (.invokevirtual 203, 3) := by decide +kernel
theorem dL_law_1507 : decode cL_law 1507 = .ok (.iload 6, 2) := by decide +kernel
theorem dL_law_1509 : decode cL_law 1509 = .ok (.if_icmp .eq 5, 3) := by decide +kernel
theorem dL_law_1512 : decode cL_law 1512 = .ok (.iconst 0, 1) := by decide +kernel
theorem dL_law_1513 : decode cL_law 1513 = .ok (.ireturn, 1) := by decide +kernel
theorem dL_law_1514 : decode cL_law 1514 = .ok (.iload 6, 2) := by decide +kernel
theorem dL_law_1516 : decode cL_law 1516 = .ok (.ifCond .ne 15, 3) := by decide +kernel
theorem dL_law_1519 : decode cL_law 1519 = .ok (.aload_n 3, 1) := by decide +kernel
theorem dL_law_1520 : decode cL_law 1520 = .ok (.iconst 0, 1) := by decide +kernel
theorem dL_law_1521 : decode cL_law 1521 = .ok (.laload, 1) := by decide +kernel
theorem dL_law_1522 : decode cL_law 1522 = .ok (.iload 7, 2) := by decide +kernel
theorem dL_law_1524 : decode cL_law 1524 = .ok (.i2l, 1) := by decide +kernel
theorem dL_law_1525 : decode cL_law 1525 = .ok (.lcmp, 1) := by decide +kernel
theorem dL_law_1526 : decode cL_law 1526 = .ok (.ifCond .eq 5, 3) := by decide +kernel
theorem dL_law_1529 : decode cL_law 1529 = .ok (.iconst 0, 1) := by decide +kernel
theorem dL_law_1530 : decode cL_law 1530 = .ok (.ireturn, 1) := by decide +kernel
theorem dL_law_1531 : decode cL_law 1531 = .ok (.goto 2059, 3) := by decide +kernel
theorem dL_law_1534 : decode cL_law 1534 = .ok (.aload_n 1, 1) := by decide +kernel
theorem dL_law_1535 : decode cL_law 1535 = .ok (.aload_n 0, 1) := by decide +kernel
theorem dL_law_1536 : decode cL_law 1536 = .ok (.iload 5, 2) := by decide +kernel
theorem dL_law_1538 : decode cL_law 1538 = .ok (.iconst 1, 1) := by decide +kernel
theorem dL_law_1539 : decode cL_law 1539 = .ok (.iadd, 1) := by decide +kernel
theorem dL_law_1540 : decode cL_law 1540 = .ok (.iaload, 1) := by decide +kernel
theorem dL_law_1541 : decode cL_law 1541 = .ok (.aload_n 3, 1) := by decide +kernel
theorem dL_law_1542 : decode cL_law 1542 = .ok (.invokestatic 269, 3) := by decide +kernel
theorem dL_law_1545 : decode cL_law 1545 = .ok (.istore 6, 2) := by decide +kernel
theorem dL_law_1547 : decode cL_law 1547 = .ok (.aload_n 2, 1) := by decide +kernel
theorem dL_law_1548 : decode cL_law 1548 = .ok (.aload_n 0, 1) := by decide +kernel
theorem dL_law_1549 : decode cL_law 1549 = .ok (.iload 5, 2) := by decide +kernel
theorem dL_law_1551 : decode cL_law 1551 = .ok (.iconst 1, 1) := by decide +kernel
theorem dL_law_1552 : decode cL_law 1552 = .ok (.iadd, 1) := by decide +kernel
theorem dL_law_1553 : decode cL_law 1553 = .ok (.iaload, 1) := by decide +kernel
theorem dL_law_1554 : decode cL_law 1554 = .ok (.invokevirtual 271, 3) := by decide +kernel
theorem dL_law_1557 : decode cL_law 1557 = .ok (.istore 7, 2) := by decide +kernel
theorem dL_law_1559 : decode cL_law 1559 = .ok (.aload_n 2, 1) := by decide +kernel
theorem dL_law_1560 : decode cL_law 1560 = .ok (.invokevirtual 203, 3) := by decide +kernel
theorem dL_law_1563 : decode cL_law 1563 = .ok (.iload 6, 2) := by decide +kernel
theorem dL_law_1565 : decode cL_law 1565 = .ok (.if_icmp .eq 5, 3) := by decide +kernel
theorem dL_law_1568 : decode cL_law 1568 = .ok (.iconst 0, 1) := by decide +kernel
theorem dL_law_1569 : decode cL_law 1569 = .ok (.ireturn, 1) := by decide +kernel
theorem dL_law_1570 : decode cL_law 1570 = .ok (.iload 6, 2) := by decide +kernel
theorem dL_law_1572 : decode cL_law 1572 = .ok (.ifCond .ne 15, 3) := by decide +kernel
theorem dL_law_1575 : decode cL_law 1575 = .ok (.aload_n 3, 1) := by decide +kernel
theorem dL_law_1576 : decode cL_law 1576 = .ok (.iconst 0, 1) := by decide +kernel
theorem dL_law_1577 : decode cL_law 1577 = .ok (.laload, 1) := by decide +kernel
theorem dL_law_1578 : decode cL_law 1578 = .ok (.iload 7, 2) := by decide +kernel
theorem dL_law_1580 : decode cL_law 1580 = .ok (.i2l, 1) := by decide +kernel
theorem dL_law_1581 : decode cL_law 1581 = .ok (.lcmp, 1) := by decide +kernel
theorem dL_law_1582 : decode cL_law 1582 = .ok (.ifCond .eq 5, 3) := by decide +kernel
theorem dL_law_1585 : decode cL_law 1585 = .ok (.iconst 0, 1) := by decide +kernel
theorem dL_law_1586 : decode cL_law 1586 = .ok (.ireturn, 1) := by decide +kernel
theorem dL_law_1587 : decode cL_law 1587 = .ok (.goto 2003, 3) := by decide +kernel
theorem dL_law_1590 : decode cL_law 1590 = .ok (.aload_n 1, 1) := by decide +kernel
theorem dL_law_1591 : decode cL_law 1591 = .ok (.aload_n 0, 1) := by decide +kernel
theorem dL_law_1592 : decode cL_law 1592 = .ok (.iload 5, 2) := by decide +kernel
theorem dL_law_1594 : decode cL_law 1594 = .ok (.iconst 1, 1) := by decide +kernel
theorem dL_law_1595 : decode cL_law 1595 = .ok (.iadd, 1) := by decide +kernel
theorem dL_law_1596 : decode cL_law 1596 = .ok (.iaload, 1) := by decide +kernel
theorem dL_law_1597 : decode cL_law 1597 = .ok (.aload_n 0, 1) := by decide +kernel
theorem dL_law_1598 : decode cL_law 1598 = .ok (.iload 5, 2) := by decide +kernel
theorem dL_law_1600 : decode cL_law 1600 = .ok (.iconst 2, 1) := by decide +kernel
theorem dL_law_1601 : decode cL_law 1601 = .ok (.iadd, 1) := by decide +kernel
theorem dL_law_1602 : decode cL_law 1602 = .ok (.iaload, 1) := by decide +kernel
theorem dL_law_1603 : decode cL_law 1603 = .ok (.aload_n 3, 1) := by decide +kernel
theorem dL_law_1604 : decode cL_law 1604 = .ok (.invokestatic 272, 3) := by decide +kernel
theorem dL_law_1607 : decode cL_law 1607 = .ok (.istore 6, 2) := by decide +kernel
theorem dL_law_1609 : decode cL_law 1609 = .ok (.aload_n 2, 1) := by decide +kernel
theorem dL_law_1610 : decode cL_law 1610 = .ok (.aload_n 0, 1) := by decide +kernel
theorem dL_law_1611 : decode cL_law 1611 = .ok (.iload 5, 2) := by decide +kernel
theorem dL_law_1613 : decode cL_law 1613 = .ok (.iconst 1, 1) := by decide +kernel
theorem dL_law_1614 : decode cL_law 1614 = .ok (.iadd, 1) := by decide +kernel
theorem dL_law_1615 : decode cL_law 1615 = .ok (.iaload, 1) := by decide +kernel
theorem dL_law_1616 : decode cL_law 1616 = .ok (.aload_n 0, 1) := by decide +kernel
theorem dL_law_1617 : decode cL_law 1617 = .ok (.iload 5, 2) := by decide +kernel
theorem dL_law_1619 : decode cL_law 1619 = .ok (.iconst 2, 1) := by decide +kernel
theorem dL_law_1620 : decode cL_law 1620 = .ok (.iadd, 1) := by decide +kernel
theorem dL_law_1621 : decode cL_law 1621 = .ok (.iaload, 1) := by decide +kernel
theorem dL_law_1622 : decode cL_law 1622 = .ok (.invokevirtual 274, 3) := by decide +kernel
theorem dL_law_1625 : decode cL_law 1625 = .ok (.istore 7, 2) := by decide +kernel
theorem dL_law_1627 : decode cL_law 1627 = .ok (.aload_n 2, 1) := by decide +kernel
theorem dL_law_1628 : decode cL_law 1628 = .ok (.invokevirtual 203, 3) := by decide +kernel
theorem dL_law_1631 : decode cL_law 1631 = .ok (.iload 6, 2) := by decide +kernel
theorem dL_law_1633 : decode cL_law 1633 = .ok (.if_icmp .eq 5, 3) := by decide +kernel
theorem dL_law_1636 : decode cL_law 1636 = .ok (.iconst 0, 1) := by decide +kernel
theorem dL_law_1637 : decode cL_law 1637 = .ok (.ireturn, 1) := by decide +kernel
theorem dL_law_1638 : decode cL_law 1638 = .ok (.iload 6, 2) := by decide +kernel
theorem dL_law_1640 : decode cL_law 1640 = .ok (.ifCond .ne 15, 3) := by decide +kernel
theorem dL_law_1643 : decode cL_law 1643 = .ok (.aload_n 3, 1) := by decide +kernel
theorem dL_law_1644 : decode cL_law 1644 = .ok (.iconst 0, 1) := by decide +kernel
theorem dL_law_1645 : decode cL_law 1645 = .ok (.laload, 1) := by decide +kernel
theorem dL_law_1646 : decode cL_law 1646 = .ok (.iload 7, 2) := by decide +kernel
theorem dL_law_1648 : decode cL_law 1648 = .ok (.i2l, 1) := by decide +kernel
theorem dL_law_1649 : decode cL_law 1649 = .ok (.lcmp, 1) := by decide +kernel
theorem dL_law_1650 : decode cL_law 1650 = .ok (.ifCond .eq 5, 3) := by decide +kernel
theorem dL_law_1653 : decode cL_law 1653 = .ok (.iconst 0, 1) := by decide +kernel
theorem dL_law_1654 : decode cL_law 1654 = .ok (.ireturn, 1) := by decide +kernel
theorem dL_law_1655 : decode cL_law 1655 = .ok (.goto 1935, 3) := by decide +kernel
theorem dL_law_1658 : decode cL_law 1658 = .ok (.aload_n 1, 1) := by decide +kernel
theorem dL_law_1659 : decode cL_law 1659 = .ok (.aload_n 0, 1) := by decide +kernel
theorem dL_law_1660 : decode cL_law 1660 = .ok (.iload 5, 2) := by decide +kernel
theorem dL_law_1662 : decode cL_law 1662 = .ok (.iconst 1, 1) := by decide +kernel
theorem dL_law_1663 : decode cL_law 1663 = .ok (.iadd, 1) := by decide +kernel
theorem dL_law_1664 : decode cL_law 1664 = .ok (.iaload, 1) := by decide +kernel
theorem dL_law_1665 : decode cL_law 1665 = .ok (.aload_n 0, 1) := by decide +kernel
theorem dL_law_1666 : decode cL_law 1666 = .ok (.iload 5, 2) := by decide +kernel
theorem dL_law_1668 : decode cL_law 1668 = .ok (.iconst 2, 1) := by decide +kernel
theorem dL_law_1669 : decode cL_law 1669 = .ok (.iadd, 1) := by decide +kernel
theorem dL_law_1670 : decode cL_law 1670 = .ok (.iaload, 1) := by decide +kernel
theorem dL_law_1671 : decode cL_law 1671 = .ok (.aload_n 3, 1) := by decide +kernel
theorem dL_law_1672 : decode cL_law 1672 = .ok (.invokestatic 275, 3) := by decide +kernel
theorem dL_law_1675 : decode cL_law 1675 = .ok (.istore 6, 2) := by decide +kernel
theorem dL_law_1677 : decode cL_law 1677 = .ok (.aload_n 2, 1) := by decide +kernel
theorem dL_law_1678 : decode cL_law 1678 = .ok (.aload_n 0, 1) := by decide +kernel
theorem dL_law_1679 : decode cL_law 1679 = .ok (.iload 5, 2) := by decide +kernel
theorem dL_law_1681 : decode cL_law 1681 = .ok (.iconst 1, 1) := by decide +kernel
theorem dL_law_1682 : decode cL_law 1682 = .ok (.iadd, 1) := by decide +kernel
theorem dL_law_1683 : decode cL_law 1683 = .ok (.iaload, 1) := by decide +kernel
theorem dL_law_1684 : decode cL_law 1684 = .ok (.aload_n 0, 1) := by decide +kernel
theorem dL_law_1685 : decode cL_law 1685 = .ok (.iload 5, 2) := by decide +kernel
theorem dL_law_1687 : decode cL_law 1687 = .ok (.iconst 2, 1) := by decide +kernel
theorem dL_law_1688 : decode cL_law 1688 = .ok (.iadd, 1) := by decide +kernel
theorem dL_law_1689 : decode cL_law 1689 = .ok (.iaload, 1) := by decide +kernel
theorem dL_law_1690 : decode cL_law 1690 = .ok (.invokevirtual 277, 3) := by decide +kernel
theorem dL_law_1693 : decode cL_law 1693 = .ok (.istore 7, 2) := by decide +kernel
theorem dL_law_1695 : decode cL_law 1695 = .ok (.aload_n 2, 1) := by decide +kernel
theorem dL_law_1696 : decode cL_law 1696 = .ok (.invokevirtual 203, 3) := by decide +kernel
theorem dL_law_1699 : decode cL_law 1699 = .ok (.iload 6, 2) := by decide +kernel
theorem dL_law_1701 : decode cL_law 1701 = .ok (.if_icmp .eq 5, 3) := by decide +kernel
theorem dL_law_1704 : decode cL_law 1704 = .ok (.iconst 0, 1) := by decide +kernel
theorem dL_law_1705 : decode cL_law 1705 = .ok (.ireturn, 1) := by decide +kernel
theorem dL_law_1706 : decode cL_law 1706 = .ok (.iload 6, 2) := by decide +kernel
theorem dL_law_1708 : decode cL_law 1708 = .ok (.ifCond .ne 15, 3) := by decide +kernel
theorem dL_law_1711 : decode cL_law 1711 = .ok (.aload_n 3, 1) := by decide +kernel
theorem dL_law_1712 : decode cL_law 1712 = .ok (.iconst 0, 1) := by decide +kernel
theorem dL_law_1713 : decode cL_law 1713 = .ok (.laload, 1) := by decide +kernel
theorem dL_law_1714 : decode cL_law 1714 = .ok (.iload 7, 2) := by decide +kernel
theorem dL_law_1716 : decode cL_law 1716 = .ok (.i2l, 1) := by decide +kernel
theorem dL_law_1717 : decode cL_law 1717 = .ok (.lcmp, 1) := by decide +kernel
theorem dL_law_1718 : decode cL_law 1718 = .ok (.ifCond .eq 5, 3) := by decide +kernel
theorem dL_law_1721 : decode cL_law 1721 = .ok (.iconst 0, 1) := by decide +kernel
theorem dL_law_1722 : decode cL_law 1722 = .ok (.ireturn, 1) := by decide +kernel
theorem dL_law_1723 : decode cL_law 1723 = .ok (.goto 1867, 3) := by decide +kernel
theorem dL_law_1726 : decode cL_law 1726 = .ok (.aload_n 1, 1) := by decide +kernel
theorem dL_law_1727 : decode cL_law 1727 = .ok (.aload_n 0, 1) := by decide +kernel
theorem dL_law_1728 : decode cL_law 1728 = .ok (.iload 5, 2) := by decide +kernel
theorem dL_law_1730 : decode cL_law 1730 = .ok (.iconst 1, 1) := by decide +kernel
theorem dL_law_1731 : decode cL_law 1731 = .ok (.iadd, 1) := by decide +kernel
theorem dL_law_1732 : decode cL_law 1732 = .ok (.iaload, 1) := by decide +kernel
theorem dL_law_1733 : decode cL_law 1733 = .ok (.aload_n 3, 1) := by decide +kernel
theorem dL_law_1734 : decode cL_law 1734 = .ok (.invokestatic 278, 3) := by decide +kernel
theorem dL_law_1737 : decode cL_law 1737 = .ok (.istore 6, 2) := by decide +kernel
theorem dL_law_1739 : decode cL_law 1739 = .ok (.aload_n 2, 1) := by decide +kernel
theorem dL_law_1740 : decode cL_law 1740 = .ok (.aload_n 0, 1) := by decide +kernel
theorem dL_law_1741 : decode cL_law 1741 = .ok (.iload 5, 2) := by decide +kernel
theorem dL_law_1743 : decode cL_law 1743 = .ok (.iconst 1, 1) := by decide +kernel
theorem dL_law_1744 : decode cL_law 1744 = .ok (.iadd, 1) := by decide +kernel
theorem dL_law_1745 : decode cL_law 1745 = .ok (.iaload, 1) := by decide +kernel
theorem dL_law_1746 : decode cL_law 1746 = .ok (.invokevirtual 280, 3) := by decide +kernel
theorem dL_law_1749 : decode cL_law 1749 = .ok (.istore 7, 2) := by decide +kernel
theorem dL_law_1751 : decode cL_law 1751 = .ok (.aload_n 2, 1) := by decide +kernel
theorem dL_law_1752 : decode cL_law 1752 = .ok (.invokevirtual 203, 3) := by decide +kernel
theorem dL_law_1755 : decode cL_law 1755 = .ok (.iload 6, 2) := by decide +kernel
theorem dL_law_1757 : decode cL_law 1757 = .ok (.if_icmp .eq 5, 3) := by decide +kernel
theorem dL_law_1760 : decode cL_law 1760 = .ok (.iconst 0, 1) := by decide +kernel
theorem dL_law_1761 : decode cL_law 1761 = .ok (.ireturn, 1) := by decide +kernel
theorem dL_law_1762 : decode cL_law 1762 = .ok (.iload 6, 2) := by decide +kernel
theorem dL_law_1764 : decode cL_law 1764 = .ok (.ifCond .ne 15, 3) := by decide +kernel
theorem dL_law_1767 : decode cL_law 1767 = .ok (.aload_n 3, 1) := by decide +kernel
theorem dL_law_1768 : decode cL_law 1768 = .ok (.iconst 0, 1) := by decide +kernel
theorem dL_law_1769 : decode cL_law 1769 = .ok (.laload, 1) := by decide +kernel
theorem dL_law_1770 : decode cL_law 1770 = .ok (.iload 7, 2) := by decide +kernel
theorem dL_law_1772 : decode cL_law 1772 = .ok (.i2l, 1) := by decide +kernel
theorem dL_law_1773 : decode cL_law 1773 = .ok (.lcmp, 1) := by decide +kernel
theorem dL_law_1774 : decode cL_law 1774 = .ok (.ifCond .eq 5, 3) := by decide +kernel
theorem dL_law_1777 : decode cL_law 1777 = .ok (.iconst 0, 1) := by decide +kernel
theorem dL_law_1778 : decode cL_law 1778 = .ok (.ireturn, 1) := by decide +kernel
theorem dL_law_1779 : decode cL_law 1779 = .ok (.goto 1811, 3) := by decide +kernel
theorem dL_law_1782 : decode cL_law 1782 = .ok (.aload_n 1, 1) := by decide +kernel
theorem dL_law_1783 : decode cL_law 1783 = .ok (.aload_n 0, 1) := by decide +kernel
theorem dL_law_1784 : decode cL_law 1784 = .ok (.iload 5, 2) := by decide +kernel
theorem dL_law_1786 : decode cL_law 1786 = .ok (.iconst 1, 1) := by decide +kernel
theorem dL_law_1787 : decode cL_law 1787 = .ok (.iadd, 1) := by decide +kernel
theorem dL_law_1788 : decode cL_law 1788 = .ok (.iaload, 1) := by decide +kernel
theorem dL_law_1789 : decode cL_law 1789 = .ok (.aload_n 3, 1) := by decide +kernel
theorem dL_law_1790 : decode cL_law 1790 = .ok (.invokestatic 281, 3) := by decide +kernel
theorem dL_law_1793 : decode cL_law 1793 = .ok (.istore 6, 2) := by decide +kernel
theorem dL_law_1795 : decode cL_law 1795 = .ok (.aload_n 2, 1) := by decide +kernel
theorem dL_law_1796 : decode cL_law 1796 = .ok (.aload_n 0, 1) := by decide +kernel
theorem dL_law_1797 : decode cL_law 1797 = .ok (.iload 5, 2) := by decide +kernel
theorem dL_law_1799 : decode cL_law 1799 = .ok (.iconst 1, 1) := by decide +kernel
theorem dL_law_1800 : decode cL_law 1800 = .ok (.iadd, 1) := by decide +kernel
theorem dL_law_1801 : decode cL_law 1801 = .ok (.iaload, 1) := by decide +kernel
theorem dL_law_1802 : decode cL_law 1802 = .ok (.invokevirtual 283, 3) := by decide +kernel
theorem dL_law_1805 : decode cL_law 1805 = .ok (.istore 7, 2) := by decide +kernel
theorem dL_law_1807 : decode cL_law 1807 = .ok (.aload_n 2, 1) := by decide +kernel
theorem dL_law_1808 : decode cL_law 1808 = .ok (.invokevirtual 203, 3) := by decide +kernel
theorem dL_law_1811 : decode cL_law 1811 = .ok (.iload 6, 2) := by decide +kernel
theorem dL_law_1813 : decode cL_law 1813 = .ok (.if_icmp .eq 5, 3) := by decide +kernel
theorem dL_law_1816 : decode cL_law 1816 = .ok (.iconst 0, 1) := by decide +kernel
theorem dL_law_1817 : decode cL_law 1817 = .ok (.ireturn, 1) := by decide +kernel
theorem dL_law_1818 : decode cL_law 1818 = .ok (.iload 6, 2) := by decide +kernel
theorem dL_law_1820 : decode cL_law 1820 = .ok (.ifCond .ne 15, 3) := by decide +kernel
theorem dL_law_1823 : decode cL_law 1823 = .ok (.aload_n 3, 1) := by decide +kernel
theorem dL_law_1824 : decode cL_law 1824 = .ok (.iconst 0, 1) := by decide +kernel
theorem dL_law_1825 : decode cL_law 1825 = .ok (.laload, 1) := by decide +kernel
theorem dL_law_1826 : decode cL_law 1826 = .ok (.iload 7, 2) := by decide +kernel
theorem dL_law_1828 : decode cL_law 1828 = .ok (.i2l, 1) := by decide +kernel
theorem dL_law_1829 : decode cL_law 1829 = .ok (.lcmp, 1) := by decide +kernel
theorem dL_law_1830 : decode cL_law 1830 = .ok (.ifCond .eq 5, 3) := by decide +kernel
theorem dL_law_1833 : decode cL_law 1833 = .ok (.iconst 0, 1) := by decide +kernel
theorem dL_law_1834 : decode cL_law 1834 = .ok (.ireturn, 1) := by decide +kernel
theorem dL_law_1835 : decode cL_law 1835 = .ok (.goto 1755, 3) := by decide +kernel
theorem dL_law_1838 : decode cL_law 1838 = .ok (.aload_n 1, 1) := by decide +kernel
theorem dL_law_1839 : decode cL_law 1839 = .ok (.aload_n 0, 1) := by decide +kernel
theorem dL_law_1840 : decode cL_law 1840 = .ok (.iload 5, 2) := by decide +kernel
theorem dL_law_1842 : decode cL_law 1842 = .ok (.iconst 1, 1) := by decide +kernel
theorem dL_law_1843 : decode cL_law 1843 = .ok (.iadd, 1) := by decide +kernel
theorem dL_law_1844 : decode cL_law 1844 = .ok (.iaload, 1) := by decide +kernel
theorem dL_law_1845 : decode cL_law 1845 = .ok (.aload_n 3, 1) := by decide +kernel
theorem dL_law_1846 : decode cL_law 1846 = .ok (.invokestatic 284, 3) := by decide +kernel
theorem dL_law_1849 : decode cL_law 1849 = .ok (.istore 6, 2) := by decide +kernel
theorem dL_law_1851 : decode cL_law 1851 = .ok (.aload_n 2, 1) := by decide +kernel
theorem dL_law_1852 : decode cL_law 1852 = .ok (.aload_n 0, 1) := by decide +kernel
theorem dL_law_1853 : decode cL_law 1853 = .ok (.iload 5, 2) := by decide +kernel
theorem dL_law_1855 : decode cL_law 1855 = .ok (.iconst 1, 1) := by decide +kernel
theorem dL_law_1856 : decode cL_law 1856 = .ok (.iadd, 1) := by decide +kernel
theorem dL_law_1857 : decode cL_law 1857 = .ok (.iaload, 1) := by decide +kernel
theorem dL_law_1858 : decode cL_law 1858 = .ok (.invokevirtual 286, 3) := by decide +kernel
theorem dL_law_1861 : decode cL_law 1861 = .ok (.istore 7, 2) := by decide +kernel
theorem dL_law_1863 : decode cL_law 1863 = .ok (.aload_n 2, 1) := by decide +kernel
theorem dL_law_1864 : decode cL_law 1864 = .ok (.invokevirtual 203, 3) := by decide +kernel
theorem dL_law_1867 : decode cL_law 1867 = .ok (.iload 6, 2) := by decide +kernel
theorem dL_law_1869 : decode cL_law 1869 = .ok (.if_icmp .eq 5, 3) := by decide +kernel
theorem dL_law_1872 : decode cL_law 1872 = .ok (.iconst 0, 1) := by decide +kernel
theorem dL_law_1873 : decode cL_law 1873 = .ok (.ireturn, 1) := by decide +kernel
theorem dL_law_1874 : decode cL_law 1874 = .ok (.iload 6, 2) := by decide +kernel
theorem dL_law_1876 : decode cL_law 1876 = .ok (.ifCond .ne 15, 3) := by decide +kernel
theorem dL_law_1879 : decode cL_law 1879 = .ok (.aload_n 3, 1) := by decide +kernel
theorem dL_law_1880 : decode cL_law 1880 = .ok (.iconst 0, 1) := by decide +kernel
theorem dL_law_1881 : decode cL_law 1881 = .ok (.laload, 1) := by decide +kernel
theorem dL_law_1882 : decode cL_law 1882 = .ok (.iload 7, 2) := by decide +kernel
theorem dL_law_1884 : decode cL_law 1884 = .ok (.i2l, 1) := by decide +kernel
theorem dL_law_1885 : decode cL_law 1885 = .ok (.lcmp, 1) := by decide +kernel
theorem dL_law_1886 : decode cL_law 1886 = .ok (.ifCond .eq 5, 3) := by decide +kernel
theorem dL_law_1889 : decode cL_law 1889 = .ok (.iconst 0, 1) := by decide +kernel
theorem dL_law_1890 : decode cL_law 1890 = .ok (.ireturn, 1) := by decide +kernel
theorem dL_law_1891 : decode cL_law 1891 = .ok (.goto 1699, 3) := by decide +kernel
theorem dL_law_1894 : decode cL_law 1894 = .ok (.aload_n 1, 1) := by decide +kernel
theorem dL_law_1895 : decode cL_law 1895 = .ok (.aload_n 0, 1) := by decide +kernel
theorem dL_law_1896 : decode cL_law 1896 = .ok (.iload 5, 2) := by decide +kernel
theorem dL_law_1898 : decode cL_law 1898 = .ok (.iconst 1, 1) := by decide +kernel
theorem dL_law_1899 : decode cL_law 1899 = .ok (.iadd, 1) := by decide +kernel
theorem dL_law_1900 : decode cL_law 1900 = .ok (.iaload, 1) := by decide +kernel
theorem dL_law_1901 : decode cL_law 1901 = .ok (.aload_n 3, 1) := by decide +kernel
theorem dL_law_1902 : decode cL_law 1902 = .ok (.invokestatic 287, 3) := by decide +kernel
theorem dL_law_1905 : decode cL_law 1905 = .ok (.istore 6, 2) := by decide +kernel
theorem dL_law_1907 : decode cL_law 1907 = .ok (.aload_n 2, 1) := by decide +kernel
theorem dL_law_1908 : decode cL_law 1908 = .ok (.aload_n 0, 1) := by decide +kernel
theorem dL_law_1909 : decode cL_law 1909 = .ok (.iload 5, 2) := by decide +kernel
theorem dL_law_1911 : decode cL_law 1911 = .ok (.iconst 1, 1) := by decide +kernel
theorem dL_law_1912 : decode cL_law 1912 = .ok (.iadd, 1) := by decide +kernel
theorem dL_law_1913 : decode cL_law 1913 = .ok (.iaload, 1) := by decide +kernel
theorem dL_law_1914 : decode cL_law 1914 = .ok (.invokevirtual 289, 3) := by decide +kernel
theorem dL_law_1917 : decode cL_law 1917 = .ok (.istore 7, 2) := by decide +kernel
theorem dL_law_1919 : decode cL_law 1919 = .ok (.aload_n 2, 1) := by decide +kernel
theorem dL_law_1920 : decode cL_law 1920 = .ok (.invokevirtual 203, 3) := by decide +kernel
theorem dL_law_1923 : decode cL_law 1923 = .ok (.iload 6, 2) := by decide +kernel
theorem dL_law_1925 : decode cL_law 1925 = .ok (.if_icmp .eq 5, 3) := by decide +kernel
theorem dL_law_1928 : decode cL_law 1928 = .ok (.iconst 0, 1) := by decide +kernel
theorem dL_law_1929 : decode cL_law 1929 = .ok (.ireturn, 1) := by decide +kernel
theorem dL_law_1930 : decode cL_law 1930 = .ok (.iload 6, 2) := by decide +kernel
theorem dL_law_1932 : decode cL_law 1932 = .ok (.ifCond .ne 15, 3) := by decide +kernel
theorem dL_law_1935 : decode cL_law 1935 = .ok (.aload_n 3, 1) := by decide +kernel
theorem dL_law_1936 : decode cL_law 1936 = .ok (.iconst 0, 1) := by decide +kernel
theorem dL_law_1937 : decode cL_law 1937 = .ok (.laload, 1) := by decide +kernel
theorem dL_law_1938 : decode cL_law 1938 = .ok (.iload 7, 2) := by decide +kernel
theorem dL_law_1940 : decode cL_law 1940 = .ok (.i2l, 1) := by decide +kernel
theorem dL_law_1941 : decode cL_law 1941 = .ok (.lcmp, 1) := by decide +kernel
theorem dL_law_1942 : decode cL_law 1942 = .ok (.ifCond .eq 5, 3) := by decide +kernel
theorem dL_law_1945 : decode cL_law 1945 = .ok (.iconst 0, 1) := by decide +kernel
theorem dL_law_1946 : decode cL_law 1946 = .ok (.ireturn, 1) := by decide +kernel
theorem dL_law_1947 : decode cL_law 1947 = .ok (.goto 1643, 3) := by decide +kernel
theorem dL_law_1950 : decode cL_law 1950 = .ok (.aload_n 1, 1) := by decide +kernel
theorem dL_law_1951 : decode cL_law 1951 = .ok (.aload_n 0, 1) := by decide +kernel
theorem dL_law_1952 : decode cL_law 1952 = .ok (.iload 5, 2) := by decide +kernel
theorem dL_law_1954 : decode cL_law 1954 = .ok (.iconst 1, 1) := by decide +kernel
theorem dL_law_1955 : decode cL_law 1955 = .ok (.iadd, 1) := by decide +kernel
theorem dL_law_1956 : decode cL_law 1956 = .ok (.iaload, 1) := by decide +kernel
theorem dL_law_1957 : decode cL_law 1957 = .ok (.aload_n 0, 1) := by decide +kernel
theorem dL_law_1958 : decode cL_law 1958 = .ok (.iload 5, 2) := by decide +kernel
theorem dL_law_1960 : decode cL_law 1960 = .ok (.iconst 2, 1) := by decide +kernel
theorem dL_law_1961 : decode cL_law 1961 = .ok (.iadd, 1) := by decide +kernel
theorem dL_law_1962 : decode cL_law 1962 = .ok (.iaload, 1) := by decide +kernel
theorem dL_law_1963 : decode cL_law 1963 = .ok (.aload_n 3, 1) := by decide +kernel
theorem dL_law_1964 : decode cL_law 1964 = .ok (.invokestatic 290, 3) := by decide +kernel
theorem dL_law_1967 : decode cL_law 1967 = .ok (.istore 6, 2) := by decide +kernel
theorem dL_law_1969 : decode cL_law 1969 = .ok (.aload_n 2, 1) := by decide +kernel
theorem dL_law_1970 : decode cL_law 1970 = .ok (.aload_n 0, 1) := by decide +kernel
theorem dL_law_1971 : decode cL_law 1971 = .ok (.iload 5, 2) := by decide +kernel
theorem dL_law_1973 : decode cL_law 1973 = .ok (.iconst 1, 1) := by decide +kernel
theorem dL_law_1974 : decode cL_law 1974 = .ok (.iadd, 1) := by decide +kernel
theorem dL_law_1975 : decode cL_law 1975 = .ok (.iaload, 1) := by decide +kernel
theorem dL_law_1976 : decode cL_law 1976 = .ok (.aload_n 0, 1) := by decide +kernel
theorem dL_law_1977 : decode cL_law 1977 = .ok (.iload 5, 2) := by decide +kernel
theorem dL_law_1979 : decode cL_law 1979 = .ok (.iconst 2, 1) := by decide +kernel
theorem dL_law_1980 : decode cL_law 1980 = .ok (.iadd, 1) := by decide +kernel
theorem dL_law_1981 : decode cL_law 1981 = .ok (.iaload, 1) := by decide +kernel
theorem dL_law_1982 : decode cL_law 1982 = .ok (.invokevirtual 292, 3) := by decide +kernel
theorem dL_law_1985 : decode cL_law 1985 = .ok (.istore 7, 2) := by decide +kernel
theorem dL_law_1987 : decode cL_law 1987 = .ok (.aload_n 2, 1) := by decide +kernel
theorem dL_law_1988 : decode cL_law 1988 = .ok (.invokevirtual 203, 3) := by decide +kernel
theorem dL_law_1991 : decode cL_law 1991 = .ok (.iload 6, 2) := by decide +kernel
theorem dL_law_1993 : decode cL_law 1993 = .ok (.if_icmp .eq 5, 3) := by decide +kernel
theorem dL_law_1996 : decode cL_law 1996 = .ok (.iconst 0, 1) := by decide +kernel
theorem dL_law_1997 : decode cL_law 1997 = .ok (.ireturn, 1) := by decide +kernel
theorem dL_law_1998 : decode cL_law 1998 = .ok (.iload 6, 2) := by decide +kernel
theorem dL_law_2000 : decode cL_law 2000 = .ok (.ifCond .ne 15, 3) := by decide +kernel
theorem dL_law_2003 : decode cL_law 2003 = .ok (.aload_n 3, 1) := by decide +kernel
theorem dL_law_2004 : decode cL_law 2004 = .ok (.iconst 0, 1) := by decide +kernel
theorem dL_law_2005 : decode cL_law 2005 = .ok (.laload, 1) := by decide +kernel
theorem dL_law_2006 : decode cL_law 2006 = .ok (.iload 7, 2) := by decide +kernel
theorem dL_law_2008 : decode cL_law 2008 = .ok (.i2l, 1) := by decide +kernel
theorem dL_law_2009 : decode cL_law 2009 = .ok (.lcmp, 1) := by decide +kernel
theorem dL_law_2010 : decode cL_law 2010 = .ok (.ifCond .eq 5, 3) := by decide +kernel
theorem dL_law_2013 : decode cL_law 2013 = .ok (.iconst 0, 1) := by decide +kernel
theorem dL_law_2014 : decode cL_law 2014 = .ok (.ireturn, 1) := by decide +kernel
theorem dL_law_2015 : decode cL_law 2015 = .ok (.goto 1575, 3) := by decide +kernel
theorem dL_law_2018 : decode cL_law 2018 = .ok (.aload_n 1, 1) := by decide +kernel
theorem dL_law_2019 : decode cL_law 2019 = .ok (.aload_n 0, 1) := by decide +kernel
theorem dL_law_2020 : decode cL_law 2020 = .ok (.iload 5, 2) := by decide +kernel
theorem dL_law_2022 : decode cL_law 2022 = .ok (.iconst 1, 1) := by decide +kernel
theorem dL_law_2023 : decode cL_law 2023 = .ok (.iadd, 1) := by decide +kernel
theorem dL_law_2024 : decode cL_law 2024 = .ok (.iaload, 1) := by decide +kernel
theorem dL_law_2025 : decode cL_law 2025 = .ok (.aload_n 0, 1) := by decide +kernel
theorem dL_law_2026 : decode cL_law 2026 = .ok (.iload 5, 2) := by decide +kernel
theorem dL_law_2028 : decode cL_law 2028 = .ok (.iconst 2, 1) := by decide +kernel
theorem dL_law_2029 : decode cL_law 2029 = .ok (.iadd, 1) := by decide +kernel
theorem dL_law_2030 : decode cL_law 2030 = .ok (.iaload, 1) := by decide +kernel
theorem dL_law_2031 : decode cL_law 2031 = .ok (.i2c, 1) := by decide +kernel
theorem dL_law_2032 : decode cL_law 2032 = .ok (.aload_n 3, 1) := by decide +kernel
theorem dL_law_2033 : decode cL_law 2033 = .ok (.invokestatic 293, 3) := by decide +kernel
theorem dL_law_2036 : decode cL_law 2036 = .ok (.istore 6, 2) := by decide +kernel
theorem dL_law_2038 : decode cL_law 2038 = .ok (.aload_n 2, 1) := by decide +kernel
theorem dL_law_2039 : decode cL_law 2039 = .ok (.aload_n 0, 1) := by decide +kernel
theorem dL_law_2040 : decode cL_law 2040 = .ok (.iload 5, 2) := by decide +kernel
theorem dL_law_2042 : decode cL_law 2042 = .ok (.iconst 1, 1) := by decide +kernel
theorem dL_law_2043 : decode cL_law 2043 = .ok (.iadd, 1) := by decide +kernel
theorem dL_law_2044 : decode cL_law 2044 = .ok (.iaload, 1) := by decide +kernel
theorem dL_law_2045 : decode cL_law 2045 = .ok (.aload_n 0, 1) := by decide +kernel
theorem dL_law_2046 : decode cL_law 2046 = .ok (.iload 5, 2) := by decide +kernel
theorem dL_law_2048 : decode cL_law 2048 = .ok (.iconst 2, 1) := by decide +kernel
theorem dL_law_2049 : decode cL_law 2049 = .ok (.iadd, 1) := by decide +kernel
theorem dL_law_2050 : decode cL_law 2050 = .ok (.iaload, 1) := by decide +kernel
theorem dL_law_2051 : decode cL_law 2051 = .ok (.i2c, 1) := by decide +kernel
theorem dL_law_2052 : decode cL_law 2052 = .ok (.invokevirtual 296, 3) := by decide +kernel
theorem dL_law_2055 : decode cL_law 2055 = .ok (.istore 7, 2) := by decide +kernel
theorem dL_law_2057 : decode cL_law 2057 = .ok (.aload_n 2, 1) := by decide +kernel
theorem dL_law_2058 : decode cL_law 2058 = .ok (.invokevirtual 203, 3) := by decide +kernel
theorem dL_law_2061 : decode cL_law 2061 = .ok (.iload 6, 2) := by decide +kernel
theorem dL_law_2063 : decode cL_law 2063 = .ok (.if_icmp .eq 5, 3) := by decide +kernel
theorem dL_law_2066 : decode cL_law 2066 = .ok (.iconst 0, 1) := by decide +kernel
theorem dL_law_2067 : decode cL_law 2067 = .ok (.ireturn, 1) := by decide +kernel
theorem dL_law_2068 : decode cL_law 2068 = .ok (.iload 6, 2) := by decide +kernel
theorem dL_law_2070 : decode cL_law 2070 = .ok (.ifCond .ne 22, 3) := by decide +kernel
theorem dL_law_2073 : decode cL_law 2073 = .ok (.aload_n 3, 1) := by decide +kernel
theorem dL_law_2074 : decode cL_law 2074 = .ok (.iconst 0, 1) := by decide +kernel
theorem dL_law_2075 : decode cL_law 2075 = .ok (.laload, 1) := by decide +kernel
theorem dL_law_2076 : decode cL_law 2076 = .ok (.iload 7, 2) := by decide +kernel
theorem dL_law_2078 : decode cL_law 2078 = .ok (.ifCond .eq 7, 3) := by decide +kernel
theorem dL_law_2081 : decode cL_law 2081 = .ok (.lconst 1, 1) := by decide +kernel
theorem dL_law_2082 : decode cL_law 2082 = .ok (.goto 4, 3) := by decide +kernel
theorem dL_law_2085 : decode cL_law 2085 = .ok (.lconst 0, 1) := by decide +kernel
theorem dL_law_2086 : decode cL_law 2086 = .ok (.lcmp, 1) := by decide +kernel
theorem dL_law_2087 : decode cL_law 2087 = .ok (.ifCond .eq 5, 3) := by decide +kernel
theorem dL_law_2090 : decode cL_law 2090 = .ok (.iconst 0, 1) := by decide +kernel
theorem dL_law_2091 : decode cL_law 2091 = .ok (.ireturn, 1) := by decide +kernel
theorem dL_law_2092 : decode cL_law 2092 = .ok (.goto 1498, 3) := by decide +kernel
theorem dL_law_2095 : decode cL_law 2095 = .ok (.aload_n 1, 1) := by decide +kernel
theorem dL_law_2096 : decode cL_law 2096 = .ok (.aload_n 0, 1) := by decide +kernel
theorem dL_law_2097 : decode cL_law 2097 = .ok (.iload 5, 2) := by decide +kernel
theorem dL_law_2099 : decode cL_law 2099 = .ok (.iconst 1, 1) := by decide +kernel
theorem dL_law_2100 : decode cL_law 2100 = .ok (.iadd, 1) := by decide +kernel
theorem dL_law_2101 : decode cL_law 2101 = .ok (.iaload, 1) := by decide +kernel
theorem dL_law_2102 : decode cL_law 2102 = .ok (.aload_n 0, 1) := by decide +kernel
theorem dL_law_2103 : decode cL_law 2103 = .ok (.iload 5, 2) := by decide +kernel
theorem dL_law_2105 : decode cL_law 2105 = .ok (.iconst 2, 1) := by decide +kernel
theorem dL_law_2106 : decode cL_law 2106 = .ok (.iadd, 1) := by decide +kernel
theorem dL_law_2107 : decode cL_law 2107 = .ok (.iaload, 1) := by decide +kernel
theorem dL_law_2108 : decode cL_law 2108 = .ok (.i2c, 1) := by decide +kernel
theorem dL_law_2109 : decode cL_law 2109 = .ok (.aload_n 3, 1) := by decide +kernel
theorem dL_law_2110 : decode cL_law 2110 = .ok (.invokestatic 297, 3) := by decide +kernel
theorem dL_law_2113 : decode cL_law 2113 = .ok (.istore 6, 2) := by decide +kernel
theorem dL_law_2115 : decode cL_law 2115 = .ok (.aload_n 2, 1) := by decide +kernel
theorem dL_law_2116 : decode cL_law 2116 = .ok (.aload_n 0, 1) := by decide +kernel
theorem dL_law_2117 : decode cL_law 2117 = .ok (.iload 5, 2) := by decide +kernel
theorem dL_law_2119 : decode cL_law 2119 = .ok (.iconst 1, 1) := by decide +kernel
theorem dL_law_2120 : decode cL_law 2120 = .ok (.iadd, 1) := by decide +kernel
theorem dL_law_2121 : decode cL_law 2121 = .ok (.iaload, 1) := by decide +kernel
theorem dL_law_2122 : decode cL_law 2122 = .ok (.aload_n 0, 1) := by decide +kernel
theorem dL_law_2123 : decode cL_law 2123 = .ok (.iload 5, 2) := by decide +kernel
theorem dL_law_2125 : decode cL_law 2125 = .ok (.iconst 2, 1) := by decide +kernel
theorem dL_law_2126 : decode cL_law 2126 = .ok (.iadd, 1) := by decide +kernel
theorem dL_law_2127 : decode cL_law 2127 = .ok (.iaload, 1) := by decide +kernel
theorem dL_law_2128 : decode cL_law 2128 = .ok (.i2c, 1) := by decide +kernel
theorem dL_law_2129 : decode cL_law 2129 = .ok (.invokevirtual 299, 3) := by decide +kernel
theorem dL_law_2132 : decode cL_law 2132 = .ok (.istore 7, 2) := by decide +kernel
theorem dL_law_2134 : decode cL_law 2134 = .ok (.aload_n 2, 1) := by decide +kernel
theorem dL_law_2135 : decode cL_law 2135 = .ok (.invokevirtual 203, 3) := by decide +kernel
theorem dL_law_2138 : decode cL_law 2138 = .ok (.iload 6, 2) := by decide +kernel
theorem dL_law_2140 : decode cL_law 2140 = .ok (.if_icmp .eq 5, 3) := by decide +kernel
theorem dL_law_2143 : decode cL_law 2143 = .ok (.iconst 0, 1) := by decide +kernel
theorem dL_law_2144 : decode cL_law 2144 = .ok (.ireturn, 1) := by decide +kernel
theorem dL_law_2145 : decode cL_law 2145 = .ok (.iload 6, 2) := by decide +kernel
theorem dL_law_2147 : decode cL_law 2147 = .ok (.ifCond .ne 22, 3) := by decide +kernel
theorem dL_law_2150 : decode cL_law 2150 = .ok (.aload_n 3, 1) := by decide +kernel
theorem dL_law_2151 : decode cL_law 2151 = .ok (.iconst 0, 1) := by decide +kernel
theorem dL_law_2152 : decode cL_law 2152 = .ok (.laload, 1) := by decide +kernel
theorem dL_law_2153 : decode cL_law 2153 = .ok (.iload 7, 2) := by decide +kernel
theorem dL_law_2155 : decode cL_law 2155 = .ok (.ifCond .eq 7, 3) := by decide +kernel
theorem dL_law_2158 : decode cL_law 2158 = .ok (.lconst 1, 1) := by decide +kernel
theorem dL_law_2159 : decode cL_law 2159 = .ok (.goto 4, 3) := by decide +kernel
theorem dL_law_2162 : decode cL_law 2162 = .ok (.lconst 0, 1) := by decide +kernel
theorem dL_law_2163 : decode cL_law 2163 = .ok (.lcmp, 1) := by decide +kernel
theorem dL_law_2164 : decode cL_law 2164 = .ok (.ifCond .eq 5, 3) := by decide +kernel
theorem dL_law_2167 : decode cL_law 2167 = .ok (.iconst 0, 1) := by decide +kernel
theorem dL_law_2168 : decode cL_law 2168 = .ok (.ireturn, 1) := by decide +kernel
theorem dL_law_2169 : decode cL_law 2169 = .ok (.goto 1421, 3) := by decide +kernel
theorem dL_law_2172 : decode cL_law 2172 = .ok (.aload_n 1, 1) := by decide +kernel
theorem dL_law_2173 : decode cL_law 2173 = .ok (.aload_n 0, 1) := by decide +kernel
theorem dL_law_2174 : decode cL_law 2174 = .ok (.iload 5, 2) := by decide +kernel
theorem dL_law_2176 : decode cL_law 2176 = .ok (.iconst 1, 1) := by decide +kernel
theorem dL_law_2177 : decode cL_law 2177 = .ok (.iadd, 1) := by decide +kernel
theorem dL_law_2178 : decode cL_law 2178 = .ok (.iaload, 1) := by decide +kernel
theorem dL_law_2179 : decode cL_law 2179 = .ok (.aload_n 0, 1) := by decide +kernel
theorem dL_law_2180 : decode cL_law 2180 = .ok (.iload 5, 2) := by decide +kernel
theorem dL_law_2182 : decode cL_law 2182 = .ok (.iconst 2, 1) := by decide +kernel
theorem dL_law_2183 : decode cL_law 2183 = .ok (.iadd, 1) := by decide +kernel
theorem dL_law_2184 : decode cL_law 2184 = .ok (.iaload, 1) := by decide +kernel
theorem dL_law_2185 : decode cL_law 2185 = .ok (.aload_n 0, 1) := by decide +kernel
theorem dL_law_2186 : decode cL_law 2186 = .ok (.iload 5, 2) := by decide +kernel
theorem dL_law_2188 : decode cL_law 2188 = .ok (.iconst 3, 1) := by decide +kernel
theorem dL_law_2189 : decode cL_law 2189 = .ok (.iadd, 1) := by decide +kernel
theorem dL_law_2190 : decode cL_law 2190 = .ok (.iaload, 1) := by decide +kernel
theorem dL_law_2191 : decode cL_law 2191 = .ok (.i2c, 1) := by decide +kernel
theorem dL_law_2192 : decode cL_law 2192 = .ok (.aload_n 3, 1) := by decide +kernel
theorem dL_law_2193 : decode cL_law 2193 = .ok (.invokestatic 300, 3) := by decide +kernel
theorem dL_law_2196 : decode cL_law 2196 = .ok (.istore 6, 2) := by decide +kernel
theorem dL_law_2198 : decode cL_law 2198 = .ok (.aload_n 2, 1) := by decide +kernel
theorem dL_law_2199 : decode cL_law 2199 = .ok (.aload_n 0, 1) := by decide +kernel
theorem dL_law_2200 : decode cL_law 2200 = .ok (.iload 5, 2) := by decide +kernel
theorem dL_law_2202 : decode cL_law 2202 = .ok (.iconst 1, 1) := by decide +kernel
theorem dL_law_2203 : decode cL_law 2203 = .ok (.iadd, 1) := by decide +kernel
theorem dL_law_2204 : decode cL_law 2204 = .ok (.iaload, 1) := by decide +kernel
theorem dL_law_2205 : decode cL_law 2205 = .ok (.aload_n 0, 1) := by decide +kernel
theorem dL_law_2206 : decode cL_law 2206 = .ok (.iload 5, 2) := by decide +kernel
theorem dL_law_2208 : decode cL_law 2208 = .ok (.iconst 2, 1) := by decide +kernel
theorem dL_law_2209 : decode cL_law 2209 = .ok (.iadd, 1) := by decide +kernel
theorem dL_law_2210 : decode cL_law 2210 = .ok (.iaload, 1) := by decide +kernel
theorem dL_law_2211 : decode cL_law 2211 = .ok (.aload_n 0, 1) := by decide +kernel
theorem dL_law_2212 : decode cL_law 2212 = .ok (.iload 5, 2) := by decide +kernel
theorem dL_law_2214 : decode cL_law 2214 = .ok (.iconst 3, 1) := by decide +kernel
theorem dL_law_2215 : decode cL_law 2215 = .ok (.iadd, 1) := by decide +kernel
theorem dL_law_2216 : decode cL_law 2216 = .ok (.iaload, 1) := by decide +kernel
theorem dL_law_2217 : decode cL_law 2217 = .ok (.i2c, 1) := by decide +kernel
theorem dL_law_2218 : decode cL_law 2218 = .ok (.invokevirtual 303, 3) := by decide +kernel
theorem dL_law_2221 : decode cL_law 2221 = .ok (.istore 7, 2) := by decide +kernel
theorem dL_law_2223 : decode cL_law 2223 = .ok (.aload_n 2, 1) := by decide +kernel
theorem dL_law_2224 : decode cL_law 2224 = .ok (.invokevirtual 203, 3) := by decide +kernel
theorem dL_law_2227 : decode cL_law 2227 = .ok (.iload 6, 2) := by decide +kernel
theorem dL_law_2229 : decode cL_law 2229 = .ok (.if_icmp .eq 5, 3) := by decide +kernel
theorem dL_law_2232 : decode cL_law 2232 = .ok (.iconst 0, 1) := by decide +kernel
theorem dL_law_2233 : decode cL_law 2233 = .ok (.ireturn, 1) := by decide +kernel
theorem dL_law_2234 : decode cL_law 2234 = .ok (.iload 6, 2) := by decide +kernel
theorem dL_law_2236 : decode cL_law 2236 = .ok (.ifCond .ne 15, 3) := by decide +kernel
theorem dL_law_2239 : decode cL_law 2239 = .ok (.aload_n 3, 1) := by decide +kernel
theorem dL_law_2240 : decode cL_law 2240 = .ok (.iconst 0, 1) := by decide +kernel
theorem dL_law_2241 : decode cL_law 2241 = .ok (.laload, 1) := by decide +kernel
theorem dL_law_2242 : decode cL_law 2242 = .ok (.iload 7, 2) := by decide +kernel
theorem dL_law_2244 : decode cL_law 2244 = .ok (.i2l, 1) := by decide +kernel
theorem dL_law_2245 : decode cL_law 2245 = .ok (.lcmp, 1) := by decide +kernel
theorem dL_law_2246 : decode cL_law 2246 = .ok (.ifCond .eq 5, 3) := by decide +kernel
theorem dL_law_2249 : decode cL_law 2249 = .ok (.iconst 0, 1) := by decide +kernel
theorem dL_law_2250 : decode cL_law 2250 = .ok (.ireturn, 1) := by decide +kernel
theorem dL_law_2251 : decode cL_law 2251 = .ok (.goto 1339, 3) := by decide +kernel
theorem dL_law_2254 : decode cL_law 2254 = .ok (.aload_n 1, 1) := by decide +kernel
theorem dL_law_2255 : decode cL_law 2255 = .ok (.aload_n 0, 1) := by decide +kernel
theorem dL_law_2256 : decode cL_law 2256 = .ok (.iload 5, 2) := by decide +kernel
theorem dL_law_2258 : decode cL_law 2258 = .ok (.iconst 1, 1) := by decide +kernel
theorem dL_law_2259 : decode cL_law 2259 = .ok (.iadd, 1) := by decide +kernel
theorem dL_law_2260 : decode cL_law 2260 = .ok (.iaload, 1) := by decide +kernel
theorem dL_law_2261 : decode cL_law 2261 = .ok (.aload_n 0, 1) := by decide +kernel
theorem dL_law_2262 : decode cL_law 2262 = .ok (.iload 5, 2) := by decide +kernel
theorem dL_law_2264 : decode cL_law 2264 = .ok (.iconst 2, 1) := by decide +kernel
theorem dL_law_2265 : decode cL_law 2265 = .ok (.iadd, 1) := by decide +kernel
theorem dL_law_2266 : decode cL_law 2266 = .ok (.iaload, 1) := by decide +kernel
theorem dL_law_2267 : decode cL_law 2267 = .ok (.aload_n 3, 1) := by decide +kernel
theorem dL_law_2268 : decode cL_law 2268 = .ok (.invokestatic 304, 3) := by decide +kernel
theorem dL_law_2271 : decode cL_law 2271 = .ok (.istore 6, 2) := by decide +kernel
theorem dL_law_2273 : decode cL_law 2273 = .ok (.aload_n 2, 1) := by decide +kernel
theorem dL_law_2274 : decode cL_law 2274 = .ok (.aload_n 0, 1) := by decide +kernel
theorem dL_law_2275 : decode cL_law 2275 = .ok (.iload 5, 2) := by decide +kernel
theorem dL_law_2277 : decode cL_law 2277 = .ok (.iconst 1, 1) := by decide +kernel
theorem dL_law_2278 : decode cL_law 2278 = .ok (.iadd, 1) := by decide +kernel
theorem dL_law_2279 : decode cL_law 2279 = .ok (.iaload, 1) := by decide +kernel
theorem dL_law_2280 : decode cL_law 2280 = .ok (.aload_n 0, 1) := by decide +kernel
theorem dL_law_2281 : decode cL_law 2281 = .ok (.iload 5, 2) := by decide +kernel
theorem dL_law_2283 : decode cL_law 2283 = .ok (.iconst 2, 1) := by decide +kernel
theorem dL_law_2284 : decode cL_law 2284 = .ok (.iadd, 1) := by decide +kernel
theorem dL_law_2285 : decode cL_law 2285 = .ok (.iaload, 1) := by decide +kernel
theorem dL_law_2286 : decode cL_law 2286 = .ok (.invokevirtual 306, 3) := by decide +kernel
theorem dL_law_2289 : decode cL_law 2289 = .ok (.istore 7, 2) := by decide +kernel
theorem dL_law_2291 : decode cL_law 2291 = .ok (.aload_n 2, 1) := by decide +kernel
theorem dL_law_2292 : decode cL_law 2292 = .ok (.invokevirtual 203, 3) := by decide +kernel
theorem dL_law_2295 : decode cL_law 2295 = .ok (.iload 6, 2) := by decide +kernel
theorem dL_law_2297 : decode cL_law 2297 = .ok (.if_icmp .eq 5, 3) := by decide +kernel
theorem dL_law_2300 : decode cL_law 2300 = .ok (.iconst 0, 1) := by decide +kernel
theorem dL_law_2301 : decode cL_law 2301 = .ok (.ireturn, 1) := by decide +kernel
theorem dL_law_2302 : decode cL_law 2302 = .ok (.iload 6, 2) := by decide +kernel
theorem dL_law_2304 : decode cL_law 2304 = .ok (.ifCond .ne 15, 3) := by decide +kernel
theorem dL_law_2307 : decode cL_law 2307 = .ok (.aload_n 3, 1) := by decide +kernel
theorem dL_law_2308 : decode cL_law 2308 = .ok (.iconst 0, 1) := by decide +kernel
theorem dL_law_2309 : decode cL_law 2309 = .ok (.laload, 1) := by decide +kernel
theorem dL_law_2310 : decode cL_law 2310 = .ok (.iload 7, 2) := by decide +kernel
theorem dL_law_2312 : decode cL_law 2312 = .ok (.i2l, 1) := by decide +kernel
theorem dL_law_2313 : decode cL_law 2313 = .ok (.lcmp, 1) := by decide +kernel
theorem dL_law_2314 : decode cL_law 2314 = .ok (.ifCond .eq 5, 3) := by decide +kernel
theorem dL_law_2317 : decode cL_law 2317 = .ok (.iconst 0, 1) := by decide +kernel
theorem dL_law_2318 : decode cL_law 2318 = .ok (.ireturn, 1) := by decide +kernel
theorem dL_law_2319 : decode cL_law 2319 = .ok (.goto 1271, 3) := by decide +kernel
theorem dL_law_2322 : decode cL_law 2322 = .ok (.aload_n 1, 1) := by decide +kernel
theorem dL_law_2323 : decode cL_law 2323 = .ok (.aload_n 0, 1) := by decide +kernel
theorem dL_law_2324 : decode cL_law 2324 = .ok (.iload 5, 2) := by decide +kernel
theorem dL_law_2326 : decode cL_law 2326 = .ok (.iconst 1, 1) := by decide +kernel
theorem dL_law_2327 : decode cL_law 2327 = .ok (.iadd, 1) := by decide +kernel
theorem dL_law_2328 : decode cL_law 2328 = .ok (.iaload, 1) := by decide +kernel
theorem dL_law_2329 : decode cL_law 2329 = .ok (.aload_n 0, 1) := by decide +kernel
theorem dL_law_2330 : decode cL_law 2330 = .ok (.iload 5, 2) := by decide +kernel
theorem dL_law_2332 : decode cL_law 2332 = .ok (.iconst 2, 1) := by decide +kernel
theorem dL_law_2333 : decode cL_law 2333 = .ok (.iadd, 1) := by decide +kernel
theorem dL_law_2334 : decode cL_law 2334 = .ok (.iaload, 1) := by decide +kernel
theorem dL_law_2335 : decode cL_law 2335 = .ok (.aload_n 3, 1) := by decide +kernel
theorem dL_law_2336 : decode cL_law 2336 = .ok (.invokestatic 307, 3) := by decide +kernel
theorem dL_law_2339 : decode cL_law 2339 = .ok (.istore 6, 2) := by decide +kernel
theorem dL_law_2341 : decode cL_law 2341 = .ok (.aload_n 2, 1) := by decide +kernel
theorem dL_law_2342 : decode cL_law 2342 = .ok (.aload_n 0, 1) := by decide +kernel
theorem dL_law_2343 : decode cL_law 2343 = .ok (.iload 5, 2) := by decide +kernel
theorem dL_law_2345 : decode cL_law 2345 = .ok (.iconst 1, 1) := by decide +kernel
theorem dL_law_2346 : decode cL_law 2346 = .ok (.iadd, 1) := by decide +kernel
theorem dL_law_2347 : decode cL_law 2347 = .ok (.iaload, 1) := by decide +kernel
theorem dL_law_2348 : decode cL_law 2348 = .ok (.aload_n 0, 1) := by decide +kernel
theorem dL_law_2349 : decode cL_law 2349 = .ok (.iload 5, 2) := by decide +kernel
theorem dL_law_2351 : decode cL_law 2351 = .ok (.iconst 2, 1) := by decide +kernel
theorem dL_law_2352 : decode cL_law 2352 = .ok (.iadd, 1) := by decide +kernel
theorem dL_law_2353 : decode cL_law 2353 = .ok (.iaload, 1) := by decide +kernel
theorem dL_law_2354 : decode cL_law 2354 = .ok (.invokevirtual 309, 3) := by decide +kernel
theorem dL_law_2357 : decode cL_law 2357 = .ok (.istore 7, 2) := by decide +kernel
theorem dL_law_2359 : decode cL_law 2359 = .ok (.aload_n 2, 1) := by decide +kernel
theorem dL_law_2360 : decode cL_law 2360 = .ok (.invokevirtual 203, 3) := by decide +kernel
theorem dL_law_2363 : decode cL_law 2363 = .ok (.iload 6, 2) := by decide +kernel
theorem dL_law_2365 : decode cL_law 2365 = .ok (.if_icmp .eq 5, 3) := by decide +kernel
theorem dL_law_2368 : decode cL_law 2368 = .ok (.iconst 0, 1) := by decide +kernel
theorem dL_law_2369 : decode cL_law 2369 = .ok (.ireturn, 1) := by decide +kernel
theorem dL_law_2370 : decode cL_law 2370 = .ok (.iload 6, 2) := by decide +kernel
theorem dL_law_2372 : decode cL_law 2372 = .ok (.ifCond .ne 15, 3) := by decide +kernel
theorem dL_law_2375 : decode cL_law 2375 = .ok (.aload_n 3, 1) := by decide +kernel
theorem dL_law_2376 : decode cL_law 2376 = .ok (.iconst 0, 1) := by decide +kernel
theorem dL_law_2377 : decode cL_law 2377 = .ok (.laload, 1) := by decide +kernel
theorem dL_law_2378 : decode cL_law 2378 = .ok (.iload 7, 2) := by decide +kernel
theorem dL_law_2380 : decode cL_law 2380 = .ok (.i2l, 1) := by decide +kernel
theorem dL_law_2381 : decode cL_law 2381 = .ok (.lcmp, 1) := by decide +kernel
theorem dL_law_2382 : decode cL_law 2382 = .ok (.ifCond .eq 5, 3) := by decide +kernel
theorem dL_law_2385 : decode cL_law 2385 = .ok (.iconst 0, 1) := by decide +kernel
theorem dL_law_2386 : decode cL_law 2386 = .ok (.ireturn, 1) := by decide +kernel
theorem dL_law_2387 : decode cL_law 2387 = .ok (.goto 1203, 3) := by decide +kernel
theorem dL_law_2390 : decode cL_law 2390 = .ok (.aload_n 1, 1) := by decide +kernel
theorem dL_law_2391 : decode cL_law 2391 = .ok (.aload_n 0, 1) := by decide +kernel
theorem dL_law_2392 : decode cL_law 2392 = .ok (.iload 5, 2) := by decide +kernel
theorem dL_law_2394 : decode cL_law 2394 = .ok (.iconst 1, 1) := by decide +kernel
theorem dL_law_2395 : decode cL_law 2395 = .ok (.iadd, 1) := by decide +kernel
theorem dL_law_2396 : decode cL_law 2396 = .ok (.iaload, 1) := by decide +kernel
theorem dL_law_2397 : decode cL_law 2397 = .ok (.aload_n 3, 1) := by decide +kernel
theorem dL_law_2398 : decode cL_law 2398 = .ok (.invokestatic 310, 3) := by decide +kernel
theorem dL_law_2401 : decode cL_law 2401 = .ok (.istore 6, 2) := by decide +kernel
theorem dL_law_2403 : decode cL_law 2403 = .ok (.aload_n 2, 1) := by decide +kernel
theorem dL_law_2404 : decode cL_law 2404 = .ok (.aload_n 0, 1) := by decide +kernel
theorem dL_law_2405 : decode cL_law 2405 = .ok (.iload 5, 2) := by decide +kernel
theorem dL_law_2407 : decode cL_law 2407 = .ok (.iconst 1, 1) := by decide +kernel
theorem dL_law_2408 : decode cL_law 2408 = .ok (.iadd, 1) := by decide +kernel
theorem dL_law_2409 : decode cL_law 2409 = .ok (.iaload, 1) := by decide +kernel
theorem dL_law_2410 : decode cL_law 2410 = .ok (.invokevirtual 312, 3) := by decide +kernel
theorem dL_law_2413 : decode cL_law 2413 = .ok (.istore 7, 2) := by decide +kernel
theorem dL_law_2415 : decode cL_law 2415 = .ok (.aload_n 2, 1) := by decide +kernel
theorem dL_law_2416 : decode cL_law 2416 = .ok (.invokevirtual 203, 3) := by decide +kernel
theorem dL_law_2419 : decode cL_law 2419 = .ok (.iload 6, 2) := by decide +kernel
theorem dL_law_2421 : decode cL_law 2421 = .ok (.if_icmp .eq 5, 3) := by decide +kernel
theorem dL_law_2424 : decode cL_law 2424 = .ok (.iconst 0, 1) := by decide +kernel
theorem dL_law_2425 : decode cL_law 2425 = .ok (.ireturn, 1) := by decide +kernel
theorem dL_law_2426 : decode cL_law 2426 = .ok (.iload 6, 2) := by decide +kernel
theorem dL_law_2428 : decode cL_law 2428 = .ok (.ifCond .ne 15, 3) := by decide +kernel
theorem dL_law_2431 : decode cL_law 2431 = .ok (.aload_n 3, 1) := by decide +kernel
theorem dL_law_2432 : decode cL_law 2432 = .ok (.iconst 0, 1) := by decide +kernel
theorem dL_law_2433 : decode cL_law 2433 = .ok (.laload, 1) := by decide +kernel
theorem dL_law_2434 : decode cL_law 2434 = .ok (.iload 7, 2) := by decide +kernel
theorem dL_law_2436 : decode cL_law 2436 = .ok (.i2l, 1) := by decide +kernel
theorem dL_law_2437 : decode cL_law 2437 = .ok (.lcmp, 1) := by decide +kernel
theorem dL_law_2438 : decode cL_law 2438 = .ok (.ifCond .eq 5, 3) := by decide +kernel
theorem dL_law_2441 : decode cL_law 2441 = .ok (.iconst 0, 1) := by decide +kernel
theorem dL_law_2442 : decode cL_law 2442 = .ok (.ireturn, 1) := by decide +kernel
theorem dL_law_2443 : decode cL_law 2443 = .ok (.goto 1147, 3) := by decide +kernel
theorem dL_law_2446 : decode cL_law 2446 = .ok (.aload_n 1, 1) := by decide +kernel
theorem dL_law_2447 : decode cL_law 2447 = .ok (.aload_n 0, 1) := by decide +kernel
theorem dL_law_2448 : decode cL_law 2448 = .ok (.iload 5, 2) := by decide +kernel
theorem dL_law_2450 : decode cL_law 2450 = .ok (.iconst 1, 1) := by decide +kernel
theorem dL_law_2451 : decode cL_law 2451 = .ok (.iadd, 1) := by decide +kernel
theorem dL_law_2452 : decode cL_law 2452 = .ok (.iaload, 1) := by decide +kernel
theorem dL_law_2453 : decode cL_law 2453 = .ok (.aload_n 3, 1) := by decide +kernel
theorem dL_law_2454 : decode cL_law 2454 = .ok (.invokestatic 313, 3) := by decide +kernel
theorem dL_law_2457 : decode cL_law 2457 = .ok (.istore 6, 2) := by decide +kernel
theorem dL_law_2459 : decode cL_law 2459 = .ok (.aload_n 2, 1) := by decide +kernel
theorem dL_law_2460 : decode cL_law 2460 = .ok (.aload_n 0, 1) := by decide +kernel
theorem dL_law_2461 : decode cL_law 2461 = .ok (.iload 5, 2) := by decide +kernel
theorem dL_law_2463 : decode cL_law 2463 = .ok (.iconst 1, 1) := by decide +kernel
theorem dL_law_2464 : decode cL_law 2464 = .ok (.iadd, 1) := by decide +kernel
theorem dL_law_2465 : decode cL_law 2465 = .ok (.iaload, 1) := by decide +kernel
theorem dL_law_2466 : decode cL_law 2466 = .ok (.invokevirtual 315, 3) := by decide +kernel
theorem dL_law_2469 : decode cL_law 2469 = .ok (.istore 7, 2) := by decide +kernel
theorem dL_law_2471 : decode cL_law 2471 = .ok (.aload_n 2, 1) := by decide +kernel
theorem dL_law_2472 : decode cL_law 2472 = .ok (.invokevirtual 203, 3) := by decide +kernel
theorem dL_law_2475 : decode cL_law 2475 = .ok (.iload 6, 2) := by decide +kernel
theorem dL_law_2477 : decode cL_law 2477 = .ok (.if_icmp .eq 5, 3) := by decide +kernel
theorem dL_law_2480 : decode cL_law 2480 = .ok (.iconst 0, 1) := by decide +kernel
theorem dL_law_2481 : decode cL_law 2481 = .ok (.ireturn, 1) := by decide +kernel
theorem dL_law_2482 : decode cL_law 2482 = .ok (.iload 6, 2) := by decide +kernel
theorem dL_law_2484 : decode cL_law 2484 = .ok (.ifCond .ne 15, 3) := by decide +kernel
theorem dL_law_2487 : decode cL_law 2487 = .ok (.aload_n 3, 1) := by decide +kernel
theorem dL_law_2488 : decode cL_law 2488 = .ok (.iconst 0, 1) := by decide +kernel
theorem dL_law_2489 : decode cL_law 2489 = .ok (.laload, 1) := by decide +kernel
theorem dL_law_2490 : decode cL_law 2490 = .ok (.iload 7, 2) := by decide +kernel
theorem dL_law_2492 : decode cL_law 2492 = .ok (.i2l, 1) := by decide +kernel
theorem dL_law_2493 : decode cL_law 2493 = .ok (.lcmp, 1) := by decide +kernel
theorem dL_law_2494 : decode cL_law 2494 = .ok (.ifCond .eq 5, 3) := by decide +kernel
theorem dL_law_2497 : decode cL_law 2497 = .ok (.iconst 0, 1) := by decide +kernel
theorem dL_law_2498 : decode cL_law 2498 = .ok (.ireturn, 1) := by decide +kernel
theorem dL_law_2499 : decode cL_law 2499 = .ok (.goto 1091, 3) := by decide +kernel
theorem dL_law_2502 : decode cL_law 2502 = .ok (.aload_n 1, 1) := by decide +kernel
theorem dL_law_2503 : decode cL_law 2503 = .ok (.aload_n 0, 1) := by decide +kernel
theorem dL_law_2504 : decode cL_law 2504 = .ok (.iload 5, 2) := by decide +kernel
theorem dL_law_2506 : decode cL_law 2506 = .ok (.iconst 1, 1) := by decide +kernel
theorem dL_law_2507 : decode cL_law 2507 = .ok (.iadd, 1) := by decide +kernel
theorem dL_law_2508 : decode cL_law 2508 = .ok (.iaload, 1) := by decide +kernel
theorem dL_law_2509 : decode cL_law 2509 = .ok (.aload_n 0, 1) := by decide +kernel
theorem dL_law_2510 : decode cL_law 2510 = .ok (.iload 5, 2) := by decide +kernel
theorem dL_law_2512 : decode cL_law 2512 = .ok (.iconst 2, 1) := by decide +kernel
theorem dL_law_2513 : decode cL_law 2513 = .ok (.iadd, 1) := by decide +kernel
theorem dL_law_2514 : decode cL_law 2514 = .ok (.iaload, 1) := by decide +kernel
theorem dL_law_2515 : decode cL_law 2515 = .ok (.aload_n 3, 1) := by decide +kernel
theorem dL_law_2516 : decode cL_law 2516 = .ok (.invokestatic 316, 3) := by decide +kernel
theorem dL_law_2519 : decode cL_law 2519 = .ok (.istore 6, 2) := by decide +kernel
theorem dL_law_2521 : decode cL_law 2521 = .ok (.aload_n 2, 1) := by decide +kernel
theorem dL_law_2522 : decode cL_law 2522 = .ok (.aload_n 0, 1) := by decide +kernel
theorem dL_law_2523 : decode cL_law 2523 = .ok (.iload 5, 2) := by decide +kernel
theorem dL_law_2525 : decode cL_law 2525 = .ok (.iconst 1, 1) := by decide +kernel
theorem dL_law_2526 : decode cL_law 2526 = .ok (.iadd, 1) := by decide +kernel
theorem dL_law_2527 : decode cL_law 2527 = .ok (.iaload, 1) := by decide +kernel
theorem dL_law_2528 : decode cL_law 2528 = .ok (.aload_n 0, 1) := by decide +kernel
theorem dL_law_2529 : decode cL_law 2529 = .ok (.iload 5, 2) := by decide +kernel
theorem dL_law_2531 : decode cL_law 2531 = .ok (.iconst 2, 1) := by decide +kernel
theorem dL_law_2532 : decode cL_law 2532 = .ok (.iadd, 1) := by decide +kernel
theorem dL_law_2533 : decode cL_law 2533 = .ok (.iaload, 1) := by decide +kernel
theorem dL_law_2534 : decode cL_law 2534 = .ok (.invokevirtual 318, 3) := by decide +kernel
theorem dL_law_2537 : decode cL_law 2537 = .ok (.istore 7, 2) := by decide +kernel
theorem dL_law_2539 : decode cL_law 2539 = .ok (.aload_n 2, 1) := by decide +kernel
theorem dL_law_2540 : decode cL_law 2540 = .ok (.invokevirtual 203, 3) := by decide +kernel
theorem dL_law_2543 : decode cL_law 2543 = .ok (.iload 6, 2) := by decide +kernel
theorem dL_law_2545 : decode cL_law 2545 = .ok (.if_icmp .eq 5, 3) := by decide +kernel
theorem dL_law_2548 : decode cL_law 2548 = .ok (.iconst 0, 1) := by decide +kernel
theorem dL_law_2549 : decode cL_law 2549 = .ok (.ireturn, 1) := by decide +kernel
theorem dL_law_2550 : decode cL_law 2550 = .ok (.iload 6, 2) := by decide +kernel
theorem dL_law_2552 : decode cL_law 2552 = .ok (.ifCond .ne 15, 3) := by decide +kernel
theorem dL_law_2555 : decode cL_law 2555 = .ok (.aload_n 3, 1) := by decide +kernel
theorem dL_law_2556 : decode cL_law 2556 = .ok (.iconst 0, 1) := by decide +kernel
theorem dL_law_2557 : decode cL_law 2557 = .ok (.laload, 1) := by decide +kernel
theorem dL_law_2558 : decode cL_law 2558 = .ok (.iload 7, 2) := by decide +kernel
theorem dL_law_2560 : decode cL_law 2560 = .ok (.i2l, 1) := by decide +kernel
theorem dL_law_2561 : decode cL_law 2561 = .ok (.lcmp, 1) := by decide +kernel
theorem dL_law_2562 : decode cL_law 2562 = .ok (.ifCond .eq 5, 3) := by decide +kernel
theorem dL_law_2565 : decode cL_law 2565 = .ok (.iconst 0, 1) := by decide +kernel
theorem dL_law_2566 : decode cL_law 2566 = .ok (.ireturn, 1) := by decide +kernel
theorem dL_law_2567 : decode cL_law 2567 = .ok (.goto 1023, 3) := by decide +kernel
theorem dL_law_2570 : decode cL_law 2570 = .ok (.aload_n 1, 1) := by decide +kernel
theorem dL_law_2571 : decode cL_law 2571 = .ok (.aload_n 0, 1) := by decide +kernel
theorem dL_law_2572 : decode cL_law 2572 = .ok (.iload 5, 2) := by decide +kernel
theorem dL_law_2574 : decode cL_law 2574 = .ok (.iconst 1, 1) := by decide +kernel
theorem dL_law_2575 : decode cL_law 2575 = .ok (.iadd, 1) := by decide +kernel
theorem dL_law_2576 : decode cL_law 2576 = .ok (.iaload, 1) := by decide +kernel
theorem dL_law_2577 : decode cL_law 2577 = .ok (.aload_n 0, 1) := by decide +kernel
theorem dL_law_2578 : decode cL_law 2578 = .ok (.iload 5, 2) := by decide +kernel
theorem dL_law_2580 : decode cL_law 2580 = .ok (.iconst 2, 1) := by decide +kernel
theorem dL_law_2581 : decode cL_law 2581 = .ok (.iadd, 1) := by decide +kernel
theorem dL_law_2582 : decode cL_law 2582 = .ok (.iaload, 1) := by decide +kernel
theorem dL_law_2583 : decode cL_law 2583 = .ok (.i2c, 1) := by decide +kernel
theorem dL_law_2584 : decode cL_law 2584 = .ok (.aload_n 3, 1) := by decide +kernel
theorem dL_law_2585 : decode cL_law 2585 = .ok (.invokestatic 319, 3) := by decide +kernel
theorem dL_law_2588 : decode cL_law 2588 = .ok (.istore 6, 2) := by decide +kernel
theorem dL_law_2590 : decode cL_law 2590 = .ok (.aload_n 2, 1) := by decide +kernel
theorem dL_law_2591 : decode cL_law 2591 = .ok (.aload_n 0, 1) := by decide +kernel
theorem dL_law_2592 : decode cL_law 2592 = .ok (.iload 5, 2) := by decide +kernel
theorem dL_law_2594 : decode cL_law 2594 = .ok (.iconst 1, 1) := by decide +kernel
theorem dL_law_2595 : decode cL_law 2595 = .ok (.iadd, 1) := by decide +kernel
theorem dL_law_2596 : decode cL_law 2596 = .ok (.iaload, 1) := by decide +kernel
theorem dL_law_2597 : decode cL_law 2597 = .ok (.aload_n 0, 1) := by decide +kernel
theorem dL_law_2598 : decode cL_law 2598 = .ok (.iload 5, 2) := by decide +kernel
theorem dL_law_2600 : decode cL_law 2600 = .ok (.iconst 2, 1) := by decide +kernel
theorem dL_law_2601 : decode cL_law 2601 = .ok (.iadd, 1) := by decide +kernel
theorem dL_law_2602 : decode cL_law 2602 = .ok (.iaload, 1) := by decide +kernel
theorem dL_law_2603 : decode cL_law 2603 = .ok (.i2c, 1) := by decide +kernel
theorem dL_law_2604 : decode cL_law 2604 = .ok (.invokevirtual 321, 3) := by decide +kernel
theorem dL_law_2607 : decode cL_law 2607 = .ok (.istore 7, 2) := by decide +kernel
theorem dL_law_2609 : decode cL_law 2609 = .ok (.aload_n 2, 1) := by decide +kernel
theorem dL_law_2610 : decode cL_law 2610 = .ok (.invokevirtual 203, 3) := by decide +kernel
theorem dL_law_2613 : decode cL_law 2613 = .ok (.iload 6, 2) := by decide +kernel
theorem dL_law_2615 : decode cL_law 2615 = .ok (.if_icmp .eq 5, 3) := by decide +kernel
theorem dL_law_2618 : decode cL_law 2618 = .ok (.iconst 0, 1) := by decide +kernel
theorem dL_law_2619 : decode cL_law 2619 = .ok (.ireturn, 1) := by decide +kernel
theorem dL_law_2620 : decode cL_law 2620 = .ok (.iload 6, 2) := by decide +kernel
theorem dL_law_2622 : decode cL_law 2622 = .ok (.ifCond .ne 22, 3) := by decide +kernel
theorem dL_law_2625 : decode cL_law 2625 = .ok (.aload_n 3, 1) := by decide +kernel
theorem dL_law_2626 : decode cL_law 2626 = .ok (.iconst 0, 1) := by decide +kernel
theorem dL_law_2627 : decode cL_law 2627 = .ok (.laload, 1) := by decide +kernel
theorem dL_law_2628 : decode cL_law 2628 = .ok (.iload 7, 2) := by decide +kernel
theorem dL_law_2630 : decode cL_law 2630 = .ok (.ifCond .eq 7, 3) := by decide +kernel
theorem dL_law_2633 : decode cL_law 2633 = .ok (.lconst 1, 1) := by decide +kernel
theorem dL_law_2634 : decode cL_law 2634 = .ok (.goto 4, 3) := by decide +kernel
theorem dL_law_2637 : decode cL_law 2637 = .ok (.lconst 0, 1) := by decide +kernel
theorem dL_law_2638 : decode cL_law 2638 = .ok (.lcmp, 1) := by decide +kernel
theorem dL_law_2639 : decode cL_law 2639 = .ok (.ifCond .eq 5, 3) := by decide +kernel
theorem dL_law_2642 : decode cL_law 2642 = .ok (.iconst 0, 1) := by decide +kernel
theorem dL_law_2643 : decode cL_law 2643 = .ok (.ireturn, 1) := by decide +kernel
theorem dL_law_2644 : decode cL_law 2644 = .ok (.goto 946, 3) := by decide +kernel
theorem dL_law_2647 : decode cL_law 2647 = .ok (.aload_n 1, 1) := by decide +kernel
theorem dL_law_2648 : decode cL_law 2648 = .ok (.aload_n 0, 1) := by decide +kernel
theorem dL_law_2649 : decode cL_law 2649 = .ok (.iload 5, 2) := by decide +kernel
theorem dL_law_2651 : decode cL_law 2651 = .ok (.iconst 1, 1) := by decide +kernel
theorem dL_law_2652 : decode cL_law 2652 = .ok (.iadd, 1) := by decide +kernel
theorem dL_law_2653 : decode cL_law 2653 = .ok (.iaload, 1) := by decide +kernel
theorem dL_law_2654 : decode cL_law 2654 = .ok (.aload_n 0, 1) := by decide +kernel
theorem dL_law_2655 : decode cL_law 2655 = .ok (.iload 5, 2) := by decide +kernel
theorem dL_law_2657 : decode cL_law 2657 = .ok (.iconst 2, 1) := by decide +kernel
theorem dL_law_2658 : decode cL_law 2658 = .ok (.iadd, 1) := by decide +kernel
theorem dL_law_2659 : decode cL_law 2659 = .ok (.iaload, 1) := by decide +kernel
theorem dL_law_2660 : decode cL_law 2660 = .ok (.aload_n 3, 1) := by decide +kernel
theorem dL_law_2661 : decode cL_law 2661 = .ok (.invokestatic 322, 3) := by decide +kernel
theorem dL_law_2664 : decode cL_law 2664 = .ok (.istore 6, 2) := by decide +kernel
theorem dL_law_2666 : decode cL_law 2666 = .ok (.aload_n 2, 1) := by decide +kernel
theorem dL_law_2667 : decode cL_law 2667 = .ok (.aload_n 0, 1) := by decide +kernel
theorem dL_law_2668 : decode cL_law 2668 = .ok (.iload 5, 2) := by decide +kernel
theorem dL_law_2670 : decode cL_law 2670 = .ok (.iconst 1, 1) := by decide +kernel
theorem dL_law_2671 : decode cL_law 2671 = .ok (.iadd, 1) := by decide +kernel
theorem dL_law_2672 : decode cL_law 2672 = .ok (.iaload, 1) := by decide +kernel
theorem dL_law_2673 : decode cL_law 2673 = .ok (.aload_n 0, 1) := by decide +kernel
theorem dL_law_2674 : decode cL_law 2674 = .ok (.iload 5, 2) := by decide +kernel
theorem dL_law_2676 : decode cL_law 2676 = .ok (.iconst 2, 1) := by decide +kernel
theorem dL_law_2677 : decode cL_law 2677 = .ok (.iadd, 1) := by decide +kernel
theorem dL_law_2678 : decode cL_law 2678 = .ok (.iaload, 1) := by decide +kernel
theorem dL_law_2679 : decode cL_law 2679 = .ok (.invokevirtual 324, 3) := by decide +kernel
theorem dL_law_2682 : decode cL_law 2682 = .ok (.istore 7, 2) := by decide +kernel
theorem dL_law_2684 : decode cL_law 2684 = .ok (.aload_n 2, 1) := by decide +kernel
theorem dL_law_2685 : decode cL_law 2685 = .ok (.invokevirtual 203, 3) := by decide +kernel
theorem dL_law_2688 : decode cL_law 2688 = .ok (.iload 6, 2) := by decide +kernel
theorem dL_law_2690 : decode cL_law 2690 = .ok (.if_icmp .eq 5, 3) := by decide +kernel
theorem dL_law_2693 : decode cL_law 2693 = .ok (.iconst 0, 1) := by decide +kernel
theorem dL_law_2694 : decode cL_law 2694 = .ok (.ireturn, 1) := by decide +kernel
theorem dL_law_2695 : decode cL_law 2695 = .ok (.iload 6, 2) := by decide +kernel
theorem dL_law_2697 : decode cL_law 2697 = .ok (.ifCond .ne 22, 3) := by decide +kernel
theorem dL_law_2700 : decode cL_law 2700 = .ok (.aload_n 3, 1) := by decide +kernel
theorem dL_law_2701 : decode cL_law 2701 = .ok (.iconst 0, 1) := by decide +kernel
theorem dL_law_2702 : decode cL_law 2702 = .ok (.laload, 1) := by decide +kernel
theorem dL_law_2703 : decode cL_law 2703 = .ok (.iload 7, 2) := by decide +kernel
theorem dL_law_2705 : decode cL_law 2705 = .ok (.ifCond .eq 7, 3) := by decide +kernel
theorem dL_law_2708 : decode cL_law 2708 = .ok (.lconst 1, 1) := by decide +kernel
theorem dL_law_2709 : decode cL_law 2709 = .ok (.goto 4, 3) := by decide +kernel
theorem dL_law_2712 : decode cL_law 2712 = .ok (.lconst 0, 1) := by decide +kernel
theorem dL_law_2713 : decode cL_law 2713 = .ok (.lcmp, 1) := by decide +kernel
theorem dL_law_2714 : decode cL_law 2714 = .ok (.ifCond .eq 5, 3) := by decide +kernel
theorem dL_law_2717 : decode cL_law 2717 = .ok (.iconst 0, 1) := by decide +kernel
theorem dL_law_2718 : decode cL_law 2718 = .ok (.ireturn, 1) := by decide +kernel
theorem dL_law_2719 : decode cL_law 2719 = .ok (.goto 871, 3) := by decide +kernel
theorem dL_law_2722 : decode cL_law 2722 = .ok (.aload_n 1, 1) := by decide +kernel
theorem dL_law_2723 : decode cL_law 2723 = .ok (.aload_n 0, 1) := by decide +kernel
theorem dL_law_2724 : decode cL_law 2724 = .ok (.iload 5, 2) := by decide +kernel
theorem dL_law_2726 : decode cL_law 2726 = .ok (.iconst 1, 1) := by decide +kernel
theorem dL_law_2727 : decode cL_law 2727 = .ok (.iadd, 1) := by decide +kernel
theorem dL_law_2728 : decode cL_law 2728 = .ok (.iaload, 1) := by decide +kernel
theorem dL_law_2729 : decode cL_law 2729 = .ok (.aload_n 3, 1) := by decide +kernel
theorem dL_law_2730 : decode cL_law 2730 = .ok (.invokestatic 325, 3) := by decide +kernel
theorem dL_law_2733 : decode cL_law 2733 = .ok (.istore 6, 2) := by decide +kernel
theorem dL_law_2735 : decode cL_law 2735 = .ok (.aload_n 2, 1) := by decide +kernel
theorem dL_law_2736 : decode cL_law 2736 = .ok (.aload_n 0, 1) := by decide +kernel
theorem dL_law_2737 : decode cL_law 2737 = .ok (.iload 5, 2) := by decide +kernel
theorem dL_law_2739 : decode cL_law 2739 = .ok (.iconst 1, 1) := by decide +kernel
theorem dL_law_2740 : decode cL_law 2740 = .ok (.iadd, 1) := by decide +kernel
theorem dL_law_2741 : decode cL_law 2741 = .ok (.iaload, 1) := by decide +kernel
theorem dL_law_2742 : decode cL_law 2742 = .ok (.invokevirtual 327, 3) := by decide +kernel
theorem dL_law_2745 : decode cL_law 2745 = .ok (.istore 7, 2) := by decide +kernel
theorem dL_law_2747 : decode cL_law 2747 = .ok (.aload_n 2, 1) := by decide +kernel
theorem dL_law_2748 : decode cL_law 2748 = .ok (.invokevirtual 203, 3) := by decide +kernel
theorem dL_law_2751 : decode cL_law 2751 = .ok (.iload 6, 2) := by decide +kernel
theorem dL_law_2753 : decode cL_law 2753 = .ok (.if_icmp .eq 5, 3) := by decide +kernel
theorem dL_law_2756 : decode cL_law 2756 = .ok (.iconst 0, 1) := by decide +kernel
theorem dL_law_2757 : decode cL_law 2757 = .ok (.ireturn, 1) := by decide +kernel
theorem dL_law_2758 : decode cL_law 2758 = .ok (.iload 6, 2) := by decide +kernel
theorem dL_law_2760 : decode cL_law 2760 = .ok (.ifCond .ne 15, 3) := by decide +kernel
theorem dL_law_2763 : decode cL_law 2763 = .ok (.aload_n 3, 1) := by decide +kernel
theorem dL_law_2764 : decode cL_law 2764 = .ok (.iconst 0, 1) := by decide +kernel
theorem dL_law_2765 : decode cL_law 2765 = .ok (.laload, 1) := by decide +kernel
theorem dL_law_2766 : decode cL_law 2766 = .ok (.iload 7, 2) := by decide +kernel
theorem dL_law_2768 : decode cL_law 2768 = .ok (.i2l, 1) := by decide +kernel
theorem dL_law_2769 : decode cL_law 2769 = .ok (.lcmp, 1) := by decide +kernel
theorem dL_law_2770 : decode cL_law 2770 = .ok (.ifCond .eq 5, 3) := by decide +kernel
theorem dL_law_2773 : decode cL_law 2773 = .ok (.iconst 0, 1) := by decide +kernel
theorem dL_law_2774 : decode cL_law 2774 = .ok (.ireturn, 1) := by decide +kernel
theorem dL_law_2775 : decode cL_law 2775 = .ok (.goto 815, 3) := by decide +kernel
theorem dL_law_2778 : decode cL_law 2778 = .ok (.aload_n 1, 1) := by decide +kernel
theorem dL_law_2779 : decode cL_law 2779 = .ok (.invokevirtual 328, 3) := by decide +kernel
theorem dL_law_2782 : decode cL_law 2782 = .ok (.aload_n 2, 1) := by decide +kernel
theorem dL_law_2783 : decode cL_law 2783 = .ok (.invokevirtual 331, 3) := by decide +kernel
theorem dL_law_2786 : decode cL_law 2786 = .ok (.if_icmp .eq 804, 3) := by decide +kernel
theorem dL_law_2789 : decode cL_law 2789 = .ok (.iconst 0, 1) := by decide +kernel
theorem dL_law_2790 : decode cL_law 2790 = .ok (.ireturn, 1) := by decide +kernel
theorem dL_law_2791 : decode cL_law 2791 = .ok (.aload_n 1, 1) := by decide +kernel
theorem dL_law_2792 : decode cL_law 2792 = .ok (.aload_n 0, 1) := by decide +kernel
theorem dL_law_2793 : decode cL_law 2793 = .ok (.iload 5, 2) := by decide +kernel
theorem dL_law_2795 : decode cL_law 2795 = .ok (.iconst 1, 1) := by decide +kernel
theorem dL_law_2796 : decode cL_law 2796 = .ok (.iadd, 1) := by decide +kernel
theorem dL_law_2797 : decode cL_law 2797 = .ok (.iaload, 1) := by decide +kernel
theorem dL_law_2798 : decode cL_law 2798 = .ok (.aload_n 3, 1) := by decide +kernel
theorem dL_law_2799 : decode cL_law 2799 = .ok (.invokestatic 332, 3) := by decide +kernel
theorem dL_law_2802 : decode cL_law 2802 = .ok (.istore 6, 2) := by decide +kernel
theorem dL_law_2804 : decode cL_law 2804 = .ok (.aload_n 2, 1) := by decide +kernel
theorem dL_law_2805 : decode cL_law 2805 = .ok (.aload_n 0, 1) := by decide +kernel
theorem dL_law_2806 : decode cL_law 2806 = .ok (.iload 5, 2) := by decide +kernel
theorem dL_law_2808 : decode cL_law 2808 = .ok (.iconst 1, 1) := by decide +kernel
theorem dL_law_2809 : decode cL_law 2809 = .ok (.iadd, 1) := by decide +kernel
theorem dL_law_2810 : decode cL_law 2810 = .ok (.iaload, 1) := by decide +kernel
theorem dL_law_2811 : decode cL_law 2811 = .ok (.invokevirtual 334, 3) := by decide +kernel
theorem dL_law_2814 : decode cL_law 2814 = .ok (.istore 7, 2) := by decide +kernel
theorem dL_law_2816 : decode cL_law 2816 = .ok (.aload_n 2, 1) := by decide +kernel
theorem dL_law_2817 : decode cL_law 2817 = .ok (.invokevirtual 203, 3) := by decide +kernel
theorem dL_law_2820 : decode cL_law 2820 = .ok (.iload 6, 2) := by decide +kernel
theorem dL_law_2822 : decode cL_law 2822 = .ok (.if_icmp .eq 5, 3) := by decide +kernel
theorem dL_law_2825 : decode cL_law 2825 = .ok (.iconst 0, 1) := by decide +kernel
theorem dL_law_2826 : decode cL_law 2826 = .ok (.ireturn, 1) := by decide +kernel
theorem dL_law_2827 : decode cL_law 2827 = .ok (.iload 6, 2) := by decide +kernel
theorem dL_law_2829 : decode cL_law 2829 = .ok (.ifCond .ne 15, 3) := by decide +kernel
theorem dL_law_2832 : decode cL_law 2832 = .ok (.aload_n 3, 1) := by decide +kernel
theorem dL_law_2833 : decode cL_law 2833 = .ok (.iconst 0, 1) := by decide +kernel
theorem dL_law_2834 : decode cL_law 2834 = .ok (.laload, 1) := by decide +kernel
theorem dL_law_2835 : decode cL_law 2835 = .ok (.iload 7, 2) := by decide +kernel
theorem dL_law_2837 : decode cL_law 2837 = .ok (.i2l, 1) := by decide +kernel
theorem dL_law_2838 : decode cL_law 2838 = .ok (.lcmp, 1) := by decide +kernel
theorem dL_law_2839 : decode cL_law 2839 = .ok (.ifCond .eq 5, 3) := by decide +kernel
theorem dL_law_2842 : decode cL_law 2842 = .ok (.iconst 0, 1) := by decide +kernel
theorem dL_law_2843 : decode cL_law 2843 = .ok (.ireturn, 1) := by decide +kernel
theorem dL_law_2844 : decode cL_law 2844 = .ok (.goto 746, 3) := by decide +kernel
theorem dL_law_2847 : decode cL_law 2847 = .ok (.aload_n 1, 1) := by decide +kernel
theorem dL_law_2848 : decode cL_law 2848 = .ok (.invokevirtual 335, 3) := by decide +kernel
theorem dL_law_2851 : decode cL_law 2851 = .ok (.aload_n 2, 1) := by decide +kernel
theorem dL_law_2852 : decode cL_law 2852 = .ok (.invokevirtual 338, 3) := by decide +kernel
theorem dL_law_2855 : decode cL_law 2855 = .ok (.if_icmp .eq 735, 3) := by decide +kernel
theorem dL_law_2858 : decode cL_law 2858 = .ok (.iconst 0, 1) := by decide +kernel
theorem dL_law_2859 : decode cL_law 2859 = .ok (.ireturn, 1) := by decide +kernel
theorem dL_law_2860 : decode cL_law 2860 = .ok (.aload_n 1, 1) := by decide +kernel
theorem dL_law_2861 : decode cL_law 2861 = .ok (.invokevirtual 339, 3) := by decide +kernel
theorem dL_law_2864 : decode cL_law 2864 = .ok (.aload_n 2, 1) := by decide +kernel
theorem dL_law_2865 : decode cL_law 2865 = .ok (.invokevirtual 342, 3) := by decide +kernel
theorem dL_law_2868 : decode cL_law 2868 = .ok (.if_icmp .eq 722, 3) := by decide +kernel
theorem dL_law_2871 : decode cL_law 2871 = .ok (.iconst 0, 1) := by decide +kernel
theorem dL_law_2872 : decode cL_law 2872 = .ok (.ireturn, 1) := by decide +kernel
theorem dL_law_2873 : decode cL_law 2873 = .ok (.aload_n 1, 1) := by decide +kernel
theorem dL_law_2874 : decode cL_law 2874 = .ok (.invokevirtual 343, 3) := by decide +kernel
theorem dL_law_2877 : decode cL_law 2877 = .ok (.aload_n 2, 1) := by decide +kernel
theorem dL_law_2878 : decode cL_law 2878 = .ok (.invokevirtual 346, 3) := by decide +kernel
theorem dL_law_2881 : decode cL_law 2881 = .ok (.if_icmp .eq 709, 3) := by decide +kernel
theorem dL_law_2884 : decode cL_law 2884 = .ok (.iconst 0, 1) := by decide +kernel
theorem dL_law_2885 : decode cL_law 2885 = .ok (.ireturn, 1) := by decide +kernel
theorem dL_law_2886 : decode cL_law 2886 = .ok (.aload_n 1, 1) := by decide +kernel
theorem dL_law_2887 : decode cL_law 2887 = .ok (.invokevirtual 347, 3) := by decide +kernel
theorem dL_law_2890 : decode cL_law 2890 = .ok (.aload_n 2, 1) := by decide +kernel
theorem dL_law_2891 : decode cL_law 2891 = .ok (.invokevirtual 350, 3) := by decide +kernel
theorem dL_law_2894 : decode cL_law 2894 = .ok (.if_icmp .eq 696, 3) := by decide +kernel
theorem dL_law_2897 : decode cL_law 2897 = .ok (.iconst 0, 1) := by decide +kernel
theorem dL_law_2898 : decode cL_law 2898 = .ok (.ireturn, 1) := by decide +kernel
theorem dL_law_2899 : decode cL_law 2899 = .ok (.aload_n 1, 1) := by decide +kernel
theorem dL_law_2900 : decode cL_law 2900 = .ok (.aload_n 0, 1) := by decide +kernel
theorem dL_law_2901 : decode cL_law 2901 = .ok (.iload 5, 2) := by decide +kernel
theorem dL_law_2903 : decode cL_law 2903 = .ok (.iconst 1, 1) := by decide +kernel
theorem dL_law_2904 : decode cL_law 2904 = .ok (.iadd, 1) := by decide +kernel
theorem dL_law_2905 : decode cL_law 2905 = .ok (.iaload, 1) := by decide +kernel
theorem dL_law_2906 : decode cL_law 2906 = .ok (.aload_n 3, 1) := by decide +kernel
theorem dL_law_2907 : decode cL_law 2907 = .ok (.invokestatic 351, 3) := by decide +kernel
theorem dL_law_2910 : decode cL_law 2910 = .ok (.istore 6, 2) := by decide +kernel
theorem dL_law_2912 : decode cL_law 2912 = .ok (.aload_n 2, 1) := by decide +kernel
theorem dL_law_2913 : decode cL_law 2913 = .ok (.aload_n 0, 1) := by decide +kernel
theorem dL_law_2914 : decode cL_law 2914 = .ok (.iload 5, 2) := by decide +kernel
theorem dL_law_2916 : decode cL_law 2916 = .ok (.iconst 1, 1) := by decide +kernel
theorem dL_law_2917 : decode cL_law 2917 = .ok (.iadd, 1) := by decide +kernel
theorem dL_law_2918 : decode cL_law 2918 = .ok (.iaload, 1) := by decide +kernel
theorem dL_law_2919 : decode cL_law 2919 = .ok (.invokevirtual 353, 3) := by decide +kernel
theorem dL_law_2922 : decode cL_law 2922 = .ok (.istore 7, 2) := by decide +kernel
theorem dL_law_2924 : decode cL_law 2924 = .ok (.aload_n 2, 1) := by decide +kernel
theorem dL_law_2925 : decode cL_law 2925 = .ok (.invokevirtual 203, 3) := by decide +kernel
theorem dL_law_2928 : decode cL_law 2928 = .ok (.iload 6, 2) := by decide +kernel
theorem dL_law_2930 : decode cL_law 2930 = .ok (.if_icmp .eq 5, 3) := by decide +kernel
theorem dL_law_2933 : decode cL_law 2933 = .ok (.iconst 0, 1) := by decide +kernel
theorem dL_law_2934 : decode cL_law 2934 = .ok (.ireturn, 1) := by decide +kernel
theorem dL_law_2935 : decode cL_law 2935 = .ok (.iload 6, 2) := by decide +kernel
theorem dL_law_2937 : decode cL_law 2937 = .ok (.ifCond .ne 15, 3) := by decide +kernel
theorem dL_law_2940 : decode cL_law 2940 = .ok (.aload_n 3, 1) := by decide +kernel
theorem dL_law_2941 : decode cL_law 2941 = .ok (.iconst 0, 1) := by decide +kernel
theorem dL_law_2942 : decode cL_law 2942 = .ok (.laload, 1) := by decide +kernel
theorem dL_law_2943 : decode cL_law 2943 = .ok (.iload 7, 2) := by decide +kernel
theorem dL_law_2945 : decode cL_law 2945 = .ok (.i2l, 1) := by decide +kernel
theorem dL_law_2946 : decode cL_law 2946 = .ok (.lcmp, 1) := by decide +kernel
theorem dL_law_2947 : decode cL_law 2947 = .ok (.ifCond .eq 5, 3) := by decide +kernel
theorem dL_law_2950 : decode cL_law 2950 = .ok (.iconst 0, 1) := by decide +kernel
theorem dL_law_2951 : decode cL_law 2951 = .ok (.ireturn, 1) := by decide +kernel
theorem dL_law_2952 : decode cL_law 2952 = .ok (.goto 638, 3) := by decide +kernel
theorem dL_law_2955 : decode cL_law 2955 = .ok (.aload_n 1, 1) := by decide +kernel
theorem dL_law_2956 : decode cL_law 2956 = .ok (.aload 4, 2) := by decide +kernel
theorem dL_law_2958 : decode cL_law 2958 = .ok (.invokestatic 354, 3) := by decide +kernel
theorem dL_law_2961 : decode cL_law 2961 = .ok (.istore 6, 2) := by decide +kernel
theorem dL_law_2963 : decode cL_law 2963 = .ok (.aload_n 2, 1) := by decide +kernel
theorem dL_law_2964 : decode cL_law 2964 = .ok (.invokevirtual 357, 3) := by decide +kernel
theorem dL_law_2967 : decode cL_law 2967 = .ok (.dstore 7, 2) := by decide +kernel
theorem dL_law_2969 : decode cL_law 2969 = .ok (.aload_n 2, 1) := by decide +kernel
theorem dL_law_2970 : decode cL_law 2970 = .ok (.invokevirtual 203, 3) := by decide +kernel
theorem dL_law_2973 : decode cL_law 2973 = .ok (.iload 6, 2) := by decide +kernel
theorem dL_law_2975 : decode cL_law 2975 = .ok (.if_icmp .eq 5, 3) := by decide +kernel
theorem dL_law_2978 : decode cL_law 2978 = .ok (.iconst 0, 1) := by decide +kernel
theorem dL_law_2979 : decode cL_law 2979 = .ok (.ireturn, 1) := by decide +kernel
theorem dL_law_2980 : decode cL_law 2980 = .ok (.iload 6, 2) := by decide +kernel
theorem dL_law_2982 : decode cL_law 2982 = .ok (.ifCond .ne 35, 3) := by decide +kernel
theorem dL_law_2985 : decode cL_law 2985 = .ok (.aload 4, 2) := by decide +kernel
theorem dL_law_2987 : decode cL_law 2987 = .ok (.iconst 0, 1) := by decide +kernel
theorem dL_law_2988 : decode cL_law 2988 = .ok (.daload, 1) := by decide +kernel
theorem dL_law_2989 : decode cL_law 2989 = .ok (.dload 7, 2) := by decide +kernel
theorem dL_law_2991 : decode cL_law 2991 = .ok (.dcmp .l, 1) := by decide +kernel
theorem dL_law_2992 : decode cL_law 2992 = .ok (.ifCond .eq 25, 3) := by decide +kernel
theorem dL_law_2995 : decode cL_law 2995 = .ok (.aload 4, 2) := by decide +kernel
theorem dL_law_2997 : decode cL_law 2997 = .ok (.iconst 0, 1) := by decide +kernel
theorem dL_law_2998 : decode cL_law 2998 = .ok (.daload, 1) := by decide +kernel
theorem dL_law_2999 : decode cL_law 2999 = .ok (.aload 4, 2) := by decide +kernel
theorem dL_law_3001 : decode cL_law 3001 = .ok (.iconst 0, 1) := by decide +kernel
theorem dL_law_3002 : decode cL_law 3002 = .ok (.daload, 1) := by decide +kernel
theorem dL_law_3003 : decode cL_law 3003 = .ok (.dcmp .l, 1) := by decide +kernel
theorem dL_law_3004 : decode cL_law 3004 = .ok (.ifCond .eq 11, 3) := by decide +kernel
theorem dL_law_3007 : decode cL_law 3007 = .ok (.dload 7, 2) := by decide +kernel
theorem dL_law_3009 : decode cL_law 3009 = .ok (.dload 7, 2) := by decide +kernel
theorem dL_law_3011 : decode cL_law 3011 = .ok (.dcmp .l, 1) := by decide +kernel
theorem dL_law_3012 : decode cL_law 3012 = .ok (.ifCond .ne 5, 3) := by decide +kernel
theorem dL_law_3015 : decode cL_law 3015 = .ok (.iconst 0, 1) := by decide +kernel
theorem dL_law_3016 : decode cL_law 3016 = .ok (.ireturn, 1) := by decide +kernel
theorem dL_law_3017 : decode cL_law 3017 = .ok (.goto 573, 3) := by decide +kernel
theorem dL_law_3020 : decode cL_law 3020 = .ok (.aload_n 1, 1) := by decide +kernel
theorem dL_law_3021 : decode cL_law 3021 = .ok (.aload 4, 2) := by decide +kernel
theorem dL_law_3023 : decode cL_law 3023 = .ok (.invokestatic 358, 3) := by decide +kernel
theorem dL_law_3026 : decode cL_law 3026 = .ok (.istore 6, 2) := by decide +kernel
theorem dL_law_3028 : decode cL_law 3028 = .ok (.aload_n 2, 1) := by decide +kernel
theorem dL_law_3029 : decode cL_law 3029 = .ok (.invokevirtual 360, 3) := by decide +kernel
theorem dL_law_3032 : decode cL_law 3032 = .ok (.fstore 7, 2) := by decide +kernel
theorem dL_law_3034 : decode cL_law 3034 = .ok (.aload_n 2, 1) := by decide +kernel
theorem dL_law_3035 : decode cL_law 3035 = .ok (.invokevirtual 203, 3) := by decide +kernel
theorem dL_law_3038 : decode cL_law 3038 = .ok (.iload 6, 2) := by decide +kernel
theorem dL_law_3040 : decode cL_law 3040 = .ok (.if_icmp .eq 5, 3) := by decide +kernel
theorem dL_law_3043 : decode cL_law 3043 = .ok (.iconst 0, 1) := by decide +kernel
theorem dL_law_3044 : decode cL_law 3044 = .ok (.ireturn, 1) := by decide +kernel
theorem dL_law_3045 : decode cL_law 3045 = .ok (.iload 6, 2) := by decide +kernel
theorem dL_law_3047 : decode cL_law 3047 = .ok (.ifCond .ne 36, 3) := by decide +kernel
theorem dL_law_3050 : decode cL_law 3050 = .ok (.aload 4, 2) := by decide +kernel
theorem dL_law_3052 : decode cL_law 3052 = .ok (.iconst 0, 1) := by decide +kernel
theorem dL_law_3053 : decode cL_law 3053 = .ok (.daload, 1) := by decide +kernel
theorem dL_law_3054 : decode cL_law 3054 = .ok (.fload 7, 2) := by decide +kernel
theorem dL_law_3056 : decode cL_law 3056 = .ok (.f2d, 1) := by decide +kernel
theorem dL_law_3057 : decode cL_law 3057 = .ok (.dcmp .l, 1) := by decide +kernel
theorem dL_law_3058 : decode cL_law 3058 = .ok (.ifCond .eq 25, 3) := by decide +kernel
theorem dL_law_3061 : decode cL_law 3061 = .ok (.aload 4, 2) := by decide +kernel
theorem dL_law_3063 : decode cL_law 3063 = .ok (.iconst 0, 1) := by decide +kernel
theorem dL_law_3064 : decode cL_law 3064 = .ok (.daload, 1) := by decide +kernel
theorem dL_law_3065 : decode cL_law 3065 = .ok (.aload 4, 2) := by decide +kernel
theorem dL_law_3067 : decode cL_law 3067 = .ok (.iconst 0, 1) := by decide +kernel
theorem dL_law_3068 : decode cL_law 3068 = .ok (.daload, 1) := by decide +kernel
theorem dL_law_3069 : decode cL_law 3069 = .ok (.dcmp .l, 1) := by decide +kernel
theorem dL_law_3070 : decode cL_law 3070 = .ok (.ifCond .eq 11, 3) := by decide +kernel
theorem dL_law_3073 : decode cL_law 3073 = .ok (.fload 7, 2) := by decide +kernel
theorem dL_law_3075 : decode cL_law 3075 = .ok (.fload 7, 2) := by decide +kernel
theorem dL_law_3077 : decode cL_law 3077 = .ok (.fcmp .l, 1) := by decide +kernel
theorem dL_law_3078 : decode cL_law 3078 = .ok (.ifCond .ne 5, 3) := by decide +kernel
theorem dL_law_3081 : decode cL_law 3081 = .ok (.iconst 0, 1) := by decide +kernel
theorem dL_law_3082 : decode cL_law 3082 = .ok (.ireturn, 1) := by decide +kernel
theorem dL_law_3083 : decode cL_law 3083 = .ok (.goto 507, 3) := by decide +kernel
theorem dL_law_3086 : decode cL_law 3086 = .ok (.aload_n 1, 1) := by decide +kernel
theorem dL_law_3087 : decode cL_law 3087 = .ok (.invokevirtual 361, 3) := by decide +kernel
theorem dL_law_3090 : decode cL_law 3090 = .ok (.aload_n 2, 1) := by decide +kernel
theorem dL_law_3091 : decode cL_law 3091 = .ok (.invokevirtual 365, 3) := by decide +kernel
theorem dL_law_3094 : decode cL_law 3094 = .ok (.if_icmp .eq 496, 3) := by decide +kernel
theorem dL_law_3097 : decode cL_law 3097 = .ok (.iconst 0, 1) := by decide +kernel
theorem dL_law_3098 : decode cL_law 3098 = .ok (.ireturn, 1) := by decide +kernel
theorem dL_law_3099 : decode cL_law 3099 = .ok (.aload_n 1, 1) := by decide +kernel
theorem dL_law_3100 : decode cL_law 3100 = .ok (.aload_n 0, 1) := by decide +kernel
theorem dL_law_3101 : decode cL_law 3101 = .ok (.iload 5, 2) := by decide +kernel
theorem dL_law_3103 : decode cL_law 3103 = .ok (.iconst 1, 1) := by decide +kernel
theorem dL_law_3104 : decode cL_law 3104 = .ok (.iadd, 1) := by decide +kernel
theorem dL_law_3105 : decode cL_law 3105 = .ok (.iaload, 1) := by decide +kernel
theorem dL_law_3106 : decode cL_law 3106 = .ok (.aload_n 3, 1) := by decide +kernel
theorem dL_law_3107 : decode cL_law 3107 = .ok (.invokestatic 366, 3) := by decide +kernel
theorem dL_law_3110 : decode cL_law 3110 = .ok (.istore 6, 2) := by decide +kernel
theorem dL_law_3112 : decode cL_law 3112 = .ok (.aload_n 2, 1) := by decide +kernel
theorem dL_law_3113 : decode cL_law 3113 = .ok (.aload_n 0, 1) := by decide +kernel
theorem dL_law_3114 : decode cL_law 3114 = .ok (.iload 5, 2) := by decide +kernel
theorem dL_law_3116 : decode cL_law 3116 = .ok (.iconst 1, 1) := by decide +kernel
theorem dL_law_3117 : decode cL_law 3117 = .ok (.iadd, 1) := by decide +kernel
theorem dL_law_3118 : decode cL_law 3118 = .ok (.iaload, 1) := by decide +kernel
theorem dL_law_3119 : decode cL_law 3119 = .ok (.invokevirtual 368, 3) := by decide +kernel
theorem dL_law_3122 : decode cL_law 3122 = .ok (.istore 7, 2) := by decide +kernel
theorem dL_law_3124 : decode cL_law 3124 = .ok (.aload_n 2, 1) := by decide +kernel
theorem dL_law_3125 : decode cL_law 3125 = .ok (.invokevirtual 203, 3) := by decide +kernel
theorem dL_law_3128 : decode cL_law 3128 = .ok (.iload 6, 2) := by decide +kernel
theorem dL_law_3130 : decode cL_law 3130 = .ok (.if_icmp .eq 5, 3) := by decide +kernel
theorem dL_law_3133 : decode cL_law 3133 = .ok (.iconst 0, 1) := by decide +kernel
theorem dL_law_3134 : decode cL_law 3134 = .ok (.ireturn, 1) := by decide +kernel
theorem dL_law_3135 : decode cL_law 3135 = .ok (.iload 6, 2) := by decide +kernel
theorem dL_law_3137 : decode cL_law 3137 = .ok (.ifCond .ne 15, 3) := by decide +kernel
theorem dL_law_3140 : decode cL_law 3140 = .ok (.aload_n 3, 1) := by decide +kernel
theorem dL_law_3141 : decode cL_law 3141 = .ok (.iconst 0, 1) := by decide +kernel
theorem dL_law_3142 : decode cL_law 3142 = .ok (.laload, 1) := by decide +kernel
theorem dL_law_3143 : decode cL_law 3143 = .ok (.iload 7, 2) := by decide +kernel
theorem dL_law_3145 : decode cL_law 3145 = .ok (.i2l, 1) := by decide +kernel
theorem dL_law_3146 : decode cL_law 3146 = .ok (.lcmp, 1) := by decide +kernel
theorem dL_law_3147 : decode cL_law 3147 = .ok (.ifCond .eq 5, 3) := by decide +kernel
theorem dL_law_3150 : decode cL_law 3150 = .ok (.iconst 0, 1) := by decide +kernel
theorem dL_law_3151 : decode cL_law 3151 = .ok (.ireturn, 1) := by decide +kernel
theorem dL_law_3152 : decode cL_law 3152 = .ok (.goto 438, 3) := by decide +kernel
theorem dL_law_3155 : decode cL_law 3155 = .ok (.aload_n 1, 1) := by decide +kernel
theorem dL_law_3156 : decode cL_law 3156 = .ok (.aload_n 0, 1) := by decide +kernel
theorem dL_law_3157 : decode cL_law 3157 = .ok (.iload 5, 2) := by decide +kernel
theorem dL_law_3159 : decode cL_law 3159 = .ok (.iconst 1, 1) := by decide +kernel
theorem dL_law_3160 : decode cL_law 3160 = .ok (.iadd, 1) := by decide +kernel
theorem dL_law_3161 : decode cL_law 3161 = .ok (.iaload, 1) := by decide +kernel
theorem dL_law_3162 : decode cL_law 3162 = .ok (.aload_n 3, 1) := by decide +kernel
theorem dL_law_3163 : decode cL_law 3163 = .ok (.invokestatic 369, 3) := by decide +kernel
theorem dL_law_3166 : decode cL_law 3166 = .ok (.istore 6, 2) := by decide +kernel
theorem dL_law_3168 : decode cL_law 3168 = .ok (.aload_n 2, 1) := by decide +kernel
theorem dL_law_3169 : decode cL_law 3169 = .ok (.aload_n 0, 1) := by decide +kernel
theorem dL_law_3170 : decode cL_law 3170 = .ok (.iload 5, 2) := by decide +kernel
theorem dL_law_3172 : decode cL_law 3172 = .ok (.iconst 1, 1) := by decide +kernel
theorem dL_law_3173 : decode cL_law 3173 = .ok (.iadd, 1) := by decide +kernel
theorem dL_law_3174 : decode cL_law 3174 = .ok (.iaload, 1) := by decide +kernel
theorem dL_law_3175 : decode cL_law 3175 = .ok (.invokevirtual 371, 3) := by decide +kernel
theorem dL_law_3178 : decode cL_law 3178 = .ok (.istore 7, 2) := by decide +kernel
theorem dL_law_3180 : decode cL_law 3180 = .ok (.aload_n 2, 1) := by decide +kernel
theorem dL_law_3181 : decode cL_law 3181 = .ok (.invokevirtual 203, 3) := by decide +kernel
theorem dL_law_3184 : decode cL_law 3184 = .ok (.iload 6, 2) := by decide +kernel
theorem dL_law_3186 : decode cL_law 3186 = .ok (.if_icmp .eq 5, 3) := by decide +kernel
theorem dL_law_3189 : decode cL_law 3189 = .ok (.iconst 0, 1) := by decide +kernel
theorem dL_law_3190 : decode cL_law 3190 = .ok (.ireturn, 1) := by decide +kernel
theorem dL_law_3191 : decode cL_law 3191 = .ok (.iload 6, 2) := by decide +kernel
theorem dL_law_3193 : decode cL_law 3193 = .ok (.ifCond .ne 15, 3) := by decide +kernel
theorem dL_law_3196 : decode cL_law 3196 = .ok (.aload_n 3, 1) := by decide +kernel
theorem dL_law_3197 : decode cL_law 3197 = .ok (.iconst 0, 1) := by decide +kernel
theorem dL_law_3198 : decode cL_law 3198 = .ok (.laload, 1) := by decide +kernel
theorem dL_law_3199 : decode cL_law 3199 = .ok (.iload 7, 2) := by decide +kernel
theorem dL_law_3201 : decode cL_law 3201 = .ok (.i2l, 1) := by decide +kernel
theorem dL_law_3202 : decode cL_law 3202 = .ok (.lcmp, 1) := by decide +kernel
theorem dL_law_3203 : decode cL_law 3203 = .ok (.ifCond .eq 5, 3) := by decide +kernel
theorem dL_law_3206 : decode cL_law 3206 = .ok (.iconst 0, 1) := by decide +kernel
theorem dL_law_3207 : decode cL_law 3207 = .ok (.ireturn, 1) := by decide +kernel
theorem dL_law_3208 : decode cL_law 3208 = .ok (.goto 382, 3) := by decide +kernel
theorem dL_law_3211 : decode cL_law 3211 = .ok (.aload_n 1, 1) := by decide +kernel
theorem dL_law_3212 : decode cL_law 3212 = .ok (.aload_n 0, 1) := by decide +kernel
theorem dL_law_3213 : decode cL_law 3213 = .ok (.iload 5, 2) := by decide +kernel
theorem dL_law_3215 : decode cL_law 3215 = .ok (.iconst 1, 1) := by decide +kernel
theorem dL_law_3216 : decode cL_law 3216 = .ok (.iadd, 1) := by decide +kernel
theorem dL_law_3217 : decode cL_law 3217 = .ok (.iaload, 1) := by decide +kernel
theorem dL_law_3218 : decode cL_law 3218 = .ok (.i2c, 1) := by decide +kernel
theorem dL_law_3219 : decode cL_law 3219 = .ok (.aload_n 3, 1) := by decide +kernel
theorem dL_law_3220 : decode cL_law 3220 = .ok (.invokestatic 372, 3) := by decide +kernel
theorem dL_law_3223 : decode cL_law 3223 = .ok (.istore 6, 2) := by decide +kernel
theorem dL_law_3225 : decode cL_law 3225 = .ok (.aload_n 2, 1) := by decide +kernel
theorem dL_law_3226 : decode cL_law 3226 = .ok (.aload_n 0, 1) := by decide +kernel
theorem dL_law_3227 : decode cL_law 3227 = .ok (.iload 5, 2) := by decide +kernel
theorem dL_law_3229 : decode cL_law 3229 = .ok (.iconst 1, 1) := by decide +kernel
theorem dL_law_3230 : decode cL_law 3230 = .ok (.iadd, 1) := by decide +kernel
theorem dL_law_3231 : decode cL_law 3231 = .ok (.iaload, 1) := by decide +kernel
theorem dL_law_3232 : decode cL_law 3232 = .ok (.i2c, 1) := by decide +kernel
theorem dL_law_3233 : decode cL_law 3233 = .ok (.invokevirtual 375, 3) := by decide +kernel
theorem dL_law_3236 : decode cL_law 3236 = .ok (.istore 7, 2) := by decide +kernel
theorem dL_law_3238 : decode cL_law 3238 = .ok (.aload_n 2, 1) := by decide +kernel
theorem dL_law_3239 : decode cL_law 3239 = .ok (.invokevirtual 203, 3) := by decide +kernel
theorem dL_law_3242 : decode cL_law 3242 = .ok (.iload 6, 2) := by decide +kernel
theorem dL_law_3244 : decode cL_law 3244 = .ok (.if_icmp .eq 5, 3) := by decide +kernel
theorem dL_law_3247 : decode cL_law 3247 = .ok (.iconst 0, 1) := by decide +kernel
theorem dL_law_3248 : decode cL_law 3248 = .ok (.ireturn, 1) := by decide +kernel
theorem dL_law_3249 : decode cL_law 3249 = .ok (.iload 6, 2) := by decide +kernel
theorem dL_law_3251 : decode cL_law 3251 = .ok (.ifCond .ne 15, 3) := by decide +kernel
theorem dL_law_3254 : decode cL_law 3254 = .ok (.aload_n 3, 1) := by decide +kernel
theorem dL_law_3255 : decode cL_law 3255 = .ok (.iconst 0, 1) := by decide +kernel
theorem dL_law_3256 : decode cL_law 3256 = .ok (.laload, 1) := by decide +kernel
theorem dL_law_3257 : decode cL_law 3257 = .ok (.iload 7, 2) := by decide +kernel
theorem dL_law_3259 : decode cL_law 3259 = .ok (.i2l, 1) := by decide +kernel
theorem dL_law_3260 : decode cL_law 3260 = .ok (.lcmp, 1) := by decide +kernel
theorem dL_law_3261 : decode cL_law 3261 = .ok (.ifCond .eq 5, 3) := by decide +kernel
theorem dL_law_3264 : decode cL_law 3264 = .ok (.iconst 0, 1) := by decide +kernel
theorem dL_law_3265 : decode cL_law 3265 = .ok (.ireturn, 1) := by decide +kernel
theorem dL_law_3266 : decode cL_law 3266 = .ok (.goto 324, 3) := by decide +kernel
theorem dL_law_3269 : decode cL_law 3269 = .ok (.aload_n 1, 1) := by decide +kernel
theorem dL_law_3270 : decode cL_law 3270 = .ok (.aload_n 3, 1) := by decide +kernel
theorem dL_law_3271 : decode cL_law 3271 = .ok (.invokestatic 376, 3) := by decide +kernel
theorem dL_law_3274 : decode cL_law 3274 = .ok (.istore 6, 2) := by decide +kernel
theorem dL_law_3276 : decode cL_law 3276 = .ok (.aload_n 2, 1) := by decide +kernel
theorem dL_law_3277 : decode cL_law 3277 = .ok (.invokevirtual 379, 3) := by decide +kernel
theorem dL_law_3280 : decode cL_law 3280 = .ok (.istore 7, 2) := by decide +kernel
theorem dL_law_3282 : decode cL_law 3282 = .ok (.aload_n 2, 1) := by decide +kernel
theorem dL_law_3283 : decode cL_law 3283 = .ok (.invokevirtual 203, 3) := by decide +kernel
theorem dL_law_3286 : decode cL_law 3286 = .ok (.iload 6, 2) := by decide +kernel
theorem dL_law_3288 : decode cL_law 3288 = .ok (.if_icmp .eq 5, 3) := by decide +kernel
theorem dL_law_3291 : decode cL_law 3291 = .ok (.iconst 0, 1) := by decide +kernel
theorem dL_law_3292 : decode cL_law 3292 = .ok (.ireturn, 1) := by decide +kernel
theorem dL_law_3293 : decode cL_law 3293 = .ok (.iload 6, 2) := by decide +kernel
theorem dL_law_3295 : decode cL_law 3295 = .ok (.ifCond .ne 15, 3) := by decide +kernel
theorem dL_law_3298 : decode cL_law 3298 = .ok (.aload_n 3, 1) := by decide +kernel
theorem dL_law_3299 : decode cL_law 3299 = .ok (.iconst 0, 1) := by decide +kernel
theorem dL_law_3300 : decode cL_law 3300 = .ok (.laload, 1) := by decide +kernel
theorem dL_law_3301 : decode cL_law 3301 = .ok (.iload 7, 2) := by decide +kernel
theorem dL_law_3303 : decode cL_law 3303 = .ok (.i2l, 1) := by decide +kernel
theorem dL_law_3304 : decode cL_law 3304 = .ok (.lcmp, 1) := by decide +kernel
theorem dL_law_3305 : decode cL_law 3305 = .ok (.ifCond .eq 5, 3) := by decide +kernel
theorem dL_law_3308 : decode cL_law 3308 = .ok (.iconst 0, 1) := by decide +kernel
theorem dL_law_3309 : decode cL_law 3309 = .ok (.ireturn, 1) := by decide +kernel
theorem dL_law_3310 : decode cL_law 3310 = .ok (.goto 280, 3) := by decide +kernel
theorem dL_law_3313 : decode cL_law 3313 = .ok (.aload_n 1, 1) := by decide +kernel
theorem dL_law_3314 : decode cL_law 3314 = .ok (.aload_n 3, 1) := by decide +kernel
theorem dL_law_3315 : decode cL_law 3315 = .ok (.invokestatic 380, 3) := by decide +kernel
theorem dL_law_3318 : decode cL_law 3318 = .ok (.istore 6, 2) := by decide +kernel
theorem dL_law_3320 : decode cL_law 3320 = .ok (.aload_n 2, 1) := by decide +kernel
theorem dL_law_3321 : decode cL_law 3321 = .ok (.invokevirtual 382, 3) := by decide +kernel
theorem dL_law_3324 : decode cL_law 3324 = .ok (.istore 7, 2) := by decide +kernel
theorem dL_law_3326 : decode cL_law 3326 = .ok (.aload_n 2, 1) := by decide +kernel
theorem dL_law_3327 : decode cL_law 3327 = .ok (.invokevirtual 203, 3) := by decide +kernel
theorem dL_law_3330 : decode cL_law 3330 = .ok (.iload 6, 2) := by decide +kernel
theorem dL_law_3332 : decode cL_law 3332 = .ok (.if_icmp .eq 5, 3) := by decide +kernel
theorem dL_law_3335 : decode cL_law 3335 = .ok (.iconst 0, 1) := by decide +kernel
theorem dL_law_3336 : decode cL_law 3336 = .ok (.ireturn, 1) := by decide +kernel
theorem dL_law_3337 : decode cL_law 3337 = .ok (.iload 6, 2) := by decide +kernel
theorem dL_law_3339 : decode cL_law 3339 = .ok (.ifCond .ne 15, 3) := by decide +kernel
theorem dL_law_3342 : decode cL_law 3342 = .ok (.aload_n 3, 1) := by decide +kernel
theorem dL_law_3343 : decode cL_law 3343 = .ok (.iconst 0, 1) := by decide +kernel
theorem dL_law_3344 : decode cL_law 3344 = .ok (.laload, 1) := by decide +kernel
theorem dL_law_3345 : decode cL_law 3345 = .ok (.iload 7, 2) := by decide +kernel
theorem dL_law_3347 : decode cL_law 3347 = .ok (.i2l, 1) := by decide +kernel
theorem dL_law_3348 : decode cL_law 3348 = .ok (.lcmp, 1) := by decide +kernel
theorem dL_law_3349 : decode cL_law 3349 = .ok (.ifCond .eq 5, 3) := by decide +kernel
theorem dL_law_3352 : decode cL_law 3352 = .ok (.iconst 0, 1) := by decide +kernel
theorem dL_law_3353 : decode cL_law 3353 = .ok (.ireturn, 1) := by decide +kernel
theorem dL_law_3354 : decode cL_law 3354 = .ok (.goto 236, 3) := by decide +kernel
theorem dL_law_3357 : decode cL_law 3357 = .ok (.aload_n 1, 1) := by decide +kernel
theorem dL_law_3358 : decode cL_law 3358 = .ok (.aload_n 3, 1) := by decide +kernel
theorem dL_law_3359 : decode cL_law 3359 = .ok (.invokestatic 383, 3) := by decide +kernel
theorem dL_law_3362 : decode cL_law 3362 = .ok (.istore 6, 2) := by decide +kernel
theorem dL_law_3364 : decode cL_law 3364 = .ok (.aload_n 2, 1) := by decide +kernel
theorem dL_law_3365 : decode cL_law 3365 = .ok (.invokevirtual 385, 3) := by decide +kernel
theorem dL_law_3368 : decode cL_law 3368 = .ok (.istore 7, 2) := by decide +kernel
theorem dL_law_3370 : decode cL_law 3370 = .ok (.aload_n 2, 1) := by decide +kernel
theorem dL_law_3371 : decode cL_law 3371 = .ok (.invokevirtual 203, 3) := by decide +kernel
theorem dL_law_3374 : decode cL_law 3374 = .ok (.iload 6, 2) := by decide +kernel
theorem dL_law_3376 : decode cL_law 3376 = .ok (.if_icmp .eq 5, 3) := by decide +kernel
theorem dL_law_3379 : decode cL_law 3379 = .ok (.iconst 0, 1) := by decide +kernel
theorem dL_law_3380 : decode cL_law 3380 = .ok (.ireturn, 1) := by decide +kernel
theorem dL_law_3381 : decode cL_law 3381 = .ok (.iload 6, 2) := by decide +kernel
theorem dL_law_3383 : decode cL_law 3383 = .ok (.ifCond .ne 15, 3) := by decide +kernel
theorem dL_law_3386 : decode cL_law 3386 = .ok (.aload_n 3, 1) := by decide +kernel
theorem dL_law_3387 : decode cL_law 3387 = .ok (.iconst 0, 1) := by decide +kernel
theorem dL_law_3388 : decode cL_law 3388 = .ok (.laload, 1) := by decide +kernel
theorem dL_law_3389 : decode cL_law 3389 = .ok (.iload 7, 2) := by decide +kernel
theorem dL_law_3391 : decode cL_law 3391 = .ok (.i2l, 1) := by decide +kernel
theorem dL_law_3392 : decode cL_law 3392 = .ok (.lcmp, 1) := by decide +kernel
theorem dL_law_3393 : decode cL_law 3393 = .ok (.ifCond .eq 5, 3) := by decide +kernel
theorem dL_law_3396 : decode cL_law 3396 = .ok (.iconst 0, 1) := by decide +kernel
theorem dL_law_3397 : decode cL_law 3397 = .ok (.ireturn, 1) := by decide +kernel
theorem dL_law_3398 : decode cL_law 3398 = .ok (.goto 192, 3) := by decide +kernel
theorem dL_law_3401 : decode cL_law 3401 = .ok (.aload_n 1, 1) := by decide +kernel
theorem dL_law_3402 : decode cL_law 3402 = .ok (.aload_n 3, 1) := by decide +kernel
theorem dL_law_3403 : decode cL_law 3403 = .ok (.invokestatic 386, 3) := by decide +kernel
theorem dL_law_3406 : decode cL_law 3406 = .ok (.istore 6, 2) := by decide +kernel
theorem dL_law_3408 : decode cL_law 3408 = .ok (.aload_n 2, 1) := by decide +kernel
theorem dL_law_3409 : decode cL_law 3409 = .ok (.invokevirtual 388, 3) := by decide +kernel
theorem dL_law_3412 : decode cL_law 3412 = .ok (.istore 7, 2) := by decide +kernel
theorem dL_law_3414 : decode cL_law 3414 = .ok (.aload_n 2, 1) := by decide +kernel
theorem dL_law_3415 : decode cL_law 3415 = .ok (.invokevirtual 203, 3) := by decide +kernel
theorem dL_law_3418 : decode cL_law 3418 = .ok (.iload 6, 2) := by decide +kernel
theorem dL_law_3420 : decode cL_law 3420 = .ok (.if_icmp .eq 5, 3) := by decide +kernel
theorem dL_law_3423 : decode cL_law 3423 = .ok (.iconst 0, 1) := by decide +kernel
theorem dL_law_3424 : decode cL_law 3424 = .ok (.ireturn, 1) := by decide +kernel
theorem dL_law_3425 : decode cL_law 3425 = .ok (.iload 6, 2) := by decide +kernel
theorem dL_law_3427 : decode cL_law 3427 = .ok (.ifCond .ne 15, 3) := by decide +kernel
theorem dL_law_3430 : decode cL_law 3430 = .ok (.aload_n 3, 1) := by decide +kernel
theorem dL_law_3431 : decode cL_law 3431 = .ok (.iconst 0, 1) := by decide +kernel
theorem dL_law_3432 : decode cL_law 3432 = .ok (.laload, 1) := by decide +kernel
theorem dL_law_3433 : decode cL_law 3433 = .ok (.iload 7, 2) := by decide +kernel
theorem dL_law_3435 : decode cL_law 3435 = .ok (.i2l, 1) := by decide +kernel
theorem dL_law_3436 : decode cL_law 3436 = .ok (.lcmp, 1) := by decide +kernel
theorem dL_law_3437 : decode cL_law 3437 = .ok (.ifCond .eq 5, 3) := by decide +kernel
theorem dL_law_3440 : decode cL_law 3440 = .ok (.iconst 0, 1) := by decide +kernel
theorem dL_law_3441 : decode cL_law 3441 = .ok (.ireturn, 1) := by decide +kernel
theorem dL_law_3442 : decode cL_law 3442 = .ok (.goto 148, 3) := by decide +kernel
theorem dL_law_3445 : decode cL_law 3445 = .ok (.aload_n 1, 1) := by decide +kernel
theorem dL_law_3446 : decode cL_law 3446 = .ok (.aload_n 3, 1) := by decide +kernel
theorem dL_law_3447 : decode cL_law 3447 = .ok (.invokestatic 389, 3) := by decide +kernel
theorem dL_law_3450 : decode cL_law 3450 = .ok (.istore 6, 2) := by decide +kernel
theorem dL_law_3452 : decode cL_law 3452 = .ok (.aload_n 2, 1) := by decide +kernel
theorem dL_law_3453 : decode cL_law 3453 = .ok (.invokevirtual 391, 3) := by decide +kernel
theorem dL_law_3456 : decode cL_law 3456 = .ok (.istore 7, 2) := by decide +kernel
theorem dL_law_3458 : decode cL_law 3458 = .ok (.aload_n 2, 1) := by decide +kernel
theorem dL_law_3459 : decode cL_law 3459 = .ok (.invokevirtual 203, 3) := by decide +kernel
theorem dL_law_3462 : decode cL_law 3462 = .ok (.iload 6, 2) := by decide +kernel
theorem dL_law_3464 : decode cL_law 3464 = .ok (.if_icmp .eq 5, 3) := by decide +kernel
theorem dL_law_3467 : decode cL_law 3467 = .ok (.iconst 0, 1) := by decide +kernel
theorem dL_law_3468 : decode cL_law 3468 = .ok (.ireturn, 1) := by decide +kernel
theorem dL_law_3469 : decode cL_law 3469 = .ok (.iload 6, 2) := by decide +kernel
theorem dL_law_3471 : decode cL_law 3471 = .ok (.ifCond .ne 15, 3) := by decide +kernel
theorem dL_law_3474 : decode cL_law 3474 = .ok (.aload_n 3, 1) := by decide +kernel
theorem dL_law_3475 : decode cL_law 3475 = .ok (.iconst 0, 1) := by decide +kernel
theorem dL_law_3476 : decode cL_law 3476 = .ok (.laload, 1) := by decide +kernel
theorem dL_law_3477 : decode cL_law 3477 = .ok (.iload 7, 2) := by decide +kernel
theorem dL_law_3479 : decode cL_law 3479 = .ok (.i2l, 1) := by decide +kernel
theorem dL_law_3480 : decode cL_law 3480 = .ok (.lcmp, 1) := by decide +kernel
theorem dL_law_3481 : decode cL_law 3481 = .ok (.ifCond .eq 5, 3) := by decide +kernel
theorem dL_law_3484 : decode cL_law 3484 = .ok (.iconst 0, 1) := by decide +kernel
theorem dL_law_3485 : decode cL_law 3485 = .ok (.ireturn, 1) := by decide +kernel
theorem dL_law_3486 : decode cL_law 3486 = .ok (.goto 104, 3) := by decide +kernel
theorem dL_law_3489 : decode cL_law 3489 = .ok (.aload_n 1, 1) := by decide +kernel
theorem dL_law_3490 : decode cL_law 3490 = .ok (.aload_n 3, 1) := by decide +kernel
theorem dL_law_3491 : decode cL_law 3491 = .ok (.invokestatic 392, 3) := by decide +kernel
theorem dL_law_3494 : decode cL_law 3494 = .ok (.istore 6, 2) := by decide +kernel
theorem dL_law_3496 : decode cL_law 3496 = .ok (.aload_n 2, 1) := by decide +kernel
theorem dL_law_3497 : decode cL_law 3497 = .ok (.invokevirtual 394, 3) := by decide +kernel
theorem dL_law_3500 : decode cL_law 3500 = .ok (.istore 7, 2) := by decide +kernel
theorem dL_law_3502 : decode cL_law 3502 = .ok (.aload_n 2, 1) := by decide +kernel
theorem dL_law_3503 : decode cL_law 3503 = .ok (.invokevirtual 203, 3) := by decide +kernel
theorem dL_law_3506 : decode cL_law 3506 = .ok (.iload 6, 2) := by decide +kernel
theorem dL_law_3508 : decode cL_law 3508 = .ok (.if_icmp .eq 5, 3) := by decide +kernel
theorem dL_law_3511 : decode cL_law 3511 = .ok (.iconst 0, 1) := by decide +kernel
theorem dL_law_3512 : decode cL_law 3512 = .ok (.ireturn, 1) := by decide +kernel
theorem dL_law_3513 : decode cL_law 3513 = .ok (.iload 6, 2) := by decide +kernel
theorem dL_law_3515 : decode cL_law 3515 = .ok (.ifCond .ne 15, 3) := by decide +kernel
theorem dL_law_3518 : decode cL_law 3518 = .ok (.aload_n 3, 1) := by decide +kernel
theorem dL_law_3519 : decode cL_law 3519 = .ok (.iconst 0, 1) := by decide +kernel
theorem dL_law_3520 : decode cL_law 3520 = .ok (.laload, 1) := by decide +kernel
theorem dL_law_3521 : decode cL_law 3521 = .ok (.iload 7, 2) := by decide +kernel
theorem dL_law_3523 : decode cL_law 3523 = .ok (.i2l, 1) := by decide +kernel
theorem dL_law_3524 : decode cL_law 3524 = .ok (.lcmp, 1) := by decide +kernel
theorem dL_law_3525 : decode cL_law 3525 = .ok (.ifCond .eq 5, 3) := by decide +kernel
theorem dL_law_3528 : decode cL_law 3528 = .ok (.iconst 0, 1) := by decide +kernel
theorem dL_law_3529 : decode cL_law 3529 = .ok (.ireturn, 1) := by decide +kernel
theorem dL_law_3530 : decode cL_law 3530 = .ok (.goto 60, 3) := by decide +kernel
theorem dL_law_3533 : decode cL_law 3533 = .ok (.aload_n 1, 1) := by decide +kernel
theorem dL_law_3534 : decode cL_law 3534 = .ok (.invokevirtual 395, 3) := by decide +kernel
theorem dL_law_3537 : decode cL_law 3537 = .ok (.aload_n 2, 1) := by decide +kernel
theorem dL_law_3538 : decode cL_law 3538 = .ok (.invokevirtual 398, 3) := by decide +kernel
theorem dL_law_3541 : decode cL_law 3541 = .ok (.if_icmp .eq 49, 3) := by decide +kernel
theorem dL_law_3544 : decode cL_law 3544 = .ok (.iconst 0, 1) := by decide +kernel
theorem dL_law_3545 : decode cL_law 3545 = .ok (.ireturn, 1) := by decide +kernel
theorem dL_law_3546 : decode cL_law 3546 = .ok (.aload_n 1, 1) := by decide +kernel
theorem dL_law_3547 : decode cL_law 3547 = .ok (.aload_n 3, 1) := by decide +kernel
theorem dL_law_3548 : decode cL_law 3548 = .ok (.invokestatic 399, 3) := by decide +kernel
theorem dL_law_3551 : decode cL_law 3551 = .ok (.istore 6, 2) := by decide +kernel
theorem dL_law_3553 : decode cL_law 3553 = .ok (.aload_n 2, 1) := by decide +kernel
theorem dL_law_3554 : decode cL_law 3554 = .ok (.invokevirtual 401, 3) := by decide +kernel
theorem dL_law_3557 : decode cL_law 3557 = .ok (.istore 7, 2) := by decide +kernel
theorem dL_law_3559 : decode cL_law 3559 = .ok (.aload_n 2, 1) := by decide +kernel
theorem dL_law_3560 : decode cL_law 3560 = .ok (.invokevirtual 203, 3) := by decide +kernel
theorem dL_law_3563 : decode cL_law 3563 = .ok (.iload 6, 2) := by decide +kernel
theorem dL_law_3565 : decode cL_law 3565 = .ok (.if_icmp .eq 5, 3) := by decide +kernel
theorem dL_law_3568 : decode cL_law 3568 = .ok (.iconst 0, 1) := by decide +kernel
theorem dL_law_3569 : decode cL_law 3569 = .ok (.ireturn, 1) := by decide +kernel
theorem dL_law_3570 : decode cL_law 3570 = .ok (.iload 6, 2) := by decide +kernel
theorem dL_law_3572 : decode cL_law 3572 = .ok (.ifCond .ne 15, 3) := by decide +kernel
theorem dL_law_3575 : decode cL_law 3575 = .ok (.aload_n 3, 1) := by decide +kernel
theorem dL_law_3576 : decode cL_law 3576 = .ok (.iconst 0, 1) := by decide +kernel
theorem dL_law_3577 : decode cL_law 3577 = .ok (.laload, 1) := by decide +kernel
theorem dL_law_3578 : decode cL_law 3578 = .ok (.iload 7, 2) := by decide +kernel
theorem dL_law_3580 : decode cL_law 3580 = .ok (.i2l, 1) := by decide +kernel
theorem dL_law_3581 : decode cL_law 3581 = .ok (.lcmp, 1) := by decide +kernel
theorem dL_law_3582 : decode cL_law 3582 = .ok (.ifCond .eq 5, 3) := by decide +kernel
theorem dL_law_3585 : decode cL_law 3585 = .ok (.iconst 0, 1) := by decide +kernel
theorem dL_law_3586 : decode cL_law 3586 = .ok (.ireturn, 1) := by decide +kernel
theorem dL_law_3587 : decode cL_law 3587 = .ok (.goto 3, 3) := by decide +kernel
theorem dL_law_3590 : decode cL_law 3590 = .ok (.iinc 5 4, 3) := by decide +kernel
theorem dL_law_3593 : decode cL_law 3593 = .ok (.goto (-3565), 3) := by decide +kernel
theorem dL_law_3596 : decode cL_law 3596 = .ok (.iconst 1, 1) := by decide +kernel
theorem dL_law_3597 : decode cL_law 3597 = .ok (.ireturn, 1) := by decide +kernel
