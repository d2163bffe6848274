theorem dL_follows_321 : decode cL_follows 321 = .ok (.invokevirtual 218, 3) := by decide +kernel
theorem dL_follows_324 : decode cL_follows 324 = .ok (.istore 15, 2) := by decide +kernel
theorem dL_follows_326 : decode cL_follows 326 = .ok (.iload 7, 2) := by decide +kernel
theorem dL_follows_328 : decode cL_follows 328 = .ok (.ifCond .eq 56, 3) := by decide +kernel
theorem dL_follows_331 : decode cL_follows 331 = .ok (.aload_n 0, 1) := by decide +kernel
theorem dL_follows_332 : decode cL_follows 332 = .ok (.iconst 2, 1) := by decide +kernel
theorem dL_follows_333 : decode cL_follows 333 = .ok (.invokestatic 109, 3) := by decide +kernel
theorem dL_follows_336 : decode cL_follows 336 = .ok (.lload 13, 2) := by decide +kernel
theorem dL_follows_338 : decode cL_follows 338 = .ok (.iload 15, 2) := by decide +kernel
theorem dL_follows_340 : decode cL_follows 340 = .ok (.i2l, 1) := by decide +kernel
theorem dL_follows_341 : decode cL_follows 341 = .ok (.lsub, 1) := by decide +kernel
theorem dL_follows_342 : decode cL_follows 342 = .ok (.lcmp, 1) := by decide +kernel
theorem dL_follows_343 : decode cL_follows 343 = .ok (.ifCond .ne 41, 3) := by decide +kernel
theorem dL_follows_346 : decode cL_follows 346 = .ok (.aload_n 0, 1) := by decide +kernel
theorem dL_follows_347 : decode cL_follows 347 = .ok (.invokevirtual 218, 3) := by decide +kernel
theorem dL_follows_350 : decode cL_follows 350 = .ok (.ifCond .ne 34, 3) := by decide +kernel
theorem dL_follows_353 : decode cL_follows 353 = .ok (.aload_n 0, 1) := by decide +kernel
theorem dL_follows_354 : decode cL_follows 354 = .ok (.invokestatic 216, 3) := by decide +kernel
theorem dL_follows_357 : decode cL_follows 357 = .ok (.lconst 0, 1) := by decide +kernel
theorem dL_follows_358 : decode cL_follows 358 = .ok (.lcmp, 1) := by decide +kernel
theorem dL_follows_359 : decode cL_follows 359 = .ok (.ifCond .lt 25, 3) := by decide +kernel
theorem dL_follows_362 : decode cL_follows 362 = .ok (.aload_n 0, 1) := by decide +kernel
theorem dL_follows_363 : decode cL_follows 363 = .ok (.invokestatic 216, 3) := by decide +kernel
theorem dL_follows_366 : decode cL_follows 366 = .ok (.lconst 0, 1) := by decide +kernel
theorem dL_follows_367 : decode cL_follows 367 = .ok (.lcmp, 1) := by decide +kernel
theorem dL_follows_368 : decode cL_follows 368 = .ok (.ifCond .lt 16, 3) := by decide +kernel
theorem dL_follows_371 : decode cL_follows 371 = .ok (.aload_n 0, 1) := by decide +kernel
theorem dL_follows_372 : decode cL_follows 372 = .ok (.invokestatic 142, 3) := by decide +kernel
theorem dL_follows_375 : decode cL_follows 375 = .ok (.lload_n 2, 1) := by decide +kernel
theorem dL_follows_376 : decode cL_follows 376 = .ok (.lcmp, 1) := by decide +kernel
theorem dL_follows_377 : decode cL_follows 377 = .ok (.ifCond .ne 7, 3) := by decide +kernel
theorem dL_follows_380 : decode cL_follows 380 = .ok (.iconst 1, 1) := by decide +kernel
theorem dL_follows_381 : decode cL_follows 381 = .ok (.goto 4, 3) := by decide +kernel
theorem dL_follows_384 : decode cL_follows 384 = .ok (.iconst 0, 1) := by decide +kernel
theorem dL_follows_385 : decode cL_follows 385 = .ok (.istore 7, 2) := by decide +kernel
theorem dL_follows_387 : decode cL_follows 387 = .ok (.iload 4, 2) := by decide +kernel
theorem dL_follows_389 : decode cL_follows 389 = .ok (.ifCond .le 531, 3) := by decide +kernel
theorem dL_follows_392 : decode cL_follows 392 = .ok (.iload 7, 2) := by decide +kernel
theorem dL_follows_394 : decode cL_follows 394 = .ok (.ifCond .eq 526, 3) := by decide +kernel
theorem dL_follows_397 : decode cL_follows 397 = .ok (.iload_n 1, 1) := by decide +kernel
theorem dL_follows_398 : decode cL_follows 398 = .ok (.bipush 7, 2) := by decide +kernel
theorem dL_follows_400 : decode cL_follows 400 = .ok (.idiv, 1) := by decide +kernel
theorem dL_follows_401 : decode cL_follows 401 = .ok (.iload 4, 2) := by decide +kernel
theorem dL_follows_403 : decode cL_follows 403 = .ok (.irem, 1) := by decide +kernel
theorem dL_follows_404 : decode cL_follows 404 = .ok (.istore 16, 2) := by decide +kernel
theorem dL_follows_406 : decode cL_follows 406 = .ok (.iload_n 1, 1) := by decide +kernel
theorem dL_follows_407 : decode cL_follows 407 = .ok (.iconst 3, 1) := by decide +kernel
theorem dL_follows_408 : decode cL_follows 408 = .ok (.idiv, 1) := by decide +kernel
theorem dL_follows_409 : decode cL_follows 409 = .ok (.aload_n 0, 1) := by decide +kernel
theorem dL_follows_410 : decode cL_follows 410 = .ok (.iload 16, 2) := by decide +kernel
theorem dL_follows_412 : decode cL_follows 412 = .ok (.iconst 0, 1) := by decide +kernel
theorem dL_follows_413 : decode cL_follows 413 = .ok (.invokestatic 124, 3) := by decide +kernel
theorem dL_follows_416 : decode cL_follows 416 = .ok (.l2i, 1) := by decide +kernel
theorem dL_follows_417 : decode cL_follows 417 = .ok (.irem, 1) := by decide +kernel
theorem dL_follows_418 : decode cL_follows 418 = .ok (.istore 17, 2) := by decide +kernel
theorem dL_follows_420 : decode cL_follows 420 = .ok (.aload_n 0, 1) := by decide +kernel
theorem dL_follows_421 : decode cL_follows 421 = .ok (.invokevirtual 151, 3) := by decide +kernel
theorem dL_follows_424 : decode cL_follows 424 = .ok (.istore 18, 2) := by decide +kernel
theorem dL_follows_426 : decode cL_follows 426 = .ok (.aload_n 0, 1) := by decide +kernel
theorem dL_follows_427 : decode cL_follows 427 = .ok (.iconst 3, 1) := by decide +kernel
theorem dL_follows_428 : decode cL_follows 428 = .ok (.invokestatic 109, 3) := by decide +kernel
theorem dL_follows_431 : decode cL_follows 431 = .ok (.lstore 19, 2) := by decide +kernel
theorem dL_follows_433 : decode cL_follows 433 = .ok (.aload_n 0, 1) := by decide +kernel
theorem dL_follows_434 : decode cL_follows 434 = .ok (.iload 16, 2) := by decide +kernel
theorem dL_follows_436 : decode cL_follows 436 = .ok (.iconst 5, 1) := by decide +kernel
theorem dL_follows_437 : decode cL_follows 437 = .ok (.invokestatic 124, 3) := by decide +kernel
theorem dL_follows_440 : decode cL_follows 440 = .ok (.lconst 1, 1) := by decide +kernel
theorem dL_follows_441 : decode cL_follows 441 = .ok (.lcmp, 1) := by decide +kernel
theorem dL_follows_442 : decode cL_follows 442 = .ok (.ifCond .ne 7, 3) := by decide +kernel
theorem dL_follows_445 : decode cL_follows 445 = .ok (.iconst 1, 1) := by decide +kernel
theorem dL_follows_446 : decode cL_follows 446 = .ok (.goto 4, 3) := by decide +kernel
theorem dL_follows_449 : decode cL_follows 449 = .ok (.iconst 0, 1) := by decide +kernel
theorem dL_follows_450 : decode cL_follows 450 = .ok (.istore 21, 2) := by decide +kernel
theorem dL_follows_452 : decode cL_follows 452 = .ok (.iload 16, 2) := by decide +kernel
theorem dL_follows_454 : decode cL_follows 454 = .ok (.iload 4, 2) := by decide +kernel
theorem dL_follows_456 : decode cL_follows 456 = .ok (.iconst 1, 1) := by decide +kernel
theorem dL_follows_457 : decode cL_follows 457 = .ok (.isub, 1) := by decide +kernel
theorem dL_follows_458 : decode cL_follows 458 = .ok (.if_icmp .ne 7, 3) := by decide +kernel
theorem dL_follows_461 : decode cL_follows 461 = .ok (.iconst 1, 1) := by decide +kernel
theorem dL_follows_462 : decode cL_follows 462 = .ok (.goto 4, 3) := by decide +kernel
theorem dL_follows_465 : decode cL_follows 465 = .ok (.iconst 0, 1) := by decide +kernel
theorem dL_follows_466 : decode cL_follows 466 = .ok (.istore 22, 2) := by decide +kernel
theorem dL_follows_468 : decode cL_follows 468 = .ok (.iload 18, 2) := by decide +kernel
theorem dL_follows_470 : decode cL_follows 470 = .ok (.bipush 10, 2) := by decide +kernel
theorem dL_follows_472 : decode cL_follows 472 = .ok (.idiv, 1) := by decide +kernel
theorem dL_follows_473 : decode cL_follows 473 = .ok (.i2l, 1) := by decide +kernel
theorem dL_follows_474 : decode cL_follows 474 = .ok (.lconst 0, 1) := by decide +kernel
theorem dL_follows_475 : decode cL_follows 475 = .ok (.iload 4, 2) := by decide +kernel
theorem dL_follows_477 : decode cL_follows 477 = .ok (.i2l, 1) := by decide +kernel
theorem dL_follows_478 : decode cL_follows 478 = .ok (.lconst 1, 1) := by decide +kernel
theorem dL_follows_479 : decode cL_follows 479 = .ok (.lsub, 1) := by decide +kernel
theorem dL_follows_480 : decode cL_follows 480 = .ok (.invokestatic 200, 3) := by decide +kernel
theorem dL_follows_483 : decode cL_follows 483 = .ok (.ifCond .eq 152, 3) := by decide +kernel
theorem dL_follows_486 : decode cL_follows 486 = .ok (.iload 18, 2) := by decide +kernel
theorem dL_follows_488 : decode cL_follows 488 = .ok (.bipush 10, 2) := by decide +kernel
theorem dL_follows_490 : decode cL_follows 490 = .ok (.irem, 1) := by decide +kernel
theorem dL_follows_491 : decode cL_follows 491 = .ok (.i2l, 1) := by decide +kernel
theorem dL_follows_492 : decode cL_follows 492 = .ok (.lconst 0, 1) := by decide +kernel
theorem dL_follows_493 : decode cL_follows 493 = .ok (.aload_n 0, 1) := by decide +kernel
theorem dL_follows_494 : decode cL_follows 494 = .ok (.iload 18, 2) := by decide +kernel
theorem dL_follows_496 : decode cL_follows 496 = .ok (.bipush 10, 2) := by decide +kernel
theorem dL_follows_498 : decode cL_follows 498 = .ok (.idiv, 1) := by decide +kernel
theorem dL_follows_499 : decode cL_follows 499 = .ok (.iconst 0, 1) := by decide +kernel
theorem dL_follows_500 : decode cL_follows 500 = .ok (.invokestatic 124, 3) := by decide +kernel
theorem dL_follows_503 : decode cL_follows 503 = .ok (.lconst 1, 1) := by decide +kernel
theorem dL_follows_504 : decode cL_follows 504 = .ok (.lsub, 1) := by decide +kernel
theorem dL_follows_505 : decode cL_follows 505 = .ok (.invokestatic 200, 3) := by decide +kernel
theorem dL_follows_508 : decode cL_follows 508 = .ok (.ifCond .eq 127, 3) := by decide +kernel
theorem dL_follows_511 : decode cL_follows 511 = .ok (.aload_n 0, 1) := by decide +kernel
theorem dL_follows_512 : decode cL_follows 512 = .ok (.iload 16, 2) := by decide +kernel
theorem dL_follows_514 : decode cL_follows 514 = .ok (.invokestatic 180, 3) := by decide +kernel
theorem dL_follows_517 : decode cL_follows 517 = .ok (.lload 19, 2) := by decide +kernel
theorem dL_follows_519 : decode cL_follows 519 = .ok (.iload 21, 2) := by decide +kernel
theorem dL_follows_521 : decode cL_follows 521 = .ok (.ifCond .ne 8, 3) := by decide +kernel
theorem dL_follows_524 : decode cL_follows 524 = .ok (.iload 22, 2) := by decide +kernel
theorem dL_follows_526 : decode cL_follows 526 = .ok (.ifCond .eq 7, 3) := by decide +kernel
theorem dL_follows_529 : decode cL_follows 529 = .ok (.lconst 0, 1) := by decide +kernel
theorem dL_follows_530 : decode cL_follows 530 = .ok (.goto 4, 3) := by decide +kernel
theorem dL_follows_533 : decode cL_follows 533 = .ok (.lconst 1, 1) := by decide +kernel
theorem dL_follows_534 : decode cL_follows 534 = .ok (.ladd, 1) := by decide +kernel
theorem dL_follows_535 : decode cL_follows 535 = .ok (.lcmp, 1) := by decide +kernel
theorem dL_follows_536 : decode cL_follows 536 = .ok (.ifCond .ne 99, 3) := by decide +kernel
theorem dL_follows_539 : decode cL_follows 539 = .ok (.aload_n 0, 1) := by decide +kernel
theorem dL_follows_540 : decode cL_follows 540 = .ok (.iload 16, 2) := by decide +kernel
theorem dL_follows_542 : decode cL_follows 542 = .ok (.iconst 5, 1) := by decide +kernel
theorem dL_follows_543 : decode cL_follows 543 = .ok (.invokestatic 124, 3) := by decide +kernel
theorem dL_follows_546 : decode cL_follows 546 = .ok (.lconst 1, 1) := by decide +kernel
theorem dL_follows_547 : decode cL_follows 547 = .ok (.lcmp, 1) := by decide +kernel
theorem dL_follows_548 : decode cL_follows 548 = .ok (.ifCond .ne 87, 3) := by decide +kernel
theorem dL_follows_551 : decode cL_follows 551 = .ok (.aload_n 0, 1) := by decide +kernel
theorem dL_follows_552 : decode cL_follows 552 = .ok (.invokestatic 216, 3) := by decide +kernel
theorem dL_follows_555 : decode cL_follows 555 = .ok (.lconst 0, 1) := by decide +kernel
theorem dL_follows_556 : decode cL_follows 556 = .ok (.lcmp, 1) := by decide +kernel
theorem dL_follows_557 : decode cL_follows 557 = .ok (.ifCond .lt 78, 3) := by decide +kernel
theorem dL_follows_560 : decode cL_follows 560 = .ok (.aload_n 0, 1) := by decide +kernel
theorem dL_follows_561 : decode cL_follows 561 = .ok (.iload 16, 2) := by decide +kernel
theorem dL_follows_563 : decode cL_follows 563 = .ok (.invokestatic 182, 3) := by decide +kernel
theorem dL_follows_566 : decode cL_follows 566 = .ok (.lload 19, 2) := by decide +kernel
theorem dL_follows_568 : decode cL_follows 568 = .ok (.iload 21, 2) := by decide +kernel
theorem dL_follows_570 : decode cL_follows 570 = .ok (.ifCond .eq 12, 3) := by decide +kernel
theorem dL_follows_573 : decode cL_follows 573 = .ok (.iload 22, 2) := by decide +kernel
theorem dL_follows_575 : decode cL_follows 575 = .ok (.ifCond .ne 7, 3) := by decide +kernel
theorem dL_follows_578 : decode cL_follows 578 = .ok (.lconst 1, 1) := by decide +kernel
theorem dL_follows_579 : decode cL_follows 579 = .ok (.goto 4, 3) := by decide +kernel
theorem dL_follows_582 : decode cL_follows 582 = .ok (.lconst 0, 1) := by decide +kernel
theorem dL_follows_583 : decode cL_follows 583 = .ok (.lsub, 1) := by decide +kernel
theorem dL_follows_584 : decode cL_follows 584 = .ok (.lcmp, 1) := by decide +kernel
theorem dL_follows_585 : decode cL_follows 585 = .ok (.ifCond .ne 50, 3) := by decide +kernel
theorem dL_follows_588 : decode cL_follows 588 = .ok (.aload_n 0, 1) := by decide +kernel
theorem dL_follows_589 : decode cL_follows 589 = .ok (.iload 16, 2) := by decide +kernel
theorem dL_follows_591 : decode cL_follows 591 = .ok (.iconst 5, 1) := by decide +kernel
theorem dL_follows_592 : decode cL_follows 592 = .ok (.invokestatic 124, 3) := by decide +kernel
theorem dL_follows_595 : decode cL_follows 595 = .ok (.lconst 0, 1) := by decide +kernel
theorem dL_follows_596 : decode cL_follows 596 = .ok (.lcmp, 1) := by decide +kernel
theorem dL_follows_597 : decode cL_follows 597 = .ok (.ifCond .ne 38, 3) := by decide +kernel
theorem dL_follows_600 : decode cL_follows 600 = .ok (.aload_n 0, 1) := by decide +kernel
theorem dL_follows_601 : decode cL_follows 601 = .ok (.iload 16, 2) := by decide +kernel
theorem dL_follows_603 : decode cL_follows 603 = .ok (.bipush 7, 2) := by decide +kernel
theorem dL_follows_605 : decode cL_follows 605 = .ok (.invokestatic 124, 3) := by decide +kernel
theorem dL_follows_608 : decode cL_follows 608 = .ok (.lconst 0, 1) := by decide +kernel
theorem dL_follows_609 : decode cL_follows 609 = .ok (.lcmp, 1) := by decide +kernel
theorem dL_follows_610 : decode cL_follows 610 = .ok (.ifCond .ne 25, 3) := by decide +kernel
theorem dL_follows_613 : decode cL_follows 613 = .ok (.aload_n 0, 1) := by decide +kernel
theorem dL_follows_614 : decode cL_follows 614 = .ok (.invokestatic 216, 3) := by decide +kernel
theorem dL_follows_617 : decode cL_follows 617 = .ok (.lconst 0, 1) := by decide +kernel
theorem dL_follows_618 : decode cL_follows 618 = .ok (.lcmp, 1) := by decide +kernel
theorem dL_follows_619 : decode cL_follows 619 = .ok (.ifCond .lt 16, 3) := by decide +kernel
theorem dL_follows_622 : decode cL_follows 622 = .ok (.aload_n 0, 1) := by decide +kernel
theorem dL_follows_623 : decode cL_follows 623 = .ok (.invokestatic 142, 3) := by decide +kernel
theorem dL_follows_626 : decode cL_follows 626 = .ok (.lload_n 2, 1) := by decide +kernel
theorem dL_follows_627 : decode cL_follows 627 = .ok (.lcmp, 1) := by decide +kernel
theorem dL_follows_628 : decode cL_follows 628 = .ok (.ifCond .ne 7, 3) := by decide +kernel
theorem dL_follows_631 : decode cL_follows 631 = .ok (.iconst 1, 1) := by decide +kernel
theorem dL_follows_632 : decode cL_follows 632 = .ok (.goto 4, 3) := by decide +kernel
theorem dL_follows_635 : decode cL_follows 635 = .ok (.iconst 0, 1) := by decide +kernel
