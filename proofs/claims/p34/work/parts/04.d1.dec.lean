theorem dL_errors_364 : decode cL_errors 364 = .ok (.iconst (-1), 1) := by decide +kernel
theorem dL_errors_365 : decode cL_errors 365 = .ok (.invokestatic 159, 3) := by decide +kernel
theorem dL_errors_368 : decode cL_errors 368 = .ok (.ldc2_w 17, 3) := by decide +kernel
theorem dL_errors_371 : decode cL_errors 371 = .ok (.lcmp, 1) := by decide +kernel
theorem dL_errors_372 : decode cL_errors 372 = .ok (.ifCond .ne 7, 3) := by decide +kernel
theorem dL_errors_375 : decode cL_errors 375 = .ok (.iconst 1, 1) := by decide +kernel
theorem dL_errors_376 : decode cL_errors 376 = .ok (.goto 4, 3) := by decide +kernel
theorem dL_errors_379 : decode cL_errors 379 = .ok (.iconst 0, 1) := by decide +kernel
theorem dL_errors_380 : decode cL_errors 380 = .ok (.istore 6, 2) := by decide +kernel
theorem dL_errors_382 : decode cL_errors 382 = .ok (.iconst 0, 1) := by decide +kernel
theorem dL_errors_383 : decode cL_errors 383 = .ok (.istore 7, 2) := by decide +kernel
theorem dL_errors_385 : decode cL_errors 385 = .ok (.iload 7, 2) := by decide +kernel
theorem dL_errors_387 : decode cL_errors 387 = .ok (.iload_n 3, 1) := by decide +kernel
theorem dL_errors_388 : decode cL_errors 388 = .ok (.if_icmp .ge 179, 3) := by decide +kernel
theorem dL_errors_391 : decode cL_errors 391 = .ok (.iload 6, 2) := by decide +kernel
theorem dL_errors_393 : decode cL_errors 393 = .ok (.ifCond .eq 174, 3) := by decide +kernel
theorem dL_errors_396 : decode cL_errors 396 = .ok (.aload_n 0, 1) := by decide +kernel
theorem dL_errors_397 : decode cL_errors 397 = .ok (.iload 7, 2) := by decide +kernel
theorem dL_errors_399 : decode cL_errors 399 = .ok (.iconst 0, 1) := by decide +kernel
theorem dL_errors_400 : decode cL_errors 400 = .ok (.invokestatic 124, 3) := by decide +kernel
theorem dL_errors_403 : decode cL_errors 403 = .ok (.l2i, 1) := by decide +kernel
theorem dL_errors_404 : decode cL_errors 404 = .ok (.istore 8, 2) := by decide +kernel
theorem dL_errors_406 : decode cL_errors 406 = .ok (.aload_n 0, 1) := by decide +kernel
theorem dL_errors_407 : decode cL_errors 407 = .ok (.iload 7, 2) := by decide +kernel
theorem dL_errors_409 : decode cL_errors 409 = .ok (.bipush 8, 2) := by decide +kernel
theorem dL_errors_411 : decode cL_errors 411 = .ok (.invokestatic 124, 3) := by decide +kernel
theorem dL_errors_414 : decode cL_errors 414 = .ok (.ldc2_w 17, 3) := by decide +kernel
theorem dL_errors_417 : decode cL_errors 417 = .ok (.lcmp, 1) := by decide +kernel
theorem dL_errors_418 : decode cL_errors 418 = .ok (.ifCond .ne 83, 3) := by decide +kernel
theorem dL_errors_421 : decode cL_errors 421 = .ok (.aload_n 0, 1) := by decide +kernel
theorem dL_errors_422 : decode cL_errors 422 = .ok (.iload 7, 2) := by decide +kernel
theorem dL_errors_424 : decode cL_errors 424 = .ok (.iload 8, 2) := by decide +kernel
theorem dL_errors_426 : decode cL_errors 426 = .ok (.iconst 0, 1) := by decide +kernel
theorem dL_errors_427 : decode cL_errors 427 = .ok (.invokestatic 134, 3) := by decide +kernel
theorem dL_errors_430 : decode cL_errors 430 = .ok (.ldc2_w 36, 3) := by decide +kernel
theorem dL_errors_433 : decode cL_errors 433 = .ok (.lcmp, 1) := by decide +kernel
theorem dL_errors_434 : decode cL_errors 434 = .ok (.ifCond .ne 67, 3) := by decide +kernel
theorem dL_errors_437 : decode cL_errors 437 = .ok (.aload_n 0, 1) := by decide +kernel
theorem dL_errors_438 : decode cL_errors 438 = .ok (.iload 7, 2) := by decide +kernel
theorem dL_errors_440 : decode cL_errors 440 = .ok (.iconst 0, 1) := by decide +kernel
theorem dL_errors_441 : decode cL_errors 441 = .ok (.iconst 4, 1) := by decide +kernel
theorem dL_errors_442 : decode cL_errors 442 = .ok (.invokestatic 134, 3) := by decide +kernel
theorem dL_errors_445 : decode cL_errors 445 = .ok (.ldc2_w 17, 3) := by decide +kernel
theorem dL_errors_448 : decode cL_errors 448 = .ok (.lcmp, 1) := by decide +kernel
theorem dL_errors_449 : decode cL_errors 449 = .ok (.ifCond .ne 52, 3) := by decide +kernel
theorem dL_errors_452 : decode cL_errors 452 = .ok (.aload_n 0, 1) := by decide +kernel
theorem dL_errors_453 : decode cL_errors 453 = .ok (.iload 7, 2) := by decide +kernel
theorem dL_errors_455 : decode cL_errors 455 = .ok (.iconst 0, 1) := by decide +kernel
theorem dL_errors_456 : decode cL_errors 456 = .ok (.iconst 0, 1) := by decide +kernel
theorem dL_errors_457 : decode cL_errors 457 = .ok (.iconst (-1), 1) := by decide +kernel
theorem dL_errors_458 : decode cL_errors 458 = .ok (.invokestatic 127, 3) := by decide +kernel
theorem dL_errors_461 : decode cL_errors 461 = .ok (.ldc2_w 17, 3) := by decide +kernel
theorem dL_errors_464 : decode cL_errors 464 = .ok (.lcmp, 1) := by decide +kernel
theorem dL_errors_465 : decode cL_errors 465 = .ok (.ifCond .ne 36, 3) := by decide +kernel
theorem dL_errors_468 : decode cL_errors 468 = .ok (.aload_n 0, 1) := by decide +kernel
theorem dL_errors_469 : decode cL_errors 469 = .ok (.iload 7, 2) := by decide +kernel
theorem dL_errors_471 : decode cL_errors 471 = .ok (.iload 8, 2) := by decide +kernel
theorem dL_errors_473 : decode cL_errors 473 = .ok (.invokestatic 186, 3) := by decide +kernel
theorem dL_errors_476 : decode cL_errors 476 = .ok (.ldc2_w 36, 3) := by decide +kernel
theorem dL_errors_479 : decode cL_errors 479 = .ok (.lcmp, 1) := by decide +kernel
theorem dL_errors_480 : decode cL_errors 480 = .ok (.ifCond .ne 21, 3) := by decide +kernel
theorem dL_errors_483 : decode cL_errors 483 = .ok (.aload_n 0, 1) := by decide +kernel
theorem dL_errors_484 : decode cL_errors 484 = .ok (.iload 7, 2) := by decide +kernel
theorem dL_errors_486 : decode cL_errors 486 = .ok (.iconst (-1), 1) := by decide +kernel
theorem dL_errors_487 : decode cL_errors 487 = .ok (.invokestatic 190, 3) := by decide +kernel
theorem dL_errors_490 : decode cL_errors 490 = .ok (.ldc2_w 36, 3) := by decide +kernel
theorem dL_errors_493 : decode cL_errors 493 = .ok (.lcmp, 1) := by decide +kernel
theorem dL_errors_494 : decode cL_errors 494 = .ok (.ifCond .ne 7, 3) := by decide +kernel
theorem dL_errors_497 : decode cL_errors 497 = .ok (.iconst 1, 1) := by decide +kernel
theorem dL_errors_498 : decode cL_errors 498 = .ok (.goto 4, 3) := by decide +kernel
theorem dL_errors_501 : decode cL_errors 501 = .ok (.iconst 0, 1) := by decide +kernel
theorem dL_errors_502 : decode cL_errors 502 = .ok (.istore 6, 2) := by decide +kernel
theorem dL_errors_504 : decode cL_errors 504 = .ok (.iconst 0, 1) := by decide +kernel
theorem dL_errors_505 : decode cL_errors 505 = .ok (.istore 9, 2) := by decide +kernel
theorem dL_errors_507 : decode cL_errors 507 = .ok (.iload 9, 2) := by decide +kernel
theorem dL_errors_509 : decode cL_errors 509 = .ok (.iload 8, 2) := by decide +kernel
theorem dL_errors_511 : decode cL_errors 511 = .ok (.if_icmp .ge 50, 3) := by decide +kernel
theorem dL_errors_514 : decode cL_errors 514 = .ok (.iload 6, 2) := by decide +kernel
theorem dL_errors_516 : decode cL_errors 516 = .ok (.ifCond .eq 45, 3) := by decide +kernel
theorem dL_errors_519 : decode cL_errors 519 = .ok (.aload_n 0, 1) := by decide +kernel
theorem dL_errors_520 : decode cL_errors 520 = .ok (.iload 7, 2) := by decide +kernel
theorem dL_errors_522 : decode cL_errors 522 = .ok (.iload 9, 2) := by decide +kernel
theorem dL_errors_524 : decode cL_errors 524 = .ok (.iconst 1, 1) := by decide +kernel
theorem dL_errors_525 : decode cL_errors 525 = .ok (.invokestatic 134, 3) := by decide +kernel
theorem dL_errors_528 : decode cL_errors 528 = .ok (.lconst 0, 1) := by decide +kernel
theorem dL_errors_529 : decode cL_errors 529 = .ok (.lcmp, 1) := by decide +kernel
theorem dL_errors_530 : decode cL_errors 530 = .ok (.ifCond .gt 18, 3) := by decide +kernel
theorem dL_errors_533 : decode cL_errors 533 = .ok (.aload_n 0, 1) := by decide +kernel
theorem dL_errors_534 : decode cL_errors 534 = .ok (.iload 7, 2) := by decide +kernel
theorem dL_errors_536 : decode cL_errors 536 = .ok (.iload 9, 2) := by decide +kernel
theorem dL_errors_538 : decode cL_errors 538 = .ok (.invokestatic 190, 3) := by decide +kernel
theorem dL_errors_541 : decode cL_errors 541 = .ok (.ldc2_w 21, 3) := by decide +kernel
theorem dL_errors_544 : decode cL_errors 544 = .ok (.lcmp, 1) := by decide +kernel
theorem dL_errors_545 : decode cL_errors 545 = .ok (.ifCond .ne 7, 3) := by decide +kernel
theorem dL_errors_548 : decode cL_errors 548 = .ok (.iconst 1, 1) := by decide +kernel
theorem dL_errors_549 : decode cL_errors 549 = .ok (.goto 4, 3) := by decide +kernel
theorem dL_errors_552 : decode cL_errors 552 = .ok (.iconst 0, 1) := by decide +kernel
theorem dL_errors_553 : decode cL_errors 553 = .ok (.istore 6, 2) := by decide +kernel
theorem dL_errors_555 : decode cL_errors 555 = .ok (.iinc 9 1, 3) := by decide +kernel
theorem dL_errors_558 : decode cL_errors 558 = .ok (.goto (-51), 3) := by decide +kernel
theorem dL_errors_561 : decode cL_errors 561 = .ok (.iinc 7 1, 3) := by decide +kernel
theorem dL_errors_564 : decode cL_errors 564 = .ok (.goto (-179), 3) := by decide +kernel
theorem dL_errors_567 : decode cL_errors 567 = .ok (.iload 6, 2) := by decide +kernel
theorem dL_errors_569 : decode cL_errors 569 = .ok (.ifCond .eq 156, 3) := by decide +kernel
theorem dL_errors_572 : decode cL_errors 572 = .ok (.iload 5, 2) := by decide +kernel
theorem dL_errors_574 : decode cL_errors 574 = .ok (.ifCond .eq 29, 3) := by decide +kernel
theorem dL_errors_577 : decode cL_errors 577 = .ok (.aload_n 0, 1) := by decide +kernel
theorem dL_errors_578 : decode cL_errors 578 = .ok (.iconst 0, 1) := by decide +kernel
theorem dL_errors_579 : decode cL_errors 579 = .ok (.iconst 3, 1) := by decide +kernel
theorem dL_errors_580 : decode cL_errors 580 = .ok (.invokestatic 161, 3) := by decide +kernel
theorem dL_errors_583 : decode cL_errors 583 = .ok (.ldc2_w 17, 3) := by decide +kernel
theorem dL_errors_586 : decode cL_errors 586 = .ok (.lcmp, 1) := by decide +kernel
theorem dL_errors_587 : decode cL_errors 587 = .ok (.ifCond .ne 138, 3) := by decide +kernel
theorem dL_errors_590 : decode cL_errors 590 = .ok (.aload_n 0, 1) := by decide +kernel
theorem dL_errors_591 : decode cL_errors 591 = .ok (.iconst 0, 1) := by decide +kernel
theorem dL_errors_592 : decode cL_errors 592 = .ok (.iconst (-1), 1) := by decide +kernel
theorem dL_errors_593 : decode cL_errors 593 = .ok (.invokestatic 163, 3) := by decide +kernel
theorem dL_errors_596 : decode cL_errors 596 = .ok (.ldc2_w 17, 3) := by decide +kernel
theorem dL_errors_599 : decode cL_errors 599 = .ok (.lcmp, 1) := by decide +kernel
theorem dL_errors_600 : decode cL_errors 600 = .ok (.ifCond .ne 125, 3) := by decide +kernel
theorem dL_errors_603 : decode cL_errors 603 = .ok (.iload 4, 2) := by decide +kernel
theorem dL_errors_605 : decode cL_errors 605 = .ok (.ifCond .eq 17, 3) := by decide +kernel
theorem dL_errors_608 : decode cL_errors 608 = .ok (.aload_n 0, 1) := by decide +kernel
theorem dL_errors_609 : decode cL_errors 609 = .ok (.iconst 0, 1) := by decide +kernel
theorem dL_errors_610 : decode cL_errors 610 = .ok (.iconst 1, 1) := by decide +kernel
theorem dL_errors_611 : decode cL_errors 611 = .ok (.iconst (-1), 1) := by decide +kernel
theorem dL_errors_612 : decode cL_errors 612 = .ok (.invokestatic 139, 3) := by decide +kernel
theorem dL_errors_615 : decode cL_errors 615 = .ok (.ldc2_w 17, 3) := by decide +kernel
theorem dL_errors_618 : decode cL_errors 618 = .ok (.lcmp, 1) := by decide +kernel
theorem dL_errors_619 : decode cL_errors 619 = .ok (.ifCond .ne 106, 3) := by decide +kernel
theorem dL_errors_622 : decode cL_errors 622 = .ok (.aload_n 0, 1) := by decide +kernel
theorem dL_errors_623 : decode cL_errors 623 = .ok (.iconst 5, 1) := by decide +kernel
theorem dL_errors_624 : decode cL_errors 624 = .ok (.lconst 0, 1) := by decide +kernel
theorem dL_errors_625 : decode cL_errors 625 = .ok (.invokestatic 167, 3) := by decide +kernel
theorem dL_errors_628 : decode cL_errors 628 = .ok (.ldc2_w 17, 3) := by decide +kernel
theorem dL_errors_631 : decode cL_errors 631 = .ok (.lcmp, 1) := by decide +kernel
theorem dL_errors_632 : decode cL_errors 632 = .ok (.ifCond .ne 93, 3) := by decide +kernel
theorem dL_errors_635 : decode cL_errors 635 = .ok (.aload_n 0, 1) := by decide +kernel
theorem dL_errors_636 : decode cL_errors 636 = .ok (.iconst 1, 1) := by decide +kernel
theorem dL_errors_637 : decode cL_errors 637 = .ok (.ldc2_w 165, 3) := by decide +kernel
theorem dL_errors_640 : decode cL_errors 640 = .ok (.invokestatic 167, 3) := by decide +kernel
theorem dL_errors_643 : decode cL_errors 643 = .ok (.ldc2_w 17, 3) := by decide +kernel
theorem dL_errors_646 : decode cL_errors 646 = .ok (.lcmp, 1) := by decide +kernel
theorem dL_errors_647 : decode cL_errors 647 = .ok (.ifCond .ne 78, 3) := by decide +kernel
theorem dL_errors_650 : decode cL_errors 650 = .ok (.aload_n 0, 1) := by decide +kernel
theorem dL_errors_651 : decode cL_errors 651 = .ok (.iconst 1, 1) := by decide +kernel
theorem dL_errors_652 : decode cL_errors 652 = .ok (.lconst 1, 1) := by decide +kernel
theorem dL_errors_653 : decode cL_errors 653 = .ok (.invokestatic 167, 3) := by decide +kernel
theorem dL_errors_656 : decode cL_errors 656 = .ok (.lconst 0, 1) := by decide +kernel
theorem dL_errors_657 : decode cL_errors 657 = .ok (.lcmp, 1) := by decide +kernel
theorem dL_errors_658 : decode cL_errors 658 = .ok (.ifCond .ne 67, 3) := by decide +kernel
theorem dL_errors_661 : decode cL_errors 661 = .ok (.aload_n 0, 1) := by decide +kernel
theorem dL_errors_662 : decode cL_errors 662 = .ok (.lconst 1, 1) := by decide +kernel
theorem dL_errors_663 : decode cL_errors 663 = .ok (.iconst 0, 1) := by decide +kernel
theorem dL_errors_664 : decode cL_errors 664 = .ok (.invokestatic 171, 3) := by decide +kernel
theorem dL_errors_667 : decode cL_errors 667 = .ok (.ldc2_w 17, 3) := by decide +kernel
theorem dL_errors_670 : decode cL_errors 670 = .ok (.lcmp, 1) := by decide +kernel
theorem dL_errors_671 : decode cL_errors 671 = .ok (.ifCond .ne 54, 3) := by decide +kernel
theorem dL_errors_674 : decode cL_errors 674 = .ok (.aload_n 0, 1) := by decide +kernel
theorem dL_errors_675 : decode cL_errors 675 = .ok (.lconst 1, 1) := by decide +kernel
theorem dL_errors_676 : decode cL_errors 676 = .ok (.bipush 100, 2) := by decide +kernel
theorem dL_errors_678 : decode cL_errors 678 = .ok (.invokestatic 171, 3) := by decide +kernel
theorem dL_errors_681 : decode cL_errors 681 = .ok (.ldc2_w 17, 3) := by decide +kernel
theorem dL_errors_684 : decode cL_errors 684 = .ok (.lcmp, 1) := by decide +kernel
theorem dL_errors_685 : decode cL_errors 685 = .ok (.ifCond .ne 40, 3) := by decide +kernel
theorem dL_errors_688 : decode cL_errors 688 = .ok (.aload_n 0, 1) := by decide +kernel
theorem dL_errors_689 : decode cL_errors 689 = .ok (.iconst 2, 1) := by decide +kernel
theorem dL_errors_690 : decode cL_errors 690 = .ok (.invokestatic 194, 3) := by decide +kernel
theorem dL_errors_693 : decode cL_errors 693 = .ok (.ldc2_w 36, 3) := by decide +kernel
theorem dL_errors_696 : decode cL_errors 696 = .ok (.lcmp, 1) := by decide +kernel
theorem dL_errors_697 : decode cL_errors 697 = .ok (.ifCond .ne 28, 3) := by decide +kernel
theorem dL_errors_700 : decode cL_errors 700 = .ok (.aload_n 0, 1) := by decide +kernel
theorem dL_errors_701 : decode cL_errors 701 = .ok (.iconst (-1), 1) := by decide +kernel
theorem dL_errors_702 : decode cL_errors 702 = .ok (.invokestatic 196, 3) := by decide +kernel
theorem dL_errors_705 : decode cL_errors 705 = .ok (.ldc2_w 36, 3) := by decide +kernel
theorem dL_errors_708 : decode cL_errors 708 = .ok (.lcmp, 1) := by decide +kernel
theorem dL_errors_709 : decode cL_errors 709 = .ok (.ifCond .ne 16, 3) := by decide +kernel
theorem dL_errors_712 : decode cL_errors 712 = .ok (.aload_n 0, 1) := by decide +kernel
theorem dL_errors_713 : decode cL_errors 713 = .ok (.invokestatic 142, 3) := by decide +kernel
theorem dL_errors_716 : decode cL_errors 716 = .ok (.lload_n 1, 1) := by decide +kernel
theorem dL_errors_717 : decode cL_errors 717 = .ok (.lcmp, 1) := by decide +kernel
theorem dL_errors_718 : decode cL_errors 718 = .ok (.ifCond .ne 7, 3) := by decide +kernel
theorem dL_errors_721 : decode cL_errors 721 = .ok (.iconst 1, 1) := by decide +kernel
theorem dL_errors_722 : decode cL_errors 722 = .ok (.goto 4, 3) := by decide +kernel
theorem dL_errors_725 : decode cL_errors 725 = .ok (.iconst 0, 1) := by decide +kernel
theorem dL_errors_726 : decode cL_errors 726 = .ok (.ireturn, 1) := by decide +kernel
