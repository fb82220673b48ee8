theorem d_L_law_430 : decode cL_law 430 = .ok (.ifCond .eq 5, 3) := by decide +kernel
theorem d_L_law_433 : decode cL_law 433 = .ok (.iconst 0, 1) := by decide +kernel
theorem d_L_law_434 : decode cL_law 434 = .ok (.ireturn, 1) := by decide +kernel
theorem d_L_law_435 : decode cL_law 435 = .ok (.goto 1032, 3) := by decide +kernel
theorem d_L_law_438 : decode cL_law 438 = .ok (.aload_n 1, 1) := by decide +kernel
theorem d_L_law_439 : decode cL_law 439 = .ok (.aload_n 0, 1) := by decide +kernel
theorem d_L_law_440 : decode cL_law 440 = .ok (.iload 4, 2) := by decide +kernel
theorem d_L_law_442 : decode cL_law 442 = .ok (.iconst 1, 1) := by decide +kernel
theorem d_L_law_443 : decode cL_law 443 = .ok (.iadd, 1) := by decide +kernel
theorem d_L_law_444 : decode cL_law 444 = .ok (.iaload, 1) := by decide +kernel
theorem d_L_law_445 : decode cL_law 445 = .ok (.aload_n 0, 1) := by decide +kernel
theorem d_L_law_446 : decode cL_law 446 = .ok (.iload 4, 2) := by decide +kernel
theorem d_L_law_448 : decode cL_law 448 = .ok (.iconst 2, 1) := by decide +kernel
theorem d_L_law_449 : decode cL_law 449 = .ok (.iadd, 1) := by decide +kernel
theorem d_L_law_450 : decode cL_law 450 = .ok (.iaload, 1) := by decide +kernel
theorem d_L_law_451 : decode cL_law 451 = .ok (.aload_n 3, 1) := by decide +kernel
theorem d_L_law_452 : decode cL_law 452 = .ok (.invokestatic 101, 3) := by decide +kernel
theorem d_L_law_455 : decode cL_law 455 = .ok (.istore 5, 2) := by decide +kernel
theorem d_L_law_457 : decode cL_law 457 = .ok (.aload_n 2, 1) := by decide +kernel
theorem d_L_law_458 : decode cL_law 458 = .ok (.aload_n 0, 1) := by decide +kernel
theorem d_L_law_459 : decode cL_law 459 = .ok (.iload 4, 2) := by decide +kernel
theorem d_L_law_461 : decode cL_law 461 = .ok (.iconst 1, 1) := by decide +kernel
theorem d_L_law_462 : decode cL_law 462 = .ok (.iadd, 1) := by decide +kernel
theorem d_L_law_463 : decode cL_law 463 = .ok (.iaload, 1) := by decide +kernel
theorem d_L_law_464 : decode cL_law 464 = .ok (.aload_n 0, 1) := by decide +kernel
theorem d_L_law_465 : decode cL_law 465 = .ok (.iload 4, 2) := by decide +kernel
theorem d_L_law_467 : decode cL_law 467 = .ok (.iconst 2, 1) := by decide +kernel
theorem d_L_law_468 : decode cL_law 468 = .ok (.iadd, 1) := by decide +kernel
theorem d_L_law_469 : decode cL_law 469 = .ok (.iaload, 1) := by decide +kernel
theorem d_L_law_470 : decode cL_law 470 = .ok (.invokevirtual 103, 3) := by decide +kernel
theorem d_L_law_473 : decode cL_law 473 = .ok (.istore 6, 2) := by decide +kernel
theorem d_L_law_475 : decode cL_law 475 = .ok (.aload_n 2, 1) := by decide +kernel
theorem d_L_law_476 : decode cL_law 476 = .ok (.invokevirtual 85, 3) := by decide +kernel
theorem d_L_law_479 : decode cL_law 479 = .ok (.iload 5, 2) := by decide +kernel
theorem d_L_law_481 : decode cL_law 481 = .ok (.if_icmp .eq 5, 3) := by decide +kernel
theorem d_L_law_484 : decode cL_law 484 = .ok (.iconst 0, 1) := by decide +kernel
theorem d_L_law_485 : decode cL_law 485 = .ok (.ireturn, 1) := by decide +kernel
theorem d_L_law_486 : decode cL_law 486 = .ok (.iload 5, 2) := by decide +kernel
theorem d_L_law_488 : decode cL_law 488 = .ok (.ifCond .ne 15, 3) := by decide +kernel
theorem d_L_law_491 : decode cL_law 491 = .ok (.aload_n 3, 1) := by decide +kernel
theorem d_L_law_492 : decode cL_law 492 = .ok (.iconst 0, 1) := by decide +kernel
theorem d_L_law_493 : decode cL_law 493 = .ok (.laload, 1) := by decide +kernel
theorem d_L_law_494 : decode cL_law 494 = .ok (.iload 6, 2) := by decide +kernel
theorem d_L_law_496 : decode cL_law 496 = .ok (.i2l, 1) := by decide +kernel
theorem d_L_law_497 : decode cL_law 497 = .ok (.lcmp, 1) := by decide +kernel
theorem d_L_law_498 : decode cL_law 498 = .ok (.ifCond .eq 5, 3) := by decide +kernel
theorem d_L_law_501 : decode cL_law 501 = .ok (.iconst 0, 1) := by decide +kernel
theorem d_L_law_502 : decode cL_law 502 = .ok (.ireturn, 1) := by decide +kernel
theorem d_L_law_503 : decode cL_law 503 = .ok (.goto 964, 3) := by decide +kernel
theorem d_L_law_506 : decode cL_law 506 = .ok (.aload_n 1, 1) := by decide +kernel
theorem d_L_law_507 : decode cL_law 507 = .ok (.invokevirtual 104, 3) := by decide +kernel
theorem d_L_law_510 : decode cL_law 510 = .ok (.aload_n 2, 1) := by decide +kernel
theorem d_L_law_511 : decode cL_law 511 = .ok (.invokevirtual 107, 3) := by decide +kernel
theorem d_L_law_514 : decode cL_law 514 = .ok (.if_icmp .eq 953, 3) := by decide +kernel
theorem d_L_law_517 : decode cL_law 517 = .ok (.iconst 0, 1) := by decide +kernel
theorem d_L_law_518 : decode cL_law 518 = .ok (.ireturn, 1) := by decide +kernel
theorem d_L_law_519 : decode cL_law 519 = .ok (.aload_n 1, 1) := by decide +kernel
theorem d_L_law_520 : decode cL_law 520 = .ok (.aload_n 0, 1) := by decide +kernel
theorem d_L_law_521 : decode cL_law 521 = .ok (.iload 4, 2) := by decide +kernel
theorem d_L_law_523 : decode cL_law 523 = .ok (.iconst 1, 1) := by decide +kernel
theorem d_L_law_524 : decode cL_law 524 = .ok (.iadd, 1) := by decide +kernel
theorem d_L_law_525 : decode cL_law 525 = .ok (.iaload, 1) := by decide +kernel
theorem d_L_law_526 : decode cL_law 526 = .ok (.aload_n 3, 1) := by decide +kernel
theorem d_L_law_527 : decode cL_law 527 = .ok (.invokestatic 108, 3) := by decide +kernel
theorem d_L_law_530 : decode cL_law 530 = .ok (.istore 5, 2) := by decide +kernel
theorem d_L_law_532 : decode cL_law 532 = .ok (.aload_n 2, 1) := by decide +kernel
theorem d_L_law_533 : decode cL_law 533 = .ok (.aload_n 0, 1) := by decide +kernel
theorem d_L_law_534 : decode cL_law 534 = .ok (.iload 4, 2) := by decide +kernel
theorem d_L_law_536 : decode cL_law 536 = .ok (.iconst 1, 1) := by decide +kernel
theorem d_L_law_537 : decode cL_law 537 = .ok (.iadd, 1) := by decide +kernel
theorem d_L_law_538 : decode cL_law 538 = .ok (.iaload, 1) := by decide +kernel
theorem d_L_law_539 : decode cL_law 539 = .ok (.invokevirtual 110, 3) := by decide +kernel
theorem d_L_law_542 : decode cL_law 542 = .ok (.istore 6, 2) := by decide +kernel
theorem d_L_law_544 : decode cL_law 544 = .ok (.aload_n 2, 1) := by decide +kernel
theorem d_L_law_545 : decode cL_law 545 = .ok (.invokevirtual 85, 3) := by decide +kernel
theorem d_L_law_548 : decode cL_law 548 = .ok (.iload 5, 2) := by decide +kernel
theorem d_L_law_550 : decode cL_law 550 = .ok (.if_icmp .eq 5, 3) := by decide +kernel
theorem d_L_law_553 : decode cL_law 553 = .ok (.iconst 0, 1) := by decide +kernel
theorem d_L_law_554 : decode cL_law 554 = .ok (.ireturn, 1) := by decide +kernel
theorem d_L_law_555 : decode cL_law 555 = .ok (.iload 5, 2) := by decide +kernel
theorem d_L_law_557 : decode cL_law 557 = .ok (.ifCond .ne 15, 3) := by decide +kernel
theorem d_L_law_560 : decode cL_law 560 = .ok (.aload_n 3, 1) := by decide +kernel
theorem d_L_law_561 : decode cL_law 561 = .ok (.iconst 0, 1) := by decide +kernel
theorem d_L_law_562 : decode cL_law 562 = .ok (.laload, 1) := by decide +kernel
theorem d_L_law_563 : decode cL_law 563 = .ok (.iload 6, 2) := by decide +kernel
theorem d_L_law_565 : decode cL_law 565 = .ok (.i2l, 1) := by decide +kernel
theorem d_L_law_566 : decode cL_law 566 = .ok (.lcmp, 1) := by decide +kernel
theorem d_L_law_567 : decode cL_law 567 = .ok (.ifCond .eq 5, 3) := by decide +kernel
theorem d_L_law_570 : decode cL_law 570 = .ok (.iconst 0, 1) := by decide +kernel
theorem d_L_law_571 : decode cL_law 571 = .ok (.ireturn, 1) := by decide +kernel
theorem d_L_law_572 : decode cL_law 572 = .ok (.goto 895, 3) := by decide +kernel
theorem d_L_law_575 : decode cL_law 575 = .ok (.aload_n 1, 1) := by decide +kernel
theorem d_L_law_576 : decode cL_law 576 = .ok (.aload_n 0, 1) := by decide +kernel
theorem d_L_law_577 : decode cL_law 577 = .ok (.iload 4, 2) := by decide +kernel
theorem d_L_law_579 : decode cL_law 579 = .ok (.iconst 1, 1) := by decide +kernel
theorem d_L_law_580 : decode cL_law 580 = .ok (.iadd, 1) := by decide +kernel
theorem d_L_law_581 : decode cL_law 581 = .ok (.iaload, 1) := by decide +kernel
theorem d_L_law_582 : decode cL_law 582 = .ok (.aload_n 0, 1) := by decide +kernel
theorem d_L_law_583 : decode cL_law 583 = .ok (.iload 4, 2) := by decide +kernel
theorem d_L_law_585 : decode cL_law 585 = .ok (.iconst 2, 1) := by decide +kernel
theorem d_L_law_586 : decode cL_law 586 = .ok (.iadd, 1) := by decide +kernel
theorem d_L_law_587 : decode cL_law 587 = .ok (.iaload, 1) := by decide +kernel
theorem d_L_law_588 : decode cL_law 588 = .ok (.aload_n 0, 1) := by decide +kernel
theorem d_L_law_589 : decode cL_law 589 = .ok (.iload 4, 2) := by decide +kernel
theorem d_L_law_591 : decode cL_law 591 = .ok (.iconst 3, 1) := by decide +kernel
theorem d_L_law_592 : decode cL_law 592 = .ok (.iadd, 1) := by decide +kernel
theorem d_L_law_593 : decode cL_law 593 = .ok (.iaload, 1) := by decide +kernel
theorem d_L_law_594 : decode cL_law 594 = .ok (.aload_n 3, 1) := by decide +kernel
theorem d_L_law_595 : decode cL_law 595 = .ok (.invokestatic 111, 3) := by decide +kernel
theorem d_L_law_598 : decode cL_law 598 = .ok (.istore 5, 2) := by decide +kernel
