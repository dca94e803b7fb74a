theorem d_Law_law_464 : decode b_Law_law 464 = .ok (.aload_n 3, 1) := by decide +kernel
theorem d_Law_law_465 : decode b_Law_law 465 = .ok (.invokestatic 93, 3) := by decide +kernel
theorem d_Law_law_468 : decode b_Law_law 468 = .ok (.istore 5, 2) := by decide +kernel
theorem d_Law_law_470 : decode b_Law_law 470 = .ok (.aload_n 2, 1) := by decide +kernel
theorem d_Law_law_471 : decode b_Law_law 471 = .ok (.aload_n 0, 1) := by decide +kernel
theorem d_Law_law_472 : decode b_Law_law 472 = .ok (.iload 4, 2) := by decide +kernel
theorem d_Law_law_474 : decode b_Law_law 474 = .ok (.iconst 1, 1) := by decide +kernel
theorem d_Law_law_475 : decode b_Law_law 475 = .ok (.iadd, 1) := by decide +kernel
theorem d_Law_law_476 : decode b_Law_law 476 = .ok (.iaload, 1) := by decide +kernel
theorem d_Law_law_477 : decode b_Law_law 477 = .ok (.invokevirtual 96, 3) := by decide +kernel
theorem d_Law_law_480 : decode b_Law_law 480 = .ok (.istore 6, 2) := by decide +kernel
theorem d_Law_law_482 : decode b_Law_law 482 = .ok (.aload_n 2, 1) := by decide +kernel
theorem d_Law_law_483 : decode b_Law_law 483 = .ok (.invokevirtual 74, 3) := by decide +kernel
theorem d_Law_law_486 : decode b_Law_law 486 = .ok (.iload 5, 2) := by decide +kernel
theorem d_Law_law_488 : decode b_Law_law 488 = .ok (.if_icmp .eq 5, 3) := by decide +kernel
theorem d_Law_law_491 : decode b_Law_law 491 = .ok (.iconst 0, 1) := by decide +kernel
theorem d_Law_law_492 : decode b_Law_law 492 = .ok (.ireturn, 1) := by decide +kernel
theorem d_Law_law_493 : decode b_Law_law 493 = .ok (.iload 5, 2) := by decide +kernel
theorem d_Law_law_495 : decode b_Law_law 495 = .ok (.ifCond .ne 15, 3) := by decide +kernel
theorem d_Law_law_498 : decode b_Law_law 498 = .ok (.aload_n 3, 1) := by decide +kernel
theorem d_Law_law_499 : decode b_Law_law 499 = .ok (.iconst 0, 1) := by decide +kernel
theorem d_Law_law_500 : decode b_Law_law 500 = .ok (.laload, 1) := by decide +kernel
theorem d_Law_law_501 : decode b_Law_law 501 = .ok (.iload 6, 2) := by decide +kernel
theorem d_Law_law_503 : decode b_Law_law 503 = .ok (.i2l, 1) := by decide +kernel
theorem d_Law_law_504 : decode b_Law_law 504 = .ok (.lcmp, 1) := by decide +kernel
theorem d_Law_law_505 : decode b_Law_law 505 = .ok (.ifCond .eq 5, 3) := by decide +kernel
theorem d_Law_law_508 : decode b_Law_law 508 = .ok (.iconst 0, 1) := by decide +kernel
theorem d_Law_law_509 : decode b_Law_law 509 = .ok (.ireturn, 1) := by decide +kernel
theorem d_Law_law_510 : decode b_Law_law 510 = .ok (.goto 139, 3) := by decide +kernel
theorem d_Law_law_513 : decode b_Law_law 513 = .ok (.aload_n 1, 1) := by decide +kernel
theorem d_Law_law_514 : decode b_Law_law 514 = .ok (.aload_n 0, 1) := by decide +kernel
theorem d_Law_law_515 : decode b_Law_law 515 = .ok (.iload 4, 2) := by decide +kernel
theorem d_Law_law_517 : decode b_Law_law 517 = .ok (.iconst 1, 1) := by decide +kernel
theorem d_Law_law_518 : decode b_Law_law 518 = .ok (.iadd, 1) := by decide +kernel
theorem d_Law_law_519 : decode b_Law_law 519 = .ok (.iaload, 1) := by decide +kernel
theorem d_Law_law_520 : decode b_Law_law 520 = .ok (.aload_n 3, 1) := by decide +kernel
theorem d_Law_law_521 : decode b_Law_law 521 = .ok (.invokestatic 97, 3) := by decide +kernel
theorem d_Law_law_524 : decode b_Law_law 524 = .ok (.istore 5, 2) := by decide +kernel
theorem d_Law_law_526 : decode b_Law_law 526 = .ok (.aload_n 2, 1) := by decide +kernel
theorem d_Law_law_527 : decode b_Law_law 527 = .ok (.aload_n 0, 1) := by decide +kernel
theorem d_Law_law_528 : decode b_Law_law 528 = .ok (.iload 4, 2) := by decide +kernel
theorem d_Law_law_530 : decode b_Law_law 530 = .ok (.iconst 1, 1) := by decide +kernel
theorem d_Law_law_531 : decode b_Law_law 531 = .ok (.iadd, 1) := by decide +kernel
theorem d_Law_law_532 : decode b_Law_law 532 = .ok (.iaload, 1) := by decide +kernel
theorem d_Law_law_533 : decode b_Law_law 533 = .ok (.invokevirtual 99, 3) := by decide +kernel
theorem d_Law_law_536 : decode b_Law_law 536 = .ok (.istore 6, 2) := by decide +kernel
theorem d_Law_law_538 : decode b_Law_law 538 = .ok (.aload_n 2, 1) := by decide +kernel
theorem d_Law_law_539 : decode b_Law_law 539 = .ok (.invokevirtual 74, 3) := by decide +kernel
theorem d_Law_law_542 : decode b_Law_law 542 = .ok (.iload 5, 2) := by decide +kernel
theorem d_Law_law_544 : decode b_Law_law 544 = .ok (.if_icmp .eq 5, 3) := by decide +kernel
theorem d_Law_law_547 : decode b_Law_law 547 = .ok (.iconst 0, 1) := by decide +kernel
theorem d_Law_law_548 : decode b_Law_law 548 = .ok (.ireturn, 1) := by decide +kernel
theorem d_Law_law_549 : decode b_Law_law 549 = .ok (.iload 5, 2) := by decide +kernel
theorem d_Law_law_551 : decode b_Law_law 551 = .ok (.ifCond .ne 15, 3) := by decide +kernel
theorem d_Law_law_554 : decode b_Law_law 554 = .ok (.aload_n 3, 1) := by decide +kernel
theorem d_Law_law_555 : decode b_Law_law 555 = .ok (.iconst 0, 1) := by decide +kernel
theorem d_Law_law_556 : decode b_Law_law 556 = .ok (.laload, 1) := by decide +kernel
theorem d_Law_law_557 : decode b_Law_law 557 = .ok (.iload 6, 2) := by decide +kernel
theorem d_Law_law_559 : decode b_Law_law 559 = .ok (.i2l, 1) := by decide +kernel
theorem d_Law_law_560 : decode b_Law_law 560 = .ok (.lcmp, 1) := by decide +kernel
theorem d_Law_law_561 : decode b_Law_law 561 = .ok (.ifCond .eq 5, 3) := by decide +kernel
theorem d_Law_law_564 : decode b_Law_law 564 = .ok (.iconst 0, 1) := by decide +kernel
theorem d_Law_law_565 : decode b_Law_law 565 = .ok (.ireturn, 1) := by decide +kernel
theorem d_Law_law_566 : decode b_Law_law 566 = .ok (.goto 83, 3) := by decide +kernel
theorem d_Law_law_569 : decode b_Law_law 569 = .ok (.aload_n 1, 1) := by decide +kernel
theorem d_Law_law_570 : decode b_Law_law 570 = .ok (.aload_n 0, 1) := by decide +kernel
theorem d_Law_law_571 : decode b_Law_law 571 = .ok (.iload 4, 2) := by decide +kernel
theorem d_Law_law_573 : decode b_Law_law 573 = .ok (.iconst 1, 1) := by decide +kernel
theorem d_Law_law_574 : decode b_Law_law 574 = .ok (.iadd, 1) := by decide +kernel
theorem d_Law_law_575 : decode b_Law_law 575 = .ok (.iaload, 1) := by decide +kernel
theorem d_Law_law_576 : decode b_Law_law 576 = .ok (.aload_n 0, 1) := by decide +kernel
theorem d_Law_law_577 : decode b_Law_law 577 = .ok (.iload 4, 2) := by decide +kernel
theorem d_Law_law_579 : decode b_Law_law 579 = .ok (.iconst 2, 1) := by decide +kernel
theorem d_Law_law_580 : decode b_Law_law 580 = .ok (.iadd, 1) := by decide +kernel
theorem d_Law_law_581 : decode b_Law_law 581 = .ok (.iaload, 1) := by decide +kernel
theorem d_Law_law_582 : decode b_Law_law 582 = .ok (.aload_n 0, 1) := by decide +kernel
theorem d_Law_law_583 : decode b_Law_law 583 = .ok (.iload 4, 2) := by decide +kernel
theorem d_Law_law_585 : decode b_Law_law 585 = .ok (.iconst 3, 1) := by decide +kernel
theorem d_Law_law_586 : decode b_Law_law 586 = .ok (.iadd, 1) := by decide +kernel
theorem d_Law_law_587 : decode b_Law_law 587 = .ok (.iaload, 1) := by decide +kernel
theorem d_Law_law_588 : decode b_Law_law 588 = .ok (.aload_n 3, 1) := by decide +kernel
theorem d_Law_law_589 : decode b_Law_law 589 = .ok (.invokestatic 100, 3) := by decide +kernel
theorem d_Law_law_592 : decode b_Law_law 592 = .ok (.istore 5, 2) := by decide +kernel
theorem d_Law_law_594 : decode b_Law_law 594 = .ok (.aload_n 2, 1) := by decide +kernel
theorem d_Law_law_595 : decode b_Law_law 595 = .ok (.aload_n 0, 1) := by decide +kernel
theorem d_Law_law_596 : decode b_Law_law 596 = .ok (.iload 4, 2) := by decide +kernel
theorem d_Law_law_598 : decode b_Law_law 598 = .ok (.iconst 1, 1) := by decide +kernel
theorem d_Law_law_599 : decode b_Law_law 599 = .ok (.iadd, 1) := by decide +kernel
theorem d_Law_law_600 : decode b_Law_law 600 = .ok (.iaload, 1) := by decide +kernel
theorem d_Law_law_601 : decode b_Law_law 601 = .ok (.aload_n 0, 1) := by decide +kernel
theorem d_Law_law_602 : decode b_Law_law 602 = .ok (.iload 4, 2) := by decide +kernel
theorem d_Law_law_604 : decode b_Law_law 604 = .ok (.iconst 2, 1) := by decide +kernel
theorem d_Law_law_605 : decode b_Law_law 605 = .ok (.iadd, 1) := by decide +kernel
theorem d_Law_law_606 : decode b_Law_law 606 = .ok (.iaload, 1) := by decide +kernel
theorem d_Law_law_607 : decode b_Law_law 607 = .ok (.aload_n 0, 1) := by decide +kernel
theorem d_Law_law_608 : decode b_Law_law 608 = .ok (.iload 4, 2) := by decide +kernel
theorem d_Law_law_610 : decode b_Law_law 610 = .ok (.iconst 3, 1) := by decide +kernel
theorem d_Law_law_611 : decode b_Law_law 611 = .ok (.iadd, 1) := by decide +kernel
theorem d_Law_law_612 : decode b_Law_law 612 = .ok (.iaload, 1) := by decide +kernel
theorem d_Law_law_613 : decode b_Law_law 613 = .ok (.invokevirtual 103, 3) := by decide +kernel
theorem d_Law_law_616 : decode b_Law_law 616 = .ok (.istore 6, 2) := by decide +kernel
theorem d_Law_law_618 : decode b_Law_law 618 = .ok (.aload_n 2, 1) := by decide +kernel
theorem d_Law_law_619 : decode b_Law_law 619 = .ok (.invokevirtual 74, 3) := by decide +kernel
theorem d_Law_law_622 : decode b_Law_law 622 = .ok (.iload 5, 2) := by decide +kernel
theorem d_Law_law_624 : decode b_Law_law 624 = .ok (.if_icmp .eq 5, 3) := by decide +kernel
theorem d_Law_law_627 : decode b_Law_law 627 = .ok (.iconst 0, 1) := by decide +kernel
theorem d_Law_law_628 : decode b_Law_law 628 = .ok (.ireturn, 1) := by decide +kernel
theorem d_Law_law_629 : decode b_Law_law 629 = .ok (.iload 5, 2) := by decide +kernel
theorem d_Law_law_631 : decode b_Law_law 631 = .ok (.ifCond .ne 15, 3) := by decide +kernel
theorem d_Law_law_634 : decode b_Law_law 634 = .ok (.aload_n 3, 1) := by decide +kernel
theorem d_Law_law_635 : decode b_Law_law 635 = .ok (.iconst 0, 1) := by decide +kernel
theorem d_Law_law_636 : decode b_Law_law 636 = .ok (.laload, 1) := by decide +kernel
theorem d_Law_law_637 : decode b_Law_law 637 = .ok (.iload 6, 2) := by decide +kernel
theorem d_Law_law_639 : decode b_Law_law 639 = .ok (.i2l, 1) := by decide +kernel
theorem d_Law_law_640 : decode b_Law_law 640 = .ok (.lcmp, 1) := by decide +kernel
theorem d_Law_law_641 : decode b_Law_law 641 = .ok (.ifCond .eq 5, 3) := by decide +kernel
theorem d_Law_law_644 : decode b_Law_law 644 = .ok (.iconst 0, 1) := by decide +kernel
theorem d_Law_law_645 : decode b_Law_law 645 = .ok (.ireturn, 1) := by decide +kernel
theorem d_Law_law_646 : decode b_Law_law 646 = .ok (.goto 3, 3) := by decide +kernel
theorem d_Law_law_649 : decode b_Law_law 649 = .ok (.iinc 4 4, 3) := by decide +kernel
theorem d_Law_law_652 : decode b_Law_law 652 = .ok (.goto (-629), 3) := by decide +kernel
theorem d_Law_law_655 : decode b_Law_law 655 = .ok (.iconst 1, 1) := by decide +kernel
theorem d_Law_law_656 : decode b_Law_law 656 = .ok (.ireturn, 1) := by decide +kernel

