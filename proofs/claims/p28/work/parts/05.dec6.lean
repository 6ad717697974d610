theorem dL_isPaid_459 : decode cL_isPaid 459 = .ok (.iaload, 1) := by decide +kernel
theorem dL_isPaid_460 : decode cL_isPaid 460 = .ok (.imul, 1) := by decide +kernel
theorem dL_isPaid_461 : decode cL_isPaid 461 = .ok (.iconst 1, 1) := by decide +kernel
theorem dL_isPaid_462 : decode cL_isPaid 462 = .ok (.iadd, 1) := by decide +kernel
theorem dL_isPaid_463 : decode cL_isPaid 463 = .ok (.dup2, 1) := by decide +kernel
theorem dL_isPaid_464 : decode cL_isPaid 464 = .ok (.iaload, 1) := by decide +kernel
theorem dL_isPaid_465 : decode cL_isPaid 465 = .ok (.aload 5, 2) := by decide +kernel
theorem dL_isPaid_467 : decode cL_isPaid 467 = .ok (.iload 18, 2) := by decide +kernel
theorem dL_isPaid_469 : decode cL_isPaid 469 = .ok (.iaload, 1) := by decide +kernel
theorem dL_isPaid_470 : decode cL_isPaid 470 = .ok (.iadd, 1) := by decide +kernel
theorem dL_isPaid_471 : decode cL_isPaid 471 = .ok (.iastore, 1) := by decide +kernel
theorem dL_isPaid_472 : decode cL_isPaid 472 = .ok (.aload 4, 2) := by decide +kernel
theorem dL_isPaid_474 : decode cL_isPaid 474 = .ok (.bipush 6, 2) := by decide +kernel
theorem dL_isPaid_476 : decode cL_isPaid 476 = .ok (.iload 18, 2) := by decide +kernel
theorem dL_isPaid_478 : decode cL_isPaid 478 = .ok (.imul, 1) := by decide +kernel
theorem dL_isPaid_479 : decode cL_isPaid 479 = .ok (.iconst 4, 1) := by decide +kernel
theorem dL_isPaid_480 : decode cL_isPaid 480 = .ok (.iadd, 1) := by decide +kernel
theorem dL_isPaid_481 : decode cL_isPaid 481 = .ok (.dup2, 1) := by decide +kernel
theorem dL_isPaid_482 : decode cL_isPaid 482 = .ok (.iaload, 1) := by decide +kernel
theorem dL_isPaid_483 : decode cL_isPaid 483 = .ok (.aload 5, 2) := by decide +kernel
theorem dL_isPaid_485 : decode cL_isPaid 485 = .ok (.iload 18, 2) := by decide +kernel
theorem dL_isPaid_487 : decode cL_isPaid 487 = .ok (.iaload, 1) := by decide +kernel
theorem dL_isPaid_488 : decode cL_isPaid 488 = .ok (.iadd, 1) := by decide +kernel
theorem dL_isPaid_489 : decode cL_isPaid 489 = .ok (.iastore, 1) := by decide +kernel
theorem dL_isPaid_490 : decode cL_isPaid 490 = .ok (.iinc 18 1, 3) := by decide +kernel
theorem dL_isPaid_493 : decode cL_isPaid 493 = .ok (.goto (-71), 3) := by decide +kernel
theorem dL_isPaid_496 : decode cL_isPaid 496 = .ok (.aload_n 1, 1) := by decide +kernel
theorem dL_isPaid_497 : decode cL_isPaid 497 = .ok (.aload_n 2, 1) := by decide +kernel
theorem dL_isPaid_498 : decode cL_isPaid 498 = .ok (.aload 4, 2) := by decide +kernel
theorem dL_isPaid_500 : decode cL_isPaid 500 = .ok (.iload 7, 2) := by decide +kernel
theorem dL_isPaid_502 : decode cL_isPaid 502 = .ok (.iconst 1, 1) := by decide +kernel
theorem dL_isPaid_503 : decode cL_isPaid 503 = .ok (.aload_n 1, 1) := by decide +kernel
theorem dL_isPaid_504 : decode cL_isPaid 504 = .ok (.aload_n 2, 1) := by decide +kernel
theorem dL_isPaid_505 : decode cL_isPaid 505 = .ok (.aload 4, 2) := by decide +kernel
theorem dL_isPaid_507 : decode cL_isPaid 507 = .ok (.iload 7, 2) := by decide +kernel
theorem dL_isPaid_509 : decode cL_isPaid 509 = .ok (.iconst 0, 1) := by decide +kernel
theorem dL_isPaid_510 : decode cL_isPaid 510 = .ok (.iload 15, 2) := by decide +kernel
theorem dL_isPaid_512 : decode cL_isPaid 512 = .ok (.aload 5, 2) := by decide +kernel
theorem dL_isPaid_514 : decode cL_isPaid 514 = .ok (.invokestatic 63, 3) := by decide +kernel
theorem dL_isPaid_517 : decode cL_isPaid 517 = .ok (.aload 5, 2) := by decide +kernel
theorem dL_isPaid_519 : decode cL_isPaid 519 = .ok (.invokestatic 63, 3) := by decide +kernel
theorem dL_isPaid_522 : decode cL_isPaid 522 = .ok (.ifCond .eq 5, 3) := by decide +kernel
theorem dL_isPaid_525 : decode cL_isPaid 525 = .ok (.iconst 0, 1) := by decide +kernel
theorem dL_isPaid_526 : decode cL_isPaid 526 = .ok (.ireturn, 1) := by decide +kernel
theorem dL_isPaid_527 : decode cL_isPaid 527 = .ok (.aload_n 3, 1) := by decide +kernel
theorem dL_isPaid_528 : decode cL_isPaid 528 = .ok (.iload 8, 2) := by decide +kernel
theorem dL_isPaid_530 : decode cL_isPaid 530 = .ok (.bipush 6, 2) := by decide +kernel
theorem dL_isPaid_532 : decode cL_isPaid 532 = .ok (.iadd, 1) := by decide +kernel
theorem dL_isPaid_533 : decode cL_isPaid 533 = .ok (.dup2, 1) := by decide +kernel
theorem dL_isPaid_534 : decode cL_isPaid 534 = .ok (.iaload, 1) := by decide +kernel
theorem dL_isPaid_535 : decode cL_isPaid 535 = .ok (.iload 13, 2) := by decide +kernel
theorem dL_isPaid_537 : decode cL_isPaid 537 = .ok (.isub, 1) := by decide +kernel
theorem dL_isPaid_538 : decode cL_isPaid 538 = .ok (.iastore, 1) := by decide +kernel
theorem dL_isPaid_539 : decode cL_isPaid 539 = .ok (.aload_n 3, 1) := by decide +kernel
theorem dL_isPaid_540 : decode cL_isPaid 540 = .ok (.iload 8, 2) := by decide +kernel
theorem dL_isPaid_542 : decode cL_isPaid 542 = .ok (.iconst 4, 1) := by decide +kernel
theorem dL_isPaid_543 : decode cL_isPaid 543 = .ok (.iadd, 1) := by decide +kernel
theorem dL_isPaid_544 : decode cL_isPaid 544 = .ok (.dup2, 1) := by decide +kernel
theorem dL_isPaid_545 : decode cL_isPaid 545 = .ok (.iaload, 1) := by decide +kernel
theorem dL_isPaid_546 : decode cL_isPaid 546 = .ok (.iload 15, 2) := by decide +kernel
theorem dL_isPaid_548 : decode cL_isPaid 548 = .ok (.isub, 1) := by decide +kernel
theorem dL_isPaid_549 : decode cL_isPaid 549 = .ok (.iastore, 1) := by decide +kernel
theorem dL_isPaid_550 : decode cL_isPaid 550 = .ok (.aload_n 3, 1) := by decide +kernel
theorem dL_isPaid_551 : decode cL_isPaid 551 = .ok (.iload 8, 2) := by decide +kernel
theorem dL_isPaid_553 : decode cL_isPaid 553 = .ok (.bipush 7, 2) := by decide +kernel
theorem dL_isPaid_555 : decode cL_isPaid 555 = .ok (.iadd, 1) := by decide +kernel
theorem dL_isPaid_556 : decode cL_isPaid 556 = .ok (.aload_n 3, 1) := by decide +kernel
theorem dL_isPaid_557 : decode cL_isPaid 557 = .ok (.iload 8, 2) := by decide +kernel
theorem dL_isPaid_559 : decode cL_isPaid 559 = .ok (.bipush 7, 2) := by decide +kernel
theorem dL_isPaid_561 : decode cL_isPaid 561 = .ok (.iadd, 1) := by decide +kernel
theorem dL_isPaid_562 : decode cL_isPaid 562 = .ok (.iaload, 1) := by decide +kernel
theorem dL_isPaid_563 : decode cL_isPaid 563 = .ok (.iload 15, 2) := by decide +kernel
theorem dL_isPaid_565 : decode cL_isPaid 565 = .ok (.if_icmp .ge 7, 3) := by decide +kernel
theorem dL_isPaid_568 : decode cL_isPaid 568 = .ok (.iconst 0, 1) := by decide +kernel
theorem dL_isPaid_569 : decode cL_isPaid 569 = .ok (.goto 13, 3) := by decide +kernel
theorem dL_isPaid_572 : decode cL_isPaid 572 = .ok (.aload_n 3, 1) := by decide +kernel
theorem dL_isPaid_573 : decode cL_isPaid 573 = .ok (.iload 8, 2) := by decide +kernel
theorem dL_isPaid_575 : decode cL_isPaid 575 = .ok (.bipush 7, 2) := by decide +kernel
theorem dL_isPaid_577 : decode cL_isPaid 577 = .ok (.iadd, 1) := by decide +kernel
theorem dL_isPaid_578 : decode cL_isPaid 578 = .ok (.iaload, 1) := by decide +kernel
theorem dL_isPaid_579 : decode cL_isPaid 579 = .ok (.iload 15, 2) := by decide +kernel
theorem dL_isPaid_581 : decode cL_isPaid 581 = .ok (.isub, 1) := by decide +kernel
theorem dL_isPaid_582 : decode cL_isPaid 582 = .ok (.iastore, 1) := by decide +kernel
theorem dL_isPaid_583 : decode cL_isPaid 583 = .ok (.aload_n 3, 1) := by decide +kernel
theorem dL_isPaid_584 : decode cL_isPaid 584 = .ok (.iload 8, 2) := by decide +kernel
theorem dL_isPaid_586 : decode cL_isPaid 586 = .ok (.bipush 8, 2) := by decide +kernel
theorem dL_isPaid_588 : decode cL_isPaid 588 = .ok (.iadd, 1) := by decide +kernel
theorem dL_isPaid_589 : decode cL_isPaid 589 = .ok (.aload_n 3, 1) := by decide +kernel
theorem dL_isPaid_590 : decode cL_isPaid 590 = .ok (.iload 8, 2) := by decide +kernel
theorem dL_isPaid_592 : decode cL_isPaid 592 = .ok (.bipush 6, 2) := by decide +kernel
theorem dL_isPaid_594 : decode cL_isPaid 594 = .ok (.iadd, 1) := by decide +kernel
theorem dL_isPaid_595 : decode cL_isPaid 595 = .ok (.iaload, 1) := by decide +kernel
theorem dL_isPaid_596 : decode cL_isPaid 596 = .ok (.ifCond .ne 17, 3) := by decide +kernel
theorem dL_isPaid_599 : decode cL_isPaid 599 = .ok (.aload_n 3, 1) := by decide +kernel
theorem dL_isPaid_600 : decode cL_isPaid 600 = .ok (.iload 8, 2) := by decide +kernel
theorem dL_isPaid_602 : decode cL_isPaid 602 = .ok (.bipush 7, 2) := by decide +kernel
theorem dL_isPaid_604 : decode cL_isPaid 604 = .ok (.iadd, 1) := by decide +kernel
theorem dL_isPaid_605 : decode cL_isPaid 605 = .ok (.iaload, 1) := by decide +kernel
theorem dL_isPaid_606 : decode cL_isPaid 606 = .ok (.ifCond .ne 7, 3) := by decide +kernel
theorem dL_isPaid_609 : decode cL_isPaid 609 = .ok (.iconst 0, 1) := by decide +kernel
theorem dL_isPaid_610 : decode cL_isPaid 610 = .ok (.goto 10, 3) := by decide +kernel
theorem dL_isPaid_613 : decode cL_isPaid 613 = .ok (.aload_n 3, 1) := by decide +kernel
theorem dL_isPaid_614 : decode cL_isPaid 614 = .ok (.iload 8, 2) := by decide +kernel
theorem dL_isPaid_616 : decode cL_isPaid 616 = .ok (.bipush 8, 2) := by decide +kernel
theorem dL_isPaid_618 : decode cL_isPaid 618 = .ok (.iadd, 1) := by decide +kernel
theorem dL_isPaid_619 : decode cL_isPaid 619 = .ok (.iaload, 1) := by decide +kernel
theorem dL_isPaid_620 : decode cL_isPaid 620 = .ok (.iastore, 1) := by decide +kernel
theorem dL_isPaid_621 : decode cL_isPaid 621 = .ok (.aload_n 3, 1) := by decide +kernel
theorem dL_isPaid_622 : decode cL_isPaid 622 = .ok (.iload 8, 2) := by decide +kernel
theorem dL_isPaid_624 : decode cL_isPaid 624 = .ok (.iconst 3, 1) := by decide +kernel
theorem dL_isPaid_625 : decode cL_isPaid 625 = .ok (.iadd, 1) := by decide +kernel
theorem dL_isPaid_626 : decode cL_isPaid 626 = .ok (.aload_n 3, 1) := by decide +kernel
theorem dL_isPaid_627 : decode cL_isPaid 627 = .ok (.iload 8, 2) := by decide +kernel
theorem dL_isPaid_629 : decode cL_isPaid 629 = .ok (.iconst 4, 1) := by decide +kernel
theorem dL_isPaid_630 : decode cL_isPaid 630 = .ok (.iadd, 1) := by decide +kernel
theorem dL_isPaid_631 : decode cL_isPaid 631 = .ok (.iaload, 1) := by decide +kernel
theorem dL_isPaid_632 : decode cL_isPaid 632 = .ok (.ifCond .ne 17, 3) := by decide +kernel
theorem dL_isPaid_635 : decode cL_isPaid 635 = .ok (.aload_n 3, 1) := by decide +kernel
theorem dL_isPaid_636 : decode cL_isPaid 636 = .ok (.iload 8, 2) := by decide +kernel
theorem dL_isPaid_638 : decode cL_isPaid 638 = .ok (.bipush 6, 2) := by decide +kernel
theorem dL_isPaid_640 : decode cL_isPaid 640 = .ok (.iadd, 1) := by decide +kernel
theorem dL_isPaid_641 : decode cL_isPaid 641 = .ok (.iaload, 1) := by decide +kernel
theorem dL_isPaid_642 : decode cL_isPaid 642 = .ok (.ifCond .ne 7, 3) := by decide +kernel
theorem dL_isPaid_645 : decode cL_isPaid 645 = .ok (.iconst 2, 1) := by decide +kernel
theorem dL_isPaid_646 : decode cL_isPaid 646 = .ok (.goto 4, 3) := by decide +kernel
theorem dL_isPaid_649 : decode cL_isPaid 649 = .ok (.iconst 1, 1) := by decide +kernel
theorem dL_isPaid_650 : decode cL_isPaid 650 = .ok (.iastore, 1) := by decide +kernel
theorem dL_isPaid_651 : decode cL_isPaid 651 = .ok (.aload_n 3, 1) := by decide +kernel
theorem dL_isPaid_652 : decode cL_isPaid 652 = .ok (.iload 8, 2) := by decide +kernel
theorem dL_isPaid_654 : decode cL_isPaid 654 = .ok (.bipush 10, 2) := by decide +kernel
theorem dL_isPaid_656 : decode cL_isPaid 656 = .ok (.iadd, 1) := by decide +kernel
theorem dL_isPaid_657 : decode cL_isPaid 657 = .ok (.aload_n 3, 1) := by decide +kernel
theorem dL_isPaid_658 : decode cL_isPaid 658 = .ok (.iload 8, 2) := by decide +kernel
theorem dL_isPaid_660 : decode cL_isPaid 660 = .ok (.iconst 3, 1) := by decide +kernel
theorem dL_isPaid_661 : decode cL_isPaid 661 = .ok (.iadd, 1) := by decide +kernel
theorem dL_isPaid_662 : decode cL_isPaid 662 = .ok (.iaload, 1) := by decide +kernel
theorem dL_isPaid_663 : decode cL_isPaid 663 = .ok (.iconst 2, 1) := by decide +kernel
theorem dL_isPaid_664 : decode cL_isPaid 664 = .ok (.if_icmp .ne 8, 3) := by decide +kernel
theorem dL_isPaid_667 : decode cL_isPaid 667 = .ok (.bipush (-5), 2) := by decide +kernel
theorem dL_isPaid_669 : decode cL_isPaid 669 = .ok (.goto 10, 3) := by decide +kernel
theorem dL_isPaid_672 : decode cL_isPaid 672 = .ok (.aload_n 3, 1) := by decide +kernel
theorem dL_isPaid_673 : decode cL_isPaid 673 = .ok (.iload 8, 2) := by decide +kernel
theorem dL_isPaid_675 : decode cL_isPaid 675 = .ok (.bipush 10, 2) := by decide +kernel
theorem dL_isPaid_677 : decode cL_isPaid 677 = .ok (.iadd, 1) := by decide +kernel
theorem dL_isPaid_678 : decode cL_isPaid 678 = .ok (.iaload, 1) := by decide +kernel
theorem dL_isPaid_679 : decode cL_isPaid 679 = .ok (.iastore, 1) := by decide +kernel
theorem dL_isPaid_680 : decode cL_isPaid 680 = .ok (.aload_n 0, 1) := by decide +kernel
theorem dL_isPaid_681 : decode cL_isPaid 681 = .ok (.iload 7, 2) := by decide +kernel
theorem dL_isPaid_683 : decode cL_isPaid 683 = .ok (.iload 11, 2) := by decide +kernel
theorem dL_isPaid_685 : decode cL_isPaid 685 = .ok (.invokevirtual 54, 3) := by decide +kernel
theorem dL_isPaid_688 : decode cL_isPaid 688 = .ok (.aload_n 3, 1) := by decide +kernel
theorem dL_isPaid_689 : decode cL_isPaid 689 = .ok (.iload 8, 2) := by decide +kernel
theorem dL_isPaid_691 : decode cL_isPaid 691 = .ok (.iconst 4, 1) := by decide +kernel
theorem dL_isPaid_692 : decode cL_isPaid 692 = .ok (.iadd, 1) := by decide +kernel
theorem dL_isPaid_693 : decode cL_isPaid 693 = .ok (.iaload, 1) := by decide +kernel
theorem dL_isPaid_694 : decode cL_isPaid 694 = .ok (.if_icmp .ne 7, 3) := by decide +kernel
theorem dL_isPaid_697 : decode cL_isPaid 697 = .ok (.iconst 1, 1) := by decide +kernel
theorem dL_isPaid_698 : decode cL_isPaid 698 = .ok (.goto 4, 3) := by decide +kernel
theorem dL_isPaid_701 : decode cL_isPaid 701 = .ok (.iconst 0, 1) := by decide +kernel
theorem dL_isPaid_702 : decode cL_isPaid 702 = .ok (.ireturn, 1) := by decide +kernel
theorem dL_isSold_0 : decode cL_isSold 0 = .ok (.iload 6, 2) := by decide +kernel
theorem dL_isSold_2 : decode cL_isSold 2 = .ok (.aload_n 1, 1) := by decide +kernel
theorem dL_isSold_3 : decode cL_isSold 3 = .ok (.iconst 1, 1) := by decide +kernel
theorem dL_isSold_4 : decode cL_isSold 4 = .ok (.iaload, 1) := by decide +kernel
theorem dL_isSold_5 : decode cL_isSold 5 = .ok (.invokestatic 41, 3) := by decide +kernel
theorem dL_isSold_8 : decode cL_isSold 8 = .ok (.istore 7, 2) := by decide +kernel
theorem dL_isSold_10 : decode cL_isSold 10 = .ok (.bipush 11, 2) := by decide +kernel
theorem dL_isSold_12 : decode cL_isSold 12 = .ok (.iload 7, 2) := by decide +kernel
theorem dL_isSold_14 : decode cL_isSold 14 = .ok (.imul, 1) := by decide +kernel
theorem dL_isSold_15 : decode cL_isSold 15 = .ok (.istore 8, 2) := by decide +kernel
theorem dL_isSold_17 : decode cL_isSold 17 = .ok (.iload 6, 2) := by decide +kernel
theorem dL_isSold_19 : decode cL_isSold 19 = .ok (.iconst 3, 1) := by decide +kernel
theorem dL_isSold_20 : decode cL_isSold 20 = .ok (.ishr, 1) := by decide +kernel
theorem dL_isSold_21 : decode cL_isSold 21 = .ok (.iload 6, 2) := by decide +kernel
theorem dL_isSold_23 : decode cL_isSold 23 = .ok (.bipush 14, 2) := by decide +kernel
theorem dL_isSold_25 : decode cL_isSold 25 = .ok (.ishr, 1) := by decide +kernel
theorem dL_isSold_26 : decode cL_isSold 26 = .ok (.iconst 2, 1) := by decide +kernel
theorem dL_isSold_27 : decode cL_isSold 27 = .ok (.invokestatic 41, 3) := by decide +kernel
theorem dL_isSold_30 : decode cL_isSold 30 = .ok (.ifCond .ne 9, 3) := by decide +kernel
theorem dL_isSold_33 : decode cL_isSold 33 = .ok (.sipush 400, 3) := by decide +kernel
theorem dL_isSold_36 : decode cL_isSold 36 = .ok (.goto 6, 3) := by decide +kernel
theorem dL_isSold_39 : decode cL_isSold 39 = .ok (.sipush 20000, 3) := by decide +kernel
theorem dL_isSold_42 : decode cL_isSold 42 = .ok (.invokestatic 41, 3) := by decide +kernel
theorem dL_isSold_45 : decode cL_isSold 45 = .ok (.istore 9, 2) := by decide +kernel
theorem dL_isSold_47 : decode cL_isSold 47 = .ok (.aload_n 3, 1) := by decide +kernel
theorem dL_isSold_48 : decode cL_isSold 48 = .ok (.iload 8, 2) := by decide +kernel
theorem dL_isSold_50 : decode cL_isSold 50 = .ok (.iconst 3, 1) := by decide +kernel
theorem dL_isSold_51 : decode cL_isSold 51 = .ok (.iadd, 1) := by decide +kernel
theorem dL_isSold_52 : decode cL_isSold 52 = .ok (.iaload, 1) := by decide +kernel
theorem dL_isSold_53 : decode cL_isSold 53 = .ok (.iconst 1, 1) := by decide +kernel
theorem dL_isSold_54 : decode cL_isSold 54 = .ok (.if_icmp .ne 23, 3) := by decide +kernel
theorem dL_isSold_57 : decode cL_isSold 57 = .ok (.aload_n 3, 1) := by decide +kernel
theorem dL_isSold_58 : decode cL_isSold 58 = .ok (.iload 8, 2) := by decide +kernel
theorem dL_isSold_60 : decode cL_isSold 60 = .ok (.bipush 8, 2) := by decide +kernel
theorem dL_isSold_62 : decode cL_isSold 62 = .ok (.iadd, 1) := by decide +kernel
theorem dL_isSold_63 : decode cL_isSold 63 = .ok (.iaload, 1) := by decide +kernel
theorem dL_isSold_64 : decode cL_isSold 64 = .ok (.ifCond .le 13, 3) := by decide +kernel
theorem dL_isSold_67 : decode cL_isSold 67 = .ok (.aload_n 3, 1) := by decide +kernel
theorem dL_isSold_68 : decode cL_isSold 68 = .ok (.iload 8, 2) := by decide +kernel
theorem dL_isSold_70 : decode cL_isSold 70 = .ok (.bipush 6, 2) := by decide +kernel
theorem dL_isSold_72 : decode cL_isSold 72 = .ok (.iadd, 1) := by decide +kernel
theorem dL_isSold_73 : decode cL_isSold 73 = .ok (.iaload, 1) := by decide +kernel
theorem dL_isSold_74 : decode cL_isSold 74 = .ok (.ifCond .eq 15, 3) := by decide +kernel
theorem dL_isSold_77 : decode cL_isSold 77 = .ok (.iload 6, 2) := by decide +kernel
theorem dL_isSold_79 : decode cL_isSold 79 = .ok (.bipush 16, 2) := by decide +kernel
theorem dL_isSold_81 : decode cL_isSold 81 = .ok (.ishr, 1) := by decide +kernel
theorem dL_isSold_82 : decode cL_isSold 82 = .ok (.iconst 3, 1) := by decide +kernel
theorem dL_isSold_83 : decode cL_isSold 83 = .ok (.invokestatic 41, 3) := by decide +kernel
theorem dL_isSold_86 : decode cL_isSold 86 = .ok (.ifCond .ne 138, 3) := by decide +kernel
theorem dL_isSold_89 : decode cL_isSold 89 = .ok (.iconst 1, 1) := by decide +kernel
theorem dL_isSold_90 : decode cL_isSold 90 = .ok (.iload 6, 2) := by decide +kernel
theorem dL_isSold_92 : decode cL_isSold 92 = .ok (.bipush 18, 2) := by decide +kernel
theorem dL_isSold_94 : decode cL_isSold 94 = .ok (.ishr, 1) := by decide +kernel
theorem dL_isSold_95 : decode cL_isSold 95 = .ok (.bipush 36, 2) := by decide +kernel
theorem dL_isSold_97 : decode cL_isSold 97 = .ok (.invokestatic 41, 3) := by decide +kernel
theorem dL_isSold_100 : decode cL_isSold 100 = .ok (.iadd, 1) := by decide +kernel
theorem dL_isSold_101 : decode cL_isSold 101 = .ok (.istore 10, 2) := by decide +kernel
theorem dL_isSold_103 : decode cL_isSold 103 = .ok (.aload_n 3, 1) := by decide +kernel
theorem dL_isSold_104 : decode cL_isSold 104 = .ok (.iload 8, 2) := by decide +kernel
theorem dL_isSold_106 : decode cL_isSold 106 = .ok (.iconst 3, 1) := by decide +kernel
theorem dL_isSold_107 : decode cL_isSold 107 = .ok (.iadd, 1) := by decide +kernel
theorem dL_isSold_108 : decode cL_isSold 108 = .ok (.iaload, 1) := by decide +kernel
theorem dL_isSold_109 : decode cL_isSold 109 = .ok (.iconst 1, 1) := by decide +kernel
theorem dL_isSold_110 : decode cL_isSold 110 = .ok (.if_icmp .ne 23, 3) := by decide +kernel
theorem dL_isSold_113 : decode cL_isSold 113 = .ok (.aload_n 3, 1) := by decide +kernel
theorem dL_isSold_114 : decode cL_isSold 114 = .ok (.iload 8, 2) := by decide +kernel
theorem dL_isSold_116 : decode cL_isSold 116 = .ok (.bipush 8, 2) := by decide +kernel
theorem dL_isSold_118 : decode cL_isSold 118 = .ok (.iadd, 1) := by decide +kernel
theorem dL_isSold_119 : decode cL_isSold 119 = .ok (.iaload, 1) := by decide +kernel
theorem dL_isSold_120 : decode cL_isSold 120 = .ok (.ifCond .eq 13, 3) := by decide +kernel
theorem dL_isSold_123 : decode cL_isSold 123 = .ok (.aload_n 3, 1) := by decide +kernel
theorem dL_isSold_124 : decode cL_isSold 124 = .ok (.iload 8, 2) := by decide +kernel
theorem dL_isSold_126 : decode cL_isSold 126 = .ok (.bipush 6, 2) := by decide +kernel
theorem dL_isSold_128 : decode cL_isSold 128 = .ok (.iadd, 1) := by decide +kernel
theorem dL_isSold_129 : decode cL_isSold 129 = .ok (.iaload, 1) := by decide +kernel
theorem dL_isSold_130 : decode cL_isSold 130 = .ok (.ifCond .le 35, 3) := by decide +kernel
theorem dL_isSold_133 : decode cL_isSold 133 = .ok (.aload_n 0, 1) := by decide +kernel
theorem dL_isSold_134 : decode cL_isSold 134 = .ok (.iload 7, 2) := by decide +kernel
theorem dL_isSold_136 : decode cL_isSold 136 = .ok (.iload 10, 2) := by decide +kernel
theorem dL_isSold_138 : decode cL_isSold 138 = .ok (.invokevirtual 67, 3) := by decide +kernel
theorem dL_isSold_141 : decode cL_isSold 141 = .ok (.bipush (-4), 2) := by decide +kernel
theorem dL_isSold_143 : decode cL_isSold 143 = .ok (.if_icmp .ne 20, 3) := by decide +kernel
theorem dL_isSold_146 : decode cL_isSold 146 = .ok (.aload_n 0, 1) := by decide +kernel
theorem dL_isSold_147 : decode cL_isSold 147 = .ok (.iload 7, 2) := by decide +kernel
theorem dL_isSold_149 : decode cL_isSold 149 = .ok (.bipush 37, 2) := by decide +kernel
theorem dL_isSold_151 : decode cL_isSold 151 = .ok (.invokevirtual 67, 3) := by decide +kernel
theorem dL_isSold_154 : decode cL_isSold 154 = .ok (.bipush (-2), 2) := by decide +kernel
theorem dL_isSold_156 : decode cL_isSold 156 = .ok (.if_icmp .ne 7, 3) := by decide +kernel
theorem dL_isSold_159 : decode cL_isSold 159 = .ok (.iconst 1, 1) := by decide +kernel
theorem dL_isSold_160 : decode cL_isSold 160 = .ok (.goto 4, 3) := by decide +kernel
theorem dL_isSold_163 : decode cL_isSold 163 = .ok (.iconst 0, 1) := by decide +kernel
theorem dL_isSold_164 : decode cL_isSold 164 = .ok (.ireturn, 1) := by decide +kernel
theorem dL_isSold_165 : decode cL_isSold 165 = .ok (.aload_n 3, 1) := by decide +kernel
theorem dL_isSold_166 : decode cL_isSold 166 = .ok (.iload 8, 2) := by decide +kernel
theorem dL_isSold_168 : decode cL_isSold 168 = .ok (.bipush 7, 2) := by decide +kernel
theorem dL_isSold_170 : decode cL_isSold 170 = .ok (.iadd, 1) := by decide +kernel
theorem dL_isSold_171 : decode cL_isSold 171 = .ok (.iconst 0, 1) := by decide +kernel
theorem dL_isSold_172 : decode cL_isSold 172 = .ok (.iastore, 1) := by decide +kernel
theorem dL_isSold_173 : decode cL_isSold 173 = .ok (.aload_n 3, 1) := by decide +kernel
theorem dL_isSold_174 : decode cL_isSold 174 = .ok (.iload 8, 2) := by decide +kernel
theorem dL_isSold_176 : decode cL_isSold 176 = .ok (.bipush 8, 2) := by decide +kernel
theorem dL_isSold_178 : decode cL_isSold 178 = .ok (.iadd, 1) := by decide +kernel
theorem dL_isSold_179 : decode cL_isSold 179 = .ok (.iconst 0, 1) := by decide +kernel
theorem dL_isSold_180 : decode cL_isSold 180 = .ok (.iastore, 1) := by decide +kernel
theorem dL_isSold_181 : decode cL_isSold 181 = .ok (.aload_n 3, 1) := by decide +kernel
theorem dL_isSold_182 : decode cL_isSold 182 = .ok (.iload 8, 2) := by decide +kernel
theorem dL_isSold_184 : decode cL_isSold 184 = .ok (.iconst 5, 1) := by decide +kernel
theorem dL_isSold_185 : decode cL_isSold 185 = .ok (.iadd, 1) := by decide +kernel
theorem dL_isSold_186 : decode cL_isSold 186 = .ok (.aload_n 3, 1) := by decide +kernel
theorem dL_isSold_187 : decode cL_isSold 187 = .ok (.iload 8, 2) := by decide +kernel
theorem dL_isSold_189 : decode cL_isSold 189 = .ok (.iconst 4, 1) := by decide +kernel
theorem dL_isSold_190 : decode cL_isSold 190 = .ok (.iadd, 1) := by decide +kernel
theorem dL_isSold_191 : decode cL_isSold 191 = .ok (.iaload, 1) := by decide +kernel
theorem dL_isSold_192 : decode cL_isSold 192 = .ok (.iload 10, 2) := by decide +kernel
theorem dL_isSold_194 : decode cL_isSold 194 = .ok (.iadd, 1) := by decide +kernel
theorem dL_isSold_195 : decode cL_isSold 195 = .ok (.iconst 1, 1) := by decide +kernel
theorem dL_isSold_196 : decode cL_isSold 196 = .ok (.isub, 1) := by decide +kernel
theorem dL_isSold_197 : decode cL_isSold 197 = .ok (.iload 10, 2) := by decide +kernel
theorem dL_isSold_199 : decode cL_isSold 199 = .ok (.idiv, 1) := by decide +kernel
theorem dL_isSold_200 : decode cL_isSold 200 = .ok (.iastore, 1) := by decide +kernel
theorem dL_isSold_201 : decode cL_isSold 201 = .ok (.aload_n 0, 1) := by decide +kernel
theorem dL_isSold_202 : decode cL_isSold 202 = .ok (.iload 7, 2) := by decide +kernel
theorem dL_isSold_204 : decode cL_isSold 204 = .ok (.iload 10, 2) := by decide +kernel
theorem dL_isSold_206 : decode cL_isSold 206 = .ok (.invokevirtual 67, 3) := by decide +kernel
theorem dL_isSold_209 : decode cL_isSold 209 = .ok (.aload_n 3, 1) := by decide +kernel
theorem dL_isSold_210 : decode cL_isSold 210 = .ok (.iload 8, 2) := by decide +kernel
theorem dL_isSold_212 : decode cL_isSold 212 = .ok (.iconst 5, 1) := by decide +kernel
theorem dL_isSold_213 : decode cL_isSold 213 = .ok (.iadd, 1) := by decide +kernel
theorem dL_isSold_214 : decode cL_isSold 214 = .ok (.iaload, 1) := by decide +kernel
theorem dL_isSold_215 : decode cL_isSold 215 = .ok (.if_icmp .ne 7, 3) := by decide +kernel
theorem dL_isSold_218 : decode cL_isSold 218 = .ok (.iconst 1, 1) := by decide +kernel
theorem dL_isSold_219 : decode cL_isSold 219 = .ok (.goto 4, 3) := by decide +kernel
theorem dL_isSold_222 : decode cL_isSold 222 = .ok (.iconst 0, 1) := by decide +kernel
theorem dL_isSold_223 : decode cL_isSold 223 = .ok (.ireturn, 1) := by decide +kernel
theorem dL_isSold_224 : decode cL_isSold 224 = .ok (.aload_n 3, 1) := by decide +kernel
theorem dL_isSold_225 : decode cL_isSold 225 = .ok (.iload 8, 2) := by decide +kernel
theorem dL_isSold_227 : decode cL_isSold 227 = .ok (.iconst 3, 1) := by decide +kernel
theorem dL_isSold_228 : decode cL_isSold 228 = .ok (.iadd, 1) := by decide +kernel
theorem dL_isSold_229 : decode cL_isSold 229 = .ok (.iaload, 1) := by decide +kernel
theorem dL_isSold_230 : decode cL_isSold 230 = .ok (.iconst 1, 1) := by decide +kernel
theorem dL_isSold_231 : decode cL_isSold 231 = .ok (.if_icmp .ne 14, 3) := by decide +kernel
theorem dL_isSold_234 : decode cL_isSold 234 = .ok (.aload_n 3, 1) := by decide +kernel
theorem dL_isSold_235 : decode cL_isSold 235 = .ok (.iload 8, 2) := by decide +kernel
theorem dL_isSold_237 : decode cL_isSold 237 = .ok (.bipush 8, 2) := by decide +kernel
theorem dL_isSold_239 : decode cL_isSold 239 = .ok (.iadd, 1) := by decide +kernel
theorem dL_isSold_240 : decode cL_isSold 240 = .ok (.iaload, 1) := by decide +kernel
theorem dL_isSold_241 : decode cL_isSold 241 = .ok (.iconst 3, 1) := by decide +kernel
theorem dL_isSold_242 : decode cL_isSold 242 = .ok (.if_icmp .ge 35, 3) := by decide +kernel
theorem dL_isSold_245 : decode cL_isSold 245 = .ok (.aload_n 0, 1) := by decide +kernel
theorem dL_isSold_246 : decode cL_isSold 246 = .ok (.iload 7, 2) := by decide +kernel
theorem dL_isSold_248 : decode cL_isSold 248 = .ok (.iload 9, 2) := by decide +kernel
theorem dL_isSold_250 : decode cL_isSold 250 = .ok (.invokevirtual 70, 3) := by decide +kernel
theorem dL_isSold_253 : decode cL_isSold 253 = .ok (.bipush (-4), 2) := by decide +kernel
theorem dL_isSold_255 : decode cL_isSold 255 = .ok (.if_icmp .ne 20, 3) := by decide +kernel
theorem dL_isSold_258 : decode cL_isSold 258 = .ok (.aload_n 0, 1) := by decide +kernel
theorem dL_isSold_259 : decode cL_isSold 259 = .ok (.iload 7, 2) := by decide +kernel
theorem dL_isSold_261 : decode cL_isSold 261 = .ok (.ldc 73, 2) := by decide +kernel
theorem dL_isSold_263 : decode cL_isSold 263 = .ok (.invokevirtual 70, 3) := by decide +kernel
theorem dL_isSold_266 : decode cL_isSold 266 = .ok (.bipush (-2), 2) := by decide +kernel
theorem dL_isSold_268 : decode cL_isSold 268 = .ok (.if_icmp .ne 7, 3) := by decide +kernel
theorem dL_isSold_271 : decode cL_isSold 271 = .ok (.iconst 1, 1) := by decide +kernel
theorem dL_isSold_272 : decode cL_isSold 272 = .ok (.goto 4, 3) := by decide +kernel
theorem dL_isSold_275 : decode cL_isSold 275 = .ok (.iconst 0, 1) := by decide +kernel
theorem dL_isSold_276 : decode cL_isSold 276 = .ok (.ireturn, 1) := by decide +kernel
theorem dL_isSold_277 : decode cL_isSold 277 = .ok (.aload_n 1, 1) := by decide +kernel
theorem dL_isSold_278 : decode cL_isSold 278 = .ok (.iconst 3, 1) := by decide +kernel
theorem dL_isSold_279 : decode cL_isSold 279 = .ok (.dup2, 1) := by decide +kernel
theorem dL_isSold_280 : decode cL_isSold 280 = .ok (.iaload, 1) := by decide +kernel
theorem dL_isSold_281 : decode cL_isSold 281 = .ok (.aload_n 1, 1) := by decide +kernel
theorem dL_isSold_282 : decode cL_isSold 282 = .ok (.aload_n 2, 1) := by decide +kernel
theorem dL_isSold_283 : decode cL_isSold 283 = .ok (.aload 4, 2) := by decide +kernel
theorem dL_isSold_285 : decode cL_isSold 285 = .ok (.iload 7, 2) := by decide +kernel
theorem dL_isSold_287 : decode cL_isSold 287 = .ok (.iconst 1, 1) := by decide +kernel
theorem dL_isSold_288 : decode cL_isSold 288 = .ok (.aload_n 1, 1) := by decide +kernel
theorem dL_isSold_289 : decode cL_isSold 289 = .ok (.aload_n 2, 1) := by decide +kernel
theorem dL_isSold_290 : decode cL_isSold 290 = .ok (.aload 4, 2) := by decide +kernel
theorem dL_isSold_292 : decode cL_isSold 292 = .ok (.iload 7, 2) := by decide +kernel
theorem dL_isSold_294 : decode cL_isSold 294 = .ok (.iconst 0, 1) := by decide +kernel
theorem dL_isSold_295 : decode cL_isSold 295 = .ok (.iload 9, 2) := by decide +kernel
theorem dL_isSold_297 : decode cL_isSold 297 = .ok (.aload 5, 2) := by decide +kernel
theorem dL_isSold_299 : decode cL_isSold 299 = .ok (.invokestatic 63, 3) := by decide +kernel
theorem dL_isSold_302 : decode cL_isSold 302 = .ok (.aload 5, 2) := by decide +kernel
theorem dL_isSold_304 : decode cL_isSold 304 = .ok (.invokestatic 63, 3) := by decide +kernel
theorem dL_isSold_307 : decode cL_isSold 307 = .ok (.iadd, 1) := by decide +kernel
theorem dL_isSold_308 : decode cL_isSold 308 = .ok (.iastore, 1) := by decide +kernel
theorem dL_isSold_309 : decode cL_isSold 309 = .ok (.aload_n 1, 1) := by decide +kernel
theorem dL_isSold_310 : decode cL_isSold 310 = .ok (.iconst 3, 1) := by decide +kernel
theorem dL_isSold_311 : decode cL_isSold 311 = .ok (.aload_n 1, 1) := by decide +kernel
theorem dL_isSold_312 : decode cL_isSold 312 = .ok (.aload_n 2, 1) := by decide +kernel
theorem dL_isSold_313 : decode cL_isSold 313 = .ok (.aload 4, 2) := by decide +kernel
theorem dL_isSold_315 : decode cL_isSold 315 = .ok (.iload 7, 2) := by decide +kernel
theorem dL_isSold_317 : decode cL_isSold 317 = .ok (.iconst 0, 1) := by decide +kernel
theorem dL_isSold_318 : decode cL_isSold 318 = .ok (.aload_n 1, 1) := by decide +kernel
theorem dL_isSold_319 : decode cL_isSold 319 = .ok (.iconst 3, 1) := by decide +kernel
theorem dL_isSold_320 : decode cL_isSold 320 = .ok (.iaload, 1) := by decide +kernel
theorem dL_isSold_321 : decode cL_isSold 321 = .ok (.aload 5, 2) := by decide +kernel
theorem dL_isSold_323 : decode cL_isSold 323 = .ok (.invokestatic 63, 3) := by decide +kernel
theorem dL_isSold_326 : decode cL_isSold 326 = .ok (.iastore, 1) := by decide +kernel
theorem dL_isSold_327 : decode cL_isSold 327 = .ok (.iconst 0, 1) := by decide +kernel
theorem dL_isSold_328 : decode cL_isSold 328 = .ok (.istore 10, 2) := by decide +kernel
theorem dL_isSold_330 : decode cL_isSold 330 = .ok (.iconst 0, 1) := by decide +kernel
theorem dL_isSold_331 : decode cL_isSold 331 = .ok (.istore 11, 2) := by decide +kernel
theorem dL_isSold_333 : decode cL_isSold 333 = .ok (.iload 11, 2) := by decide +kernel
theorem dL_isSold_335 : decode cL_isSold 335 = .ok (.aload_n 1, 1) := by decide +kernel
theorem dL_isSold_336 : decode cL_isSold 336 = .ok (.iconst 2, 1) := by decide +kernel
theorem dL_isSold_337 : decode cL_isSold 337 = .ok (.iaload, 1) := by decide +kernel
theorem dL_isSold_338 : decode cL_isSold 338 = .ok (.if_icmp .ge 97, 3) := by decide +kernel
theorem dL_isSold_341 : decode cL_isSold 341 = .ok (.aload 4, 2) := by decide +kernel
theorem dL_isSold_343 : decode cL_isSold 343 = .ok (.bipush 6, 2) := by decide +kernel
theorem dL_isSold_345 : decode cL_isSold 345 = .ok (.iload 11, 2) := by decide +kernel
theorem dL_isSold_347 : decode cL_isSold 347 = .ok (.imul, 1) := by decide +kernel
theorem dL_isSold_348 : decode cL_isSold 348 = .ok (.iconst 1, 1) := by decide +kernel
theorem dL_isSold_349 : decode cL_isSold 349 = .ok (.iadd, 1) := by decide +kernel
theorem dL_isSold_350 : decode cL_isSold 350 = .ok (.iaload, 1) := by decide +kernel
theorem dL_isSold_351 : decode cL_isSold 351 = .ok (.iload 7, 2) := by decide +kernel
theorem dL_isSold_353 : decode cL_isSold 353 = .ok (.if_icmp .ne 76, 3) := by decide +kernel
theorem dL_isSold_356 : decode cL_isSold 356 = .ok (.iload 10, 2) := by decide +kernel
theorem dL_isSold_358 : decode cL_isSold 358 = .ok (.aload 4, 2) := by decide +kernel
theorem dL_isSold_360 : decode cL_isSold 360 = .ok (.bipush 6, 2) := by decide +kernel
theorem dL_isSold_362 : decode cL_isSold 362 = .ok (.iload 11, 2) := by decide +kernel
theorem dL_isSold_364 : decode cL_isSold 364 = .ok (.imul, 1) := by decide +kernel
theorem dL_isSold_365 : decode cL_isSold 365 = .ok (.iconst 3, 1) := by decide +kernel
theorem dL_isSold_366 : decode cL_isSold 366 = .ok (.iadd, 1) := by decide +kernel
theorem dL_isSold_367 : decode cL_isSold 367 = .ok (.iaload, 1) := by decide +kernel
theorem dL_isSold_368 : decode cL_isSold 368 = .ok (.iadd, 1) := by decide +kernel
theorem dL_isSold_369 : decode cL_isSold 369 = .ok (.istore 10, 2) := by decide +kernel
theorem dL_isSold_371 : decode cL_isSold 371 = .ok (.aload 4, 2) := by decide +kernel
theorem dL_isSold_373 : decode cL_isSold 373 = .ok (.bipush 6, 2) := by decide +kernel
theorem dL_isSold_375 : decode cL_isSold 375 = .ok (.iload 11, 2) := by decide +kernel
theorem dL_isSold_377 : decode cL_isSold 377 = .ok (.imul, 1) := by decide +kernel
theorem dL_isSold_378 : decode cL_isSold 378 = .ok (.iconst 5, 1) := by decide +kernel
theorem dL_isSold_379 : decode cL_isSold 379 = .ok (.iadd, 1) := by decide +kernel
theorem dL_isSold_380 : decode cL_isSold 380 = .ok (.aload 4, 2) := by decide +kernel
theorem dL_isSold_382 : decode cL_isSold 382 = .ok (.bipush 6, 2) := by decide +kernel
theorem dL_isSold_384 : decode cL_isSold 384 = .ok (.iload 11, 2) := by decide +kernel
theorem dL_isSold_386 : decode cL_isSold 386 = .ok (.imul, 1) := by decide +kernel
theorem dL_isSold_387 : decode cL_isSold 387 = .ok (.iconst 3, 1) := by decide +kernel
theorem dL_isSold_388 : decode cL_isSold 388 = .ok (.iadd, 1) := by decide +kernel
theorem dL_isSold_389 : decode cL_isSold 389 = .ok (.iaload, 1) := by decide +kernel
theorem dL_isSold_390 : decode cL_isSold 390 = .ok (.iastore, 1) := by decide +kernel
theorem dL_isSold_391 : decode cL_isSold 391 = .ok (.aload_n 2, 1) := by decide +kernel
theorem dL_isSold_392 : decode cL_isSold 392 = .ok (.iconst 3, 1) := by decide +kernel
theorem dL_isSold_393 : decode cL_isSold 393 = .ok (.aload 4, 2) := by decide +kernel
theorem dL_isSold_395 : decode cL_isSold 395 = .ok (.bipush 6, 2) := by decide +kernel
theorem dL_isSold_397 : decode cL_isSold 397 = .ok (.iload 11, 2) := by decide +kernel
theorem dL_isSold_399 : decode cL_isSold 399 = .ok (.imul, 1) := by decide +kernel
theorem dL_isSold_400 : decode cL_isSold 400 = .ok (.iaload, 1) := by decide +kernel
theorem dL_isSold_401 : decode cL_isSold 401 = .ok (.imul, 1) := by decide +kernel
theorem dL_isSold_402 : decode cL_isSold 402 = .ok (.iconst 2, 1) := by decide +kernel
theorem dL_isSold_403 : decode cL_isSold 403 = .ok (.iadd, 1) := by decide +kernel
theorem dL_isSold_404 : decode cL_isSold 404 = .ok (.dup2, 1) := by decide +kernel
theorem dL_isSold_405 : decode cL_isSold 405 = .ok (.iaload, 1) := by decide +kernel
theorem dL_isSold_406 : decode cL_isSold 406 = .ok (.aload 4, 2) := by decide +kernel
theorem dL_isSold_408 : decode cL_isSold 408 = .ok (.bipush 6, 2) := by decide +kernel
theorem dL_isSold_410 : decode cL_isSold 410 = .ok (.iload 11, 2) := by decide +kernel
theorem dL_isSold_412 : decode cL_isSold 412 = .ok (.imul, 1) := by decide +kernel
theorem dL_isSold_413 : decode cL_isSold 413 = .ok (.iconst 3, 1) := by decide +kernel
theorem dL_isSold_414 : decode cL_isSold 414 = .ok (.iadd, 1) := by decide +kernel
theorem dL_isSold_415 : decode cL_isSold 415 = .ok (.iaload, 1) := by decide +kernel
theorem dL_isSold_416 : decode cL_isSold 416 = .ok (.iadd, 1) := by decide +kernel
theorem dL_isSold_417 : decode cL_isSold 417 = .ok (.iastore, 1) := by decide +kernel
theorem dL_isSold_418 : decode cL_isSold 418 = .ok (.aload 4, 2) := by decide +kernel
theorem dL_isSold_420 : decode cL_isSold 420 = .ok (.bipush 6, 2) := by decide +kernel
theorem dL_isSold_422 : decode cL_isSold 422 = .ok (.iload 11, 2) := by decide +kernel
theorem dL_isSold_424 : decode cL_isSold 424 = .ok (.imul, 1) := by decide +kernel
theorem dL_isSold_425 : decode cL_isSold 425 = .ok (.iconst 3, 1) := by decide +kernel
theorem dL_isSold_426 : decode cL_isSold 426 = .ok (.iadd, 1) := by decide +kernel
theorem dL_isSold_427 : decode cL_isSold 427 = .ok (.iconst 0, 1) := by decide +kernel
theorem dL_isSold_428 : decode cL_isSold 428 = .ok (.iastore, 1) := by decide +kernel
theorem dL_isSold_429 : decode cL_isSold 429 = .ok (.iinc 11 1, 3) := by decide +kernel
theorem dL_isSold_432 : decode cL_isSold 432 = .ok (.goto (-99), 3) := by decide +kernel
theorem dL_isSold_435 : decode cL_isSold 435 = .ok (.aload_n 3, 1) := by decide +kernel
theorem dL_isSold_436 : decode cL_isSold 436 = .ok (.iload 8, 2) := by decide +kernel
theorem dL_isSold_438 : decode cL_isSold 438 = .ok (.iconst 3, 1) := by decide +kernel
theorem dL_isSold_439 : decode cL_isSold 439 = .ok (.iadd, 1) := by decide +kernel
theorem dL_isSold_440 : decode cL_isSold 440 = .ok (.iconst 3, 1) := by decide +kernel
theorem dL_isSold_441 : decode cL_isSold 441 = .ok (.iastore, 1) := by decide +kernel
theorem dL_isSold_442 : decode cL_isSold 442 = .ok (.aload_n 3, 1) := by decide +kernel
theorem dL_isSold_443 : decode cL_isSold 443 = .ok (.iload 8, 2) := by decide +kernel
theorem dL_isSold_445 : decode cL_isSold 445 = .ok (.iconst 4, 1) := by decide +kernel
theorem dL_isSold_446 : decode cL_isSold 446 = .ok (.iadd, 1) := by decide +kernel
theorem dL_isSold_447 : decode cL_isSold 447 = .ok (.iconst 0, 1) := by decide +kernel
theorem dL_isSold_448 : decode cL_isSold 448 = .ok (.iastore, 1) := by decide +kernel
theorem dL_isSold_449 : decode cL_isSold 449 = .ok (.aload_n 3, 1) := by decide +kernel
theorem dL_isSold_450 : decode cL_isSold 450 = .ok (.iload 8, 2) := by decide +kernel
theorem dL_isSold_452 : decode cL_isSold 452 = .ok (.bipush 6, 2) := by decide +kernel
theorem dL_isSold_454 : decode cL_isSold 454 = .ok (.iadd, 1) := by decide +kernel
theorem dL_isSold_455 : decode cL_isSold 455 = .ok (.iconst 0, 1) := by decide +kernel
theorem dL_isSold_456 : decode cL_isSold 456 = .ok (.iastore, 1) := by decide +kernel
theorem dL_isSold_457 : decode cL_isSold 457 = .ok (.aload_n 3, 1) := by decide +kernel
theorem dL_isSold_458 : decode cL_isSold 458 = .ok (.iload 8, 2) := by decide +kernel
theorem dL_isSold_460 : decode cL_isSold 460 = .ok (.bipush 7, 2) := by decide +kernel
theorem dL_isSold_462 : decode cL_isSold 462 = .ok (.iadd, 1) := by decide +kernel
theorem dL_isSold_463 : decode cL_isSold 463 = .ok (.iconst 0, 1) := by decide +kernel
theorem dL_isSold_464 : decode cL_isSold 464 = .ok (.iastore, 1) := by decide +kernel
theorem dL_isSold_465 : decode cL_isSold 465 = .ok (.aload_n 3, 1) := by decide +kernel
theorem dL_isSold_466 : decode cL_isSold 466 = .ok (.iload 8, 2) := by decide +kernel
theorem dL_isSold_468 : decode cL_isSold 468 = .ok (.bipush 8, 2) := by decide +kernel
theorem dL_isSold_470 : decode cL_isSold 470 = .ok (.iadd, 1) := by decide +kernel
theorem dL_isSold_471 : decode cL_isSold 471 = .ok (.iconst 0, 1) := by decide +kernel
theorem dL_isSold_472 : decode cL_isSold 472 = .ok (.iastore, 1) := by decide +kernel
theorem dL_isSold_473 : decode cL_isSold 473 = .ok (.aload_n 3, 1) := by decide +kernel
theorem dL_isSold_474 : decode cL_isSold 474 = .ok (.iload 8, 2) := by decide +kernel
theorem dL_isSold_476 : decode cL_isSold 476 = .ok (.bipush 10, 2) := by decide +kernel
theorem dL_isSold_478 : decode cL_isSold 478 = .ok (.iadd, 1) := by decide +kernel
theorem dL_isSold_479 : decode cL_isSold 479 = .ok (.bipush (-5), 2) := by decide +kernel
theorem dL_isSold_481 : decode cL_isSold 481 = .ok (.iastore, 1) := by decide +kernel
theorem dL_isSold_482 : decode cL_isSold 482 = .ok (.aload_n 0, 1) := by decide +kernel
theorem dL_isSold_483 : decode cL_isSold 483 = .ok (.iload 7, 2) := by decide +kernel
theorem dL_isSold_485 : decode cL_isSold 485 = .ok (.iload 9, 2) := by decide +kernel
theorem dL_isSold_487 : decode cL_isSold 487 = .ok (.invokevirtual 70, 3) := by decide +kernel
theorem dL_isSold_490 : decode cL_isSold 490 = .ok (.iload 10, 2) := by decide +kernel
theorem dL_isSold_492 : decode cL_isSold 492 = .ok (.if_icmp .ne 20, 3) := by decide +kernel
theorem dL_isSold_495 : decode cL_isSold 495 = .ok (.aload_n 0, 1) := by decide +kernel
theorem dL_isSold_496 : decode cL_isSold 496 = .ok (.iload 7, 2) := by decide +kernel
theorem dL_isSold_498 : decode cL_isSold 498 = .ok (.iload 9, 2) := by decide +kernel
theorem dL_isSold_500 : decode cL_isSold 500 = .ok (.invokevirtual 70, 3) := by decide +kernel
theorem dL_isSold_503 : decode cL_isSold 503 = .ok (.bipush (-4), 2) := by decide +kernel
theorem dL_isSold_505 : decode cL_isSold 505 = .ok (.if_icmp .ne 7, 3) := by decide +kernel
theorem dL_isSold_508 : decode cL_isSold 508 = .ok (.iconst 1, 1) := by decide +kernel
theorem dL_isSold_509 : decode cL_isSold 509 = .ok (.goto 4, 3) := by decide +kernel
theorem dL_isSold_512 : decode cL_isSold 512 = .ok (.iconst 0, 1) := by decide +kernel
theorem dL_isSold_513 : decode cL_isSold 513 = .ok (.ireturn, 1) := by decide +kernel
theorem dL_isMoved_0 : decode cL_isMoved 0 = .ok (.iload 5, 2) := by decide +kernel
theorem dL_isMoved_2 : decode cL_isMoved 2 = .ok (.bipush 20, 2) := by decide +kernel
theorem dL_isMoved_4 : decode cL_isMoved 4 = .ok (.ishr, 1) := by decide +kernel
theorem dL_isMoved_5 : decode cL_isMoved 5 = .ok (.iconst 3, 1) := by decide +kernel
theorem dL_isMoved_6 : decode cL_isMoved 6 = .ok (.invokestatic 41, 3) := by decide +kernel
theorem dL_isMoved_9 : decode cL_isMoved 9 = .ok (.ifCond .ne 171, 3) := by decide +kernel
theorem dL_isMoved_12 : decode cL_isMoved 12 = .ok (.iload 5, 2) := by decide +kernel
theorem dL_isMoved_14 : decode cL_isMoved 14 = .ok (.aload_n 1, 1) := by decide +kernel
theorem dL_isMoved_15 : decode cL_isMoved 15 = .ok (.iconst 1, 1) := by decide +kernel
theorem dL_isMoved_16 : decode cL_isMoved 16 = .ok (.iaload, 1) := by decide +kernel
theorem dL_isMoved_17 : decode cL_isMoved 17 = .ok (.invokestatic 41, 3) := by decide +kernel
theorem dL_isMoved_20 : decode cL_isMoved 20 = .ok (.istore 6, 2) := by decide +kernel
theorem dL_isMoved_22 : decode cL_isMoved 22 = .ok (.iload 5, 2) := by decide +kernel
theorem dL_isMoved_24 : decode cL_isMoved 24 = .ok (.iconst 4, 1) := by decide +kernel
theorem dL_isMoved_25 : decode cL_isMoved 25 = .ok (.ishr, 1) := by decide +kernel
theorem dL_isMoved_26 : decode cL_isMoved 26 = .ok (.iconst 4, 1) := by decide +kernel
theorem dL_isMoved_27 : decode cL_isMoved 27 = .ok (.invokestatic 41, 3) := by decide +kernel
theorem dL_isMoved_30 : decode cL_isMoved 30 = .ok (.istore 7, 2) := by decide +kernel
theorem dL_isMoved_32 : decode cL_isMoved 32 = .ok (.bipush 11, 2) := by decide +kernel
theorem dL_isMoved_34 : decode cL_isMoved 34 = .ok (.iload 6, 2) := by decide +kernel
theorem dL_isMoved_36 : decode cL_isMoved 36 = .ok (.imul, 1) := by decide +kernel
theorem dL_isMoved_37 : decode cL_isMoved 37 = .ok (.istore 8, 2) := by decide +kernel
theorem dL_isMoved_39 : decode cL_isMoved 39 = .ok (.aload_n 3, 1) := by decide +kernel
theorem dL_isMoved_40 : decode cL_isMoved 40 = .ok (.iload 8, 2) := by decide +kernel
theorem dL_isMoved_42 : decode cL_isMoved 42 = .ok (.iconst 3, 1) := by decide +kernel
theorem dL_isMoved_43 : decode cL_isMoved 43 = .ok (.iadd, 1) := by decide +kernel
theorem dL_isMoved_44 : decode cL_isMoved 44 = .ok (.iaload, 1) := by decide +kernel
theorem dL_isMoved_45 : decode cL_isMoved 45 = .ok (.iconst 1, 1) := by decide +kernel
theorem dL_isMoved_46 : decode cL_isMoved 46 = .ok (.if_icmp .eq 33, 3) := by decide +kernel
theorem dL_isMoved_49 : decode cL_isMoved 49 = .ok (.aload_n 0, 1) := by decide +kernel
theorem dL_isMoved_50 : decode cL_isMoved 50 = .ok (.iload 6, 2) := by decide +kernel
theorem dL_isMoved_52 : decode cL_isMoved 52 = .ok (.iload 7, 2) := by decide +kernel
theorem dL_isMoved_54 : decode cL_isMoved 54 = .ok (.invokevirtual 74, 3) := by decide +kernel
theorem dL_isMoved_57 : decode cL_isMoved 57 = .ok (.bipush (-4), 2) := by decide +kernel
theorem dL_isMoved_59 : decode cL_isMoved 59 = .ok (.if_icmp .ne 18, 3) := by decide +kernel
theorem dL_isMoved_62 : decode cL_isMoved 62 = .ok (.aload_n 0, 1) := by decide +kernel
theorem dL_isMoved_63 : decode cL_isMoved 63 = .ok (.iload 6, 2) := by decide +kernel
theorem dL_isMoved_65 : decode cL_isMoved 65 = .ok (.iconst 4, 1) := by decide +kernel
theorem dL_isMoved_66 : decode cL_isMoved 66 = .ok (.invokevirtual 74, 3) := by decide +kernel
theorem dL_isMoved_69 : decode cL_isMoved 69 = .ok (.iconst (-1), 1) := by decide +kernel
theorem dL_isMoved_70 : decode cL_isMoved 70 = .ok (.if_icmp .ne 7, 3) := by decide +kernel
theorem dL_isMoved_73 : decode cL_isMoved 73 = .ok (.iconst 1, 1) := by decide +kernel
theorem dL_isMoved_74 : decode cL_isMoved 74 = .ok (.goto 4, 3) := by decide +kernel
theorem dL_isMoved_77 : decode cL_isMoved 77 = .ok (.iconst 0, 1) := by decide +kernel
theorem dL_isMoved_78 : decode cL_isMoved 78 = .ok (.ireturn, 1) := by decide +kernel
theorem dL_isMoved_79 : decode cL_isMoved 79 = .ok (.aload_n 3, 1) := by decide +kernel
theorem dL_isMoved_80 : decode cL_isMoved 80 = .ok (.iload 8, 2) := by decide +kernel
theorem dL_isMoved_82 : decode cL_isMoved 82 = .ok (.bipush 10, 2) := by decide +kernel
theorem dL_isMoved_84 : decode cL_isMoved 84 = .ok (.iadd, 1) := by decide +kernel
theorem dL_isMoved_85 : decode cL_isMoved 85 = .ok (.iaload, 1) := by decide +kernel
theorem dL_isMoved_86 : decode cL_isMoved 86 = .ok (.iload 7, 2) := by decide +kernel
theorem dL_isMoved_88 : decode cL_isMoved 88 = .ok (.if_icmp .eq 27, 3) := by decide +kernel
theorem dL_isMoved_91 : decode cL_isMoved 91 = .ok (.aload_n 3, 1) := by decide +kernel
theorem dL_isMoved_92 : decode cL_isMoved 92 = .ok (.iload 8, 2) := by decide +kernel
theorem dL_isMoved_94 : decode cL_isMoved 94 = .ok (.bipush 10, 2) := by decide +kernel
theorem dL_isMoved_96 : decode cL_isMoved 96 = .ok (.iadd, 1) := by decide +kernel
theorem dL_isMoved_97 : decode cL_isMoved 97 = .ok (.iaload, 1) := by decide +kernel
theorem dL_isMoved_98 : decode cL_isMoved 98 = .ok (.bipush (-5), 2) := by decide +kernel
theorem dL_isMoved_100 : decode cL_isMoved 100 = .ok (.if_icmp .ne 19, 3) := by decide +kernel
theorem dL_isMoved_103 : decode cL_isMoved 103 = .ok (.aload_n 3, 1) := by decide +kernel
theorem dL_isMoved_104 : decode cL_isMoved 104 = .ok (.iload 8, 2) := by decide +kernel
theorem dL_isMoved_106 : decode cL_isMoved 106 = .ok (.bipush 9, 2) := by decide +kernel
theorem dL_isMoved_108 : decode cL_isMoved 108 = .ok (.iadd, 1) := by decide +kernel
theorem dL_isMoved_109 : decode cL_isMoved 109 = .ok (.iaload, 1) := by decide +kernel
theorem dL_isMoved_110 : decode cL_isMoved 110 = .ok (.iload 7, 2) := by decide +kernel
theorem dL_isMoved_112 : decode cL_isMoved 112 = .ok (.if_icmp .ne 7, 3) := by decide +kernel
theorem dL_isMoved_115 : decode cL_isMoved 115 = .ok (.iconst 1, 1) := by decide +kernel
theorem dL_isMoved_116 : decode cL_isMoved 116 = .ok (.goto 4, 3) := by decide +kernel
theorem dL_isMoved_119 : decode cL_isMoved 119 = .ok (.iconst 0, 1) := by decide +kernel
theorem dL_isMoved_120 : decode cL_isMoved 120 = .ok (.istore 9, 2) := by decide +kernel
theorem dL_isMoved_122 : decode cL_isMoved 122 = .ok (.aload_n 3, 1) := by decide +kernel
theorem dL_isMoved_123 : decode cL_isMoved 123 = .ok (.iload 8, 2) := by decide +kernel
theorem dL_isMoved_125 : decode cL_isMoved 125 = .ok (.bipush 10, 2) := by decide +kernel
theorem dL_isMoved_127 : decode cL_isMoved 127 = .ok (.iadd, 1) := by decide +kernel
theorem dL_isMoved_128 : decode cL_isMoved 128 = .ok (.iload 9, 2) := by decide +kernel
theorem dL_isMoved_130 : decode cL_isMoved 130 = .ok (.ifCond .eq 13, 3) := by decide +kernel
theorem dL_isMoved_133 : decode cL_isMoved 133 = .ok (.aload_n 3, 1) := by decide +kernel
theorem dL_isMoved_134 : decode cL_isMoved 134 = .ok (.iload 8, 2) := by decide +kernel
theorem dL_isMoved_136 : decode cL_isMoved 136 = .ok (.bipush 10, 2) := by decide +kernel
theorem dL_isMoved_138 : decode cL_isMoved 138 = .ok (.iadd, 1) := by decide +kernel
theorem dL_isMoved_139 : decode cL_isMoved 139 = .ok (.iaload, 1) := by decide +kernel
theorem dL_isMoved_140 : decode cL_isMoved 140 = .ok (.goto 5, 3) := by decide +kernel
theorem dL_isMoved_143 : decode cL_isMoved 143 = .ok (.iload 7, 2) := by decide +kernel
theorem dL_isMoved_145 : decode cL_isMoved 145 = .ok (.iastore, 1) := by decide +kernel
theorem dL_isMoved_146 : decode cL_isMoved 146 = .ok (.aload_n 0, 1) := by decide +kernel
theorem dL_isMoved_147 : decode cL_isMoved 147 = .ok (.iload 6, 2) := by decide +kernel
theorem dL_isMoved_149 : decode cL_isMoved 149 = .ok (.iload 7, 2) := by decide +kernel
theorem dL_isMoved_151 : decode cL_isMoved 151 = .ok (.invokevirtual 74, 3) := by decide +kernel
theorem dL_isMoved_154 : decode cL_isMoved 154 = .ok (.iload 9, 2) := by decide +kernel
theorem dL_isMoved_156 : decode cL_isMoved 156 = .ok (.ifCond .eq 8, 3) := by decide +kernel
theorem dL_isMoved_159 : decode cL_isMoved 159 = .ok (.bipush (-5), 2) := by decide +kernel
theorem dL_isMoved_161 : decode cL_isMoved 161 = .ok (.goto 10, 3) := by decide +kernel
theorem dL_isMoved_164 : decode cL_isMoved 164 = .ok (.aload_n 3, 1) := by decide +kernel
theorem dL_isMoved_165 : decode cL_isMoved 165 = .ok (.iload 8, 2) := by decide +kernel
theorem dL_isMoved_167 : decode cL_isMoved 167 = .ok (.bipush 9, 2) := by decide +kernel
theorem dL_isMoved_169 : decode cL_isMoved 169 = .ok (.iadd, 1) := by decide +kernel
theorem dL_isMoved_170 : decode cL_isMoved 170 = .ok (.iaload, 1) := by decide +kernel
theorem dL_isMoved_171 : decode cL_isMoved 171 = .ok (.if_icmp .ne 7, 3) := by decide +kernel
theorem dL_isMoved_174 : decode cL_isMoved 174 = .ok (.iconst 1, 1) := by decide +kernel
theorem dL_isMoved_175 : decode cL_isMoved 175 = .ok (.goto 4, 3) := by decide +kernel
theorem dL_isMoved_178 : decode cL_isMoved 178 = .ok (.iconst 0, 1) := by decide +kernel
theorem dL_isMoved_179 : decode cL_isMoved 179 = .ok (.ireturn, 1) := by decide +kernel
theorem dL_isMoved_180 : decode cL_isMoved 180 = .ok (.aload_n 1, 1) := by decide +kernel
theorem dL_isMoved_181 : decode cL_isMoved 181 = .ok (.iconst 2, 1) := by decide +kernel
theorem dL_isMoved_182 : decode cL_isMoved 182 = .ok (.iaload, 1) := by decide +kernel
theorem dL_isMoved_183 : decode cL_isMoved 183 = .ok (.ifCond .ne 20, 3) := by decide +kernel
theorem dL_isMoved_186 : decode cL_isMoved 186 = .ok (.aload_n 0, 1) := by decide +kernel
theorem dL_isMoved_187 : decode cL_isMoved 187 = .ok (.iconst 0, 1) := by decide +kernel
theorem dL_isMoved_188 : decode cL_isMoved 188 = .ok (.iconst 0, 1) := by decide +kernel
theorem dL_isMoved_189 : decode cL_isMoved 189 = .ok (.iconst 0, 1) := by decide +kernel
theorem dL_isMoved_190 : decode cL_isMoved 190 = .ok (.invokevirtual 77, 3) := by decide +kernel
theorem dL_isMoved_193 : decode cL_isMoved 193 = .ok (.iconst (-1), 1) := by decide +kernel
theorem dL_isMoved_194 : decode cL_isMoved 194 = .ok (.if_icmp .ne 7, 3) := by decide +kernel
theorem dL_isMoved_197 : decode cL_isMoved 197 = .ok (.iconst 1, 1) := by decide +kernel
theorem dL_isMoved_198 : decode cL_isMoved 198 = .ok (.goto 4, 3) := by decide +kernel
theorem dL_isMoved_201 : decode cL_isMoved 201 = .ok (.iconst 0, 1) := by decide +kernel
theorem dL_isMoved_202 : decode cL_isMoved 202 = .ok (.ireturn, 1) := by decide +kernel
theorem dL_isMoved_203 : decode cL_isMoved 203 = .ok (.iload 5, 2) := by decide +kernel
theorem dL_isMoved_205 : decode cL_isMoved 205 = .ok (.aload_n 1, 1) := by decide +kernel
theorem dL_isMoved_206 : decode cL_isMoved 206 = .ok (.iconst 2, 1) := by decide +kernel
theorem dL_isMoved_207 : decode cL_isMoved 207 = .ok (.iaload, 1) := by decide +kernel
theorem dL_isMoved_208 : decode cL_isMoved 208 = .ok (.invokestatic 41, 3) := by decide +kernel
theorem dL_isMoved_211 : decode cL_isMoved 211 = .ok (.istore 6, 2) := by decide +kernel
theorem dL_isMoved_213 : decode cL_isMoved 213 = .ok (.iload 5, 2) := by decide +kernel
theorem dL_isMoved_215 : decode cL_isMoved 215 = .ok (.iconst 5, 1) := by decide +kernel
theorem dL_isMoved_216 : decode cL_isMoved 216 = .ok (.ishr, 1) := by decide +kernel
theorem dL_isMoved_217 : decode cL_isMoved 217 = .ok (.iconst 3, 1) := by decide +kernel
theorem dL_isMoved_218 : decode cL_isMoved 218 = .ok (.invokestatic 41, 3) := by decide +kernel
theorem dL_isMoved_221 : decode cL_isMoved 221 = .ok (.istore 7, 2) := by decide +kernel
theorem dL_isMoved_223 : decode cL_isMoved 223 = .ok (.iload 5, 2) := by decide +kernel
theorem dL_isMoved_225 : decode cL_isMoved 225 = .ok (.bipush 7, 2) := by decide +kernel
theorem dL_isMoved_227 : decode cL_isMoved 227 = .ok (.ishr, 1) := by decide +kernel
theorem dL_isMoved_228 : decode cL_isMoved 228 = .ok (.sipush 900, 3) := by decide +kernel
theorem dL_isMoved_231 : decode cL_isMoved 231 = .ok (.invokestatic 41, 3) := by decide +kernel
theorem dL_isMoved_234 : decode cL_isMoved 234 = .ok (.istore 8, 2) := by decide +kernel
theorem dL_isMoved_236 : decode cL_isMoved 236 = .ok (.aload 4, 2) := by decide +kernel
theorem dL_isMoved_238 : decode cL_isMoved 238 = .ok (.bipush 6, 2) := by decide +kernel
theorem dL_isMoved_240 : decode cL_isMoved 240 = .ok (.iload 6, 2) := by decide +kernel
theorem dL_isMoved_242 : decode cL_isMoved 242 = .ok (.imul, 1) := by decide +kernel
theorem dL_isMoved_243 : decode cL_isMoved 243 = .ok (.iaload, 1) := by decide +kernel
theorem dL_isMoved_244 : decode cL_isMoved 244 = .ok (.iload 7, 2) := by decide +kernel
theorem dL_isMoved_246 : decode cL_isMoved 246 = .ok (.if_icmp .ne 37, 3) := by decide +kernel
theorem dL_isMoved_249 : decode cL_isMoved 249 = .ok (.aload_n 0, 1) := by decide +kernel
theorem dL_isMoved_250 : decode cL_isMoved 250 = .ok (.iload 6, 2) := by decide +kernel
theorem dL_isMoved_252 : decode cL_isMoved 252 = .ok (.iload 7, 2) := by decide +kernel
theorem dL_isMoved_254 : decode cL_isMoved 254 = .ok (.iload 8, 2) := by decide +kernel
theorem dL_isMoved_256 : decode cL_isMoved 256 = .ok (.invokevirtual 77, 3) := by decide +kernel
theorem dL_isMoved_259 : decode cL_isMoved 259 = .ok (.bipush (-2), 2) := by decide +kernel
theorem dL_isMoved_261 : decode cL_isMoved 261 = .ok (.if_icmp .ne 20, 3) := by decide +kernel
theorem dL_isMoved_264 : decode cL_isMoved 264 = .ok (.aload_n 0, 1) := by decide +kernel
theorem dL_isMoved_265 : decode cL_isMoved 265 = .ok (.iload 6, 2) := by decide +kernel
theorem dL_isMoved_267 : decode cL_isMoved 267 = .ok (.iconst 3, 1) := by decide +kernel
theorem dL_isMoved_268 : decode cL_isMoved 268 = .ok (.iload 8, 2) := by decide +kernel
theorem dL_isMoved_270 : decode cL_isMoved 270 = .ok (.invokevirtual 77, 3) := by decide +kernel
theorem dL_isMoved_273 : decode cL_isMoved 273 = .ok (.iconst (-1), 1) := by decide +kernel
theorem dL_isMoved_274 : decode cL_isMoved 274 = .ok (.if_icmp .ne 7, 3) := by decide +kernel
theorem dL_isMoved_277 : decode cL_isMoved 277 = .ok (.iconst 1, 1) := by decide +kernel
theorem dL_isMoved_278 : decode cL_isMoved 278 = .ok (.goto 4, 3) := by decide +kernel
theorem dL_isMoved_281 : decode cL_isMoved 281 = .ok (.iconst 0, 1) := by decide +kernel
theorem dL_isMoved_282 : decode cL_isMoved 282 = .ok (.ireturn, 1) := by decide +kernel
theorem dL_isMoved_283 : decode cL_isMoved 283 = .ok (.aload_n 3, 1) := by decide +kernel
theorem dL_isMoved_284 : decode cL_isMoved 284 = .ok (.bipush 11, 2) := by decide +kernel
theorem dL_isMoved_286 : decode cL_isMoved 286 = .ok (.aload 4, 2) := by decide +kernel
theorem dL_isMoved_288 : decode cL_isMoved 288 = .ok (.bipush 6, 2) := by decide +kernel
theorem dL_isMoved_290 : decode cL_isMoved 290 = .ok (.iload 6, 2) := by decide +kernel
theorem dL_isMoved_292 : decode cL_isMoved 292 = .ok (.imul, 1) := by decide +kernel
theorem dL_isMoved_293 : decode cL_isMoved 293 = .ok (.iconst 1, 1) := by decide +kernel
theorem dL_isMoved_294 : decode cL_isMoved 294 = .ok (.iadd, 1) := by decide +kernel
theorem dL_isMoved_295 : decode cL_isMoved 295 = .ok (.iaload, 1) := by decide +kernel
theorem dL_isMoved_296 : decode cL_isMoved 296 = .ok (.imul, 1) := by decide +kernel
theorem dL_isMoved_297 : decode cL_isMoved 297 = .ok (.iconst 3, 1) := by decide +kernel
theorem dL_isMoved_298 : decode cL_isMoved 298 = .ok (.iadd, 1) := by decide +kernel
theorem dL_isMoved_299 : decode cL_isMoved 299 = .ok (.iaload, 1) := by decide +kernel
theorem dL_isMoved_300 : decode cL_isMoved 300 = .ok (.iconst 1, 1) := by decide +kernel
theorem dL_isMoved_301 : decode cL_isMoved 301 = .ok (.if_icmp .ne 14, 3) := by decide +kernel
theorem dL_isMoved_304 : decode cL_isMoved 304 = .ok (.aload_n 2, 1) := by decide +kernel
theorem dL_isMoved_305 : decode cL_isMoved 305 = .ok (.iconst 3, 1) := by decide +kernel
theorem dL_isMoved_306 : decode cL_isMoved 306 = .ok (.iload 7, 2) := by decide +kernel
theorem dL_isMoved_308 : decode cL_isMoved 308 = .ok (.imul, 1) := by decide +kernel
theorem dL_isMoved_309 : decode cL_isMoved 309 = .ok (.iaload, 1) := by decide +kernel
theorem dL_isMoved_310 : decode cL_isMoved 310 = .ok (.iload 8, 2) := by decide +kernel
theorem dL_isMoved_312 : decode cL_isMoved 312 = .ok (.if_icmp .ge 39, 3) := by decide +kernel
theorem dL_isMoved_315 : decode cL_isMoved 315 = .ok (.aload_n 0, 1) := by decide +kernel
theorem dL_isMoved_316 : decode cL_isMoved 316 = .ok (.iload 6, 2) := by decide +kernel
theorem dL_isMoved_318 : decode cL_isMoved 318 = .ok (.iload 7, 2) := by decide +kernel
theorem dL_isMoved_320 : decode cL_isMoved 320 = .ok (.iload 8, 2) := by decide +kernel
theorem dL_isMoved_322 : decode cL_isMoved 322 = .ok (.invokevirtual 77, 3) := by decide +kernel
theorem dL_isMoved_325 : decode cL_isMoved 325 = .ok (.bipush (-4), 2) := by decide +kernel
theorem dL_isMoved_327 : decode cL_isMoved 327 = .ok (.if_icmp .ne 22, 3) := by decide +kernel
theorem dL_isMoved_330 : decode cL_isMoved 330 = .ok (.aload_n 0, 1) := by decide +kernel
theorem dL_isMoved_331 : decode cL_isMoved 331 = .ok (.iload 6, 2) := by decide +kernel
theorem dL_isMoved_333 : decode cL_isMoved 333 = .ok (.iload 7, 2) := by decide +kernel
theorem dL_isMoved_335 : decode cL_isMoved 335 = .ok (.ldc 73, 2) := by decide +kernel
theorem dL_isMoved_337 : decode cL_isMoved 337 = .ok (.invokevirtual 77, 3) := by decide +kernel
theorem dL_isMoved_340 : decode cL_isMoved 340 = .ok (.bipush (-2), 2) := by decide +kernel
theorem dL_isMoved_342 : decode cL_isMoved 342 = .ok (.if_icmp .ne 7, 3) := by decide +kernel
theorem dL_isMoved_345 : decode cL_isMoved 345 = .ok (.iconst 1, 1) := by decide +kernel
theorem dL_isMoved_346 : decode cL_isMoved 346 = .ok (.goto 4, 3) := by decide +kernel
theorem dL_isMoved_349 : decode cL_isMoved 349 = .ok (.iconst 0, 1) := by decide +kernel
theorem dL_isMoved_350 : decode cL_isMoved 350 = .ok (.ireturn, 1) := by decide +kernel
theorem dL_isMoved_351 : decode cL_isMoved 351 = .ok (.aload_n 2, 1) := by decide +kernel
theorem dL_isMoved_352 : decode cL_isMoved 352 = .ok (.iconst 3, 1) := by decide +kernel
theorem dL_isMoved_353 : decode cL_isMoved 353 = .ok (.iload 7, 2) := by decide +kernel
