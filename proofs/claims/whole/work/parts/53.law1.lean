
theorem d_LAW_434 : decode code 434 = .ok (.aload_n 1, 1) := by decide +kernel
theorem d_LAW_435 : decode code 435 = .ok (.aload_n 0, 1) := by decide +kernel
theorem d_LAW_436 : decode code 436 = .ok (.iload 4, 2) := by decide +kernel
theorem d_LAW_438 : decode code 438 = .ok (.iconst 1, 1) := by decide +kernel
theorem d_LAW_439 : decode code 439 = .ok (.iadd, 1) := by decide +kernel
theorem d_LAW_440 : decode code 440 = .ok (.iaload, 1) := by decide +kernel
theorem d_LAW_441 : decode code 441 = .ok (.aload_n 0, 1) := by decide +kernel
theorem d_LAW_442 : decode code 442 = .ok (.iload 4, 2) := by decide +kernel
theorem d_LAW_444 : decode code 444 = .ok (.iconst 2, 1) := by decide +kernel
theorem d_LAW_445 : decode code 445 = .ok (.iadd, 1) := by decide +kernel
theorem d_LAW_446 : decode code 446 = .ok (.iaload, 1) := by decide +kernel
theorem d_LAW_447 : decode code 447 = .ok (.aload_n 3, 1) := by decide +kernel
theorem d_LAW_448 : decode code 448 = .ok (.invokestatic 125, 3) := by decide +kernel
theorem d_LAW_451 : decode code 451 = .ok (.istore 5, 2) := by decide +kernel
theorem d_LAW_453 : decode code 453 = .ok (.aload_n 2, 1) := by decide +kernel
theorem d_LAW_454 : decode code 454 = .ok (.aload_n 0, 1) := by decide +kernel
theorem d_LAW_455 : decode code 455 = .ok (.iload 4, 2) := by decide +kernel
theorem d_LAW_457 : decode code 457 = .ok (.iconst 1, 1) := by decide +kernel
theorem d_LAW_458 : decode code 458 = .ok (.iadd, 1) := by decide +kernel
theorem d_LAW_459 : decode code 459 = .ok (.iaload, 1) := by decide +kernel
theorem d_LAW_460 : decode code 460 = .ok (.aload_n 0, 1) := by decide +kernel
theorem d_LAW_461 : decode code 461 = .ok (.iload 4, 2) := by decide +kernel
theorem d_LAW_463 : decode code 463 = .ok (.iconst 2, 1) := by decide +kernel
theorem d_LAW_464 : decode code 464 = .ok (.iadd, 1) := by decide +kernel
theorem d_LAW_465 : decode code 465 = .ok (.iaload, 1) := by decide +kernel
theorem d_LAW_466 : decode code 466 = .ok (.invokevirtual 128, 3) := by decide +kernel
theorem d_LAW_469 : decode code 469 = .ok (.istore 6, 2) := by decide +kernel
theorem d_LAW_471 : decode code 471 = .ok (.aload_n 2, 1) := by decide +kernel
theorem d_LAW_472 : decode code 472 = .ok (.invokevirtual 105, 3) := by decide +kernel
theorem d_LAW_475 : decode code 475 = .ok (.iload 5, 2) := by decide +kernel
theorem d_LAW_477 : decode code 477 = .ok (.if_icmp .eq 5, 3) := by decide +kernel
theorem d_LAW_480 : decode code 480 = .ok (.iconst 0, 1) := by decide +kernel
theorem d_LAW_481 : decode code 481 = .ok (.ireturn, 1) := by decide +kernel
theorem d_LAW_482 : decode code 482 = .ok (.iload 5, 2) := by decide +kernel
theorem d_LAW_484 : decode code 484 = .ok (.ifCond .ne 15, 3) := by decide +kernel
theorem d_LAW_487 : decode code 487 = .ok (.aload_n 3, 1) := by decide +kernel
theorem d_LAW_488 : decode code 488 = .ok (.iconst 0, 1) := by decide +kernel
theorem d_LAW_489 : decode code 489 = .ok (.laload, 1) := by decide +kernel
theorem d_LAW_490 : decode code 490 = .ok (.iload 6, 2) := by decide +kernel
theorem d_LAW_492 : decode code 492 = .ok (.i2l, 1) := by decide +kernel
theorem d_LAW_493 : decode code 493 = .ok (.lcmp, 1) := by decide +kernel
theorem d_LAW_494 : decode code 494 = .ok (.ifCond .eq 5, 3) := by decide +kernel
theorem d_LAW_497 : decode code 497 = .ok (.iconst 0, 1) := by decide +kernel
theorem d_LAW_498 : decode code 498 = .ok (.ireturn, 1) := by decide +kernel
theorem d_LAW_499 : decode code 499 = .ok (.goto 1676, 3) := by decide +kernel
theorem d_LAW_502 : decode code 502 = .ok (.aload_n 1, 1) := by decide +kernel
theorem d_LAW_503 : decode code 503 = .ok (.aload_n 0, 1) := by decide +kernel
theorem d_LAW_504 : decode code 504 = .ok (.iload 4, 2) := by decide +kernel
theorem d_LAW_506 : decode code 506 = .ok (.iconst 1, 1) := by decide +kernel
theorem d_LAW_507 : decode code 507 = .ok (.iadd, 1) := by decide +kernel
theorem d_LAW_508 : decode code 508 = .ok (.iaload, 1) := by decide +kernel
theorem d_LAW_509 : decode code 509 = .ok (.aload_n 0, 1) := by decide +kernel
theorem d_LAW_510 : decode code 510 = .ok (.iload 4, 2) := by decide +kernel
theorem d_LAW_512 : decode code 512 = .ok (.iconst 2, 1) := by decide +kernel
theorem d_LAW_513 : decode code 513 = .ok (.iadd, 1) := by decide +kernel
theorem d_LAW_514 : decode code 514 = .ok (.iaload, 1) := by decide +kernel
theorem d_LAW_515 : decode code 515 = .ok (.aload_n 3, 1) := by decide +kernel
theorem d_LAW_516 : decode code 516 = .ok (.invokestatic 129, 3) := by decide +kernel
theorem d_LAW_519 : decode code 519 = .ok (.istore 5, 2) := by decide +kernel
theorem d_LAW_521 : decode code 521 = .ok (.aload_n 2, 1) := by decide +kernel
theorem d_LAW_522 : decode code 522 = .ok (.aload_n 0, 1) := by decide +kernel
theorem d_LAW_523 : decode code 523 = .ok (.iload 4, 2) := by decide +kernel
theorem d_LAW_525 : decode code 525 = .ok (.iconst 1, 1) := by decide +kernel
theorem d_LAW_526 : decode code 526 = .ok (.iadd, 1) := by decide +kernel
theorem d_LAW_527 : decode code 527 = .ok (.iaload, 1) := by decide +kernel
theorem d_LAW_528 : decode code 528 = .ok (.aload_n 0, 1) := by decide +kernel
theorem d_LAW_529 : decode code 529 = .ok (.iload 4, 2) := by decide +kernel
theorem d_LAW_531 : decode code 531 = .ok (.iconst 2, 1) := by decide +kernel
theorem d_LAW_532 : decode code 532 = .ok (.iadd, 1) := by decide +kernel
theorem d_LAW_533 : decode code 533 = .ok (.iaload, 1) := by decide +kernel
theorem d_LAW_534 : decode code 534 = .ok (.invokevirtual 131, 3) := by decide +kernel
theorem d_LAW_537 : decode code 537 = .ok (.lstore 6, 2) := by decide +kernel
theorem d_LAW_539 : decode code 539 = .ok (.aload_n 2, 1) := by decide +kernel
theorem d_LAW_540 : decode code 540 = .ok (.invokevirtual 105, 3) := by decide +kernel
theorem d_LAW_543 : decode code 543 = .ok (.iload 5, 2) := by decide +kernel
theorem d_LAW_545 : decode code 545 = .ok (.if_icmp .eq 5, 3) := by decide +kernel
theorem d_LAW_548 : decode code 548 = .ok (.iconst 0, 1) := by decide +kernel
theorem d_LAW_549 : decode code 549 = .ok (.ireturn, 1) := by decide +kernel
theorem d_LAW_550 : decode code 550 = .ok (.iload 5, 2) := by decide +kernel
theorem d_LAW_552 : decode code 552 = .ok (.ifCond .ne 14, 3) := by decide +kernel
theorem d_LAW_555 : decode code 555 = .ok (.aload_n 3, 1) := by decide +kernel
theorem d_LAW_556 : decode code 556 = .ok (.iconst 0, 1) := by decide +kernel
theorem d_LAW_557 : decode code 557 = .ok (.laload, 1) := by decide +kernel
theorem d_LAW_558 : decode code 558 = .ok (.lload 6, 2) := by decide +kernel
theorem d_LAW_560 : decode code 560 = .ok (.lcmp, 1) := by decide +kernel
theorem d_LAW_561 : decode code 561 = .ok (.ifCond .eq 5, 3) := by decide +kernel
theorem d_LAW_564 : decode code 564 = .ok (.iconst 0, 1) := by decide +kernel
theorem d_LAW_565 : decode code 565 = .ok (.ireturn, 1) := by decide +kernel
theorem d_LAW_566 : decode code 566 = .ok (.goto 1609, 3) := by decide +kernel
theorem d_LAW_569 : decode code 569 = .ok (.aload_n 1, 1) := by decide +kernel
theorem d_LAW_570 : decode code 570 = .ok (.aload_n 0, 1) := by decide +kernel
theorem d_LAW_571 : decode code 571 = .ok (.iload 4, 2) := by decide +kernel
theorem d_LAW_573 : decode code 573 = .ok (.iconst 1, 1) := by decide +kernel
theorem d_LAW_574 : decode code 574 = .ok (.iadd, 1) := by decide +kernel
theorem d_LAW_575 : decode code 575 = .ok (.iaload, 1) := by decide +kernel
theorem d_LAW_576 : decode code 576 = .ok (.aload_n 0, 1) := by decide +kernel
theorem d_LAW_577 : decode code 577 = .ok (.iload 4, 2) := by decide +kernel
theorem d_LAW_579 : decode code 579 = .ok (.iconst 2, 1) := by decide +kernel
theorem d_LAW_580 : decode code 580 = .ok (.iadd, 1) := by decide +kernel
theorem d_LAW_581 : decode code 581 = .ok (.iaload, 1) := by decide +kernel
theorem d_LAW_582 : decode code 582 = .ok (.aload_n 3, 1) := by decide +kernel
theorem d_LAW_583 : decode code 583 = .ok (.invokestatic 132, 3) := by decide +kernel
theorem d_LAW_586 : decode code 586 = .ok (.istore 5, 2) := by decide +kernel
theorem d_LAW_588 : decode code 588 = .ok (.aload_n 2, 1) := by decide +kernel
theorem d_LAW_589 : decode code 589 = .ok (.aload_n 0, 1) := by decide +kernel
theorem d_LAW_590 : decode code 590 = .ok (.iload 4, 2) := by decide +kernel
theorem d_LAW_592 : decode code 592 = .ok (.iconst 1, 1) := by decide +kernel
theorem d_LAW_593 : decode code 593 = .ok (.iadd, 1) := by decide +kernel
theorem d_LAW_594 : decode code 594 = .ok (.iaload, 1) := by decide +kernel
theorem d_LAW_595 : decode code 595 = .ok (.aload_n 0, 1) := by decide +kernel
theorem d_LAW_596 : decode code 596 = .ok (.iload 4, 2) := by decide +kernel
theorem d_LAW_598 : decode code 598 = .ok (.iconst 2, 1) := by decide +kernel
theorem d_LAW_599 : decode code 599 = .ok (.iadd, 1) := by decide +kernel
theorem d_LAW_600 : decode code 600 = .ok (.iaload, 1) := by decide +kernel
theorem d_LAW_601 : decode code 601 = .ok (.invokevirtual 134, 3) := by decide +kernel
theorem d_LAW_604 : decode code 604 = .ok (.istore 6, 2) := by decide +kernel
theorem d_LAW_606 : decode code 606 = .ok (.aload_n 2, 1) := by decide +kernel
theorem d_LAW_607 : decode code 607 = .ok (.invokevirtual 105, 3) := by decide +kernel
theorem d_LAW_610 : decode code 610 = .ok (.iload 5, 2) := by decide +kernel
theorem d_LAW_612 : decode code 612 = .ok (.if_icmp .eq 5, 3) := by decide +kernel
theorem d_LAW_615 : decode code 615 = .ok (.iconst 0, 1) := by decide +kernel
theorem d_LAW_616 : decode code 616 = .ok (.ireturn, 1) := by decide +kernel
theorem d_LAW_617 : decode code 617 = .ok (.iload 5, 2) := by decide +kernel
theorem d_LAW_619 : decode code 619 = .ok (.ifCond .ne 15, 3) := by decide +kernel
theorem d_LAW_622 : decode code 622 = .ok (.aload_n 3, 1) := by decide +kernel
theorem d_LAW_623 : decode code 623 = .ok (.iconst 0, 1) := by decide +kernel
theorem d_LAW_624 : decode code 624 = .ok (.laload, 1) := by decide +kernel
theorem d_LAW_625 : decode code 625 = .ok (.iload 6, 2) := by decide +kernel
theorem d_LAW_627 : decode code 627 = .ok (.i2l, 1) := by decide +kernel
theorem d_LAW_628 : decode code 628 = .ok (.lcmp, 1) := by decide +kernel
theorem d_LAW_629 : decode code 629 = .ok (.ifCond .eq 5, 3) := by decide +kernel
theorem d_LAW_632 : decode code 632 = .ok (.iconst 0, 1) := by decide +kernel
theorem d_LAW_633 : decode code 633 = .ok (.ireturn, 1) := by decide +kernel
theorem d_LAW_634 : decode code 634 = .ok (.goto 1541, 3) := by decide +kernel
theorem d_LAW_637 : decode code 637 = .ok (.aload_n 1, 1) := by decide +kernel
theorem d_LAW_638 : decode code 638 = .ok (.aload_n 0, 1) := by decide +kernel
theorem d_LAW_639 : decode code 639 = .ok (.iload 4, 2) := by decide +kernel
theorem d_LAW_641 : decode code 641 = .ok (.iconst 1, 1) := by decide +kernel
theorem d_LAW_642 : decode code 642 = .ok (.iadd, 1) := by decide +kernel
theorem d_LAW_643 : decode code 643 = .ok (.iaload, 1) := by decide +kernel
theorem d_LAW_644 : decode code 644 = .ok (.aload_n 0, 1) := by decide +kernel
theorem d_LAW_645 : decode code 645 = .ok (.iload 4, 2) := by decide +kernel
theorem d_LAW_647 : decode code 647 = .ok (.iconst 2, 1) := by decide +kernel
theorem d_LAW_648 : decode code 648 = .ok (.iadd, 1) := by decide +kernel
theorem d_LAW_649 : decode code 649 = .ok (.iaload, 1) := by decide +kernel
theorem d_LAW_650 : decode code 650 = .ok (.aload_n 0, 1) := by decide +kernel
theorem d_LAW_651 : decode code 651 = .ok (.iload 4, 2) := by decide +kernel
theorem d_LAW_653 : decode code 653 = .ok (.iconst 3, 1) := by decide +kernel
theorem d_LAW_654 : decode code 654 = .ok (.iadd, 1) := by decide +kernel
theorem d_LAW_655 : decode code 655 = .ok (.iaload, 1) := by decide +kernel
theorem d_LAW_656 : decode code 656 = .ok (.aload_n 3, 1) := by decide +kernel
theorem d_LAW_657 : decode code 657 = .ok (.invokestatic 135, 3) := by decide +kernel
theorem d_LAW_660 : decode code 660 = .ok (.istore 5, 2) := by decide +kernel
theorem d_LAW_662 : decode code 662 = .ok (.aload_n 2, 1) := by decide +kernel
theorem d_LAW_663 : decode code 663 = .ok (.aload_n 0, 1) := by decide +kernel
theorem d_LAW_664 : decode code 664 = .ok (.iload 4, 2) := by decide +kernel
theorem d_LAW_666 : decode code 666 = .ok (.iconst 1, 1) := by decide +kernel
theorem d_LAW_667 : decode code 667 = .ok (.iadd, 1) := by decide +kernel
theorem d_LAW_668 : decode code 668 = .ok (.iaload, 1) := by decide +kernel
theorem d_LAW_669 : decode code 669 = .ok (.aload_n 0, 1) := by decide +kernel
theorem d_LAW_670 : decode code 670 = .ok (.iload 4, 2) := by decide +kernel
theorem d_LAW_672 : decode code 672 = .ok (.iconst 2, 1) := by decide +kernel
theorem d_LAW_673 : decode code 673 = .ok (.iadd, 1) := by decide +kernel
theorem d_LAW_674 : decode code 674 = .ok (.iaload, 1) := by decide +kernel
theorem d_LAW_675 : decode code 675 = .ok (.aload_n 0, 1) := by decide +kernel
theorem d_LAW_676 : decode code 676 = .ok (.iload 4, 2) := by decide +kernel
theorem d_LAW_678 : decode code 678 = .ok (.iconst 3, 1) := by decide +kernel
theorem d_LAW_679 : decode code 679 = .ok (.iadd, 1) := by decide +kernel
theorem d_LAW_680 : decode code 680 = .ok (.iaload, 1) := by decide +kernel
theorem d_LAW_681 : decode code 681 = .ok (.invokevirtual 138, 3) := by decide +kernel
theorem d_LAW_684 : decode code 684 = .ok (.istore 6, 2) := by decide +kernel
theorem d_LAW_686 : decode code 686 = .ok (.aload_n 2, 1) := by decide +kernel
theorem d_LAW_687 : decode code 687 = .ok (.invokevirtual 105, 3) := by decide +kernel
theorem d_LAW_690 : decode code 690 = .ok (.iload 5, 2) := by decide +kernel
theorem d_LAW_692 : decode code 692 = .ok (.if_icmp .eq 5, 3) := by decide +kernel
theorem d_LAW_695 : decode code 695 = .ok (.iconst 0, 1) := by decide +kernel
theorem d_LAW_696 : decode code 696 = .ok (.ireturn, 1) := by decide +kernel
theorem d_LAW_697 : decode code 697 = .ok (.iload 5, 2) := by decide +kernel
theorem d_LAW_699 : decode code 699 = .ok (.ifCond .ne 15, 3) := by decide +kernel
theorem d_LAW_702 : decode code 702 = .ok (.aload_n 3, 1) := by decide +kernel
theorem d_LAW_703 : decode code 703 = .ok (.iconst 0, 1) := by decide +kernel
theorem d_LAW_704 : decode code 704 = .ok (.laload, 1) := by decide +kernel
theorem d_LAW_705 : decode code 705 = .ok (.iload 6, 2) := by decide +kernel
theorem d_LAW_707 : decode code 707 = .ok (.i2l, 1) := by decide +kernel
theorem d_LAW_708 : decode code 708 = .ok (.lcmp, 1) := by decide +kernel
theorem d_LAW_709 : decode code 709 = .ok (.ifCond .eq 5, 3) := by decide +kernel
theorem d_LAW_712 : decode code 712 = .ok (.iconst 0, 1) := by decide +kernel
theorem d_LAW_713 : decode code 713 = .ok (.ireturn, 1) := by decide +kernel
theorem d_LAW_714 : decode code 714 = .ok (.goto 1461, 3) := by decide +kernel
theorem d_LAW_717 : decode code 717 = .ok (.aload_n 1, 1) := by decide +kernel
theorem d_LAW_718 : decode code 718 = .ok (.aload_n 0, 1) := by decide +kernel
theorem d_LAW_719 : decode code 719 = .ok (.iload 4, 2) := by decide +kernel
theorem d_LAW_721 : decode code 721 = .ok (.iconst 1, 1) := by decide +kernel
theorem d_LAW_722 : decode code 722 = .ok (.iadd, 1) := by decide +kernel
theorem d_LAW_723 : decode code 723 = .ok (.iaload, 1) := by decide +kernel
theorem d_LAW_724 : decode code 724 = .ok (.aload_n 0, 1) := by decide +kernel
theorem d_LAW_725 : decode code 725 = .ok (.iload 4, 2) := by decide +kernel
theorem d_LAW_727 : decode code 727 = .ok (.iconst 2, 1) := by decide +kernel
theorem d_LAW_728 : decode code 728 = .ok (.iadd, 1) := by decide +kernel
theorem d_LAW_729 : decode code 729 = .ok (.iaload, 1) := by decide +kernel
theorem d_LAW_730 : decode code 730 = .ok (.aload_n 0, 1) := by decide +kernel
theorem d_LAW_731 : decode code 731 = .ok (.iload 4, 2) := by decide +kernel
theorem d_LAW_733 : decode code 733 = .ok (.iconst 3, 1) := by decide +kernel
theorem d_LAW_734 : decode code 734 = .ok (.iadd, 1) := by decide +kernel
theorem d_LAW_735 : decode code 735 = .ok (.iaload, 1) := by decide +kernel
theorem d_LAW_736 : decode code 736 = .ok (.aload_n 3, 1) := by decide +kernel
theorem d_LAW_737 : decode code 737 = .ok (.invokestatic 139, 3) := by decide +kernel
theorem d_LAW_740 : decode code 740 = .ok (.istore 5, 2) := by decide +kernel
theorem d_LAW_742 : decode code 742 = .ok (.aload_n 2, 1) := by decide +kernel
theorem d_LAW_743 : decode code 743 = .ok (.aload_n 0, 1) := by decide +kernel
theorem d_LAW_744 : decode code 744 = .ok (.iload 4, 2) := by decide +kernel
theorem d_LAW_746 : decode code 746 = .ok (.iconst 1, 1) := by decide +kernel
theorem d_LAW_747 : decode code 747 = .ok (.iadd, 1) := by decide +kernel
theorem d_LAW_748 : decode code 748 = .ok (.iaload, 1) := by decide +kernel
theorem d_LAW_749 : decode code 749 = .ok (.aload_n 0, 1) := by decide +kernel
theorem d_LAW_750 : decode code 750 = .ok (.iload 4, 2) := by decide +kernel
theorem d_LAW_752 : decode code 752 = .ok (.iconst 2, 1) := by decide +kernel
theorem d_LAW_753 : decode code 753 = .ok (.iadd, 1) := by decide +kernel
theorem d_LAW_754 : decode code 754 = .ok (.iaload, 1) := by decide +kernel
theorem d_LAW_755 : decode code 755 = .ok (.aload_n 0, 1) := by decide +kernel
theorem d_LAW_756 : decode code 756 = .ok (.iload 4, 2) := by decide +kernel
theorem d_LAW_758 : decode code 758 = .ok (.iconst 3, 1) := by decide +kernel
theorem d_LAW_759 : decode code 759 = .ok (.iadd, 1) := by decide +kernel
theorem d_LAW_760 : decode code 760 = .ok (.iaload, 1) := by decide +kernel
theorem d_LAW_761 : decode code 761 = .ok (.invokevirtual 141, 3) := by decide +kernel
theorem d_LAW_764 : decode code 764 = .ok (.istore 6, 2) := by decide +kernel
theorem d_LAW_766 : decode code 766 = .ok (.aload_n 2, 1) := by decide +kernel
theorem d_LAW_767 : decode code 767 = .ok (.invokevirtual 105, 3) := by decide +kernel
theorem d_LAW_770 : decode code 770 = .ok (.iload 5, 2) := by decide +kernel
theorem d_LAW_772 : decode code 772 = .ok (.if_icmp .eq 5, 3) := by decide +kernel
theorem d_LAW_775 : decode code 775 = .ok (.iconst 0, 1) := by decide +kernel
theorem d_LAW_776 : decode code 776 = .ok (.ireturn, 1) := by decide +kernel
theorem d_LAW_777 : decode code 777 = .ok (.iload 5, 2) := by decide +kernel
theorem d_LAW_779 : decode code 779 = .ok (.ifCond .ne 15, 3) := by decide +kernel
theorem d_LAW_782 : decode code 782 = .ok (.aload_n 3, 1) := by decide +kernel
theorem d_LAW_783 : decode code 783 = .ok (.iconst 0, 1) := by decide +kernel
theorem d_LAW_784 : decode code 784 = .ok (.laload, 1) := by decide +kernel
theorem d_LAW_785 : decode code 785 = .ok (.iload 6, 2) := by decide +kernel
theorem d_LAW_787 : decode code 787 = .ok (.i2l, 1) := by decide +kernel
theorem d_LAW_788 : decode code 788 = .ok (.lcmp, 1) := by decide +kernel
theorem d_LAW_789 : decode code 789 = .ok (.ifCond .eq 5, 3) := by decide +kernel
theorem d_LAW_792 : decode code 792 = .ok (.iconst 0, 1) := by decide +kernel
theorem d_LAW_793 : decode code 793 = .ok (.ireturn, 1) := by decide +kernel
theorem d_LAW_794 : decode code 794 = .ok (.goto 1381, 3) := by decide +kernel
section
variable {p : Program} {l : Launch} {e : Env} {R : Room} {s : State} {m : MethodId} {args : Array Value} {below : List Frame} {meth : Method} {c : Code} {H : Heap} {locs : List Loc} {cells slots : Nat} {Q : State → Prop} {ls : Array Slot} {dC : Nat → ClassId} {dI : Nat → Nat → Nat} {hx hm o : Nat} {S : CS} {M : MS} {a : Int64} {b L : Nat} {xs : Nat → Int32}
set_option maxRecDepth 100000 in
set_option maxHeartbeats 1000000 in
theorem law_zone (C0 : Cx p s m meth c args R code "ZoneFilesLaw" 8 (some .boolean) 12 518) (hLX : LX s b L xs) (hno : NT l) (nf : Nat) {i : Int32} (h1 : vp_in (i + 1) L) (h2 : vp_in (i + 2) L) (hLA : LA dC dI s hx hm o S M a H locs) (hl : lv_has ls 8 [(0, .ref b), (1, .ref hx), (2, .ref hm), (3, .ref o), (4, .int i)]) {S' : CS} {k : Int32} {ans : Int64} {kc ks : Nat} (hc : cq_zone nf S (xs (i + 1).toNatClampNeg) (xs (i + 2).toNatClampNeg) = some (k, ans, S', kc, ks)) {r0 : Int32} {M' : MS} (hm1 : f_Mo_zone nf (xs (i + 1).toNatClampNeg) (xs (i + 2).toNatClampNeg) M.1 M.2.1 M.2.2.1 M.2.2.2 = some (r0, M')) (ht : f_Mo_thrown nf M'.1 M'.2.1 M'.2.2.1 M'.2.2.2 = some k) (he : k = 0 → ans = r0.toInt64) (hcell : cells + kc ≤ R.cells) (hslot : slots + ks ≤ R.slots)
    (kk : ∀ (H1 : Heap) (locs1 : List Loc) (a1 : Int64) (ls1 : Array Slot), LA dC dI s hx hm o S' M' a1 H1 locs1 → lv_has ls1 8 [(0, .ref b), (1, .ref hx), (2, .ref hm), (3, .ref o), (4, .int i)] → W p l e R s m args below meth c H1 locs1 (cells + kc) (slots + ks) Q (F0 m 2175 ls1 [])) : W p l e R s m args below meth c H locs cells slots Q (F0 m 434 ls []) := by
  obtain ⟨hx', hb, hr, hml, hown, hts, hlocks, hRf, hRl⟩ := id C0
  obtain ⟨vi, vj, va, vb⟩ := M'
  refine lv_aload_n hx' hb d_LAW_434 rfl (lv_at hl 1 rfl) ?_
  refine lv_aload_n hx' hb d_LAW_435 rfl (lv_at hl 0 rfl) ?_
  refine lv_iload hx' hb d_LAW_436 (lv_at hl 4 rfl) ?_
  refine lv_iconst (v := 1) hx' hb d_LAW_438 (by decide) ?_
  refine lv_iadd hx' hb d_LAW_439 ?_
  refine law_ld C0 hLX hLA h1 d_LAW_440 ?_
  refine lv_aload_n hx' hb d_LAW_441 rfl (lv_at hl 0 rfl) ?_
  refine lv_iload hx' hb d_LAW_442 (lv_at hl 4 rfl) ?_
  refine lv_iconst (v := 2) hx' hb d_LAW_444 (by decide) ?_
  refine lv_iadd hx' hb d_LAW_445 ?_
  refine law_ld C0 hLX hLA h2 d_LAW_446 ?_
  refine lv_aload_n hx' hb d_LAW_447 rfl (lv_at hl 3 rfl) ?_
  refine law_W (y := y_LW_zone) (n := 4) (As := [.ref hx, .int (xs (i + 1).toNatClampNeg), .int (xs (i + 2).toNatClampNeg), .ref o]) (rest := []) C0 hLX hLA (fun ad cA za zad zcA cO f => q_zone l hno dC dI hx ad cA za zad zcA S nf (xs (i + 1).toNatClampNeg) (xs (i + 2).toNatClampNeg) hc o cO f) m_4_219 m_4_220 m_1_0 m_4_221 (by decide +kernel) ⟨Nat.le_trans (Nat.le_of_ble_eq_true rfl) hRf, Nat.le_trans (Nat.le_of_ble_eq_true rfl) hRl⟩ ⟨Nat.le_trans (Nat.le_of_ble_eq_true rfl) hRf, Nat.le_trans (Nat.le_of_ble_eq_true rfl) hRl⟩ rfl hl.1 rfl (Nat.le_of_ble_eq_true rfl) d_LAW_448 ⟨hcell, hslot⟩ (fun H locs a1 ha hLA => ?_)
  refine lv_istore (lv' := [(5, .int k), (0, .ref b), (1, .ref hx), (2, .ref hm), (3, .ref o), (4, .int i)]) hx' hb d_LAW_451 hl (by decide) rfl (fun ls hl => ?_)
  refine lv_aload_n hx' hb d_LAW_453 rfl (lv_at hl 3 rfl) ?_
  refine lv_aload_n hx' hb d_LAW_454 rfl (lv_at hl 1 rfl) ?_
  refine lv_iload hx' hb d_LAW_455 (lv_at hl 5 rfl) ?_
  refine lv_iconst (v := 1) hx' hb d_LAW_457 (by decide) ?_
  refine lv_iadd hx' hb d_LAW_458 ?_
  refine law_ld C0 hLX hLA h1 d_LAW_459 ?_
  refine lv_aload_n hx' hb d_LAW_460 rfl (lv_at hl 1 rfl) ?_
  refine lv_iload hx' hb d_LAW_461 (lv_at hl 5 rfl) ?_
  refine lv_iconst (v := 2) hx' hb d_LAW_463 (by decide) ?_
  refine lv_iadd hx' hb d_LAW_464 ?_
  refine law_ld C0 hLX hLA h2 d_LAW_465 ?_
  refine law_M (As := [.int (xs (i + 1).toNatClampNeg), .int (xs (i + 2).toNatClampNeg)]) (rest := []) (M' := (vi, vj, va, vb)) C0 hLX hLA (fun r cM => OM.ofMo (fun sz => c_Mo_zone l dC dI hm r cM sz nf (xs (i + 1).toNatClampNeg) (xs (i + 2).toNatClampNeg) M.1 M.2.1 M.2.2.1 M.2.2.2 hm1)) (cwV 2 hts (gdV m_8_145 m_8_146 m_8_147 m_1_10 m_8_148) rfl rfl rfl (by decide +kernel) ⟨Nat.le_trans (Nat.le_of_ble_eq_true rfl) hRf, Nat.le_trans (Nat.le_of_ble_eq_true rfl) hRl⟩) rfl hl.1 rfl (Nat.le_of_ble_eq_true rfl) d_LAW_466 ⟨hcell, hslot⟩ rfl (fun H locs hLA => ?_)
  refine lv_istore (lv' := [(6, .int r0), (5, .int k), (0, .ref b), (1, .ref hx), (2, .ref hm), (3, .ref o), (4, .int i)]) hx' hb d_LAW_469 hl (by decide) rfl (fun ls hl => ?_)
  refine lv_aload_n hx' hb d_LAW_471 rfl (lv_at hl 4 rfl) ?_
  refine law_M (As := []) (rest := []) (M' := (vi, vj, va, vb)) C0 hLX hLA (fun r cM => OM.ofRO (c_Mo_thrown l dC dI hm r cM nf vi vj va vb ht)) (cwV 0 hts (gdV m_7_105 m_7_106 m_7_107 m_1_10 m_7_108) rfl rfl rfl (by decide +kernel) ⟨Nat.le_trans (Nat.le_of_ble_eq_true rfl) hRf, Nat.le_trans (Nat.le_of_ble_eq_true rfl) hRl⟩) rfl hl.1 rfl (Nat.le_of_ble_eq_true rfl) d_LAW_472 ⟨hcell, hslot⟩ rfl (fun H locs hLA => ?_)
  refine lv_iload hx' hb d_LAW_475 (lv_at hl 1 rfl) ?_
  refine lv_icmp_eq (tgt := 482) hx' hb d_LAW_477 (by decide) (fun _ => ?_) (fun cc => absurd rfl cc)
  refine lv_iload hx' hb d_LAW_482 (lv_at hl 1 rfl) ?_
  refine lv_if_ne (tgt := 499) hx' hb d_LAW_484 (by decide) (fun ck => ?_) (fun ck => ?_)
  · refine lv_goto (tgt := 2175) hx' hb d_LAW_499 (by decide) ?_
    exact kk _ _ _ _ hLA (lv_sub hl [2, 3, 4, 5, 6] rfl)
  · refine lv_aload_n hx' hb d_LAW_487 rfl (lv_at hl 5 rfl) ?_
    refine lv_iconst (v := 0) hx' hb d_LAW_488 (by decide) ?_
    refine law_out C0 hLA d_LAW_489 ?_
    refine lv_iload hx' hb d_LAW_490 (lv_at hl 0 rfl) ?_
    refine lv_i2l hx' hb d_LAW_492 rfl ?_
    refine lc_eq (tgt := 499) hx' hb d_LAW_493 d_LAW_494 (by decide) (fun _ => ?_) (fun cc => absurd ((ha ck).trans (he ck)) cc)
    refine lv_goto (tgt := 2175) hx' hb d_LAW_499 (by decide) ?_
    exact kk _ _ _ _ hLA (lv_sub hl [2, 3, 4, 5, 6] rfl)
set_option maxRecDepth 100000 in
set_option maxHeartbeats 1000000 in
theorem law_time (C0 : Cx p s m meth c args R code "ZoneFilesLaw" 8 (some .boolean) 12 518) (hLX : LX s b L xs) (hno : NT l) (nf : Nat) {i : Int32} (h1 : vp_in (i + 1) L) (h2 : vp_in (i + 2) L) (hLA : LA dC dI s hx hm o S M a H locs) (hl : lv_has ls 8 [(0, .ref b), (1, .ref hx), (2, .ref hm), (3, .ref o), (4, .int i)]) {S' : CS} {k : Int32} {ans : Int64} {kc ks : Nat} (hc : cq_time nf S (xs (i + 1).toNatClampNeg) (xs (i + 2).toNatClampNeg) = some (k, ans, S', kc, ks)) {r0 : Int64} {M' : MS} (hm1 : f_Mo_time nf (xs (i + 1).toNatClampNeg) (xs (i + 2).toNatClampNeg) M.1 M.2.1 M.2.2.1 M.2.2.2 = some (r0, M')) (ht : f_Mo_thrown nf M'.1 M'.2.1 M'.2.2.1 M'.2.2.2 = some k) (he : k = 0 → ans = r0) (hcell : cells + kc ≤ R.cells) (hslot : slots + ks ≤ R.slots)
    (kk : ∀ (H1 : Heap) (locs1 : List Loc) (a1 : Int64) (ls1 : Array Slot), LA dC dI s hx hm o S' M' a1 H1 locs1 → lv_has ls1 8 [(0, .ref b), (1, .ref hx), (2, .ref hm), (3, .ref o), (4, .int i)] → W p l e R s m args below meth c H1 locs1 (cells + kc) (slots + ks) Q (F0 m 2175 ls1 [])) : W p l e R s m args below meth c H locs cells slots Q (F0 m 502 ls []) := by
  obtain ⟨hx', hb, hr, hml, hown, hts, hlocks, hRf, hRl⟩ := id C0
  obtain ⟨vi, vj, va, vb⟩ := M'
  refine lv_aload_n hx' hb d_LAW_502 rfl (lv_at hl 1 rfl) ?_
  refine lv_aload_n hx' hb d_LAW_503 rfl (lv_at hl 0 rfl) ?_
  refine lv_iload hx' hb d_LAW_504 (lv_at hl 4 rfl) ?_
  refine lv_iconst (v := 1) hx' hb d_LAW_506 (by decide) ?_
  refine lv_iadd hx' hb d_LAW_507 ?_
  refine law_ld C0 hLX hLA h1 d_LAW_508 ?_
  refine lv_aload_n hx' hb d_LAW_509 rfl (lv_at hl 0 rfl) ?_
  refine lv_iload hx' hb d_LAW_510 (lv_at hl 4 rfl) ?_
  refine lv_iconst (v := 2) hx' hb d_LAW_512 (by decide) ?_
  refine lv_iadd hx' hb d_LAW_513 ?_
  refine law_ld C0 hLX hLA h2 d_LAW_514 ?_
  refine lv_aload_n hx' hb d_LAW_515 rfl (lv_at hl 3 rfl) ?_
  refine law_W (y := y_LW_time) (n := 4) (As := [.ref hx, .int (xs (i + 1).toNatClampNeg), .int (xs (i + 2).toNatClampNeg), .ref o]) (rest := []) C0 hLX hLA (fun ad cA za zad zcA cO f => q_time l hno dC dI hx ad cA za zad zcA S nf (xs (i + 1).toNatClampNeg) (xs (i + 2).toNatClampNeg) hc o cO f) m_4_227 m_4_228 m_1_0 m_4_229 (by decide +kernel) ⟨Nat.le_trans (Nat.le_of_ble_eq_true rfl) hRf, Nat.le_trans (Nat.le_of_ble_eq_true rfl) hRl⟩ ⟨Nat.le_trans (Nat.le_of_ble_eq_true rfl) hRf, Nat.le_trans (Nat.le_of_ble_eq_true rfl) hRl⟩ rfl hl.1 rfl (Nat.le_of_ble_eq_true rfl) d_LAW_516 ⟨hcell, hslot⟩ (fun H locs a1 ha hLA => ?_)
  refine lv_istore (lv' := [(5, .int k), (0, .ref b), (1, .ref hx), (2, .ref hm), (3, .ref o), (4, .int i)]) hx' hb d_LAW_519 hl (by decide) rfl (fun ls hl => ?_)
  refine lv_aload_n hx' hb d_LAW_521 rfl (lv_at hl 3 rfl) ?_
  refine lv_aload_n hx' hb d_LAW_522 rfl (lv_at hl 1 rfl) ?_
  refine lv_iload hx' hb d_LAW_523 (lv_at hl 5 rfl) ?_
  refine lv_iconst (v := 1) hx' hb d_LAW_525 (by decide) ?_
  refine lv_iadd hx' hb d_LAW_526 ?_
  refine law_ld C0 hLX hLA h1 d_LAW_527 ?_
  refine lv_aload_n hx' hb d_LAW_528 rfl (lv_at hl 1 rfl) ?_
  refine lv_iload hx' hb d_LAW_529 (lv_at hl 5 rfl) ?_
  refine lv_iconst (v := 2) hx' hb d_LAW_531 (by decide) ?_
  refine lv_iadd hx' hb d_LAW_532 ?_
  refine law_ld C0 hLX hLA h2 d_LAW_533 ?_
  refine law_M (As := [.int (xs (i + 1).toNatClampNeg), .int (xs (i + 2).toNatClampNeg)]) (rest := []) (M' := (vi, vj, va, vb)) C0 hLX hLA (fun r cM => OM.ofMo (fun sz => c_Mo_time l dC dI hm r cM sz nf (xs (i + 1).toNatClampNeg) (xs (i + 2).toNatClampNeg) M.1 M.2.1 M.2.2.1 M.2.2.2 hm1)) (cwV 2 hts (gdV m_8_149 m_8_150 m_8_151 m_1_10 m_8_152) rfl rfl rfl (by decide +kernel) ⟨Nat.le_trans (Nat.le_of_ble_eq_true rfl) hRf, Nat.le_trans (Nat.le_of_ble_eq_true rfl) hRl⟩) rfl hl.1 rfl (Nat.le_of_ble_eq_true rfl) d_LAW_534 ⟨hcell, hslot⟩ rfl (fun H locs hLA => ?_)
  refine lv_lstore (lv' := [(6, .long r0), (5, .int k), (0, .ref b), (1, .ref hx), (2, .ref hm), (3, .ref o), (4, .int i)]) hx' hb d_LAW_537 hl (by decide) rfl (fun ls hl => ?_)
  refine lv_aload_n hx' hb d_LAW_539 rfl (lv_at hl 4 rfl) ?_
  refine law_M (As := []) (rest := []) (M' := (vi, vj, va, vb)) C0 hLX hLA (fun r cM => OM.ofRO (c_Mo_thrown l dC dI hm r cM nf vi vj va vb ht)) (cwV 0 hts (gdV m_7_105 m_7_106 m_7_107 m_1_10 m_7_108) rfl rfl rfl (by decide +kernel) ⟨Nat.le_trans (Nat.le_of_ble_eq_true rfl) hRf, Nat.le_trans (Nat.le_of_ble_eq_true rfl) hRl⟩) rfl hl.1 rfl (Nat.le_of_ble_eq_true rfl) d_LAW_540 ⟨hcell, hslot⟩ rfl (fun H locs hLA => ?_)
  refine lv_iload hx' hb d_LAW_543 (lv_at hl 1 rfl) ?_
  refine lv_icmp_eq (tgt := 550) hx' hb d_LAW_545 (by decide) (fun _ => ?_) (fun cc => absurd rfl cc)
  refine lv_iload hx' hb d_LAW_550 (lv_at hl 1 rfl) ?_
  refine lv_if_ne (tgt := 566) hx' hb d_LAW_552 (by decide) (fun ck => ?_) (fun ck => ?_)
  · refine lv_goto (tgt := 2175) hx' hb d_LAW_566 (by decide) ?_
    exact kk _ _ _ _ hLA (lv_sub hl [2, 3, 4, 5, 6] rfl)
  · refine lv_aload_n hx' hb d_LAW_555 rfl (lv_at hl 5 rfl) ?_
    refine lv_iconst (v := 0) hx' hb d_LAW_556 (by decide) ?_
    refine law_out C0 hLA d_LAW_557 ?_
    refine lv_lload hx' hb d_LAW_558 (lv_at hl 0 rfl) ?_
    refine lc_eq (tgt := 566) hx' hb d_LAW_560 d_LAW_561 (by decide) (fun _ => ?_) (fun cc => absurd ((ha ck).trans (he ck)) cc)
    refine lv_goto (tgt := 2175) hx' hb d_LAW_566 (by decide) ?_
    exact kk _ _ _ _ hLA (lv_sub hl [2, 3, 4, 5, 6] rfl)
set_option maxRecDepth 100000 in
set_option maxHeartbeats 1000000 in
theorem law_typeAt (C0 : Cx p s m meth c args R code "ZoneFilesLaw" 8 (some .boolean) 12 518) (hLX : LX s b L xs) (hno : NT l) (nf : Nat) {i : Int32} (h1 : vp_in (i + 1) L) (h2 : vp_in (i + 2) L) (hLA : LA dC dI s hx hm o S M a H locs) (hl : lv_has ls 8 [(0, .ref b), (1, .ref hx), (2, .ref hm), (3, .ref o), (4, .int i)]) {S' : CS} {k : Int32} {ans : Int64} {kc ks : Nat} (hc : cq_typeAt nf S (xs (i + 1).toNatClampNeg) (xs (i + 2).toNatClampNeg) = some (k, ans, S', kc, ks)) {r0 : Int32} {M' : MS} (hm1 : f_Mo_typeAt nf (xs (i + 1).toNatClampNeg) (xs (i + 2).toNatClampNeg) M.1 M.2.1 M.2.2.1 M.2.2.2 = some (r0, M')) (ht : f_Mo_thrown nf M'.1 M'.2.1 M'.2.2.1 M'.2.2.2 = some k) (he : k = 0 → ans = r0.toInt64) (hcell : cells + kc ≤ R.cells) (hslot : slots + ks ≤ R.slots)
    (kk : ∀ (H1 : Heap) (locs1 : List Loc) (a1 : Int64) (ls1 : Array Slot), LA dC dI s hx hm o S' M' a1 H1 locs1 → lv_has ls1 8 [(0, .ref b), (1, .ref hx), (2, .ref hm), (3, .ref o), (4, .int i)] → W p l e R s m args below meth c H1 locs1 (cells + kc) (slots + ks) Q (F0 m 2175 ls1 [])) : W p l e R s m args below meth c H locs cells slots Q (F0 m 569 ls []) := by
  obtain ⟨hx', hb, hr, hml, hown, hts, hlocks, hRf, hRl⟩ := id C0
  obtain ⟨vi, vj, va, vb⟩ := M'
  refine lv_aload_n hx' hb d_LAW_569 rfl (lv_at hl 1 rfl) ?_
  refine lv_aload_n hx' hb d_LAW_570 rfl (lv_at hl 0 rfl) ?_
  refine lv_iload hx' hb d_LAW_571 (lv_at hl 4 rfl) ?_
  refine lv_iconst (v := 1) hx' hb d_LAW_573 (by decide) ?_
  refine lv_iadd hx' hb d_LAW_574 ?_
  refine law_ld C0 hLX hLA h1 d_LAW_575 ?_
  refine lv_aload_n hx' hb d_LAW_576 rfl (lv_at hl 0 rfl) ?_
  refine lv_iload hx' hb d_LAW_577 (lv_at hl 4 rfl) ?_
  refine lv_iconst (v := 2) hx' hb d_LAW_579 (by decide) ?_
  refine lv_iadd hx' hb d_LAW_580 ?_
  refine law_ld C0 hLX hLA h2 d_LAW_581 ?_
  refine lv_aload_n hx' hb d_LAW_582 rfl (lv_at hl 3 rfl) ?_
  refine law_W (y := y_LW_typeAt) (n := 4) (As := [.ref hx, .int (xs (i + 1).toNatClampNeg), .int (xs (i + 2).toNatClampNeg), .ref o]) (rest := []) C0 hLX hLA (fun ad cA za zad zcA cO f => q_typeAt l hno dC dI hx ad cA za zad zcA S nf (xs (i + 1).toNatClampNeg) (xs (i + 2).toNatClampNeg) hc o cO f) m_4_238 m_4_239 m_1_0 m_5_0 (by decide +kernel) ⟨Nat.le_trans (Nat.le_of_ble_eq_true rfl) hRf, Nat.le_trans (Nat.le_of_ble_eq_true rfl) hRl⟩ ⟨Nat.le_trans (Nat.le_of_ble_eq_true rfl) hRf, Nat.le_trans (Nat.le_of_ble_eq_true rfl) hRl⟩ rfl hl.1 rfl (Nat.le_of_ble_eq_true rfl) d_LAW_583 ⟨hcell, hslot⟩ (fun H locs a1 ha hLA => ?_)
  refine lv_istore (lv' := [(5, .int k), (0, .ref b), (1, .ref hx), (2, .ref hm), (3, .ref o), (4, .int i)]) hx' hb d_LAW_586 hl (by decide) rfl (fun ls hl => ?_)
  refine lv_aload_n hx' hb d_LAW_588 rfl (lv_at hl 3 rfl) ?_
  refine lv_aload_n hx' hb d_LAW_589 rfl (lv_at hl 1 rfl) ?_
  refine lv_iload hx' hb d_LAW_590 (lv_at hl 5 rfl) ?_
  refine lv_iconst (v := 1) hx' hb d_LAW_592 (by decide) ?_
  refine lv_iadd hx' hb d_LAW_593 ?_
  refine law_ld C0 hLX hLA h1 d_LAW_594 ?_
  refine lv_aload_n hx' hb d_LAW_595 rfl (lv_at hl 1 rfl) ?_
  refine lv_iload hx' hb d_LAW_596 (lv_at hl 5 rfl) ?_
  refine lv_iconst (v := 2) hx' hb d_LAW_598 (by decide) ?_
  refine lv_iadd hx' hb d_LAW_599 ?_
  refine law_ld C0 hLX hLA h2 d_LAW_600 ?_
  refine law_M (As := [.int (xs (i + 1).toNatClampNeg), .int (xs (i + 2).toNatClampNeg)]) (rest := []) (M' := (vi, vj, va, vb)) C0 hLX hLA (fun r cM => OM.ofMo (fun sz => c_Mo_typeAt l dC dI hm r cM sz nf (xs (i + 1).toNatClampNeg) (xs (i + 2).toNatClampNeg) M.1 M.2.1 M.2.2.1 M.2.2.2 hm1)) (cwV 2 hts (gdV m_8_153 m_8_154 m_8_155 m_1_10 m_8_156) rfl rfl rfl (by decide +kernel) ⟨Nat.le_trans (Nat.le_of_ble_eq_true rfl) hRf, Nat.le_trans (Nat.le_of_ble_eq_true rfl) hRl⟩) rfl hl.1 rfl (Nat.le_of_ble_eq_true rfl) d_LAW_601 ⟨hcell, hslot⟩ rfl (fun H locs hLA => ?_)
  refine lv_istore (lv' := [(6, .int r0), (5, .int k), (0, .ref b), (1, .ref hx), (2, .ref hm), (3, .ref o), (4, .int i)]) hx' hb d_LAW_604 hl (by decide) rfl (fun ls hl => ?_)
  refine lv_aload_n hx' hb d_LAW_606 rfl (lv_at hl 4 rfl) ?_
  refine law_M (As := []) (rest := []) (M' := (vi, vj, va, vb)) C0 hLX hLA (fun r cM => OM.ofRO (c_Mo_thrown l dC dI hm r cM nf vi vj va vb ht)) (cwV 0 hts (gdV m_7_105 m_7_106 m_7_107 m_1_10 m_7_108) rfl rfl rfl (by decide +kernel) ⟨Nat.le_trans (Nat.le_of_ble_eq_true rfl) hRf, Nat.le_trans (Nat.le_of_ble_eq_true rfl) hRl⟩) rfl hl.1 rfl (Nat.le_of_ble_eq_true rfl) d_LAW_607 ⟨hcell, hslot⟩ rfl (fun H locs hLA => ?_)
  refine lv_iload hx' hb d_LAW_610 (lv_at hl 1 rfl) ?_
  refine lv_icmp_eq (tgt := 617) hx' hb d_LAW_612 (by decide) (fun _ => ?_) (fun cc => absurd rfl cc)
  refine lv_iload hx' hb d_LAW_617 (lv_at hl 1 rfl) ?_
  refine lv_if_ne (tgt := 634) hx' hb d_LAW_619 (by decide) (fun ck => ?_) (fun ck => ?_)
  · refine lv_goto (tgt := 2175) hx' hb d_LAW_634 (by decide) ?_
    exact kk _ _ _ _ hLA (lv_sub hl [2, 3, 4, 5, 6] rfl)
  · refine lv_aload_n hx' hb d_LAW_622 rfl (lv_at hl 5 rfl) ?_
    refine lv_iconst (v := 0) hx' hb d_LAW_623 (by decide) ?_
    refine law_out C0 hLA d_LAW_624 ?_
    refine lv_iload hx' hb d_LAW_625 (lv_at hl 0 rfl) ?_
    refine lv_i2l hx' hb d_LAW_627 rfl ?_
    refine lc_eq (tgt := 634) hx' hb d_LAW_628 d_LAW_629 (by decide) (fun _ => ?_) (fun cc => absurd ((ha ck).trans (he ck)) cc)
    refine lv_goto (tgt := 2175) hx' hb d_LAW_634 (by decide) ?_
    exact kk _ _ _ _ hLA (lv_sub hl [2, 3, 4, 5, 6] rfl)
set_option maxRecDepth 100000 in
set_option maxHeartbeats 1000000 in
theorem law_type (C0 : Cx p s m meth c args R code "ZoneFilesLaw" 8 (some .boolean) 12 518) (hLX : LX s b L xs) (hno : NT l) (nf : Nat) {i : Int32} (h1 : vp_in (i + 1) L) (h2 : vp_in (i + 2) L) (h3 : vp_in (i + 3) L) (hLA : LA dC dI s hx hm o S M a H locs) (hl : lv_has ls 8 [(0, .ref b), (1, .ref hx), (2, .ref hm), (3, .ref o), (4, .int i)]) {S' : CS} {k : Int32} {ans : Int64} {kc ks : Nat} (hc : cq_type nf S (xs (i + 1).toNatClampNeg) (xs (i + 2).toNatClampNeg) (xs (i + 3).toNatClampNeg) = some (k, ans, S', kc, ks)) {r0 : Int32} {M' : MS} (hm1 : f_Mo_type nf (xs (i + 1).toNatClampNeg) (xs (i + 2).toNatClampNeg) (xs (i + 3).toNatClampNeg) M.1 M.2.1 M.2.2.1 M.2.2.2 = some (r0, M')) (ht : f_Mo_thrown nf M'.1 M'.2.1 M'.2.2.1 M'.2.2.2 = some k) (he : k = 0 → ans = r0.toInt64) (hcell : cells + kc ≤ R.cells) (hslot : slots + ks ≤ R.slots)
    (kk : ∀ (H1 : Heap) (locs1 : List Loc) (a1 : Int64) (ls1 : Array Slot), LA dC dI s hx hm o S' M' a1 H1 locs1 → lv_has ls1 8 [(0, .ref b), (1, .ref hx), (2, .ref hm), (3, .ref o), (4, .int i)] → W p l e R s m args below meth c H1 locs1 (cells + kc) (slots + ks) Q (F0 m 2175 ls1 [])) : W p l e R s m args below meth c H locs cells slots Q (F0 m 637 ls []) := by
  obtain ⟨hx', hb, hr, hml, hown, hts, hlocks, hRf, hRl⟩ := id C0
  obtain ⟨vi, vj, va, vb⟩ := M'
  refine lv_aload_n hx' hb d_LAW_637 rfl (lv_at hl 1 rfl) ?_
  refine lv_aload_n hx' hb d_LAW_638 rfl (lv_at hl 0 rfl) ?_
  refine lv_iload hx' hb d_LAW_639 (lv_at hl 4 rfl) ?_
  refine lv_iconst (v := 1) hx' hb d_LAW_641 (by decide) ?_
  refine lv_iadd hx' hb d_LAW_642 ?_
  refine law_ld C0 hLX hLA h1 d_LAW_643 ?_
  refine lv_aload_n hx' hb d_LAW_644 rfl (lv_at hl 0 rfl) ?_
  refine lv_iload hx' hb d_LAW_645 (lv_at hl 4 rfl) ?_
  refine lv_iconst (v := 2) hx' hb d_LAW_647 (by decide) ?_
  refine lv_iadd hx' hb d_LAW_648 ?_
  refine law_ld C0 hLX hLA h2 d_LAW_649 ?_
  refine lv_aload_n hx' hb d_LAW_650 rfl (lv_at hl 0 rfl) ?_
  refine lv_iload hx' hb d_LAW_651 (lv_at hl 4 rfl) ?_
  refine lv_iconst (v := 3) hx' hb d_LAW_653 (by decide) ?_
  refine lv_iadd hx' hb d_LAW_654 ?_
  refine law_ld C0 hLX hLA h3 d_LAW_655 ?_
  refine lv_aload_n hx' hb d_LAW_656 rfl (lv_at hl 3 rfl) ?_
  refine law_W (y := y_LW_type) (n := 5) (As := [.ref hx, .int (xs (i + 1).toNatClampNeg), .int (xs (i + 2).toNatClampNeg), .int (xs (i + 3).toNatClampNeg), .ref o]) (rest := []) C0 hLX hLA (fun ad cA za zad zcA cO f => q_type l hno dC dI hx ad cA za zad zcA S nf (xs (i + 1).toNatClampNeg) (xs (i + 2).toNatClampNeg) (xs (i + 3).toNatClampNeg) hc o cO f) m_5_5 m_5_6 m_1_0 m_5_7 (by decide +kernel) ⟨Nat.le_trans (Nat.le_of_ble_eq_true rfl) hRf, Nat.le_trans (Nat.le_of_ble_eq_true rfl) hRl⟩ ⟨Nat.le_trans (Nat.le_of_ble_eq_true rfl) hRf, Nat.le_trans (Nat.le_of_ble_eq_true rfl) hRl⟩ rfl hl.1 rfl (Nat.le_of_ble_eq_true rfl) d_LAW_657 ⟨hcell, hslot⟩ (fun H locs a1 ha hLA => ?_)
  refine lv_istore (lv' := [(5, .int k), (0, .ref b), (1, .ref hx), (2, .ref hm), (3, .ref o), (4, .int i)]) hx' hb d_LAW_660 hl (by decide) rfl (fun ls hl => ?_)
  refine lv_aload_n hx' hb d_LAW_662 rfl (lv_at hl 3 rfl) ?_
  refine lv_aload_n hx' hb d_LAW_663 rfl (lv_at hl 1 rfl) ?_
  refine lv_iload hx' hb d_LAW_664 (lv_at hl 5 rfl) ?_
  refine lv_iconst (v := 1) hx' hb d_LAW_666 (by decide) ?_
  refine lv_iadd hx' hb d_LAW_667 ?_
  refine law_ld C0 hLX hLA h1 d_LAW_668 ?_
  refine lv_aload_n hx' hb d_LAW_669 rfl (lv_at hl 1 rfl) ?_
  refine lv_iload hx' hb d_LAW_670 (lv_at hl 5 rfl) ?_
  refine lv_iconst (v := 2) hx' hb d_LAW_672 (by decide) ?_
  refine lv_iadd hx' hb d_LAW_673 ?_
  refine law_ld C0 hLX hLA h2 d_LAW_674 ?_
  refine lv_aload_n hx' hb d_LAW_675 rfl (lv_at hl 1 rfl) ?_
  refine lv_iload hx' hb d_LAW_676 (lv_at hl 5 rfl) ?_
  refine lv_iconst (v := 3) hx' hb d_LAW_678 (by decide) ?_
  refine lv_iadd hx' hb d_LAW_679 ?_
  refine law_ld C0 hLX hLA h3 d_LAW_680 ?_
  refine law_M (As := [.int (xs (i + 1).toNatClampNeg), .int (xs (i + 2).toNatClampNeg), .int (xs (i + 3).toNatClampNeg)]) (rest := []) (M' := (vi, vj, va, vb)) C0 hLX hLA (fun r cM => OM.ofMo (fun sz => c_Mo_type l dC dI hm r cM sz nf (xs (i + 1).toNatClampNeg) (xs (i + 2).toNatClampNeg) (xs (i + 3).toNatClampNeg) M.1 M.2.1 M.2.2.1 M.2.2.2 hm1)) (cwV 3 hts (gdV m_8_157 m_8_158 m_8_159 m_1_10 m_8_160) rfl rfl rfl (by decide +kernel) ⟨Nat.le_trans (Nat.le_of_ble_eq_true rfl) hRf, Nat.le_trans (Nat.le_of_ble_eq_true rfl) hRl⟩) rfl hl.1 rfl (Nat.le_of_ble_eq_true rfl) d_LAW_681 ⟨hcell, hslot⟩ rfl (fun H locs hLA => ?_)
  refine lv_istore (lv' := [(6, .int r0), (5, .int k), (0, .ref b), (1, .ref hx), (2, .ref hm), (3, .ref o), (4, .int i)]) hx' hb d_LAW_684 hl (by decide) rfl (fun ls hl => ?_)
  refine lv_aload_n hx' hb d_LAW_686 rfl (lv_at hl 4 rfl) ?_
  refine law_M (As := []) (rest := []) (M' := (vi, vj, va, vb)) C0 hLX hLA (fun r cM => OM.ofRO (c_Mo_thrown l dC dI hm r cM nf vi vj va vb ht)) (cwV 0 hts (gdV m_7_105 m_7_106 m_7_107 m_1_10 m_7_108) rfl rfl rfl (by decide +kernel) ⟨Nat.le_trans (Nat.le_of_ble_eq_true rfl) hRf, Nat.le_trans (Nat.le_of_ble_eq_true rfl) hRl⟩) rfl hl.1 rfl (Nat.le_of_ble_eq_true rfl) d_LAW_687 ⟨hcell, hslot⟩ rfl (fun H locs hLA => ?_)
  refine lv_iload hx' hb d_LAW_690 (lv_at hl 1 rfl) ?_
  refine lv_icmp_eq (tgt := 697) hx' hb d_LAW_692 (by decide) (fun _ => ?_) (fun cc => absurd rfl cc)
  refine lv_iload hx' hb d_LAW_697 (lv_at hl 1 rfl) ?_
  refine lv_if_ne (tgt := 714) hx' hb d_LAW_699 (by decide) (fun ck => ?_) (fun ck => ?_)
  · refine lv_goto (tgt := 2175) hx' hb d_LAW_714 (by decide) ?_
    exact kk _ _ _ _ hLA (lv_sub hl [2, 3, 4, 5, 6] rfl)
  · refine lv_aload_n hx' hb d_LAW_702 rfl (lv_at hl 5 rfl) ?_
    refine lv_iconst (v := 0) hx' hb d_LAW_703 (by decide) ?_
    refine law_out C0 hLA d_LAW_704 ?_
    refine lv_iload hx' hb d_LAW_705 (lv_at hl 0 rfl) ?_
    refine lv_i2l hx' hb d_LAW_707 rfl ?_
    refine lc_eq (tgt := 714) hx' hb d_LAW_708 d_LAW_709 (by decide) (fun _ => ?_) (fun cc => absurd ((ha ck).trans (he ck)) cc)
    refine lv_goto (tgt := 2175) hx' hb d_LAW_714 (by decide) ?_
    exact kk _ _ _ _ hLA (lv_sub hl [2, 3, 4, 5, 6] rfl)
set_option maxRecDepth 100000 in
set_option maxHeartbeats 1000000 in
theorem law_letter (C0 : Cx p s m meth c args R code "ZoneFilesLaw" 8 (some .boolean) 12 518) (hLX : LX s b L xs) (hno : NT l) (nf : Nat) {i : Int32} (h1 : vp_in (i + 1) L) (h2 : vp_in (i + 2) L) (h3 : vp_in (i + 3) L) (hLA : LA dC dI s hx hm o S M a H locs) (hl : lv_has ls 8 [(0, .ref b), (1, .ref hx), (2, .ref hm), (3, .ref o), (4, .int i)]) {S' : CS} {k : Int32} {ans : Int64} {kc ks : Nat} (hc : cq_letter nf S (xs (i + 1).toNatClampNeg) (xs (i + 2).toNatClampNeg) (xs (i + 3).toNatClampNeg) = some (k, ans, S', kc, ks)) {r0 : Int32} {M' : MS} (hm1 : f_Mo_letter nf (xs (i + 1).toNatClampNeg) (xs (i + 2).toNatClampNeg) (xs (i + 3).toNatClampNeg) M.1 M.2.1 M.2.2.1 M.2.2.2 = some (r0, M')) (ht : f_Mo_thrown nf M'.1 M'.2.1 M'.2.2.1 M'.2.2.2 = some k) (he : k = 0 → ans = r0.toInt64) (hcell : cells + kc ≤ R.cells) (hslot : slots + ks ≤ R.slots)
    (kk : ∀ (H1 : Heap) (locs1 : List Loc) (a1 : Int64) (ls1 : Array Slot), LA dC dI s hx hm o S' M' a1 H1 locs1 → lv_has ls1 8 [(0, .ref b), (1, .ref hx), (2, .ref hm), (3, .ref o), (4, .int i)] → W p l e R s m args below meth c H1 locs1 (cells + kc) (slots + ks) Q (F0 m 2175 ls1 [])) : W p l e R s m args below meth c H locs cells slots Q (F0 m 717 ls []) := by
  obtain ⟨hx', hb, hr, hml, hown, hts, hlocks, hRf, hRl⟩ := id C0
  obtain ⟨vi, vj, va, vb⟩ := M'
  refine lv_aload_n hx' hb d_LAW_717 rfl (lv_at hl 1 rfl) ?_
  refine lv_aload_n hx' hb d_LAW_718 rfl (lv_at hl 0 rfl) ?_
  refine lv_iload hx' hb d_LAW_719 (lv_at hl 4 rfl) ?_
  refine lv_iconst (v := 1) hx' hb d_LAW_721 (by decide) ?_
  refine lv_iadd hx' hb d_LAW_722 ?_
  refine law_ld C0 hLX hLA h1 d_LAW_723 ?_
  refine lv_aload_n hx' hb d_LAW_724 rfl (lv_at hl 0 rfl) ?_
  refine lv_iload hx' hb d_LAW_725 (lv_at hl 4 rfl) ?_
  refine lv_iconst (v := 2) hx' hb d_LAW_727 (by decide) ?_
  refine lv_iadd hx' hb d_LAW_728 ?_
  refine law_ld C0 hLX hLA h2 d_LAW_729 ?_
  refine lv_aload_n hx' hb d_LAW_730 rfl (lv_at hl 0 rfl) ?_
  refine lv_iload hx' hb d_LAW_731 (lv_at hl 4 rfl) ?_
  refine lv_iconst (v := 3) hx' hb d_LAW_733 (by decide) ?_
  refine lv_iadd hx' hb d_LAW_734 ?_
  refine law_ld C0 hLX hLA h3 d_LAW_735 ?_
  refine lv_aload_n hx' hb d_LAW_736 rfl (lv_at hl 3 rfl) ?_
  refine law_W (y := y_LW_letter) (n := 5) (As := [.ref hx, .int (xs (i + 1).toNatClampNeg), .int (xs (i + 2).toNatClampNeg), .int (xs (i + 3).toNatClampNeg), .ref o]) (rest := []) C0 hLX hLA (fun ad cA za zad zcA cO f => q_letter l hno dC dI hx ad cA za zad zcA S nf (xs (i + 1).toNatClampNeg) (xs (i + 2).toNatClampNeg) (xs (i + 3).toNatClampNeg) hc o cO f) m_5_14 m_5_15 m_1_0 m_5_16 (by decide +kernel) ⟨Nat.le_trans (Nat.le_of_ble_eq_true rfl) hRf, Nat.le_trans (Nat.le_of_ble_eq_true rfl) hRl⟩ ⟨Nat.le_trans (Nat.le_of_ble_eq_true rfl) hRf, Nat.le_trans (Nat.le_of_ble_eq_true rfl) hRl⟩ rfl hl.1 rfl (Nat.le_of_ble_eq_true rfl) d_LAW_737 ⟨hcell, hslot⟩ (fun H locs a1 ha hLA => ?_)
  refine lv_istore (lv' := [(5, .int k), (0, .ref b), (1, .ref hx), (2, .ref hm), (3, .ref o), (4, .int i)]) hx' hb d_LAW_740 hl (by decide) rfl (fun ls hl => ?_)
  refine lv_aload_n hx' hb d_LAW_742 rfl (lv_at hl 3 rfl) ?_
  refine lv_aload_n hx' hb d_LAW_743 rfl (lv_at hl 1 rfl) ?_
  refine lv_iload hx' hb d_LAW_744 (lv_at hl 5 rfl) ?_
  refine lv_iconst (v := 1) hx' hb d_LAW_746 (by decide) ?_
  refine lv_iadd hx' hb d_LAW_747 ?_
  refine law_ld C0 hLX hLA h1 d_LAW_748 ?_
  refine lv_aload_n hx' hb d_LAW_749 rfl (lv_at hl 1 rfl) ?_
  refine lv_iload hx' hb d_LAW_750 (lv_at hl 5 rfl) ?_
  refine lv_iconst (v := 2) hx' hb d_LAW_752 (by decide) ?_
  refine lv_iadd hx' hb d_LAW_753 ?_
  refine law_ld C0 hLX hLA h2 d_LAW_754 ?_
  refine lv_aload_n hx' hb d_LAW_755 rfl (lv_at hl 1 rfl) ?_
  refine lv_iload hx' hb d_LAW_756 (lv_at hl 5 rfl) ?_
  refine lv_iconst (v := 3) hx' hb d_LAW_758 (by decide) ?_
  refine lv_iadd hx' hb d_LAW_759 ?_
  refine law_ld C0 hLX hLA h3 d_LAW_760 ?_
  refine law_M (As := [.int (xs (i + 1).toNatClampNeg), .int (xs (i + 2).toNatClampNeg), .int (xs (i + 3).toNatClampNeg)]) (rest := []) (M' := (vi, vj, va, vb)) C0 hLX hLA (fun r cM => OM.ofMo (fun sz => c_Mo_letter l dC dI hm r cM sz nf (xs (i + 1).toNatClampNeg) (xs (i + 2).toNatClampNeg) (xs (i + 3).toNatClampNeg) M.1 M.2.1 M.2.2.1 M.2.2.2 hm1)) (cwV 3 hts (gdV m_8_161 m_8_162 m_8_163 m_1_10 m_8_164) rfl rfl rfl (by decide +kernel) ⟨Nat.le_trans (Nat.le_of_ble_eq_true rfl) hRf, Nat.le_trans (Nat.le_of_ble_eq_true rfl) hRl⟩) rfl hl.1 rfl (Nat.le_of_ble_eq_true rfl) d_LAW_761 ⟨hcell, hslot⟩ rfl (fun H locs hLA => ?_)
  refine lv_istore (lv' := [(6, .int r0), (5, .int k), (0, .ref b), (1, .ref hx), (2, .ref hm), (3, .ref o), (4, .int i)]) hx' hb d_LAW_764 hl (by decide) rfl (fun ls hl => ?_)
  refine lv_aload_n hx' hb d_LAW_766 rfl (lv_at hl 4 rfl) ?_
  refine law_M (As := []) (rest := []) (M' := (vi, vj, va, vb)) C0 hLX hLA (fun r cM => OM.ofRO (c_Mo_thrown l dC dI hm r cM nf vi vj va vb ht)) (cwV 0 hts (gdV m_7_105 m_7_106 m_7_107 m_1_10 m_7_108) rfl rfl rfl (by decide +kernel) ⟨Nat.le_trans (Nat.le_of_ble_eq_true rfl) hRf, Nat.le_trans (Nat.le_of_ble_eq_true rfl) hRl⟩) rfl hl.1 rfl (Nat.le_of_ble_eq_true rfl) d_LAW_767 ⟨hcell, hslot⟩ rfl (fun H locs hLA => ?_)
  refine lv_iload hx' hb d_LAW_770 (lv_at hl 1 rfl) ?_
  refine lv_icmp_eq (tgt := 777) hx' hb d_LAW_772 (by decide) (fun _ => ?_) (fun cc => absurd rfl cc)
  refine lv_iload hx' hb d_LAW_777 (lv_at hl 1 rfl) ?_
  refine lv_if_ne (tgt := 794) hx' hb d_LAW_779 (by decide) (fun ck => ?_) (fun ck => ?_)
  · refine lv_goto (tgt := 2175) hx' hb d_LAW_794 (by decide) ?_
    exact kk _ _ _ _ hLA (lv_sub hl [2, 3, 4, 5, 6] rfl)
  · refine lv_aload_n hx' hb d_LAW_782 rfl (lv_at hl 5 rfl) ?_
    refine lv_iconst (v := 0) hx' hb d_LAW_783 (by decide) ?_
    refine law_out C0 hLA d_LAW_784 ?_
    refine lv_iload hx' hb d_LAW_785 (lv_at hl 0 rfl) ?_
    refine lv_i2l hx' hb d_LAW_787 rfl ?_
    refine lc_eq (tgt := 794) hx' hb d_LAW_788 d_LAW_789 (by decide) (fun _ => ?_) (fun cc => absurd ((ha ck).trans (he ck)) cc)
    refine lv_goto (tgt := 2175) hx' hb d_LAW_794 (by decide) ?_
    exact kk _ _ _ _ hLA (lv_sub hl [2, 3, 4, 5, 6] rfl)
end
