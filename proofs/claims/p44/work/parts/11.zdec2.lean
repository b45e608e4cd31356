theorem dL_act_454 : decode cL_act 454 = .ok (.istore 7, 2) := by decide +kernel
theorem dL_act_456 : decode cL_act 456 = .ok (.iload 7, 2) := by decide +kernel
theorem dL_act_458 : decode cL_act 458 = .ok (.iconst 5, 1) := by decide +kernel
theorem dL_act_459 : decode cL_act 459 = .ok (.if_icmp .ne 8, 3) := by decide +kernel
theorem dL_act_462 : decode cL_act 462 = .ok (.iload 6, 2) := by decide +kernel
theorem dL_act_464 : decode cL_act 464 = .ok (.goto 33, 3) := by decide +kernel
theorem dL_act_467 : decode cL_act 467 = .ok (.iload 7, 2) := by decide +kernel
theorem dL_act_469 : decode cL_act 469 = .ok (.bipush 7, 2) := by decide +kernel
theorem dL_act_471 : decode cL_act 471 = .ok (.if_icmp .ne 24, 3) := by decide +kernel
theorem dL_act_474 : decode cL_act 474 = .ok (.iload_n 1, 1) := by decide +kernel
theorem dL_act_475 : decode cL_act 475 = .ok (.bipush 9, 2) := by decide +kernel
theorem dL_act_477 : decode cL_act 477 = .ok (.ishr, 1) := by decide +kernel
theorem dL_act_478 : decode cL_act 478 = .ok (.iload_n 2, 1) := by decide +kernel
theorem dL_act_479 : decode cL_act 479 = .ok (.ifCond .eq 8, 3) := by decide +kernel
theorem dL_act_482 : decode cL_act 482 = .ok (.bipush 110, 2) := by decide +kernel
theorem dL_act_484 : decode cL_act 484 = .ok (.goto 5, 3) := by decide +kernel
theorem dL_act_487 : decode cL_act 487 = .ok (.bipush 6, 2) := by decide +kernel
theorem dL_act_489 : decode cL_act 489 = .ok (.invokestatic 93, 3) := by decide +kernel
theorem dL_act_492 : decode cL_act 492 = .ok (.goto 5, 3) := by decide +kernel
theorem dL_act_495 : decode cL_act 495 = .ok (.iload 5, 2) := by decide +kernel
theorem dL_act_497 : decode cL_act 497 = .ok (.istore 8, 2) := by decide +kernel
theorem dL_act_499 : decode cL_act 499 = .ok (.iload 7, 2) := by decide +kernel
theorem dL_act_501 : decode cL_act 501 = .ok (.bipush 6, 2) := by decide +kernel
theorem dL_act_503 : decode cL_act 503 = .ok (.if_icmp .ne 8, 3) := by decide +kernel
theorem dL_act_506 : decode cL_act 506 = .ok (.iload 6, 2) := by decide +kernel
theorem dL_act_508 : decode cL_act 508 = .ok (.goto 49, 3) := by decide +kernel
theorem dL_act_511 : decode cL_act 511 = .ok (.iload 7, 2) := by decide +kernel
theorem dL_act_513 : decode cL_act 513 = .ok (.bipush 7, 2) := by decide +kernel
theorem dL_act_515 : decode cL_act 515 = .ok (.if_icmp .ne 24, 3) := by decide +kernel
theorem dL_act_518 : decode cL_act 518 = .ok (.iload_n 1, 1) := by decide +kernel
theorem dL_act_519 : decode cL_act 519 = .ok (.bipush 12, 2) := by decide +kernel
theorem dL_act_521 : decode cL_act 521 = .ok (.ishr, 1) := by decide +kernel
theorem dL_act_522 : decode cL_act 522 = .ok (.iload_n 2, 1) := by decide +kernel
theorem dL_act_523 : decode cL_act 523 = .ok (.ifCond .eq 8, 3) := by decide +kernel
theorem dL_act_526 : decode cL_act 526 = .ok (.bipush 110, 2) := by decide +kernel
theorem dL_act_528 : decode cL_act 528 = .ok (.goto 5, 3) := by decide +kernel
theorem dL_act_531 : decode cL_act 531 = .ok (.bipush 8, 2) := by decide +kernel
theorem dL_act_533 : decode cL_act 533 = .ok (.invokestatic 93, 3) := by decide +kernel
theorem dL_act_536 : decode cL_act 536 = .ok (.goto 21, 3) := by decide +kernel
theorem dL_act_539 : decode cL_act 539 = .ok (.iload_n 1, 1) := by decide +kernel
theorem dL_act_540 : decode cL_act 540 = .ok (.bipush 12, 2) := by decide +kernel
theorem dL_act_542 : decode cL_act 542 = .ok (.ishr, 1) := by decide +kernel
theorem dL_act_543 : decode cL_act 543 = .ok (.iload_n 2, 1) := by decide +kernel
theorem dL_act_544 : decode cL_act 544 = .ok (.ifCond .eq 8, 3) := by decide +kernel
theorem dL_act_547 : decode cL_act 547 = .ok (.bipush 12, 2) := by decide +kernel
theorem dL_act_549 : decode cL_act 549 = .ok (.goto 5, 3) := by decide +kernel
theorem dL_act_552 : decode cL_act 552 = .ok (.bipush 6, 2) := by decide +kernel
theorem dL_act_554 : decode cL_act 554 = .ok (.invokestatic 93, 3) := by decide +kernel
theorem dL_act_557 : decode cL_act 557 = .ok (.istore 9, 2) := by decide +kernel
theorem dL_act_559 : decode cL_act 559 = .ok (.aload_n 0, 1) := by decide +kernel
theorem dL_act_560 : decode cL_act 560 = .ok (.iload 7, 2) := by decide +kernel
theorem dL_act_562 : decode cL_act 562 = .ok (.iload 4, 2) := by decide +kernel
theorem dL_act_564 : decode cL_act 564 = .ok (.iload 8, 2) := by decide +kernel
theorem dL_act_566 : decode cL_act 566 = .ok (.iload 9, 2) := by decide +kernel
theorem dL_act_568 : decode cL_act 568 = .ok (.iconst 0, 1) := by decide +kernel
theorem dL_act_569 : decode cL_act 569 = .ok (.invokestatic 100, 3) := by decide +kernel
theorem dL_act_572 : decode cL_act 572 = .ok (.ireturn, 1) := by decide +kernel
theorem dL_act_573 : decode cL_act 573 = .ok (.iload_n 3, 1) := by decide +kernel
theorem dL_act_574 : decode cL_act 574 = .ok (.bipush 39, 2) := by decide +kernel
theorem dL_act_576 : decode cL_act 576 = .ok (.if_icmp .ge 80, 3) := by decide +kernel
theorem dL_act_579 : decode cL_act 579 = .ok (.iload_n 2, 1) := by decide +kernel
theorem dL_act_580 : decode cL_act 580 = .ok (.ifCond .ne 30, 3) := by decide +kernel
theorem dL_act_583 : decode cL_act 583 = .ok (.iload 6, 2) := by decide +kernel
theorem dL_act_585 : decode cL_act 585 = .ok (.aload_n 0, 1) := by decide +kernel
theorem dL_act_586 : decode cL_act 586 = .ok (.invokevirtual 96, 3) := by decide +kernel
theorem dL_act_589 : decode cL_act 589 = .ok (.if_icmp .ge 21, 3) := by decide +kernel
theorem dL_act_592 : decode cL_act 592 = .ok (.iload_n 1, 1) := by decide +kernel
theorem dL_act_593 : decode cL_act 593 = .ok (.bipush 15, 2) := by decide +kernel
theorem dL_act_595 : decode cL_act 595 = .ok (.ishr, 1) := by decide +kernel
theorem dL_act_596 : decode cL_act 596 = .ok (.iconst 3, 1) := by decide +kernel
theorem dL_act_597 : decode cL_act 597 = .ok (.iand, 1) := by decide +kernel
theorem dL_act_598 : decode cL_act 598 = .ok (.ifCond .le 12, 3) := by decide +kernel
theorem dL_act_601 : decode cL_act 601 = .ok (.aload_n 0, 1) := by decide +kernel
theorem dL_act_602 : decode cL_act 602 = .ok (.iload 6, 2) := by decide +kernel
theorem dL_act_604 : decode cL_act 604 = .ok (.invokevirtual 108, 3) := by decide +kernel
theorem dL_act_607 : decode cL_act 607 = .ok (.goto 5, 3) := by decide +kernel
theorem dL_act_610 : decode cL_act 610 = .ok (.iload 5, 2) := by decide +kernel
theorem dL_act_612 : decode cL_act 612 = .ok (.istore 7, 2) := by decide +kernel
theorem dL_act_614 : decode cL_act 614 = .ok (.aload_n 0, 1) := by decide +kernel
theorem dL_act_615 : decode cL_act 615 = .ok (.bipush 8, 2) := by decide +kernel
theorem dL_act_617 : decode cL_act 617 = .ok (.iload 4, 2) := by decide +kernel
theorem dL_act_619 : decode cL_act 619 = .ok (.iload 7, 2) := by decide +kernel
theorem dL_act_621 : decode cL_act 621 = .ok (.iload 6, 2) := by decide +kernel
theorem dL_act_623 : decode cL_act 623 = .ok (.iload_n 2, 1) := by decide +kernel
theorem dL_act_624 : decode cL_act 624 = .ok (.ifCond .eq 16, 3) := by decide +kernel
theorem dL_act_627 : decode cL_act 627 = .ok (.iload_n 1, 1) := by decide +kernel
theorem dL_act_628 : decode cL_act 628 = .ok (.bipush 11, 2) := by decide +kernel
theorem dL_act_630 : decode cL_act 630 = .ok (.ishr, 1) := by decide +kernel
theorem dL_act_631 : decode cL_act 631 = .ok (.sipush 11000, 3) := by decide +kernel
theorem dL_act_634 : decode cL_act 634 = .ok (.invokestatic 93, 3) := by decide +kernel
theorem dL_act_637 : decode cL_act 637 = .ok (.goto 15, 3) := by decide +kernel
theorem dL_act_640 : decode cL_act 640 = .ok (.iconst 1, 1) := by decide +kernel
theorem dL_act_641 : decode cL_act 641 = .ok (.iload_n 1, 1) := by decide +kernel
theorem dL_act_642 : decode cL_act 642 = .ok (.bipush 11, 2) := by decide +kernel
theorem dL_act_644 : decode cL_act 644 = .ok (.ishr, 1) := by decide +kernel
theorem dL_act_645 : decode cL_act 645 = .ok (.sipush 3000, 3) := by decide +kernel
theorem dL_act_648 : decode cL_act 648 = .ok (.invokestatic 93, 3) := by decide +kernel
theorem dL_act_651 : decode cL_act 651 = .ok (.iadd, 1) := by decide +kernel
theorem dL_act_652 : decode cL_act 652 = .ok (.invokestatic 100, 3) := by decide +kernel
theorem dL_act_655 : decode cL_act 655 = .ok (.ireturn, 1) := by decide +kernel
theorem dL_act_656 : decode cL_act 656 = .ok (.iload_n 3, 1) := by decide +kernel
theorem dL_act_657 : decode cL_act 657 = .ok (.bipush 39, 2) := by decide +kernel
theorem dL_act_659 : decode cL_act 659 = .ok (.if_icmp .ne 52, 3) := by decide +kernel
theorem dL_act_662 : decode cL_act 662 = .ok (.aload_n 0, 1) := by decide +kernel
theorem dL_act_663 : decode cL_act 663 = .ok (.bipush 9, 2) := by decide +kernel
theorem dL_act_665 : decode cL_act 665 = .ok (.iload 4, 2) := by decide +kernel
theorem dL_act_667 : decode cL_act 667 = .ok (.iload_n 1, 1) := by decide +kernel
theorem dL_act_668 : decode cL_act 668 = .ok (.bipush 9, 2) := by decide +kernel
theorem dL_act_670 : decode cL_act 670 = .ok (.ishr, 1) := by decide +kernel
theorem dL_act_671 : decode cL_act 671 = .ok (.iconst 4, 1) := by decide +kernel
theorem dL_act_672 : decode cL_act 672 = .ok (.invokestatic 93, 3) := by decide +kernel
theorem dL_act_675 : decode cL_act 675 = .ok (.iload_n 2, 1) := by decide +kernel
theorem dL_act_676 : decode cL_act 676 = .ok (.ifCond .eq 16, 3) := by decide +kernel
theorem dL_act_679 : decode cL_act 679 = .ok (.iload_n 1, 1) := by decide +kernel
theorem dL_act_680 : decode cL_act 680 = .ok (.bipush 11, 2) := by decide +kernel
theorem dL_act_682 : decode cL_act 682 = .ok (.ishr, 1) := by decide +kernel
theorem dL_act_683 : decode cL_act 683 = .ok (.sipush 11000, 3) := by decide +kernel
theorem dL_act_686 : decode cL_act 686 = .ok (.invokestatic 93, 3) := by decide +kernel
theorem dL_act_689 : decode cL_act 689 = .ok (.goto 15, 3) := by decide +kernel
theorem dL_act_692 : decode cL_act 692 = .ok (.iconst 1, 1) := by decide +kernel
theorem dL_act_693 : decode cL_act 693 = .ok (.iload_n 1, 1) := by decide +kernel
theorem dL_act_694 : decode cL_act 694 = .ok (.bipush 11, 2) := by decide +kernel
theorem dL_act_696 : decode cL_act 696 = .ok (.ishr, 1) := by decide +kernel
theorem dL_act_697 : decode cL_act 697 = .ok (.sipush 10000, 3) := by decide +kernel
theorem dL_act_700 : decode cL_act 700 = .ok (.invokestatic 93, 3) := by decide +kernel
theorem dL_act_703 : decode cL_act 703 = .ok (.iadd, 1) := by decide +kernel
theorem dL_act_704 : decode cL_act 704 = .ok (.iconst 0, 1) := by decide +kernel
theorem dL_act_705 : decode cL_act 705 = .ok (.invokestatic 100, 3) := by decide +kernel
theorem dL_act_708 : decode cL_act 708 = .ok (.goto 140, 3) := by decide +kernel
theorem dL_act_711 : decode cL_act 711 = .ok (.iload_n 3, 1) := by decide +kernel
theorem dL_act_712 : decode cL_act 712 = .ok (.bipush 43, 2) := by decide +kernel
theorem dL_act_714 : decode cL_act 714 = .ok (.if_icmp .ge 58, 3) := by decide +kernel
theorem dL_act_717 : decode cL_act 717 = .ok (.aload_n 0, 1) := by decide +kernel
theorem dL_act_718 : decode cL_act 718 = .ok (.bipush 10, 2) := by decide +kernel
theorem dL_act_720 : decode cL_act 720 = .ok (.iload 4, 2) := by decide +kernel
theorem dL_act_722 : decode cL_act 722 = .ok (.iload_n 1, 1) := by decide +kernel
theorem dL_act_723 : decode cL_act 723 = .ok (.bipush 9, 2) := by decide +kernel
theorem dL_act_725 : decode cL_act 725 = .ok (.ishr, 1) := by decide +kernel
theorem dL_act_726 : decode cL_act 726 = .ok (.iconst 4, 1) := by decide +kernel
theorem dL_act_727 : decode cL_act 727 = .ok (.invokestatic 93, 3) := by decide +kernel
theorem dL_act_730 : decode cL_act 730 = .ok (.iload_n 1, 1) := by decide +kernel
theorem dL_act_731 : decode cL_act 731 = .ok (.bipush 11, 2) := by decide +kernel
theorem dL_act_733 : decode cL_act 733 = .ok (.ishr, 1) := by decide +kernel
theorem dL_act_734 : decode cL_act 734 = .ok (.iconst 5, 1) := by decide +kernel
theorem dL_act_735 : decode cL_act 735 = .ok (.invokestatic 93, 3) := by decide +kernel
theorem dL_act_738 : decode cL_act 738 = .ok (.iload_n 2, 1) := by decide +kernel
theorem dL_act_739 : decode cL_act 739 = .ok (.ifCond .eq 18, 3) := by decide +kernel
theorem dL_act_742 : decode cL_act 742 = .ok (.iload_n 1, 1) := by decide +kernel
theorem dL_act_743 : decode cL_act 743 = .ok (.bipush 13, 2) := by decide +kernel
theorem dL_act_745 : decode cL_act 745 = .ok (.ishr, 1) := by decide +kernel
theorem dL_act_746 : decode cL_act 746 = .ok (.bipush 80, 2) := by decide +kernel
theorem dL_act_748 : decode cL_act 748 = .ok (.invokestatic 93, 3) := by decide +kernel
theorem dL_act_751 : decode cL_act 751 = .ok (.bipush 8, 2) := by decide +kernel
theorem dL_act_753 : decode cL_act 753 = .ok (.isub, 1) := by decide +kernel
theorem dL_act_754 : decode cL_act 754 = .ok (.goto 12, 3) := by decide +kernel
theorem dL_act_757 : decode cL_act 757 = .ok (.iload_n 1, 1) := by decide +kernel
theorem dL_act_758 : decode cL_act 758 = .ok (.bipush 13, 2) := by decide +kernel
theorem dL_act_760 : decode cL_act 760 = .ok (.ishr, 1) := by decide +kernel
theorem dL_act_761 : decode cL_act 761 = .ok (.bipush 64, 2) := by decide +kernel
theorem dL_act_763 : decode cL_act 763 = .ok (.invokestatic 93, 3) := by decide +kernel
theorem dL_act_766 : decode cL_act 766 = .ok (.invokestatic 100, 3) := by decide +kernel
theorem dL_act_769 : decode cL_act 769 = .ok (.goto 79, 3) := by decide +kernel
theorem dL_act_772 : decode cL_act 772 = .ok (.aload_n 0, 1) := by decide +kernel
theorem dL_act_773 : decode cL_act 773 = .ok (.bipush 11, 2) := by decide +kernel
theorem dL_act_775 : decode cL_act 775 = .ok (.iload_n 1, 1) := by decide +kernel
theorem dL_act_776 : decode cL_act 776 = .ok (.bipush 6, 2) := by decide +kernel
theorem dL_act_778 : decode cL_act 778 = .ok (.ishr, 1) := by decide +kernel
theorem dL_act_779 : decode cL_act 779 = .ok (.iload_n 2, 1) := by decide +kernel
theorem dL_act_780 : decode cL_act 780 = .ok (.ifCond .eq 8, 3) := by decide +kernel
theorem dL_act_783 : decode cL_act 783 = .ok (.bipush 14, 2) := by decide +kernel
theorem dL_act_785 : decode cL_act 785 = .ok (.goto 4, 3) := by decide +kernel
theorem dL_act_788 : decode cL_act 788 = .ok (.iconst 4, 1) := by decide +kernel
theorem dL_act_789 : decode cL_act 789 = .ok (.invokestatic 93, 3) := by decide +kernel
theorem dL_act_792 : decode cL_act 792 = .ok (.iload_n 1, 1) := by decide +kernel
theorem dL_act_793 : decode cL_act 793 = .ok (.bipush 9, 2) := by decide +kernel
theorem dL_act_795 : decode cL_act 795 = .ok (.ishr, 1) := by decide +kernel
theorem dL_act_796 : decode cL_act 796 = .ok (.iconst 3, 1) := by decide +kernel
theorem dL_act_797 : decode cL_act 797 = .ok (.invokestatic 93, 3) := by decide +kernel
theorem dL_act_800 : decode cL_act 800 = .ok (.iload_n 1, 1) := by decide +kernel
theorem dL_act_801 : decode cL_act 801 = .ok (.bipush 11, 2) := by decide +kernel
theorem dL_act_803 : decode cL_act 803 = .ok (.ishr, 1) := by decide +kernel
theorem dL_act_804 : decode cL_act 804 = .ok (.iload_n 2, 1) := by decide +kernel
theorem dL_act_805 : decode cL_act 805 = .ok (.ifCond .eq 8, 3) := by decide +kernel
theorem dL_act_808 : decode cL_act 808 = .ok (.bipush 8, 2) := by decide +kernel
theorem dL_act_810 : decode cL_act 810 = .ok (.goto 5, 3) := by decide +kernel
theorem dL_act_813 : decode cL_act 813 = .ok (.bipush 6, 2) := by decide +kernel
theorem dL_act_815 : decode cL_act 815 = .ok (.invokestatic 93, 3) := by decide +kernel
theorem dL_act_818 : decode cL_act 818 = .ok (.iload_n 2, 1) := by decide +kernel
theorem dL_act_819 : decode cL_act 819 = .ok (.ifCond .eq 16, 3) := by decide +kernel
theorem dL_act_822 : decode cL_act 822 = .ok (.iload_n 1, 1) := by decide +kernel
theorem dL_act_823 : decode cL_act 823 = .ok (.bipush 13, 2) := by decide +kernel
theorem dL_act_825 : decode cL_act 825 = .ok (.ishr, 1) := by decide +kernel
theorem dL_act_826 : decode cL_act 826 = .ok (.sipush 11000, 3) := by decide +kernel
theorem dL_act_829 : decode cL_act 829 = .ok (.invokestatic 93, 3) := by decide +kernel
theorem dL_act_832 : decode cL_act 832 = .ok (.goto 13, 3) := by decide +kernel
theorem dL_act_835 : decode cL_act 835 = .ok (.iload_n 1, 1) := by decide +kernel
theorem dL_act_836 : decode cL_act 836 = .ok (.bipush 13, 2) := by decide +kernel
theorem dL_act_838 : decode cL_act 838 = .ok (.ishr, 1) := by decide +kernel
theorem dL_act_839 : decode cL_act 839 = .ok (.sipush 10001, 3) := by decide +kernel
theorem dL_act_842 : decode cL_act 842 = .ok (.invokestatic 93, 3) := by decide +kernel
theorem dL_act_845 : decode cL_act 845 = .ok (.invokestatic 100, 3) := by decide +kernel
theorem dL_act_848 : decode cL_act 848 = .ok (.ireturn, 1) := by decide +kernel
theorem dL_areAlike_0 : decode cL_areAlike 0 = .ok (.aload_n 0, 1) := by decide +kernel
theorem dL_areAlike_1 : decode cL_areAlike 1 = .ok (.invokevirtual 111, 3) := by decide +kernel
theorem dL_areAlike_4 : decode cL_areAlike 4 = .ok (.aload_n 1, 1) := by decide +kernel
theorem dL_areAlike_5 : decode cL_areAlike 5 = .ok (.invokevirtual 111, 3) := by decide +kernel
theorem dL_areAlike_8 : decode cL_areAlike 8 = .ok (.if_icmp .ne 40, 3) := by decide +kernel
theorem dL_areAlike_11 : decode cL_areAlike 11 = .ok (.aload_n 0, 1) := by decide +kernel
theorem dL_areAlike_12 : decode cL_areAlike 12 = .ok (.invokevirtual 114, 3) := by decide +kernel
theorem dL_areAlike_15 : decode cL_areAlike 15 = .ok (.aload_n 1, 1) := by decide +kernel
theorem dL_areAlike_16 : decode cL_areAlike 16 = .ok (.invokevirtual 114, 3) := by decide +kernel
theorem dL_areAlike_19 : decode cL_areAlike 19 = .ok (.if_icmp .ne 29, 3) := by decide +kernel
theorem dL_areAlike_22 : decode cL_areAlike 22 = .ok (.aload_n 0, 1) := by decide +kernel
theorem dL_areAlike_23 : decode cL_areAlike 23 = .ok (.invokevirtual 96, 3) := by decide +kernel
theorem dL_areAlike_26 : decode cL_areAlike 26 = .ok (.aload_n 1, 1) := by decide +kernel
theorem dL_areAlike_27 : decode cL_areAlike 27 = .ok (.invokevirtual 96, 3) := by decide +kernel
theorem dL_areAlike_30 : decode cL_areAlike 30 = .ok (.if_icmp .ne 18, 3) := by decide +kernel
theorem dL_areAlike_33 : decode cL_areAlike 33 = .ok (.aload_n 0, 1) := by decide +kernel
theorem dL_areAlike_34 : decode cL_areAlike 34 = .ok (.invokevirtual 117, 3) := by decide +kernel
theorem dL_areAlike_37 : decode cL_areAlike 37 = .ok (.aload_n 1, 1) := by decide +kernel
theorem dL_areAlike_38 : decode cL_areAlike 38 = .ok (.invokevirtual 117, 3) := by decide +kernel
theorem dL_areAlike_41 : decode cL_areAlike 41 = .ok (.if_icmp .ne 7, 3) := by decide +kernel
theorem dL_areAlike_44 : decode cL_areAlike 44 = .ok (.iconst 1, 1) := by decide +kernel
theorem dL_areAlike_45 : decode cL_areAlike 45 = .ok (.goto 4, 3) := by decide +kernel
theorem dL_areAlike_48 : decode cL_areAlike 48 = .ok (.iconst 0, 1) := by decide +kernel
theorem dL_areAlike_49 : decode cL_areAlike 49 = .ok (.istore_n 2, 1) := by decide +kernel
theorem dL_areAlike_50 : decode cL_areAlike 50 = .ok (.iconst 0, 1) := by decide +kernel
theorem dL_areAlike_51 : decode cL_areAlike 51 = .ok (.istore_n 3, 1) := by decide +kernel
theorem dL_areAlike_52 : decode cL_areAlike 52 = .ok (.iload_n 3, 1) := by decide +kernel
theorem dL_areAlike_53 : decode cL_areAlike 53 = .ok (.bipush 6, 2) := by decide +kernel
theorem dL_areAlike_55 : decode cL_areAlike 55 = .ok (.if_icmp .ge 124, 3) := by decide +kernel
theorem dL_areAlike_58 : decode cL_areAlike 58 = .ok (.iload_n 2, 1) := by decide +kernel
theorem dL_areAlike_59 : decode cL_areAlike 59 = .ok (.ifCond .eq 120, 3) := by decide +kernel
theorem dL_areAlike_62 : decode cL_areAlike 62 = .ok (.aload_n 0, 1) := by decide +kernel
theorem dL_areAlike_63 : decode cL_areAlike 63 = .ok (.iload_n 3, 1) := by decide +kernel
theorem dL_areAlike_64 : decode cL_areAlike 64 = .ok (.invokevirtual 120, 3) := by decide +kernel
theorem dL_areAlike_67 : decode cL_areAlike 67 = .ok (.aload_n 1, 1) := by decide +kernel
theorem dL_areAlike_68 : decode cL_areAlike 68 = .ok (.iload_n 3, 1) := by decide +kernel
theorem dL_areAlike_69 : decode cL_areAlike 69 = .ok (.invokevirtual 120, 3) := by decide +kernel
theorem dL_areAlike_72 : decode cL_areAlike 72 = .ok (.if_icmp .ne 99, 3) := by decide +kernel
theorem dL_areAlike_75 : decode cL_areAlike 75 = .ok (.aload_n 0, 1) := by decide +kernel
theorem dL_areAlike_76 : decode cL_areAlike 76 = .ok (.iload_n 3, 1) := by decide +kernel
theorem dL_areAlike_77 : decode cL_areAlike 77 = .ok (.invokevirtual 123, 3) := by decide +kernel
theorem dL_areAlike_80 : decode cL_areAlike 80 = .ok (.aload_n 1, 1) := by decide +kernel
theorem dL_areAlike_81 : decode cL_areAlike 81 = .ok (.iload_n 3, 1) := by decide +kernel
theorem dL_areAlike_82 : decode cL_areAlike 82 = .ok (.invokevirtual 123, 3) := by decide +kernel
theorem dL_areAlike_85 : decode cL_areAlike 85 = .ok (.if_icmp .ne 86, 3) := by decide +kernel
theorem dL_areAlike_88 : decode cL_areAlike 88 = .ok (.aload_n 0, 1) := by decide +kernel
theorem dL_areAlike_89 : decode cL_areAlike 89 = .ok (.iload_n 3, 1) := by decide +kernel
theorem dL_areAlike_90 : decode cL_areAlike 90 = .ok (.invokevirtual 77, 3) := by decide +kernel
theorem dL_areAlike_93 : decode cL_areAlike 93 = .ok (.aload_n 1, 1) := by decide +kernel
theorem dL_areAlike_94 : decode cL_areAlike 94 = .ok (.iload_n 3, 1) := by decide +kernel
theorem dL_areAlike_95 : decode cL_areAlike 95 = .ok (.invokevirtual 77, 3) := by decide +kernel
theorem dL_areAlike_98 : decode cL_areAlike 98 = .ok (.if_icmp .ne 73, 3) := by decide +kernel
theorem dL_areAlike_101 : decode cL_areAlike 101 = .ok (.aload_n 0, 1) := by decide +kernel
theorem dL_areAlike_102 : decode cL_areAlike 102 = .ok (.iconst 1, 1) := by decide +kernel
theorem dL_areAlike_103 : decode cL_areAlike 103 = .ok (.iload_n 3, 1) := by decide +kernel
theorem dL_areAlike_104 : decode cL_areAlike 104 = .ok (.iconst 0, 1) := by decide +kernel
theorem dL_areAlike_105 : decode cL_areAlike 105 = .ok (.invokestatic 126, 3) := by decide +kernel
theorem dL_areAlike_108 : decode cL_areAlike 108 = .ok (.aload_n 1, 1) := by decide +kernel
theorem dL_areAlike_109 : decode cL_areAlike 109 = .ok (.iconst 1, 1) := by decide +kernel
theorem dL_areAlike_110 : decode cL_areAlike 110 = .ok (.iload_n 3, 1) := by decide +kernel
theorem dL_areAlike_111 : decode cL_areAlike 111 = .ok (.iconst 0, 1) := by decide +kernel
theorem dL_areAlike_112 : decode cL_areAlike 112 = .ok (.invokestatic 126, 3) := by decide +kernel
theorem dL_areAlike_115 : decode cL_areAlike 115 = .ok (.if_icmp .ne 56, 3) := by decide +kernel
theorem dL_areAlike_118 : decode cL_areAlike 118 = .ok (.aload_n 0, 1) := by decide +kernel
theorem dL_areAlike_119 : decode cL_areAlike 119 = .ok (.iconst 3, 1) := by decide +kernel
theorem dL_areAlike_120 : decode cL_areAlike 120 = .ok (.iload_n 3, 1) := by decide +kernel
theorem dL_areAlike_121 : decode cL_areAlike 121 = .ok (.iconst 0, 1) := by decide +kernel
theorem dL_areAlike_122 : decode cL_areAlike 122 = .ok (.invokestatic 126, 3) := by decide +kernel
theorem dL_areAlike_125 : decode cL_areAlike 125 = .ok (.aload_n 1, 1) := by decide +kernel
theorem dL_areAlike_126 : decode cL_areAlike 126 = .ok (.iconst 3, 1) := by decide +kernel
theorem dL_areAlike_127 : decode cL_areAlike 127 = .ok (.iload_n 3, 1) := by decide +kernel
theorem dL_areAlike_128 : decode cL_areAlike 128 = .ok (.iconst 0, 1) := by decide +kernel
theorem dL_areAlike_129 : decode cL_areAlike 129 = .ok (.invokestatic 126, 3) := by decide +kernel
theorem dL_areAlike_132 : decode cL_areAlike 132 = .ok (.if_icmp .ne 39, 3) := by decide +kernel
theorem dL_areAlike_135 : decode cL_areAlike 135 = .ok (.aload_n 0, 1) := by decide +kernel
theorem dL_areAlike_136 : decode cL_areAlike 136 = .ok (.iconst 4, 1) := by decide +kernel
theorem dL_areAlike_137 : decode cL_areAlike 137 = .ok (.iload_n 3, 1) := by decide +kernel
theorem dL_areAlike_138 : decode cL_areAlike 138 = .ok (.iconst 0, 1) := by decide +kernel
theorem dL_areAlike_139 : decode cL_areAlike 139 = .ok (.invokestatic 126, 3) := by decide +kernel
theorem dL_areAlike_142 : decode cL_areAlike 142 = .ok (.aload_n 1, 1) := by decide +kernel
theorem dL_areAlike_143 : decode cL_areAlike 143 = .ok (.iconst 4, 1) := by decide +kernel
theorem dL_areAlike_144 : decode cL_areAlike 144 = .ok (.iload_n 3, 1) := by decide +kernel
theorem dL_areAlike_145 : decode cL_areAlike 145 = .ok (.iconst 0, 1) := by decide +kernel
theorem dL_areAlike_146 : decode cL_areAlike 146 = .ok (.invokestatic 126, 3) := by decide +kernel
theorem dL_areAlike_149 : decode cL_areAlike 149 = .ok (.if_icmp .ne 22, 3) := by decide +kernel
theorem dL_areAlike_152 : decode cL_areAlike 152 = .ok (.aload_n 0, 1) := by decide +kernel
theorem dL_areAlike_153 : decode cL_areAlike 153 = .ok (.iload_n 3, 1) := by decide +kernel
theorem dL_areAlike_154 : decode cL_areAlike 154 = .ok (.iconst 0, 1) := by decide +kernel
theorem dL_areAlike_155 : decode cL_areAlike 155 = .ok (.invokevirtual 130, 3) := by decide +kernel
theorem dL_areAlike_158 : decode cL_areAlike 158 = .ok (.aload_n 1, 1) := by decide +kernel
theorem dL_areAlike_159 : decode cL_areAlike 159 = .ok (.iload_n 3, 1) := by decide +kernel
theorem dL_areAlike_160 : decode cL_areAlike 160 = .ok (.iconst 0, 1) := by decide +kernel
theorem dL_areAlike_161 : decode cL_areAlike 161 = .ok (.invokevirtual 130, 3) := by decide +kernel
theorem dL_areAlike_164 : decode cL_areAlike 164 = .ok (.if_icmp .ne 7, 3) := by decide +kernel
theorem dL_areAlike_167 : decode cL_areAlike 167 = .ok (.iconst 1, 1) := by decide +kernel
theorem dL_areAlike_168 : decode cL_areAlike 168 = .ok (.goto 4, 3) := by decide +kernel
theorem dL_areAlike_171 : decode cL_areAlike 171 = .ok (.iconst 0, 1) := by decide +kernel
theorem dL_areAlike_172 : decode cL_areAlike 172 = .ok (.istore_n 2, 1) := by decide +kernel
theorem dL_areAlike_173 : decode cL_areAlike 173 = .ok (.iinc 3 1, 3) := by decide +kernel
theorem dL_areAlike_176 : decode cL_areAlike 176 = .ok (.goto (-124), 3) := by decide +kernel
theorem dL_areAlike_179 : decode cL_areAlike 179 = .ok (.iload_n 2, 1) := by decide +kernel
theorem dL_areAlike_180 : decode cL_areAlike 180 = .ok (.ireturn, 1) := by decide +kernel
theorem dL_isNewsSo_0 : decode cL_isNewsSo 0 = .ok (.aload_n 0, 1) := by decide +kernel
theorem dL_isNewsSo_1 : decode cL_isNewsSo 1 = .ok (.invokevirtual 114, 3) := by decide +kernel
theorem dL_isNewsSo_4 : decode cL_isNewsSo 4 = .ok (.istore_n 2, 1) := by decide +kernel
theorem dL_isNewsSo_5 : decode cL_isNewsSo 5 = .ok (.iconst 0, 1) := by decide +kernel
theorem dL_isNewsSo_6 : decode cL_isNewsSo 6 = .ok (.istore_n 3, 1) := by decide +kernel
theorem dL_isNewsSo_7 : decode cL_isNewsSo 7 = .ok (.iload_n 1, 1) := by decide +kernel
theorem dL_isNewsSo_8 : decode cL_isNewsSo 8 = .ok (.bipush 6, 2) := by decide +kernel
theorem dL_isNewsSo_10 : decode cL_isNewsSo 10 = .ok (.invokestatic 93, 3) := by decide +kernel
theorem dL_isNewsSo_13 : decode cL_isNewsSo 13 = .ok (.istore 4, 2) := by decide +kernel
theorem dL_isNewsSo_15 : decode cL_isNewsSo 15 = .ok (.iload_n 2, 1) := by decide +kernel
theorem dL_isNewsSo_16 : decode cL_isNewsSo 16 = .ok (.ifCond .lt 31, 3) := by decide +kernel
theorem dL_isNewsSo_19 : decode cL_isNewsSo 19 = .ok (.iload_n 2, 1) := by decide +kernel
theorem dL_isNewsSo_20 : decode cL_isNewsSo 20 = .ok (.sipush 160, 3) := by decide +kernel
theorem dL_isNewsSo_23 : decode cL_isNewsSo 23 = .ok (.if_icmp .gt 24, 3) := by decide +kernel
theorem dL_isNewsSo_26 : decode cL_isNewsSo 26 = .ok (.aload_n 0, 1) := by decide +kernel
theorem dL_isNewsSo_27 : decode cL_isNewsSo 27 = .ok (.invokevirtual 111, 3) := by decide +kernel
theorem dL_isNewsSo_30 : decode cL_isNewsSo 30 = .ok (.ifCond .lt 17, 3) := by decide +kernel
theorem dL_isNewsSo_33 : decode cL_isNewsSo 33 = .ok (.aload_n 0, 1) := by decide +kernel
theorem dL_isNewsSo_34 : decode cL_isNewsSo 34 = .ok (.invokevirtual 111, 3) := by decide +kernel
theorem dL_isNewsSo_37 : decode cL_isNewsSo 37 = .ok (.sipush 400, 3) := by decide +kernel
theorem dL_isNewsSo_40 : decode cL_isNewsSo 40 = .ok (.if_icmp .gt 7, 3) := by decide +kernel
theorem dL_isNewsSo_43 : decode cL_isNewsSo 43 = .ok (.iconst 1, 1) := by decide +kernel
theorem dL_isNewsSo_44 : decode cL_isNewsSo 44 = .ok (.goto 4, 3) := by decide +kernel
theorem dL_isNewsSo_47 : decode cL_isNewsSo 47 = .ok (.iconst 0, 1) := by decide +kernel
theorem dL_isNewsSo_48 : decode cL_isNewsSo 48 = .ok (.istore 5, 2) := by decide +kernel
theorem dL_isNewsSo_50 : decode cL_isNewsSo 50 = .ok (.iconst 0, 1) := by decide +kernel
theorem dL_isNewsSo_51 : decode cL_isNewsSo 51 = .ok (.istore 6, 2) := by decide +kernel
theorem dL_isNewsSo_53 : decode cL_isNewsSo 53 = .ok (.iload 6, 2) := by decide +kernel
theorem dL_isNewsSo_55 : decode cL_isNewsSo 55 = .ok (.iload_n 2, 1) := by decide +kernel
theorem dL_isNewsSo_56 : decode cL_isNewsSo 56 = .ok (.if_icmp .ge 86, 3) := by decide +kernel
theorem dL_isNewsSo_59 : decode cL_isNewsSo 59 = .ok (.iload 5, 2) := by decide +kernel
theorem dL_isNewsSo_61 : decode cL_isNewsSo 61 = .ok (.ifCond .eq 81, 3) := by decide +kernel
theorem dL_isNewsSo_64 : decode cL_isNewsSo 64 = .ok (.aload_n 0, 1) := by decide +kernel
theorem dL_isNewsSo_65 : decode cL_isNewsSo 65 = .ok (.iload 4, 2) := by decide +kernel
theorem dL_isNewsSo_67 : decode cL_isNewsSo 67 = .ok (.iload 6, 2) := by decide +kernel
theorem dL_isNewsSo_69 : decode cL_isNewsSo 69 = .ok (.invokevirtual 134, 3) := by decide +kernel
theorem dL_isNewsSo_72 : decode cL_isNewsSo 72 = .ok (.istore 7, 2) := by decide +kernel
theorem dL_isNewsSo_74 : decode cL_isNewsSo 74 = .ok (.iload 7, 2) := by decide +kernel
theorem dL_isNewsSo_76 : decode cL_isNewsSo 76 = .ok (.iconst (-1), 1) := by decide +kernel
theorem dL_isNewsSo_77 : decode cL_isNewsSo 77 = .ok (.if_icmp .lt 32, 3) := by decide +kernel
theorem dL_isNewsSo_80 : decode cL_isNewsSo 80 = .ok (.iload 7, 2) := by decide +kernel
theorem dL_isNewsSo_82 : decode cL_isNewsSo 82 = .ok (.aload_n 0, 1) := by decide +kernel
theorem dL_isNewsSo_83 : decode cL_isNewsSo 83 = .ok (.invokevirtual 111, 3) := by decide +kernel
theorem dL_isNewsSo_86 : decode cL_isNewsSo 86 = .ok (.if_icmp .gt 23, 3) := by decide +kernel
theorem dL_isNewsSo_89 : decode cL_isNewsSo 89 = .ok (.iload 7, 2) := by decide +kernel
theorem dL_isNewsSo_91 : decode cL_isNewsSo 91 = .ok (.ifCond .ge 14, 3) := by decide +kernel
theorem dL_isNewsSo_94 : decode cL_isNewsSo 94 = .ok (.aload_n 0, 1) := by decide +kernel
theorem dL_isNewsSo_95 : decode cL_isNewsSo 95 = .ok (.iload 4, 2) := by decide +kernel
theorem dL_isNewsSo_97 : decode cL_isNewsSo 97 = .ok (.iload 6, 2) := by decide +kernel
theorem dL_isNewsSo_99 : decode cL_isNewsSo 99 = .ok (.invokevirtual 137, 3) := by decide +kernel
theorem dL_isNewsSo_102 : decode cL_isNewsSo 102 = .ok (.ifCond .ne 7, 3) := by decide +kernel
theorem dL_isNewsSo_105 : decode cL_isNewsSo 105 = .ok (.iconst 1, 1) := by decide +kernel
theorem dL_isNewsSo_106 : decode cL_isNewsSo 106 = .ok (.goto 4, 3) := by decide +kernel
theorem dL_isNewsSo_109 : decode cL_isNewsSo 109 = .ok (.iconst 0, 1) := by decide +kernel
theorem dL_isNewsSo_110 : decode cL_isNewsSo 110 = .ok (.istore 5, 2) := by decide +kernel
theorem dL_isNewsSo_112 : decode cL_isNewsSo 112 = .ok (.iload_n 3, 1) := by decide +kernel
theorem dL_isNewsSo_113 : decode cL_isNewsSo 113 = .ok (.iload 7, 2) := by decide +kernel
theorem dL_isNewsSo_115 : decode cL_isNewsSo 115 = .ok (.ifCond .lt 18, 3) := by decide +kernel
theorem dL_isNewsSo_118 : decode cL_isNewsSo 118 = .ok (.aload_n 0, 1) := by decide +kernel
theorem dL_isNewsSo_119 : decode cL_isNewsSo 119 = .ok (.iload 4, 2) := by decide +kernel
theorem dL_isNewsSo_121 : decode cL_isNewsSo 121 = .ok (.iload 6, 2) := by decide +kernel
theorem dL_isNewsSo_123 : decode cL_isNewsSo 123 = .ok (.invokevirtual 137, 3) := by decide +kernel
theorem dL_isNewsSo_126 : decode cL_isNewsSo 126 = .ok (.ifCond .ne 7, 3) := by decide +kernel
theorem dL_isNewsSo_129 : decode cL_isNewsSo 129 = .ok (.iconst 1, 1) := by decide +kernel
theorem dL_isNewsSo_130 : decode cL_isNewsSo 130 = .ok (.goto 4, 3) := by decide +kernel
theorem dL_isNewsSo_133 : decode cL_isNewsSo 133 = .ok (.iconst 0, 1) := by decide +kernel
theorem dL_isNewsSo_134 : decode cL_isNewsSo 134 = .ok (.iadd, 1) := by decide +kernel
theorem dL_isNewsSo_135 : decode cL_isNewsSo 135 = .ok (.istore_n 3, 1) := by decide +kernel
theorem dL_isNewsSo_136 : decode cL_isNewsSo 136 = .ok (.iinc 6 1, 3) := by decide +kernel
theorem dL_isNewsSo_139 : decode cL_isNewsSo 139 = .ok (.goto (-86), 3) := by decide +kernel
theorem dL_isNewsSo_142 : decode cL_isNewsSo 142 = .ok (.iload 5, 2) := by decide +kernel
theorem dL_isNewsSo_144 : decode cL_isNewsSo 144 = .ok (.ifCond .eq 61, 3) := by decide +kernel
theorem dL_isNewsSo_147 : decode cL_isNewsSo 147 = .ok (.aload_n 0, 1) := by decide +kernel
theorem dL_isNewsSo_148 : decode cL_isNewsSo 148 = .ok (.iload 4, 2) := by decide +kernel
theorem dL_isNewsSo_150 : decode cL_isNewsSo 150 = .ok (.invokevirtual 123, 3) := by decide +kernel
theorem dL_isNewsSo_153 : decode cL_isNewsSo 153 = .ok (.iload_n 3, 1) := by decide +kernel
theorem dL_isNewsSo_154 : decode cL_isNewsSo 154 = .ok (.if_icmp .ne 51, 3) := by decide +kernel
theorem dL_isNewsSo_157 : decode cL_isNewsSo 157 = .ok (.aload_n 0, 1) := by decide +kernel
theorem dL_isNewsSo_158 : decode cL_isNewsSo 158 = .ok (.iload 4, 2) := by decide +kernel
theorem dL_isNewsSo_160 : decode cL_isNewsSo 160 = .ok (.iload 4, 2) := by decide +kernel
theorem dL_isNewsSo_162 : decode cL_isNewsSo 162 = .ok (.invokevirtual 130, 3) := by decide +kernel
theorem dL_isNewsSo_165 : decode cL_isNewsSo 165 = .ok (.ifCond .ne 40, 3) := by decide +kernel
theorem dL_isNewsSo_168 : decode cL_isNewsSo 168 = .ok (.iload_n 2, 1) := by decide +kernel
theorem dL_isNewsSo_169 : decode cL_isNewsSo 169 = .ok (.ifCond .eq 32, 3) := by decide +kernel
theorem dL_isNewsSo_172 : decode cL_isNewsSo 172 = .ok (.aload_n 0, 1) := by decide +kernel
theorem dL_isNewsSo_173 : decode cL_isNewsSo 173 = .ok (.iload 4, 2) := by decide +kernel
theorem dL_isNewsSo_175 : decode cL_isNewsSo 175 = .ok (.iload_n 1, 1) := by decide +kernel
theorem dL_isNewsSo_176 : decode cL_isNewsSo 176 = .ok (.iconst 4, 1) := by decide +kernel
theorem dL_isNewsSo_177 : decode cL_isNewsSo 177 = .ok (.ishr, 1) := by decide +kernel
theorem dL_isNewsSo_178 : decode cL_isNewsSo 178 = .ok (.iload_n 2, 1) := by decide +kernel
theorem dL_isNewsSo_179 : decode cL_isNewsSo 179 = .ok (.invokestatic 93, 3) := by decide +kernel
theorem dL_isNewsSo_182 : decode cL_isNewsSo 182 = .ok (.invokevirtual 140, 3) := by decide +kernel
theorem dL_isNewsSo_185 : decode cL_isNewsSo 185 = .ok (.aload_n 0, 1) := by decide +kernel
theorem dL_isNewsSo_186 : decode cL_isNewsSo 186 = .ok (.iload 4, 2) := by decide +kernel
theorem dL_isNewsSo_188 : decode cL_isNewsSo 188 = .ok (.iload_n 1, 1) := by decide +kernel
theorem dL_isNewsSo_189 : decode cL_isNewsSo 189 = .ok (.iconst 4, 1) := by decide +kernel
theorem dL_isNewsSo_190 : decode cL_isNewsSo 190 = .ok (.ishr, 1) := by decide +kernel
theorem dL_isNewsSo_191 : decode cL_isNewsSo 191 = .ok (.iload_n 2, 1) := by decide +kernel
theorem dL_isNewsSo_192 : decode cL_isNewsSo 192 = .ok (.invokestatic 93, 3) := by decide +kernel
theorem dL_isNewsSo_195 : decode cL_isNewsSo 195 = .ok (.invokevirtual 134, 3) := by decide +kernel
theorem dL_isNewsSo_198 : decode cL_isNewsSo 198 = .ok (.if_icmp .ne 7, 3) := by decide +kernel
theorem dL_isNewsSo_201 : decode cL_isNewsSo 201 = .ok (.iconst 1, 1) := by decide +kernel
theorem dL_isNewsSo_202 : decode cL_isNewsSo 202 = .ok (.goto 4, 3) := by decide +kernel
theorem dL_isNewsSo_205 : decode cL_isNewsSo 205 = .ok (.iconst 0, 1) := by decide +kernel
theorem dL_isNewsSo_206 : decode cL_isNewsSo 206 = .ok (.ireturn, 1) := by decide +kernel
theorem dL_isActSo_0 : decode cL_isActSo 0 = .ok (.aload_n 0, 1) := by decide +kernel
theorem dL_isActSo_1 : decode cL_isActSo 1 = .ok (.invokevirtual 96, 3) := by decide +kernel
theorem dL_isActSo_4 : decode cL_isActSo 4 = .ok (.ifCond .ne 25, 3) := by decide +kernel
theorem dL_isActSo_7 : decode cL_isActSo 7 = .ok (.aload_n 0, 1) := by decide +kernel
theorem dL_isActSo_8 : decode cL_isActSo 8 = .ok (.bipush 8, 2) := by decide +kernel
theorem dL_isActSo_10 : decode cL_isActSo 10 = .ok (.iload_n 2, 1) := by decide +kernel
theorem dL_isActSo_11 : decode cL_isActSo 11 = .ok (.iconst 0, 1) := by decide +kernel
theorem dL_isActSo_12 : decode cL_isActSo 12 = .ok (.iconst 0, 1) := by decide +kernel
theorem dL_isActSo_13 : decode cL_isActSo 13 = .ok (.iload 4, 2) := by decide +kernel
theorem dL_isActSo_15 : decode cL_isActSo 15 = .ok (.invokestatic 100, 3) := by decide +kernel
theorem dL_isActSo_18 : decode cL_isActSo 18 = .ok (.ldc 58, 2) := by decide +kernel
theorem dL_isActSo_20 : decode cL_isActSo 20 = .ok (.if_icmp .ne 7, 3) := by decide +kernel
theorem dL_isActSo_23 : decode cL_isActSo 23 = .ok (.iconst 1, 1) := by decide +kernel
theorem dL_isActSo_24 : decode cL_isActSo 24 = .ok (.goto 4, 3) := by decide +kernel
theorem dL_isActSo_27 : decode cL_isActSo 27 = .ok (.iconst 0, 1) := by decide +kernel
theorem dL_isActSo_28 : decode cL_isActSo 28 = .ok (.ireturn, 1) := by decide +kernel
theorem dL_isActSo_29 : decode cL_isActSo 29 = .ok (.iload_n 3, 1) := by decide +kernel
theorem dL_isActSo_30 : decode cL_isActSo 30 = .ok (.aload_n 0, 1) := by decide +kernel
theorem dL_isActSo_31 : decode cL_isActSo 31 = .ok (.invokevirtual 96, 3) := by decide +kernel
theorem dL_isActSo_34 : decode cL_isActSo 34 = .ok (.irem, 1) := by decide +kernel
theorem dL_isActSo_35 : decode cL_isActSo 35 = .ok (.istore 5, 2) := by decide +kernel
theorem dL_isActSo_37 : decode cL_isActSo 37 = .ok (.aload_n 0, 1) := by decide +kernel
theorem dL_isActSo_38 : decode cL_isActSo 38 = .ok (.iload 5, 2) := by decide +kernel
theorem dL_isActSo_40 : decode cL_isActSo 40 = .ok (.invokevirtual 108, 3) := by decide +kernel
theorem dL_isActSo_43 : decode cL_isActSo 43 = .ok (.istore 6, 2) := by decide +kernel
theorem dL_isActSo_45 : decode cL_isActSo 45 = .ok (.aload_n 0, 1) := by decide +kernel
theorem dL_isActSo_46 : decode cL_isActSo 46 = .ok (.iload 5, 2) := by decide +kernel
theorem dL_isActSo_48 : decode cL_isActSo 48 = .ok (.invokevirtual 143, 3) := by decide +kernel
theorem dL_isActSo_51 : decode cL_isActSo 51 = .ok (.istore 7, 2) := by decide +kernel
theorem dL_isActSo_53 : decode cL_isActSo 53 = .ok (.aload_n 0, 1) := by decide +kernel
theorem dL_isActSo_54 : decode cL_isActSo 54 = .ok (.iload_n 2, 1) := by decide +kernel
theorem dL_isActSo_55 : decode cL_isActSo 55 = .ok (.iload 6, 2) := by decide +kernel
theorem dL_isActSo_57 : decode cL_isActSo 57 = .ok (.iload 5, 2) := by decide +kernel
theorem dL_isActSo_59 : decode cL_isActSo 59 = .ok (.iload 4, 2) := by decide +kernel
theorem dL_isActSo_61 : decode cL_isActSo 61 = .ok (.invokevirtual 50, 3) := by decide +kernel
theorem dL_isActSo_64 : decode cL_isActSo 64 = .ok (.istore 8, 2) := by decide +kernel
theorem dL_isActSo_66 : decode cL_isActSo 66 = .ok (.aload_n 0, 1) := by decide +kernel
theorem dL_isActSo_67 : decode cL_isActSo 67 = .ok (.iload_n 2, 1) := by decide +kernel
theorem dL_isActSo_68 : decode cL_isActSo 68 = .ok (.iload 5, 2) := by decide +kernel
theorem dL_isActSo_70 : decode cL_isActSo 70 = .ok (.invokevirtual 80, 3) := by decide +kernel
theorem dL_isActSo_73 : decode cL_isActSo 73 = .ok (.istore 9, 2) := by decide +kernel
theorem dL_isActSo_75 : decode cL_isActSo 75 = .ok (.iload 7, 2) := by decide +kernel
theorem dL_isActSo_77 : decode cL_isActSo 77 = .ok (.ifCond .ge 7, 3) := by decide +kernel
theorem dL_isActSo_80 : decode cL_isActSo 80 = .ok (.iconst 0, 1) := by decide +kernel
theorem dL_isActSo_81 : decode cL_isActSo 81 = .ok (.goto 10, 3) := by decide +kernel
theorem dL_isActSo_84 : decode cL_isActSo 84 = .ok (.aload_n 0, 1) := by decide +kernel
theorem dL_isActSo_85 : decode cL_isActSo 85 = .ok (.iload_n 2, 1) := by decide +kernel
theorem dL_isActSo_86 : decode cL_isActSo 86 = .ok (.iload 7, 2) := by decide +kernel
theorem dL_isActSo_88 : decode cL_isActSo 88 = .ok (.invokevirtual 80, 3) := by decide +kernel
theorem dL_isActSo_91 : decode cL_isActSo 91 = .ok (.istore 10, 2) := by decide +kernel
theorem dL_isActSo_93 : decode cL_isActSo 93 = .ok (.aload_n 0, 1) := by decide +kernel
theorem dL_isActSo_94 : decode cL_isActSo 94 = .ok (.iload_n 2, 1) := by decide +kernel
theorem dL_isActSo_95 : decode cL_isActSo 95 = .ok (.iload 6, 2) := by decide +kernel
theorem dL_isActSo_97 : decode cL_isActSo 97 = .ok (.iload 4, 2) := by decide +kernel
theorem dL_isActSo_99 : decode cL_isActSo 99 = .ok (.invokevirtual 53, 3) := by decide +kernel
theorem dL_isActSo_102 : decode cL_isActSo 102 = .ok (.istore 11, 2) := by decide +kernel
theorem dL_isActSo_104 : decode cL_isActSo 104 = .ok (.aload_n 0, 1) := by decide +kernel
theorem dL_isActSo_105 : decode cL_isActSo 105 = .ok (.iload_n 2, 1) := by decide +kernel
theorem dL_isActSo_106 : decode cL_isActSo 106 = .ok (.invokevirtual 120, 3) := by decide +kernel
theorem dL_isActSo_109 : decode cL_isActSo 109 = .ok (.istore 12, 2) := by decide +kernel
theorem dL_isActSo_111 : decode cL_isActSo 111 = .ok (.aload_n 0, 1) := by decide +kernel
theorem dL_isActSo_112 : decode cL_isActSo 112 = .ok (.invokevirtual 117, 3) := by decide +kernel
theorem dL_isActSo_115 : decode cL_isActSo 115 = .ok (.istore 13, 2) := by decide +kernel
theorem dL_isActSo_117 : decode cL_isActSo 117 = .ok (.aload_n 0, 1) := by decide +kernel
theorem dL_isActSo_118 : decode cL_isActSo 118 = .ok (.bipush 8, 2) := by decide +kernel
theorem dL_isActSo_120 : decode cL_isActSo 120 = .ok (.iload_n 2, 1) := by decide +kernel
theorem dL_isActSo_121 : decode cL_isActSo 121 = .ok (.iload 6, 2) := by decide +kernel
theorem dL_isActSo_123 : decode cL_isActSo 123 = .ok (.iload 5, 2) := by decide +kernel
theorem dL_isActSo_125 : decode cL_isActSo 125 = .ok (.iload 4, 2) := by decide +kernel
theorem dL_isActSo_127 : decode cL_isActSo 127 = .ok (.invokestatic 100, 3) := by decide +kernel
theorem dL_isActSo_130 : decode cL_isActSo 130 = .ok (.istore 14, 2) := by decide +kernel
theorem dL_isActSo_132 : decode cL_isActSo 132 = .ok (.aload_n 1, 1) := by decide +kernel
theorem dL_isActSo_133 : decode cL_isActSo 133 = .ok (.bipush 8, 2) := by decide +kernel
theorem dL_isActSo_135 : decode cL_isActSo 135 = .ok (.iload_n 2, 1) := by decide +kernel
theorem dL_isActSo_136 : decode cL_isActSo 136 = .ok (.iload 6, 2) := by decide +kernel
theorem dL_isActSo_138 : decode cL_isActSo 138 = .ok (.iload 5, 2) := by decide +kernel
theorem dL_isActSo_140 : decode cL_isActSo 140 = .ok (.iload 4, 2) := by decide +kernel
theorem dL_isActSo_142 : decode cL_isActSo 142 = .ok (.invokestatic 100, 3) := by decide +kernel
theorem dL_isActSo_145 : decode cL_isActSo 145 = .ok (.iload 14, 2) := by decide +kernel
theorem dL_isActSo_147 : decode cL_isActSo 147 = .ok (.if_icmp .ne 71, 3) := by decide +kernel
theorem dL_isActSo_150 : decode cL_isActSo 150 = .ok (.iload 14, 2) := by decide +kernel
theorem dL_isActSo_152 : decode cL_isActSo 152 = .ok (.ldc 58, 2) := by decide +kernel
theorem dL_isActSo_154 : decode cL_isActSo 154 = .ok (.if_icmp .ne 7, 3) := by decide +kernel
theorem dL_isActSo_157 : decode cL_isActSo 157 = .ok (.iconst 1, 1) := by decide +kernel
theorem dL_isActSo_158 : decode cL_isActSo 158 = .ok (.goto 4, 3) := by decide +kernel
theorem dL_isActSo_161 : decode cL_isActSo 161 = .ok (.iconst 0, 1) := by decide +kernel
theorem dL_isActSo_162 : decode cL_isActSo 162 = .ok (.iload 8, 2) := by decide +kernel
theorem dL_isActSo_164 : decode cL_isActSo 164 = .ok (.ifCond .gt 23, 3) := by decide +kernel
theorem dL_isActSo_167 : decode cL_isActSo 167 = .ok (.aload_n 0, 1) := by decide +kernel
theorem dL_isActSo_168 : decode cL_isActSo 168 = .ok (.invokevirtual 114, 3) := by decide +kernel
theorem dL_isActSo_171 : decode cL_isActSo 171 = .ok (.sipush 160, 3) := by decide +kernel
theorem dL_isActSo_174 : decode cL_isActSo 174 = .ok (.if_icmp .ne 17, 3) := by decide +kernel
theorem dL_isActSo_177 : decode cL_isActSo 177 = .ok (.aload_n 0, 1) := by decide +kernel
theorem dL_isActSo_178 : decode cL_isActSo 178 = .ok (.iload_n 2, 1) := by decide +kernel
theorem dL_isActSo_179 : decode cL_isActSo 179 = .ok (.invokevirtual 120, 3) := by decide +kernel
theorem dL_isActSo_182 : decode cL_isActSo 182 = .ok (.iload 12, 2) := by decide +kernel
theorem dL_isActSo_184 : decode cL_isActSo 184 = .ok (.if_icmp .ne 7, 3) := by decide +kernel
theorem dL_isActSo_187 : decode cL_isActSo 187 = .ok (.iconst 1, 1) := by decide +kernel
theorem dL_isActSo_188 : decode cL_isActSo 188 = .ok (.goto 4, 3) := by decide +kernel
theorem dL_isActSo_191 : decode cL_isActSo 191 = .ok (.iconst 0, 1) := by decide +kernel
theorem dL_isActSo_192 : decode cL_isActSo 192 = .ok (.if_icmp .ne 26, 3) := by decide +kernel
theorem dL_isActSo_195 : decode cL_isActSo 195 = .ok (.iload 8, 2) := by decide +kernel
theorem dL_isActSo_197 : decode cL_isActSo 197 = .ok (.ifCond .gt 8, 3) := by decide +kernel
theorem dL_isActSo_200 : decode cL_isActSo 200 = .ok (.iload 11, 2) := by decide +kernel
theorem dL_isActSo_202 : decode cL_isActSo 202 = .ok (.ifCond .le 16, 3) := by decide +kernel
theorem dL_isActSo_205 : decode cL_isActSo 205 = .ok (.iload 11, 2) := by decide +kernel
theorem dL_isActSo_207 : decode cL_isActSo 207 = .ok (.aload_n 0, 1) := by decide +kernel
theorem dL_isActSo_208 : decode cL_isActSo 208 = .ok (.invokevirtual 96, 3) := by decide +kernel
theorem dL_isActSo_211 : decode cL_isActSo 211 = .ok (.if_icmp .gt 7, 3) := by decide +kernel
theorem dL_isActSo_214 : decode cL_isActSo 214 = .ok (.iconst 1, 1) := by decide +kernel
theorem dL_isActSo_215 : decode cL_isActSo 215 = .ok (.goto 4, 3) := by decide +kernel
theorem dL_isActSo_218 : decode cL_isActSo 218 = .ok (.iconst 0, 1) := by decide +kernel
theorem dL_isActSo_219 : decode cL_isActSo 219 = .ok (.istore 15, 2) := by decide +kernel
theorem dL_isActSo_221 : decode cL_isActSo 221 = .ok (.iload 14, 2) := by decide +kernel
theorem dL_isActSo_223 : decode cL_isActSo 223 = .ok (.ldc 58, 2) := by decide +kernel
theorem dL_isActSo_225 : decode cL_isActSo 225 = .ok (.if_icmp .ne 36, 3) := by decide +kernel
theorem dL_isActSo_228 : decode cL_isActSo 228 = .ok (.iload 15, 2) := by decide +kernel
theorem dL_isActSo_230 : decode cL_isActSo 230 = .ok (.ifCond .eq 29, 3) := by decide +kernel
theorem dL_isActSo_233 : decode cL_isActSo 233 = .ok (.aload_n 0, 1) := by decide +kernel
theorem dL_isActSo_234 : decode cL_isActSo 234 = .ok (.iload_n 2, 1) := by decide +kernel
theorem dL_isActSo_235 : decode cL_isActSo 235 = .ok (.invokevirtual 120, 3) := by decide +kernel
theorem dL_isActSo_238 : decode cL_isActSo 238 = .ok (.iload 12, 2) := by decide +kernel
theorem dL_isActSo_240 : decode cL_isActSo 240 = .ok (.if_icmp .ne 19, 3) := by decide +kernel
theorem dL_isActSo_243 : decode cL_isActSo 243 = .ok (.aload_n 0, 1) := by decide +kernel
theorem dL_isActSo_244 : decode cL_isActSo 244 = .ok (.iload_n 2, 1) := by decide +kernel
theorem dL_isActSo_245 : decode cL_isActSo 245 = .ok (.iload 5, 2) := by decide +kernel
theorem dL_isActSo_247 : decode cL_isActSo 247 = .ok (.invokevirtual 80, 3) := by decide +kernel
theorem dL_isActSo_250 : decode cL_isActSo 250 = .ok (.iload 9, 2) := by decide +kernel
theorem dL_isActSo_252 : decode cL_isActSo 252 = .ok (.if_icmp .ne 7, 3) := by decide +kernel
theorem dL_isActSo_255 : decode cL_isActSo 255 = .ok (.iconst 1, 1) := by decide +kernel
theorem dL_isActSo_256 : decode cL_isActSo 256 = .ok (.goto 4, 3) := by decide +kernel
theorem dL_isActSo_259 : decode cL_isActSo 259 = .ok (.iconst 0, 1) := by decide +kernel
theorem dL_isActSo_260 : decode cL_isActSo 260 = .ok (.ireturn, 1) := by decide +kernel
theorem dL_isActSo_261 : decode cL_isActSo 261 = .ok (.aload_n 0, 1) := by decide +kernel
theorem dL_isActSo_262 : decode cL_isActSo 262 = .ok (.iload_n 2, 1) := by decide +kernel
theorem dL_isActSo_263 : decode cL_isActSo 263 = .ok (.iload 14, 2) := by decide +kernel
theorem dL_isActSo_265 : decode cL_isActSo 265 = .ok (.invokevirtual 146, 3) := by decide +kernel
theorem dL_isActSo_268 : decode cL_isActSo 268 = .ok (.istore 16, 2) := by decide +kernel
theorem dL_isActSo_270 : decode cL_isActSo 270 = .ok (.iload 15, 2) := by decide +kernel
theorem dL_isActSo_272 : decode cL_isActSo 272 = .ok (.ifCond .eq 94, 3) := by decide +kernel
theorem dL_isActSo_275 : decode cL_isActSo 275 = .ok (.iload 14, 2) := by decide +kernel
theorem dL_isActSo_277 : decode cL_isActSo 277 = .ok (.iload 12, 2) := by decide +kernel
theorem dL_isActSo_279 : decode cL_isActSo 279 = .ok (.if_icmp .ne 87, 3) := by decide +kernel
theorem dL_isActSo_282 : decode cL_isActSo 282 = .ok (.iload 16, 2) := by decide +kernel
theorem dL_isActSo_284 : decode cL_isActSo 284 = .ok (.aload_n 0, 1) := by decide +kernel
theorem dL_isActSo_285 : decode cL_isActSo 285 = .ok (.invokevirtual 114, 3) := by decide +kernel
theorem dL_isActSo_288 : decode cL_isActSo 288 = .ok (.iconst 1, 1) := by decide +kernel
theorem dL_isActSo_289 : decode cL_isActSo 289 = .ok (.isub, 1) := by decide +kernel
theorem dL_isActSo_290 : decode cL_isActSo 290 = .ok (.if_icmp .ne 76, 3) := by decide +kernel
theorem dL_isActSo_293 : decode cL_isActSo 293 = .ok (.aload_n 0, 1) := by decide +kernel
theorem dL_isActSo_294 : decode cL_isActSo 294 = .ok (.iload_n 2, 1) := by decide +kernel
theorem dL_isActSo_295 : decode cL_isActSo 295 = .ok (.iload 5, 2) := by decide +kernel
theorem dL_isActSo_297 : decode cL_isActSo 297 = .ok (.invokevirtual 80, 3) := by decide +kernel
theorem dL_isActSo_300 : decode cL_isActSo 300 = .ok (.iload 9, 2) := by decide +kernel
theorem dL_isActSo_302 : decode cL_isActSo 302 = .ok (.iload 4, 2) := by decide +kernel
theorem dL_isActSo_304 : decode cL_isActSo 304 = .ok (.iadd, 1) := by decide +kernel
theorem dL_isActSo_305 : decode cL_isActSo 305 = .ok (.if_icmp .ne 61, 3) := by decide +kernel
theorem dL_isActSo_308 : decode cL_isActSo 308 = .ok (.iload 7, 2) := by decide +kernel
theorem dL_isActSo_310 : decode cL_isActSo 310 = .ok (.ifCond .lt 18, 3) := by decide +kernel
theorem dL_isActSo_313 : decode cL_isActSo 313 = .ok (.aload_n 0, 1) := by decide +kernel
theorem dL_isActSo_314 : decode cL_isActSo 314 = .ok (.iload_n 2, 1) := by decide +kernel
theorem dL_isActSo_315 : decode cL_isActSo 315 = .ok (.iload 7, 2) := by decide +kernel
theorem dL_isActSo_317 : decode cL_isActSo 317 = .ok (.invokevirtual 80, 3) := by decide +kernel
theorem dL_isActSo_320 : decode cL_isActSo 320 = .ok (.iload 10, 2) := by decide +kernel
theorem dL_isActSo_322 : decode cL_isActSo 322 = .ok (.iload 4, 2) := by decide +kernel
theorem dL_isActSo_324 : decode cL_isActSo 324 = .ok (.iadd, 1) := by decide +kernel
theorem dL_isActSo_325 : decode cL_isActSo 325 = .ok (.if_icmp .ne 41, 3) := by decide +kernel
theorem dL_isActSo_328 : decode cL_isActSo 328 = .ok (.aload_n 0, 1) := by decide +kernel
theorem dL_isActSo_329 : decode cL_isActSo 329 = .ok (.iload_n 2, 1) := by decide +kernel
theorem dL_isActSo_330 : decode cL_isActSo 330 = .ok (.iload 5, 2) := by decide +kernel
theorem dL_isActSo_332 : decode cL_isActSo 332 = .ok (.invokevirtual 149, 3) := by decide +kernel
theorem dL_isActSo_335 : decode cL_isActSo 335 = .ok (.ifCond .eq 31, 3) := by decide +kernel
theorem dL_isActSo_338 : decode cL_isActSo 338 = .ok (.aload_n 0, 1) := by decide +kernel
theorem dL_isActSo_339 : decode cL_isActSo 339 = .ok (.iload_n 2, 1) := by decide +kernel
theorem dL_isActSo_340 : decode cL_isActSo 340 = .ok (.iload 16, 2) := by decide +kernel
theorem dL_isActSo_342 : decode cL_isActSo 342 = .ok (.invokevirtual 134, 3) := by decide +kernel
theorem dL_isActSo_345 : decode cL_isActSo 345 = .ok (.aload_n 0, 1) := by decide +kernel
theorem dL_isActSo_346 : decode cL_isActSo 346 = .ok (.invokevirtual 111, 3) := by decide +kernel
theorem dL_isActSo_349 : decode cL_isActSo 349 = .ok (.if_icmp .ne 17, 3) := by decide +kernel
theorem dL_isActSo_352 : decode cL_isActSo 352 = .ok (.aload_n 0, 1) := by decide +kernel
theorem dL_isActSo_353 : decode cL_isActSo 353 = .ok (.iload_n 2, 1) := by decide +kernel
theorem dL_isActSo_354 : decode cL_isActSo 354 = .ok (.iload 16, 2) := by decide +kernel
theorem dL_isActSo_356 : decode cL_isActSo 356 = .ok (.invokevirtual 137, 3) := by decide +kernel
theorem dL_isActSo_359 : decode cL_isActSo 359 = .ok (.ifCond .eq 7, 3) := by decide +kernel
theorem dL_isActSo_362 : decode cL_isActSo 362 = .ok (.iconst 1, 1) := by decide +kernel
theorem dL_isActSo_363 : decode cL_isActSo 363 = .ok (.goto 4, 3) := by decide +kernel
theorem dL_isActSo_366 : decode cL_isActSo 366 = .ok (.iconst 0, 1) := by decide +kernel
theorem dL_isActSo_367 : decode cL_isActSo 367 = .ok (.istore 15, 2) := by decide +kernel
theorem dL_isActSo_369 : decode cL_isActSo 369 = .ok (.iload 15, 2) := by decide +kernel
theorem dL_isActSo_371 : decode cL_isActSo 371 = .ok (.ifCond .eq 111, 3) := by decide +kernel
theorem dL_isActSo_374 : decode cL_isActSo 374 = .ok (.aload_n 0, 1) := by decide +kernel
theorem dL_isActSo_375 : decode cL_isActSo 375 = .ok (.iload_n 2, 1) := by decide +kernel
theorem dL_isActSo_376 : decode cL_isActSo 376 = .ok (.iload 14, 2) := by decide +kernel
theorem dL_isActSo_378 : decode cL_isActSo 378 = .ok (.iconst 0, 1) := by decide +kernel
theorem dL_isActSo_379 : decode cL_isActSo 379 = .ok (.invokevirtual 152, 3) := by decide +kernel
theorem dL_isActSo_382 : decode cL_isActSo 382 = .ok (.iload 6, 2) := by decide +kernel
theorem dL_isActSo_384 : decode cL_isActSo 384 = .ok (.if_icmp .ne 98, 3) := by decide +kernel
theorem dL_isActSo_387 : decode cL_isActSo 387 = .ok (.aload_n 0, 1) := by decide +kernel
theorem dL_isActSo_388 : decode cL_isActSo 388 = .ok (.iload_n 2, 1) := by decide +kernel
theorem dL_isActSo_389 : decode cL_isActSo 389 = .ok (.iload 14, 2) := by decide +kernel
theorem dL_isActSo_391 : decode cL_isActSo 391 = .ok (.iconst 1, 1) := by decide +kernel
theorem dL_isActSo_392 : decode cL_isActSo 392 = .ok (.invokevirtual 152, 3) := by decide +kernel
theorem dL_isActSo_395 : decode cL_isActSo 395 = .ok (.iload 5, 2) := by decide +kernel
theorem dL_isActSo_397 : decode cL_isActSo 397 = .ok (.if_icmp .ne 85, 3) := by decide +kernel
theorem dL_isActSo_400 : decode cL_isActSo 400 = .ok (.aload_n 0, 1) := by decide +kernel
theorem dL_isActSo_401 : decode cL_isActSo 401 = .ok (.iload_n 2, 1) := by decide +kernel
theorem dL_isActSo_402 : decode cL_isActSo 402 = .ok (.iload 14, 2) := by decide +kernel
theorem dL_isActSo_404 : decode cL_isActSo 404 = .ok (.iconst 3, 1) := by decide +kernel
theorem dL_isActSo_405 : decode cL_isActSo 405 = .ok (.invokevirtual 152, 3) := by decide +kernel
theorem dL_isActSo_408 : decode cL_isActSo 408 = .ok (.iload 4, 2) := by decide +kernel
theorem dL_isActSo_410 : decode cL_isActSo 410 = .ok (.if_icmp .ne 72, 3) := by decide +kernel
theorem dL_isActSo_413 : decode cL_isActSo 413 = .ok (.aload_n 0, 1) := by decide +kernel
theorem dL_isActSo_414 : decode cL_isActSo 414 = .ok (.iload_n 2, 1) := by decide +kernel
theorem dL_isActSo_415 : decode cL_isActSo 415 = .ok (.iload 14, 2) := by decide +kernel
theorem dL_isActSo_417 : decode cL_isActSo 417 = .ok (.iconst 5, 1) := by decide +kernel
theorem dL_isActSo_418 : decode cL_isActSo 418 = .ok (.invokevirtual 152, 3) := by decide +kernel
theorem dL_isActSo_421 : decode cL_isActSo 421 = .ok (.aload_n 0, 1) := by decide +kernel
theorem dL_isActSo_422 : decode cL_isActSo 422 = .ok (.invokevirtual 111, 3) := by decide +kernel
theorem dL_isActSo_425 : decode cL_isActSo 425 = .ok (.if_icmp .ne 57, 3) := by decide +kernel
theorem dL_isActSo_428 : decode cL_isActSo 428 = .ok (.aload_n 0, 1) := by decide +kernel
theorem dL_isActSo_429 : decode cL_isActSo 429 = .ok (.iload_n 2, 1) := by decide +kernel
theorem dL_isActSo_430 : decode cL_isActSo 430 = .ok (.iload 14, 2) := by decide +kernel
theorem dL_isActSo_432 : decode cL_isActSo 432 = .ok (.invokevirtual 155, 3) := by decide +kernel
theorem dL_isActSo_435 : decode cL_isActSo 435 = .ok (.aload_n 0, 1) := by decide +kernel
theorem dL_isActSo_436 : decode cL_isActSo 436 = .ok (.iload_n 2, 1) := by decide +kernel
theorem dL_isActSo_437 : decode cL_isActSo 437 = .ok (.iload 14, 2) := by decide +kernel
theorem dL_isActSo_439 : decode cL_isActSo 439 = .ok (.invokevirtual 158, 3) := by decide +kernel
theorem dL_isActSo_442 : decode cL_isActSo 442 = .ok (.ifCond .ne 7, 3) := by decide +kernel
theorem dL_isActSo_445 : decode cL_isActSo 445 = .ok (.iconst 1, 1) := by decide +kernel
theorem dL_isActSo_446 : decode cL_isActSo 446 = .ok (.goto 4, 3) := by decide +kernel
theorem dL_isActSo_449 : decode cL_isActSo 449 = .ok (.iconst 0, 1) := by decide +kernel
theorem dL_isActSo_450 : decode cL_isActSo 450 = .ok (.if_icmp .ne 32, 3) := by decide +kernel
theorem dL_isActSo_453 : decode cL_isActSo 453 = .ok (.aload_n 0, 1) := by decide +kernel
theorem dL_isActSo_454 : decode cL_isActSo 454 = .ok (.invokevirtual 117, 3) := by decide +kernel
theorem dL_isActSo_457 : decode cL_isActSo 457 = .ok (.iload 13, 2) := by decide +kernel
theorem dL_isActSo_459 : decode cL_isActSo 459 = .ok (.aload_n 0, 1) := by decide +kernel
theorem dL_isActSo_460 : decode cL_isActSo 460 = .ok (.iload_n 2, 1) := by decide +kernel
theorem dL_isActSo_461 : decode cL_isActSo 461 = .ok (.iload 14, 2) := by decide +kernel
theorem dL_isActSo_463 : decode cL_isActSo 463 = .ok (.invokevirtual 155, 3) := by decide +kernel
theorem dL_isActSo_466 : decode cL_isActSo 466 = .ok (.ifCond .eq 7, 3) := by decide +kernel
theorem dL_isActSo_469 : decode cL_isActSo 469 = .ok (.iconst 1, 1) := by decide +kernel
theorem dL_isActSo_470 : decode cL_isActSo 470 = .ok (.goto 4, 3) := by decide +kernel
theorem dL_isActSo_473 : decode cL_isActSo 473 = .ok (.iconst 0, 1) := by decide +kernel
theorem dL_isActSo_474 : decode cL_isActSo 474 = .ok (.iadd, 1) := by decide +kernel
theorem dL_isActSo_475 : decode cL_isActSo 475 = .ok (.if_icmp .ne 7, 3) := by decide +kernel
theorem dL_isActSo_478 : decode cL_isActSo 478 = .ok (.iconst 1, 1) := by decide +kernel
theorem dL_isActSo_479 : decode cL_isActSo 479 = .ok (.goto 4, 3) := by decide +kernel
theorem dL_isActSo_482 : decode cL_isActSo 482 = .ok (.iconst 0, 1) := by decide +kernel
theorem dL_isActSo_483 : decode cL_isActSo 483 = .ok (.ireturn, 1) := by decide +kernel
theorem dL_isTamperedSo_0 : decode cL_isTamperedSo 0 = .ok (.iload_n 3, 1) := by decide +kernel
theorem dL_isTamperedSo_1 : decode cL_isTamperedSo 1 = .ok (.aload_n 0, 1) := by decide +kernel
theorem dL_isTamperedSo_2 : decode cL_isTamperedSo 2 = .ok (.iload_n 2, 1) := by decide +kernel
theorem dL_isTamperedSo_3 : decode cL_isTamperedSo 3 = .ok (.invokevirtual 120, 3) := by decide +kernel
theorem dL_isTamperedSo_6 : decode cL_isTamperedSo 6 = .ok (.if_icmp .lt 25, 3) := by decide +kernel
theorem dL_isTamperedSo_9 : decode cL_isTamperedSo 9 = .ok (.aload_n 0, 1) := by decide +kernel
theorem dL_isTamperedSo_10 : decode cL_isTamperedSo 10 = .ok (.bipush 9, 2) := by decide +kernel
theorem dL_isTamperedSo_12 : decode cL_isTamperedSo 12 = .ok (.iload_n 2, 1) := by decide +kernel
theorem dL_isTamperedSo_13 : decode cL_isTamperedSo 13 = .ok (.iload_n 3, 1) := by decide +kernel
theorem dL_isTamperedSo_14 : decode cL_isTamperedSo 14 = .ok (.iload 4, 2) := by decide +kernel
theorem dL_isTamperedSo_16 : decode cL_isTamperedSo 16 = .ok (.iconst 0, 1) := by decide +kernel
theorem dL_isTamperedSo_17 : decode cL_isTamperedSo 17 = .ok (.invokestatic 100, 3) := by decide +kernel
theorem dL_isTamperedSo_20 : decode cL_isTamperedSo 20 = .ok (.ldc 58, 2) := by decide +kernel
theorem dL_isTamperedSo_22 : decode cL_isTamperedSo 22 = .ok (.if_icmp .ne 7, 3) := by decide +kernel
theorem dL_isTamperedSo_25 : decode cL_isTamperedSo 25 = .ok (.iconst 1, 1) := by decide +kernel
theorem dL_isTamperedSo_26 : decode cL_isTamperedSo 26 = .ok (.goto 4, 3) := by decide +kernel
theorem dL_isTamperedSo_29 : decode cL_isTamperedSo 29 = .ok (.iconst 0, 1) := by decide +kernel
theorem dL_isTamperedSo_30 : decode cL_isTamperedSo 30 = .ok (.ireturn, 1) := by decide +kernel
theorem dL_isTamperedSo_31 : decode cL_isTamperedSo 31 = .ok (.aload_n 0, 1) := by decide +kernel
theorem dL_isTamperedSo_32 : decode cL_isTamperedSo 32 = .ok (.iload_n 2, 1) := by decide +kernel
theorem dL_isTamperedSo_33 : decode cL_isTamperedSo 33 = .ok (.invokevirtual 77, 3) := by decide +kernel
theorem dL_isTamperedSo_36 : decode cL_isTamperedSo 36 = .ok (.istore 5, 2) := by decide +kernel
theorem dL_isTamperedSo_38 : decode cL_isTamperedSo 38 = .ok (.aload_n 0, 1) := by decide +kernel
theorem dL_isTamperedSo_39 : decode cL_isTamperedSo 39 = .ok (.iload_n 2, 1) := by decide +kernel
theorem dL_isTamperedSo_40 : decode cL_isTamperedSo 40 = .ok (.iload_n 3, 1) := by decide +kernel
theorem dL_isTamperedSo_41 : decode cL_isTamperedSo 41 = .ok (.invokevirtual 161, 3) := by decide +kernel
theorem dL_isTamperedSo_44 : decode cL_isTamperedSo 44 = .ok (.istore 6, 2) := by decide +kernel
theorem dL_isTamperedSo_46 : decode cL_isTamperedSo 46 = .ok (.aload_n 0, 1) := by decide +kernel
theorem dL_isTamperedSo_47 : decode cL_isTamperedSo 47 = .ok (.iload_n 2, 1) := by decide +kernel
theorem dL_isTamperedSo_48 : decode cL_isTamperedSo 48 = .ok (.iload_n 3, 1) := by decide +kernel
theorem dL_isTamperedSo_49 : decode cL_isTamperedSo 49 = .ok (.iload 4, 2) := by decide +kernel
theorem dL_isTamperedSo_51 : decode cL_isTamperedSo 51 = .ok (.invokevirtual 41, 3) := by decide +kernel
theorem dL_isTamperedSo_54 : decode cL_isTamperedSo 54 = .ok (.istore 7, 2) := by decide +kernel
theorem dL_isTamperedSo_56 : decode cL_isTamperedSo 56 = .ok (.aload_n 1, 1) := by decide +kernel
theorem dL_isTamperedSo_57 : decode cL_isTamperedSo 57 = .ok (.iload_n 2, 1) := by decide +kernel
theorem dL_isTamperedSo_58 : decode cL_isTamperedSo 58 = .ok (.iload_n 3, 1) := by decide +kernel
theorem dL_isTamperedSo_59 : decode cL_isTamperedSo 59 = .ok (.iload 4, 2) := by decide +kernel
theorem dL_isTamperedSo_61 : decode cL_isTamperedSo 61 = .ok (.invokevirtual 41, 3) := by decide +kernel
theorem dL_isTamperedSo_64 : decode cL_isTamperedSo 64 = .ok (.iload 7, 2) := by decide +kernel
theorem dL_isTamperedSo_66 : decode cL_isTamperedSo 66 = .ok (.if_icmp .ne 60, 3) := by decide +kernel
theorem dL_isTamperedSo_69 : decode cL_isTamperedSo 69 = .ok (.aload_n 0, 1) := by decide +kernel
theorem dL_isTamperedSo_70 : decode cL_isTamperedSo 70 = .ok (.iload_n 2, 1) := by decide +kernel
theorem dL_isTamperedSo_71 : decode cL_isTamperedSo 71 = .ok (.iload_n 3, 1) := by decide +kernel
theorem dL_isTamperedSo_72 : decode cL_isTamperedSo 72 = .ok (.iconst 3, 1) := by decide +kernel
theorem dL_isTamperedSo_73 : decode cL_isTamperedSo 73 = .ok (.invokevirtual 152, 3) := by decide +kernel
theorem dL_isTamperedSo_76 : decode cL_isTamperedSo 76 = .ok (.iload 4, 2) := by decide +kernel
theorem dL_isTamperedSo_78 : decode cL_isTamperedSo 78 = .ok (.if_icmp .ne 48, 3) := by decide +kernel
theorem dL_isTamperedSo_81 : decode cL_isTamperedSo 81 = .ok (.aload_n 0, 1) := by decide +kernel
theorem dL_isTamperedSo_82 : decode cL_isTamperedSo 82 = .ok (.iload_n 2, 1) := by decide +kernel
theorem dL_isTamperedSo_83 : decode cL_isTamperedSo 83 = .ok (.iload_n 3, 1) := by decide +kernel
theorem dL_isTamperedSo_84 : decode cL_isTamperedSo 84 = .ok (.invokevirtual 161, 3) := by decide +kernel
theorem dL_isTamperedSo_87 : decode cL_isTamperedSo 87 = .ok (.iload 6, 2) := by decide +kernel
theorem dL_isTamperedSo_89 : decode cL_isTamperedSo 89 = .ok (.if_icmp .ne 37, 3) := by decide +kernel
theorem dL_isTamperedSo_92 : decode cL_isTamperedSo 92 = .ok (.iload 5, 2) := by decide +kernel
theorem dL_isTamperedSo_94 : decode cL_isTamperedSo 94 = .ok (.ifCond .ge 28, 3) := by decide +kernel
theorem dL_isTamperedSo_97 : decode cL_isTamperedSo 97 = .ok (.iload 7, 2) := by decide +kernel
theorem dL_isTamperedSo_99 : decode cL_isTamperedSo 99 = .ok (.iload 4, 2) := by decide +kernel
theorem dL_isTamperedSo_101 : decode cL_isTamperedSo 101 = .ok (.if_icmp .eq 21, 3) := by decide +kernel
theorem dL_isTamperedSo_104 : decode cL_isTamperedSo 104 = .ok (.aload_n 0, 1) := by decide +kernel
theorem dL_isTamperedSo_105 : decode cL_isTamperedSo 105 = .ok (.iload_n 2, 1) := by decide +kernel
theorem dL_isTamperedSo_106 : decode cL_isTamperedSo 106 = .ok (.invokevirtual 77, 3) := by decide +kernel
theorem dL_isTamperedSo_109 : decode cL_isTamperedSo 109 = .ok (.iload_n 3, 1) := by decide +kernel
theorem dL_isTamperedSo_110 : decode cL_isTamperedSo 110 = .ok (.if_icmp .eq 12, 3) := by decide +kernel
theorem dL_isTamperedSo_113 : decode cL_isTamperedSo 113 = .ok (.aload_n 0, 1) := by decide +kernel
theorem dL_isTamperedSo_114 : decode cL_isTamperedSo 114 = .ok (.iload_n 2, 1) := by decide +kernel
theorem dL_isTamperedSo_115 : decode cL_isTamperedSo 115 = .ok (.invokevirtual 77, 3) := by decide +kernel
theorem dL_isTamperedSo_118 : decode cL_isTamperedSo 118 = .ok (.iconst (-1), 1) := by decide +kernel
theorem dL_isTamperedSo_119 : decode cL_isTamperedSo 119 = .ok (.if_icmp .ne 7, 3) := by decide +kernel
theorem dL_isTamperedSo_122 : decode cL_isTamperedSo 122 = .ok (.iconst 1, 1) := by decide +kernel
theorem dL_isTamperedSo_123 : decode cL_isTamperedSo 123 = .ok (.goto 4, 3) := by decide +kernel
theorem dL_isTamperedSo_126 : decode cL_isTamperedSo 126 = .ok (.iconst 0, 1) := by decide +kernel
theorem dL_isTamperedSo_127 : decode cL_isTamperedSo 127 = .ok (.istore 8, 2) := by decide +kernel
theorem dL_isTamperedSo_129 : decode cL_isTamperedSo 129 = .ok (.iload 8, 2) := by decide +kernel
theorem dL_isTamperedSo_131 : decode cL_isTamperedSo 131 = .ok (.ifCond .eq 43, 3) := by decide +kernel
theorem dL_isTamperedSo_134 : decode cL_isTamperedSo 134 = .ok (.aload_n 0, 1) := by decide +kernel
theorem dL_isTamperedSo_135 : decode cL_isTamperedSo 135 = .ok (.iload_n 2, 1) := by decide +kernel
theorem dL_isTamperedSo_136 : decode cL_isTamperedSo 136 = .ok (.iload_n 3, 1) := by decide +kernel
theorem dL_isTamperedSo_137 : decode cL_isTamperedSo 137 = .ok (.iload 7, 2) := by decide +kernel
theorem dL_isTamperedSo_139 : decode cL_isTamperedSo 139 = .ok (.invokevirtual 41, 3) := by decide +kernel
theorem dL_isTamperedSo_142 : decode cL_isTamperedSo 142 = .ok (.iload 4, 2) := by decide +kernel
theorem dL_isTamperedSo_144 : decode cL_isTamperedSo 144 = .ok (.if_icmp .ne 30, 3) := by decide +kernel
theorem dL_isTamperedSo_147 : decode cL_isTamperedSo 147 = .ok (.aload_n 1, 1) := by decide +kernel
theorem dL_isTamperedSo_148 : decode cL_isTamperedSo 148 = .ok (.iload_n 2, 1) := by decide +kernel
theorem dL_isTamperedSo_149 : decode cL_isTamperedSo 149 = .ok (.iload_n 3, 1) := by decide +kernel
theorem dL_isTamperedSo_150 : decode cL_isTamperedSo 150 = .ok (.iload 7, 2) := by decide +kernel
theorem dL_isTamperedSo_152 : decode cL_isTamperedSo 152 = .ok (.invokevirtual 41, 3) := by decide +kernel
theorem dL_isTamperedSo_155 : decode cL_isTamperedSo 155 = .ok (.iload 4, 2) := by decide +kernel
theorem dL_isTamperedSo_157 : decode cL_isTamperedSo 157 = .ok (.if_icmp .ne 17, 3) := by decide +kernel
theorem dL_isTamperedSo_160 : decode cL_isTamperedSo 160 = .ok (.aload_n 0, 1) := by decide +kernel
theorem dL_isTamperedSo_161 : decode cL_isTamperedSo 161 = .ok (.iload_n 2, 1) := by decide +kernel
theorem dL_isTamperedSo_162 : decode cL_isTamperedSo 162 = .ok (.invokevirtual 77, 3) := by decide +kernel
theorem dL_isTamperedSo_165 : decode cL_isTamperedSo 165 = .ok (.iload 5, 2) := by decide +kernel
theorem dL_isTamperedSo_167 : decode cL_isTamperedSo 167 = .ok (.if_icmp .ne 7, 3) := by decide +kernel
theorem dL_isTamperedSo_170 : decode cL_isTamperedSo 170 = .ok (.iconst 1, 1) := by decide +kernel
theorem dL_isTamperedSo_171 : decode cL_isTamperedSo 171 = .ok (.goto 4, 3) := by decide +kernel
theorem dL_isTamperedSo_174 : decode cL_isTamperedSo 174 = .ok (.iconst 0, 1) := by decide +kernel
theorem dL_isTamperedSo_175 : decode cL_isTamperedSo 175 = .ok (.ireturn, 1) := by decide +kernel
theorem dL_isCopySo_0 : decode cL_isCopySo 0 = .ok (.aload_n 0, 1) := by decide +kernel
theorem dL_isCopySo_1 : decode cL_isCopySo 1 = .ok (.iload_n 2, 1) := by decide +kernel
theorem dL_isCopySo_2 : decode cL_isCopySo 2 = .ok (.invokevirtual 120, 3) := by decide +kernel
theorem dL_isCopySo_5 : decode cL_isCopySo 5 = .ok (.istore 4, 2) := by decide +kernel
theorem dL_isCopySo_7 : decode cL_isCopySo 7 = .ok (.aload_n 0, 1) := by decide +kernel
theorem dL_isCopySo_8 : decode cL_isCopySo 8 = .ok (.bipush 10, 2) := by decide +kernel
theorem dL_isCopySo_10 : decode cL_isCopySo 10 = .ok (.iload_n 2, 1) := by decide +kernel
theorem dL_isCopySo_11 : decode cL_isCopySo 11 = .ok (.iconst 0, 1) := by decide +kernel
theorem dL_isCopySo_12 : decode cL_isCopySo 12 = .ok (.iload 4, 2) := by decide +kernel
theorem dL_isCopySo_14 : decode cL_isCopySo 14 = .ok (.iconst 1, 1) := by decide +kernel
theorem dL_isCopySo_15 : decode cL_isCopySo 15 = .ok (.isub, 1) := by decide +kernel
theorem dL_isCopySo_16 : decode cL_isCopySo 16 = .ok (.iload_n 3, 1) := by decide +kernel
theorem dL_isCopySo_17 : decode cL_isCopySo 17 = .ok (.invokestatic 100, 3) := by decide +kernel
theorem dL_isCopySo_20 : decode cL_isCopySo 20 = .ok (.istore 5, 2) := by decide +kernel
theorem dL_isCopySo_22 : decode cL_isCopySo 22 = .ok (.aload_n 1, 1) := by decide +kernel
theorem dL_isCopySo_23 : decode cL_isCopySo 23 = .ok (.bipush 10, 2) := by decide +kernel
theorem dL_isCopySo_25 : decode cL_isCopySo 25 = .ok (.iload_n 2, 1) := by decide +kernel
theorem dL_isCopySo_26 : decode cL_isCopySo 26 = .ok (.iconst 0, 1) := by decide +kernel
theorem dL_isCopySo_27 : decode cL_isCopySo 27 = .ok (.iload 4, 2) := by decide +kernel
theorem dL_isCopySo_29 : decode cL_isCopySo 29 = .ok (.iconst 1, 1) := by decide +kernel
theorem dL_isCopySo_30 : decode cL_isCopySo 30 = .ok (.isub, 1) := by decide +kernel
theorem dL_isCopySo_31 : decode cL_isCopySo 31 = .ok (.iload_n 3, 1) := by decide +kernel
theorem dL_isCopySo_32 : decode cL_isCopySo 32 = .ok (.invokestatic 100, 3) := by decide +kernel
theorem dL_isCopySo_35 : decode cL_isCopySo 35 = .ok (.iload 5, 2) := by decide +kernel
theorem dL_isCopySo_37 : decode cL_isCopySo 37 = .ok (.if_icmp .ne 7, 3) := by decide +kernel
theorem dL_isCopySo_40 : decode cL_isCopySo 40 = .ok (.iconst 1, 1) := by decide +kernel
theorem dL_isCopySo_41 : decode cL_isCopySo 41 = .ok (.goto 4, 3) := by decide +kernel
theorem dL_isCopySo_44 : decode cL_isCopySo 44 = .ok (.iconst 0, 1) := by decide +kernel
theorem dL_isCopySo_45 : decode cL_isCopySo 45 = .ok (.istore 6, 2) := by decide +kernel
theorem dL_isCopySo_47 : decode cL_isCopySo 47 = .ok (.iload 5, 2) := by decide +kernel
theorem dL_isCopySo_49 : decode cL_isCopySo 49 = .ok (.ldc 58, 2) := by decide +kernel
theorem dL_isCopySo_51 : decode cL_isCopySo 51 = .ok (.if_icmp .ne 6, 3) := by decide +kernel
theorem dL_isCopySo_54 : decode cL_isCopySo 54 = .ok (.iload 6, 2) := by decide +kernel
theorem dL_isCopySo_56 : decode cL_isCopySo 56 = .ok (.ireturn, 1) := by decide +kernel
theorem dL_isCopySo_57 : decode cL_isCopySo 57 = .ok (.iload 6, 2) := by decide +kernel
theorem dL_isCopySo_59 : decode cL_isCopySo 59 = .ok (.ifCond .eq 41, 3) := by decide +kernel
theorem dL_isCopySo_62 : decode cL_isCopySo 62 = .ok (.aload_n 0, 1) := by decide +kernel
theorem dL_isCopySo_63 : decode cL_isCopySo 63 = .ok (.iload 5, 2) := by decide +kernel
theorem dL_isCopySo_65 : decode cL_isCopySo 65 = .ok (.invokevirtual 83, 3) := by decide +kernel
theorem dL_isCopySo_68 : decode cL_isCopySo 68 = .ok (.iload 4, 2) := by decide +kernel
theorem dL_isCopySo_70 : decode cL_isCopySo 70 = .ok (.if_icmp .ne 30, 3) := by decide +kernel
theorem dL_isCopySo_73 : decode cL_isCopySo 73 = .ok (.aload_n 0, 1) := by decide +kernel
theorem dL_isCopySo_74 : decode cL_isCopySo 74 = .ok (.iload 5, 2) := by decide +kernel
theorem dL_isCopySo_76 : decode cL_isCopySo 76 = .ok (.invokevirtual 89, 3) := by decide +kernel
theorem dL_isCopySo_79 : decode cL_isCopySo 79 = .ok (.ifCond .eq 21, 3) := by decide +kernel
theorem dL_isCopySo_82 : decode cL_isCopySo 82 = .ok (.aload_n 0, 1) := by decide +kernel
theorem dL_isCopySo_83 : decode cL_isCopySo 83 = .ok (.iload 5, 2) := by decide +kernel
theorem dL_isCopySo_85 : decode cL_isCopySo 85 = .ok (.invokevirtual 86, 3) := by decide +kernel
theorem dL_isCopySo_88 : decode cL_isCopySo 88 = .ok (.aload_n 0, 1) := by decide +kernel
theorem dL_isCopySo_89 : decode cL_isCopySo 89 = .ok (.iload_n 2, 1) := by decide +kernel
theorem dL_isCopySo_90 : decode cL_isCopySo 90 = .ok (.invokevirtual 77, 3) := by decide +kernel
theorem dL_isCopySo_93 : decode cL_isCopySo 93 = .ok (.if_icmp .ne 7, 3) := by decide +kernel
theorem dL_isCopySo_96 : decode cL_isCopySo 96 = .ok (.iconst 1, 1) := by decide +kernel
theorem dL_isCopySo_97 : decode cL_isCopySo 97 = .ok (.goto 4, 3) := by decide +kernel
theorem dL_isCopySo_100 : decode cL_isCopySo 100 = .ok (.iconst 0, 1) := by decide +kernel
theorem dL_isCopySo_101 : decode cL_isCopySo 101 = .ok (.istore 6, 2) := by decide +kernel
theorem dL_isCopySo_103 : decode cL_isCopySo 103 = .ok (.iconst 0, 1) := by decide +kernel
theorem dL_isCopySo_104 : decode cL_isCopySo 104 = .ok (.istore 7, 2) := by decide +kernel
theorem dL_isCopySo_106 : decode cL_isCopySo 106 = .ok (.iload 7, 2) := by decide +kernel
theorem dL_isCopySo_108 : decode cL_isCopySo 108 = .ok (.iload 4, 2) := by decide +kernel
theorem dL_isCopySo_110 : decode cL_isCopySo 110 = .ok (.if_icmp .ge 78, 3) := by decide +kernel
theorem dL_isCopySo_113 : decode cL_isCopySo 113 = .ok (.iload 6, 2) := by decide +kernel
theorem dL_isCopySo_115 : decode cL_isCopySo 115 = .ok (.ifCond .eq 73, 3) := by decide +kernel
theorem dL_isCopySo_118 : decode cL_isCopySo 118 = .ok (.iconst 0, 1) := by decide +kernel
theorem dL_isCopySo_119 : decode cL_isCopySo 119 = .ok (.istore 8, 2) := by decide +kernel
theorem dL_isCopySo_121 : decode cL_isCopySo 121 = .ok (.iload 8, 2) := by decide +kernel
theorem dL_isCopySo_123 : decode cL_isCopySo 123 = .ok (.bipush 6, 2) := by decide +kernel
theorem dL_isCopySo_125 : decode cL_isCopySo 125 = .ok (.if_icmp .ge 57, 3) := by decide +kernel
theorem dL_isCopySo_128 : decode cL_isCopySo 128 = .ok (.iload 6, 2) := by decide +kernel
theorem dL_isCopySo_130 : decode cL_isCopySo 130 = .ok (.ifCond .eq 52, 3) := by decide +kernel
theorem dL_isCopySo_133 : decode cL_isCopySo 133 = .ok (.aload_n 0, 1) := by decide +kernel
theorem dL_isCopySo_134 : decode cL_isCopySo 134 = .ok (.iload 5, 2) := by decide +kernel
theorem dL_isCopySo_136 : decode cL_isCopySo 136 = .ok (.iload 7, 2) := by decide +kernel
theorem dL_isCopySo_138 : decode cL_isCopySo 138 = .ok (.iload 8, 2) := by decide +kernel
theorem dL_isCopySo_140 : decode cL_isCopySo 140 = .ok (.invokevirtual 164, 3) := by decide +kernel
theorem dL_isCopySo_143 : decode cL_isCopySo 143 = .ok (.iload_n 3, 1) := by decide +kernel
theorem dL_isCopySo_144 : decode cL_isCopySo 144 = .ok (.iload 8, 2) := by decide +kernel
theorem dL_isCopySo_146 : decode cL_isCopySo 146 = .ok (.ishr, 1) := by decide +kernel
theorem dL_isCopySo_147 : decode cL_isCopySo 147 = .ok (.iconst 1, 1) := by decide +kernel
theorem dL_isCopySo_148 : decode cL_isCopySo 148 = .ok (.iand, 1) := by decide +kernel
theorem dL_isCopySo_149 : decode cL_isCopySo 149 = .ok (.iconst 1, 1) := by decide +kernel
theorem dL_isCopySo_150 : decode cL_isCopySo 150 = .ok (.if_icmp .ne 7, 3) := by decide +kernel
theorem dL_isCopySo_153 : decode cL_isCopySo 153 = .ok (.iconst (-1), 1) := by decide +kernel
theorem dL_isCopySo_154 : decode cL_isCopySo 154 = .ok (.goto 12, 3) := by decide +kernel
theorem dL_isCopySo_157 : decode cL_isCopySo 157 = .ok (.aload_n 0, 1) := by decide +kernel
theorem dL_isCopySo_158 : decode cL_isCopySo 158 = .ok (.iload_n 2, 1) := by decide +kernel
theorem dL_isCopySo_159 : decode cL_isCopySo 159 = .ok (.iload 7, 2) := by decide +kernel
theorem dL_isCopySo_161 : decode cL_isCopySo 161 = .ok (.iload 8, 2) := by decide +kernel
theorem dL_isCopySo_163 : decode cL_isCopySo 163 = .ok (.invokevirtual 152, 3) := by decide +kernel
theorem dL_isCopySo_166 : decode cL_isCopySo 166 = .ok (.if_icmp .ne 7, 3) := by decide +kernel
theorem dL_isCopySo_169 : decode cL_isCopySo 169 = .ok (.iconst 1, 1) := by decide +kernel
theorem dL_isCopySo_170 : decode cL_isCopySo 170 = .ok (.goto 4, 3) := by decide +kernel
theorem dL_isCopySo_173 : decode cL_isCopySo 173 = .ok (.iconst 0, 1) := by decide +kernel
theorem dL_isCopySo_174 : decode cL_isCopySo 174 = .ok (.istore 6, 2) := by decide +kernel
theorem dL_isCopySo_176 : decode cL_isCopySo 176 = .ok (.iinc 8 1, 3) := by decide +kernel
theorem dL_isCopySo_179 : decode cL_isCopySo 179 = .ok (.goto (-58), 3) := by decide +kernel
theorem dL_isCopySo_182 : decode cL_isCopySo 182 = .ok (.iinc 7 1, 3) := by decide +kernel
theorem dL_isCopySo_185 : decode cL_isCopySo 185 = .ok (.goto (-79), 3) := by decide +kernel
theorem dL_isCopySo_188 : decode cL_isCopySo 188 = .ok (.iload 6, 2) := by decide +kernel
theorem dL_isCopySo_190 : decode cL_isCopySo 190 = .ok (.ireturn, 1) := by decide +kernel
theorem dL_law_0 : decode cL_law 0 = .ok (.new 9, 3) := by decide +kernel
theorem dL_law_3 : decode cL_law 3 = .ok (.dup, 1) := by decide +kernel
theorem dL_law_4 : decode cL_law 4 = .ok (.invokespecial 167, 3) := by decide +kernel
theorem dL_law_7 : decode cL_law 7 = .ok (.astore_n 1, 1) := by decide +kernel
theorem dL_law_8 : decode cL_law 8 = .ok (.new 9, 3) := by decide +kernel
theorem dL_law_11 : decode cL_law 11 = .ok (.dup, 1) := by decide +kernel
theorem dL_law_12 : decode cL_law 12 = .ok (.invokespecial 167, 3) := by decide +kernel
theorem dL_law_15 : decode cL_law 15 = .ok (.astore_n 2, 1) := by decide +kernel
theorem dL_law_16 : decode cL_law 16 = .ok (.iconst 1, 1) := by decide +kernel
theorem dL_law_17 : decode cL_law 17 = .ok (.istore_n 3, 1) := by decide +kernel
theorem dL_law_18 : decode cL_law 18 = .ok (.iconst 0, 1) := by decide +kernel
theorem dL_law_19 : decode cL_law 19 = .ok (.istore 4, 2) := by decide +kernel
theorem dL_law_21 : decode cL_law 21 = .ok (.iload 4, 2) := by decide +kernel
theorem dL_law_23 : decode cL_law 23 = .ok (.bipush 100, 2) := by decide +kernel
theorem dL_law_25 : decode cL_law 25 = .ok (.if_icmp .ge 267, 3) := by decide +kernel
theorem dL_law_28 : decode cL_law 28 = .ok (.iload_n 3, 1) := by decide +kernel
theorem dL_law_29 : decode cL_law 29 = .ok (.ifCond .eq 263, 3) := by decide +kernel
theorem dL_law_32 : decode cL_law 32 = .ok (.aload_n 0, 1) := by decide +kernel
theorem dL_law_33 : decode cL_law 33 = .ok (.iload 4, 2) := by decide +kernel
theorem dL_law_35 : decode cL_law 35 = .ok (.bipush 61, 2) := by decide +kernel
theorem dL_law_37 : decode cL_law 37 = .ok (.irem, 1) := by decide +kernel
theorem dL_law_38 : decode cL_law 38 = .ok (.invokestatic 168, 3) := by decide +kernel
theorem dL_law_41 : decode cL_law 41 = .ok (.sipush 1321, 3) := by decide +kernel
theorem dL_law_44 : decode cL_law 44 = .ok (.iload 4, 2) := by decide +kernel
theorem dL_law_46 : decode cL_law 46 = .ok (.bipush 61, 2) := by decide +kernel
theorem dL_law_48 : decode cL_law 48 = .ok (.idiv, 1) := by decide +kernel
theorem dL_law_49 : decode cL_law 49 = .ok (.imul, 1) := by decide +kernel
theorem dL_law_50 : decode cL_law 50 = .ok (.iadd, 1) := by decide +kernel
theorem dL_law_51 : decode cL_law 51 = .ok (.istore 5, 2) := by decide +kernel
theorem dL_law_53 : decode cL_law 53 = .ok (.aload_n 1, 1) := by decide +kernel
theorem dL_law_54 : decode cL_law 54 = .ok (.iload 5, 2) := by decide +kernel
theorem dL_law_56 : decode cL_law 56 = .ok (.invokestatic 172, 3) := by decide +kernel
theorem dL_law_59 : decode cL_law 59 = .ok (.istore 6, 2) := by decide +kernel
theorem dL_law_61 : decode cL_law 61 = .ok (.iload 6, 2) := by decide +kernel
theorem dL_law_63 : decode cL_law 63 = .ok (.ldc 58, 2) := by decide +kernel
theorem dL_law_65 : decode cL_law 65 = .ok (.if_icmp .eq 14, 3) := by decide +kernel
theorem dL_law_68 : decode cL_law 68 = .ok (.aload_n 2, 1) := by decide +kernel
theorem dL_law_69 : decode cL_law 69 = .ok (.iload 5, 2) := by decide +kernel
theorem dL_law_71 : decode cL_law 71 = .ok (.invokestatic 172, 3) := by decide +kernel
theorem dL_law_74 : decode cL_law 74 = .ok (.iload 6, 2) := by decide +kernel
theorem dL_law_76 : decode cL_law 76 = .ok (.if_icmp .ne 44, 3) := by decide +kernel
theorem dL_law_79 : decode cL_law 79 = .ok (.iload 4, 2) := by decide +kernel
theorem dL_law_81 : decode cL_law 81 = .ok (.bipush 6, 2) := by decide +kernel
theorem dL_law_83 : decode cL_law 83 = .ok (.irem, 1) := by decide +kernel
theorem dL_law_84 : decode cL_law 84 = .ok (.iconst 3, 1) := by decide +kernel
theorem dL_law_85 : decode cL_law 85 = .ok (.if_icmp .ne 11, 3) := by decide +kernel
theorem dL_law_88 : decode cL_law 88 = .ok (.aload_n 1, 1) := by decide +kernel
theorem dL_law_89 : decode cL_law 89 = .ok (.aload_n 2, 1) := by decide +kernel
theorem dL_law_90 : decode cL_law 90 = .ok (.invokestatic 175, 3) := by decide +kernel
theorem dL_law_93 : decode cL_law 93 = .ok (.ifCond .eq 27, 3) := by decide +kernel
theorem dL_law_96 : decode cL_law 96 = .ok (.iload 4, 2) := by decide +kernel
theorem dL_law_98 : decode cL_law 98 = .ok (.iconst 4, 1) := by decide +kernel
theorem dL_law_99 : decode cL_law 99 = .ok (.irem, 1) := by decide +kernel
theorem dL_law_100 : decode cL_law 100 = .ok (.iconst 1, 1) := by decide +kernel
theorem dL_law_101 : decode cL_law 101 = .ok (.if_icmp .ne 15, 3) := by decide +kernel
theorem dL_law_104 : decode cL_law 104 = .ok (.aload_n 1, 1) := by decide +kernel
theorem dL_law_105 : decode cL_law 105 = .ok (.iload 5, 2) := by decide +kernel
theorem dL_law_107 : decode cL_law 107 = .ok (.bipush 6, 2) := by decide +kernel
theorem dL_law_109 : decode cL_law 109 = .ok (.ishr, 1) := by decide +kernel
theorem dL_law_110 : decode cL_law 110 = .ok (.invokestatic 179, 3) := by decide +kernel
theorem dL_law_113 : decode cL_law 113 = .ok (.ifCond .eq 7, 3) := by decide +kernel
theorem dL_law_116 : decode cL_law 116 = .ok (.iconst 1, 1) := by decide +kernel
theorem dL_law_117 : decode cL_law 117 = .ok (.goto 4, 3) := by decide +kernel
theorem dL_law_120 : decode cL_law 120 = .ok (.iconst 0, 1) := by decide +kernel
theorem dL_law_121 : decode cL_law 121 = .ok (.istore_n 3, 1) := by decide +kernel
theorem dL_law_122 : decode cL_law 122 = .ok (.iload 4, 2) := by decide +kernel
theorem dL_law_124 : decode cL_law 124 = .ok (.iconst 5, 1) := by decide +kernel
theorem dL_law_125 : decode cL_law 125 = .ok (.irem, 1) := by decide +kernel
theorem dL_law_126 : decode cL_law 126 = .ok (.iconst 2, 1) := by decide +kernel
theorem dL_law_127 : decode cL_law 127 = .ok (.if_icmp .ne 53, 3) := by decide +kernel
theorem dL_law_130 : decode cL_law 130 = .ok (.iload_n 3, 1) := by decide +kernel
theorem dL_law_131 : decode cL_law 131 = .ok (.ifCond .eq 47, 3) := by decide +kernel
theorem dL_law_134 : decode cL_law 134 = .ok (.aload_n 1, 1) := by decide +kernel
theorem dL_law_135 : decode cL_law 135 = .ok (.aload_n 2, 1) := by decide +kernel
theorem dL_law_136 : decode cL_law 136 = .ok (.iload 5, 2) := by decide +kernel
theorem dL_law_138 : decode cL_law 138 = .ok (.bipush 6, 2) := by decide +kernel
theorem dL_law_140 : decode cL_law 140 = .ok (.ishr, 1) := by decide +kernel
theorem dL_law_141 : decode cL_law 141 = .ok (.iconst 4, 1) := by decide +kernel
theorem dL_law_142 : decode cL_law 142 = .ok (.invokestatic 93, 3) := by decide +kernel
theorem dL_law_145 : decode cL_law 145 = .ok (.iload 5, 2) := by decide +kernel
theorem dL_law_147 : decode cL_law 147 = .ok (.bipush 8, 2) := by decide +kernel
theorem dL_law_149 : decode cL_law 149 = .ok (.ishr, 1) := by decide +kernel
theorem dL_law_150 : decode cL_law 150 = .ok (.bipush 40, 2) := by decide +kernel
theorem dL_law_152 : decode cL_law 152 = .ok (.invokestatic 93, 3) := by decide +kernel
theorem dL_law_155 : decode cL_law 155 = .ok (.iconst 1, 1) := by decide +kernel
theorem dL_law_156 : decode cL_law 156 = .ok (.iload 5, 2) := by decide +kernel
theorem dL_law_158 : decode cL_law 158 = .ok (.bipush 10, 2) := by decide +kernel
theorem dL_law_160 : decode cL_law 160 = .ok (.ishr, 1) := by decide +kernel
theorem dL_law_161 : decode cL_law 161 = .ok (.sipush 2000, 3) := by decide +kernel
theorem dL_law_164 : decode cL_law 164 = .ok (.invokestatic 93, 3) := by decide +kernel
theorem dL_law_167 : decode cL_law 167 = .ok (.iadd, 1) := by decide +kernel
theorem dL_law_168 : decode cL_law 168 = .ok (.invokestatic 183, 3) := by decide +kernel
theorem dL_law_171 : decode cL_law 171 = .ok (.ifCond .eq 7, 3) := by decide +kernel
theorem dL_law_174 : decode cL_law 174 = .ok (.iconst 1, 1) := by decide +kernel
theorem dL_law_175 : decode cL_law 175 = .ok (.goto 4, 3) := by decide +kernel
theorem dL_law_178 : decode cL_law 178 = .ok (.iconst 0, 1) := by decide +kernel
theorem dL_law_179 : decode cL_law 179 = .ok (.istore_n 3, 1) := by decide +kernel
theorem dL_law_180 : decode cL_law 180 = .ok (.iload 4, 2) := by decide +kernel
theorem dL_law_182 : decode cL_law 182 = .ok (.bipush 9, 2) := by decide +kernel
theorem dL_law_184 : decode cL_law 184 = .ok (.irem, 1) := by decide +kernel
theorem dL_law_185 : decode cL_law 185 = .ok (.bipush 7, 2) := by decide +kernel
theorem dL_law_187 : decode cL_law 187 = .ok (.if_icmp .ne 52, 3) := by decide +kernel
theorem dL_law_190 : decode cL_law 190 = .ok (.iload_n 3, 1) := by decide +kernel
theorem dL_law_191 : decode cL_law 191 = .ok (.ifCond .eq 46, 3) := by decide +kernel
theorem dL_law_194 : decode cL_law 194 = .ok (.aload_n 1, 1) := by decide +kernel
theorem dL_law_195 : decode cL_law 195 = .ok (.aload_n 2, 1) := by decide +kernel
theorem dL_law_196 : decode cL_law 196 = .ok (.iload 5, 2) := by decide +kernel
theorem dL_law_198 : decode cL_law 198 = .ok (.bipush 6, 2) := by decide +kernel
theorem dL_law_200 : decode cL_law 200 = .ok (.ishr, 1) := by decide +kernel
theorem dL_law_201 : decode cL_law 201 = .ok (.iconst 4, 1) := by decide +kernel
theorem dL_law_202 : decode cL_law 202 = .ok (.invokestatic 93, 3) := by decide +kernel
theorem dL_law_205 : decode cL_law 205 = .ok (.iload 5, 2) := by decide +kernel
theorem dL_law_207 : decode cL_law 207 = .ok (.bipush 8, 2) := by decide +kernel
theorem dL_law_209 : decode cL_law 209 = .ok (.ishr, 1) := by decide +kernel
theorem dL_law_210 : decode cL_law 210 = .ok (.iconst 3, 1) := by decide +kernel
theorem dL_law_211 : decode cL_law 211 = .ok (.invokestatic 93, 3) := by decide +kernel
theorem dL_law_214 : decode cL_law 214 = .ok (.iconst 1, 1) := by decide +kernel
theorem dL_law_215 : decode cL_law 215 = .ok (.iload 5, 2) := by decide +kernel
theorem dL_law_217 : decode cL_law 217 = .ok (.bipush 10, 2) := by decide +kernel
theorem dL_law_219 : decode cL_law 219 = .ok (.ishr, 1) := by decide +kernel
theorem dL_law_220 : decode cL_law 220 = .ok (.sipush 10000, 3) := by decide +kernel
theorem dL_law_223 : decode cL_law 223 = .ok (.invokestatic 93, 3) := by decide +kernel
theorem dL_law_226 : decode cL_law 226 = .ok (.iadd, 1) := by decide +kernel
theorem dL_law_227 : decode cL_law 227 = .ok (.invokestatic 187, 3) := by decide +kernel
theorem dL_law_230 : decode cL_law 230 = .ok (.ifCond .eq 7, 3) := by decide +kernel
theorem dL_law_233 : decode cL_law 233 = .ok (.iconst 1, 1) := by decide +kernel
theorem dL_law_234 : decode cL_law 234 = .ok (.goto 4, 3) := by decide +kernel
theorem dL_law_237 : decode cL_law 237 = .ok (.iconst 0, 1) := by decide +kernel
theorem dL_law_238 : decode cL_law 238 = .ok (.istore_n 3, 1) := by decide +kernel
theorem dL_law_239 : decode cL_law 239 = .ok (.iload 4, 2) := by decide +kernel
theorem dL_law_241 : decode cL_law 241 = .ok (.bipush 23, 2) := by decide +kernel
theorem dL_law_243 : decode cL_law 243 = .ok (.irem, 1) := by decide +kernel
theorem dL_law_244 : decode cL_law 244 = .ok (.bipush 15, 2) := by decide +kernel
theorem dL_law_246 : decode cL_law 246 = .ok (.if_icmp .ne 40, 3) := by decide +kernel
theorem dL_law_249 : decode cL_law 249 = .ok (.iload_n 3, 1) := by decide +kernel
theorem dL_law_250 : decode cL_law 250 = .ok (.ifCond .eq 34, 3) := by decide +kernel
theorem dL_law_253 : decode cL_law 253 = .ok (.aload_n 1, 1) := by decide +kernel
theorem dL_law_254 : decode cL_law 254 = .ok (.aload_n 2, 1) := by decide +kernel
theorem dL_law_255 : decode cL_law 255 = .ok (.iload 5, 2) := by decide +kernel
theorem dL_law_257 : decode cL_law 257 = .ok (.bipush 6, 2) := by decide +kernel
theorem dL_law_259 : decode cL_law 259 = .ok (.ishr, 1) := by decide +kernel
theorem dL_law_260 : decode cL_law 260 = .ok (.iconst 4, 1) := by decide +kernel
theorem dL_law_261 : decode cL_law 261 = .ok (.invokestatic 93, 3) := by decide +kernel
theorem dL_law_264 : decode cL_law 264 = .ok (.iload 5, 2) := by decide +kernel
theorem dL_law_266 : decode cL_law 266 = .ok (.bipush 8, 2) := by decide +kernel
theorem dL_law_268 : decode cL_law 268 = .ok (.ishr, 1) := by decide +kernel
theorem dL_law_269 : decode cL_law 269 = .ok (.bipush 64, 2) := by decide +kernel
theorem dL_law_271 : decode cL_law 271 = .ok (.invokestatic 93, 3) := by decide +kernel
theorem dL_law_274 : decode cL_law 274 = .ok (.invokestatic 190, 3) := by decide +kernel
theorem dL_law_277 : decode cL_law 277 = .ok (.ifCond .eq 7, 3) := by decide +kernel
theorem dL_law_280 : decode cL_law 280 = .ok (.iconst 1, 1) := by decide +kernel
theorem dL_law_281 : decode cL_law 281 = .ok (.goto 4, 3) := by decide +kernel
theorem dL_law_284 : decode cL_law 284 = .ok (.iconst 0, 1) := by decide +kernel
theorem dL_law_285 : decode cL_law 285 = .ok (.istore_n 3, 1) := by decide +kernel
theorem dL_law_286 : decode cL_law 286 = .ok (.iinc 4 1, 3) := by decide +kernel
theorem dL_law_289 : decode cL_law 289 = .ok (.goto (-268), 3) := by decide +kernel
theorem dL_law_292 : decode cL_law 292 = .ok (.iload_n 3, 1) := by decide +kernel
theorem dL_law_293 : decode cL_law 293 = .ok (.ifCond .eq 23, 3) := by decide +kernel
theorem dL_law_296 : decode cL_law 296 = .ok (.aload_n 1, 1) := by decide +kernel
theorem dL_law_297 : decode cL_law 297 = .ok (.aload_n 2, 1) := by decide +kernel
theorem dL_law_298 : decode cL_law 298 = .ok (.invokestatic 175, 3) := by decide +kernel
theorem dL_law_301 : decode cL_law 301 = .ok (.ifCond .eq 15, 3) := by decide +kernel
theorem dL_law_304 : decode cL_law 304 = .ok (.aload_n 1, 1) := by decide +kernel
theorem dL_law_305 : decode cL_law 305 = .ok (.iconst 0, 1) := by decide +kernel
theorem dL_law_306 : decode cL_law 306 = .ok (.invokestatic 179, 3) := by decide +kernel
theorem dL_law_309 : decode cL_law 309 = .ok (.ifCond .eq 7, 3) := by decide +kernel
theorem dL_law_312 : decode cL_law 312 = .ok (.iconst 1, 1) := by decide +kernel
theorem dL_law_313 : decode cL_law 313 = .ok (.goto 4, 3) := by decide +kernel
theorem dL_law_316 : decode cL_law 316 = .ok (.iconst 0, 1) := by decide +kernel
theorem dL_law_317 : decode cL_law 317 = .ok (.ireturn, 1) := by decide +kernel
