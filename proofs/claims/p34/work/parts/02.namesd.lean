theorem dL_law_508 : decode cL_law 508 = .ok (.if_icmp .ge 35, 3) := by decide +kernel
theorem dL_law_511 : decode cL_law 511 = .ok (.aload 6, 2) := by decide +kernel
theorem dL_law_513 : decode cL_law 513 = .ok (.getfield 112, 3) := by decide +kernel
theorem dL_law_516 : decode cL_law 516 = .ok (.iload 8, 2) := by decide +kernel
theorem dL_law_518 : decode cL_law 518 = .ok (.ishr, 1) := by decide +kernel
theorem dL_law_519 : decode cL_law 519 = .ok (.iconst 1, 1) := by decide +kernel
theorem dL_law_520 : decode cL_law 520 = .ok (.iand, 1) := by decide +kernel
theorem dL_law_521 : decode cL_law 521 = .ok (.iconst 1, 1) := by decide +kernel
theorem dL_law_522 : decode cL_law 522 = .ok (.if_icmp .ne 15, 3) := by decide +kernel
theorem dL_law_525 : decode cL_law 525 = .ok (.aload_n 3, 1) := by decide +kernel
theorem dL_law_526 : decode cL_law 526 = .ok (.bipush 32, 2) := by decide +kernel
theorem dL_law_528 : decode cL_law 528 = .ok (.invokevirtual 43, 3) := by decide +kernel
theorem dL_law_531 : decode cL_law 531 = .ok (.iload 8, 2) := by decide +kernel
theorem dL_law_533 : decode cL_law 533 = .ok (.invokevirtual 46, 3) := by decide +kernel
theorem dL_law_536 : decode cL_law 536 = .ok (.pop, 1) := by decide +kernel
theorem dL_law_537 : decode cL_law 537 = .ok (.iinc 8 1, 3) := by decide +kernel
theorem dL_law_540 : decode cL_law 540 = .ok (.goto (-36), 3) := by decide +kernel
theorem dL_law_543 : decode cL_law 543 = .ok (.aload_n 3, 1) := by decide +kernel
theorem dL_law_544 : decode cL_law 544 = .ok (.aload 6, 2) := by decide +kernel
theorem dL_law_546 : decode cL_law 546 = .ok (.getfield 108, 3) := by decide +kernel
theorem dL_law_549 : decode cL_law 549 = .ok (.ifCond .eq 8, 3) := by decide +kernel
theorem dL_law_552 : decode cL_law 552 = .ok (.ldc 145, 2) := by decide +kernel
theorem dL_law_554 : decode cL_law 554 = .ok (.goto 5, 3) := by decide +kernel
theorem dL_law_557 : decode cL_law 557 = .ok (.ldc 147, 2) := by decide +kernel
theorem dL_law_559 : decode cL_law 559 = .ok (.invokevirtual 54, 3) := by decide +kernel
theorem dL_law_562 : decode cL_law 562 = .ok (.pop, 1) := by decide +kernel
theorem dL_law_563 : decode cL_law 563 = .ok (.iload 5, 2) := by decide +kernel
theorem dL_law_565 : decode cL_law 565 = .ok (.ifCond .le 16, 3) := by decide +kernel
theorem dL_law_568 : decode cL_law 568 = .ok (.aload 4, 2) := by decide +kernel
theorem dL_law_570 : decode cL_law 570 = .ok (.bipush 44, 2) := by decide +kernel
theorem dL_law_572 : decode cL_law 572 = .ok (.invokevirtual 43, 3) := by decide +kernel
theorem dL_law_575 : decode cL_law 575 = .ok (.iload 5, 2) := by decide +kernel
theorem dL_law_577 : decode cL_law 577 = .ok (.invokevirtual 46, 3) := by decide +kernel
theorem dL_law_580 : decode cL_law 580 = .ok (.pop, 1) := by decide +kernel
theorem dL_law_581 : decode cL_law 581 = .ok (.iinc 5 1, 3) := by decide +kernel
theorem dL_law_584 : decode cL_law 584 = .ok (.goto (-397), 3) := by decide +kernel
theorem dL_law_587 : decode cL_law 587 = .ok (.aload_n 3, 1) := by decide +kernel
theorem dL_law_588 : decode cL_law 588 = .ok (.ldc 149, 2) := by decide +kernel
theorem dL_law_590 : decode cL_law 590 = .ok (.invokevirtual 54, 3) := by decide +kernel
theorem dL_law_593 : decode cL_law 593 = .ok (.aload_n 1, 1) := by decide +kernel
theorem dL_law_594 : decode cL_law 594 = .ok (.getfield 78, 3) := by decide +kernel
theorem dL_law_597 : decode cL_law 597 = .ok (.ifCond .ne 38, 3) := by decide +kernel
theorem dL_law_600 : decode cL_law 600 = .ok (.new 40, 3) := by decide +kernel
theorem dL_law_603 : decode cL_law 603 = .ok (.dup, 1) := by decide +kernel
theorem dL_law_604 : decode cL_law 604 = .ok (.invokespecial 42, 3) := by decide +kernel
theorem dL_law_607 : decode cL_law 607 = .ok (.aload_n 1, 1) := by decide +kernel
theorem dL_law_608 : decode cL_law 608 = .ok (.getfield 81, 3) := by decide +kernel
theorem dL_law_611 : decode cL_law 611 = .ok (.invokevirtual 46, 3) := by decide +kernel
theorem dL_law_614 : decode cL_law 614 = .ok (.ldc 151, 2) := by decide +kernel
theorem dL_law_616 : decode cL_law 616 = .ok (.invokevirtual 54, 3) := by decide +kernel
theorem dL_law_619 : decode cL_law 619 = .ok (.aload 4, 2) := by decide +kernel
theorem dL_law_621 : decode cL_law 621 = .ok (.invokevirtual 57, 3) := by decide +kernel
theorem dL_law_624 : decode cL_law 624 = .ok (.ldc 153, 2) := by decide +kernel
theorem dL_law_626 : decode cL_law 626 = .ok (.invokevirtual 54, 3) := by decide +kernel
theorem dL_law_629 : decode cL_law 629 = .ok (.invokevirtual 60, 3) := by decide +kernel
theorem dL_law_632 : decode cL_law 632 = .ok (.goto 18, 3) := by decide +kernel
theorem dL_law_635 : decode cL_law 635 = .ok (.aload_n 1, 1) := by decide +kernel
theorem dL_law_636 : decode cL_law 636 = .ok (.getfield 78, 3) := by decide +kernel
theorem dL_law_639 : decode cL_law 639 = .ok (.iconst 1, 1) := by decide +kernel
theorem dL_law_640 : decode cL_law 640 = .ok (.if_icmp .ne 8, 3) := by decide +kernel
theorem dL_law_643 : decode cL_law 643 = .ok (.ldc 155, 2) := by decide +kernel
theorem dL_law_645 : decode cL_law 645 = .ok (.goto 5, 3) := by decide +kernel
theorem dL_law_648 : decode cL_law 648 = .ok (.ldc 157, 2) := by decide +kernel
theorem dL_law_650 : decode cL_law 650 = .ok (.invokevirtual 54, 3) := by decide +kernel
theorem dL_law_653 : decode cL_law 653 = .ok (.ldc 147, 2) := by decide +kernel
theorem dL_law_655 : decode cL_law 655 = .ok (.invokevirtual 54, 3) := by decide +kernel
theorem dL_law_658 : decode cL_law 658 = .ok (.pop, 1) := by decide +kernel
theorem dL_law_659 : decode cL_law 659 = .ok (.new 19, 3) := by decide +kernel
theorem dL_law_662 : decode cL_law 662 = .ok (.dup, 1) := by decide +kernel
theorem dL_law_663 : decode cL_law 663 = .ok (.invokespecial 159, 3) := by decide +kernel
theorem dL_law_666 : decode cL_law 666 = .ok (.astore 5, 2) := by decide +kernel
theorem dL_law_668 : decode cL_law 668 = .ok (.aload 5, 2) := by decide +kernel
theorem dL_law_670 : decode cL_law 670 = .ok (.aload_n 3, 1) := by decide +kernel
theorem dL_law_671 : decode cL_law 671 = .ok (.invokevirtual 60, 3) := by decide +kernel
theorem dL_law_674 : decode cL_law 674 = .ok (.invokestatic 160, 3) := by decide +kernel
theorem dL_law_677 : decode cL_law 677 = .ok (.iconst 1, 1) := by decide +kernel
theorem dL_law_678 : decode cL_law 678 = .ok (.if_icmp .ne 12, 3) := by decide +kernel
theorem dL_law_681 : decode cL_law 681 = .ok (.aload_n 1, 1) := by decide +kernel
theorem dL_law_682 : decode cL_law 682 = .ok (.aload 5, 2) := by decide +kernel
theorem dL_law_684 : decode cL_law 684 = .ok (.invokevirtual 163, 3) := by decide +kernel
theorem dL_law_687 : decode cL_law 687 = .ok (.ifCond .ne 5, 3) := by decide +kernel
theorem dL_law_690 : decode cL_law 690 = .ok (.iconst 0, 1) := by decide +kernel
theorem dL_law_691 : decode cL_law 691 = .ok (.ireturn, 1) := by decide +kernel
theorem dL_law_692 : decode cL_law 692 = .ok (.iconst 0, 1) := by decide +kernel
theorem dL_law_693 : decode cL_law 693 = .ok (.istore 6, 2) := by decide +kernel
theorem dL_law_695 : decode cL_law 695 = .ok (.iload 6, 2) := by decide +kernel
theorem dL_law_697 : decode cL_law 697 = .ok (.bipush 10, 2) := by decide +kernel
theorem dL_law_699 : decode cL_law 699 = .ok (.if_icmp .ge 170, 3) := by decide +kernel
theorem dL_law_702 : decode cL_law 702 = .ok (.aload_n 0, 1) := by decide +kernel
theorem dL_law_703 : decode cL_law 703 = .ok (.bipush 8, 2) := by decide +kernel
theorem dL_law_705 : decode cL_law 705 = .ok (.iload 6, 2) := by decide +kernel
theorem dL_law_707 : decode cL_law 707 = .ok (.iadd, 1) := by decide +kernel
theorem dL_law_708 : decode cL_law 708 = .ok (.invokestatic 67, 3) := by decide +kernel
theorem dL_law_711 : decode cL_law 711 = .ok (.istore 7, 2) := by decide +kernel
theorem dL_law_713 : decode cL_law 713 = .ok (.iload 7, 2) := by decide +kernel
theorem dL_law_715 : decode cL_law 715 = .ok (.iload_n 2, 1) := by decide +kernel
theorem dL_law_716 : decode cL_law 716 = .ok (.invokestatic 71, 3) := by decide +kernel
theorem dL_law_719 : decode cL_law 719 = .ok (.istore 8, 2) := by decide +kernel
theorem dL_law_721 : decode cL_law 721 = .ok (.iconst (-1), 1) := by decide +kernel
theorem dL_law_722 : decode cL_law 722 = .ok (.istore 9, 2) := by decide +kernel
theorem dL_law_724 : decode cL_law 724 = .ok (.iload 7, 2) := by decide +kernel
theorem dL_law_726 : decode cL_law 726 = .ok (.iconst 5, 1) := by decide +kernel
theorem dL_law_727 : decode cL_law 727 = .ok (.ishr, 1) := by decide +kernel
theorem dL_law_728 : decode cL_law 728 = .ok (.iconst 3, 1) := by decide +kernel
theorem dL_law_729 : decode cL_law 729 = .ok (.iand, 1) := by decide +kernel
theorem dL_law_730 : decode cL_law 730 = .ok (.ifCond .ne 40, 3) := by decide +kernel
theorem dL_law_733 : decode cL_law 733 = .ok (.aload 5, 2) := by decide +kernel
theorem dL_law_735 : decode cL_law 735 = .ok (.bipush 6, 2) := by decide +kernel
theorem dL_law_737 : decode cL_law 737 = .ok (.invokevirtual 167, 3) := by decide +kernel
theorem dL_law_740 : decode cL_law 740 = .ok (.ifCond .ne 30, 3) := by decide +kernel
theorem dL_law_743 : decode cL_law 743 = .ok (.iload 7, 2) := by decide +kernel
theorem dL_law_745 : decode cL_law 745 = .ok (.bipush 8, 2) := by decide +kernel
theorem dL_law_747 : decode cL_law 747 = .ok (.ishr, 1) := by decide +kernel
theorem dL_law_748 : decode cL_law 748 = .ok (.bipush 100, 2) := by decide +kernel
theorem dL_law_750 : decode cL_law 750 = .ok (.invokestatic 71, 3) := by decide +kernel
theorem dL_law_753 : decode cL_law 753 = .ok (.istore 9, 2) := by decide +kernel
theorem dL_law_755 : decode cL_law 755 = .ok (.aload 5, 2) := by decide +kernel
theorem dL_law_757 : decode cL_law 757 = .ok (.iload 9, 2) := by decide +kernel
theorem dL_law_759 : decode cL_law 759 = .ok (.bipush 50, 2) := by decide +kernel
theorem dL_law_761 : decode cL_law 761 = .ok (.invokevirtual 170, 3) := by decide +kernel
theorem dL_law_764 : decode cL_law 764 = .ok (.iconst 2, 1) := by decide +kernel
theorem dL_law_765 : decode cL_law 765 = .ok (.if_icmp .eq 5, 3) := by decide +kernel
theorem dL_law_768 : decode cL_law 768 = .ok (.iconst 0, 1) := by decide +kernel
theorem dL_law_769 : decode cL_law 769 = .ok (.ireturn, 1) := by decide +kernel
theorem dL_law_770 : decode cL_law 770 = .ok (.aload 5, 2) := by decide +kernel
theorem dL_law_772 : decode cL_law 772 = .ok (.bipush 6, 2) := by decide +kernel
theorem dL_law_774 : decode cL_law 774 = .ok (.invokevirtual 167, 3) := by decide +kernel
theorem dL_law_777 : decode cL_law 777 = .ok (.istore 10, 2) := by decide +kernel
theorem dL_law_779 : decode cL_law 779 = .ok (.aload_n 1, 1) := by decide +kernel
theorem dL_law_780 : decode cL_law 780 = .ok (.iload 8, 2) := by decide +kernel
theorem dL_law_782 : decode cL_law 782 = .ok (.iload 10, 2) := by decide +kernel
theorem dL_law_784 : decode cL_law 784 = .ok (.ifCond .ne 7, 3) := by decide +kernel
theorem dL_law_787 : decode cL_law 787 = .ok (.iconst (-1), 1) := by decide +kernel
theorem dL_law_788 : decode cL_law 788 = .ok (.goto 16, 3) := by decide +kernel
theorem dL_law_791 : decode cL_law 791 = .ok (.iload 10, 2) := by decide +kernel
theorem dL_law_793 : decode cL_law 793 = .ok (.iconst 2, 1) := by decide +kernel
theorem dL_law_794 : decode cL_law 794 = .ok (.if_icmp .ne 8, 3) := by decide +kernel
theorem dL_law_797 : decode cL_law 797 = .ok (.iload 9, 2) := by decide +kernel
theorem dL_law_799 : decode cL_law 799 = .ok (.goto 5, 3) := by decide +kernel
theorem dL_law_802 : decode cL_law 802 = .ok (.bipush 50, 2) := by decide +kernel
theorem dL_law_804 : decode cL_law 804 = .ok (.invokevirtual 173, 3) := by decide +kernel
theorem dL_law_807 : decode cL_law 807 = .ok (.istore 11, 2) := by decide +kernel
theorem dL_law_809 : decode cL_law 809 = .ok (.aload 5, 2) := by decide +kernel
theorem dL_law_811 : decode cL_law 811 = .ok (.iload 8, 2) := by decide +kernel
theorem dL_law_813 : decode cL_law 813 = .ok (.invokestatic 174, 3) := by decide +kernel
theorem dL_law_816 : decode cL_law 816 = .ok (.iload 11, 2) := by decide +kernel
theorem dL_law_818 : decode cL_law 818 = .ok (.if_icmp .ne 12, 3) := by decide +kernel
theorem dL_law_821 : decode cL_law 821 = .ok (.aload_n 1, 1) := by decide +kernel
theorem dL_law_822 : decode cL_law 822 = .ok (.aload 5, 2) := by decide +kernel
theorem dL_law_824 : decode cL_law 824 = .ok (.invokevirtual 163, 3) := by decide +kernel
theorem dL_law_827 : decode cL_law 827 = .ok (.ifCond .ne 5, 3) := by decide +kernel
theorem dL_law_830 : decode cL_law 830 = .ok (.iconst 0, 1) := by decide +kernel
theorem dL_law_831 : decode cL_law 831 = .ok (.ireturn, 1) := by decide +kernel
theorem dL_law_832 : decode cL_law 832 = .ok (.iload 11, 2) := by decide +kernel
theorem dL_law_834 : decode cL_law 834 = .ok (.sipush (-1001), 3) := by decide +kernel
theorem dL_law_837 : decode cL_law 837 = .ok (.if_icmp .ne 26, 3) := by decide +kernel
theorem dL_law_840 : decode cL_law 840 = .ok (.iload 10, 2) := by decide +kernel
theorem dL_law_842 : decode cL_law 842 = .ok (.iconst 2, 1) := by decide +kernel
theorem dL_law_843 : decode cL_law 843 = .ok (.if_icmp .ne 20, 3) := by decide +kernel
theorem dL_law_846 : decode cL_law 846 = .ok (.aload 5, 2) := by decide +kernel
theorem dL_law_848 : decode cL_law 848 = .ok (.bipush 6, 2) := by decide +kernel
theorem dL_law_850 : decode cL_law 850 = .ok (.invokevirtual 167, 3) := by decide +kernel
theorem dL_law_853 : decode cL_law 853 = .ok (.iconst 2, 1) := by decide +kernel
theorem dL_law_854 : decode cL_law 854 = .ok (.if_icmp .ne 7, 3) := by decide +kernel
theorem dL_law_857 : decode cL_law 857 = .ok (.iconst 1, 1) := by decide +kernel
theorem dL_law_858 : decode cL_law 858 = .ok (.goto 4, 3) := by decide +kernel
theorem dL_law_861 : decode cL_law 861 = .ok (.iconst 0, 1) := by decide +kernel
theorem dL_law_862 : decode cL_law 862 = .ok (.ireturn, 1) := by decide +kernel
theorem dL_law_863 : decode cL_law 863 = .ok (.iinc 6 1, 3) := by decide +kernel
theorem dL_law_866 : decode cL_law 866 = .ok (.goto (-171), 3) := by decide +kernel
theorem dL_law_869 : decode cL_law 869 = .ok (.iconst 1, 1) := by decide +kernel
theorem dL_law_870 : decode cL_law 870 = .ok (.ireturn, 1) := by decide +kernel
