theorem d_L_law_600 : decode cL_law 600 = .ok (.aload_n 2, 1) := by decide +kernel
theorem d_L_law_601 : decode cL_law 601 = .ok (.aload_n 0, 1) := by decide +kernel
theorem d_L_law_602 : decode cL_law 602 = .ok (.iload 4, 2) := by decide +kernel
theorem d_L_law_604 : decode cL_law 604 = .ok (.iconst 1, 1) := by decide +kernel
theorem d_L_law_605 : decode cL_law 605 = .ok (.iadd, 1) := by decide +kernel
theorem d_L_law_606 : decode cL_law 606 = .ok (.iaload, 1) := by decide +kernel
theorem d_L_law_607 : decode cL_law 607 = .ok (.aload_n 0, 1) := by decide +kernel
theorem d_L_law_608 : decode cL_law 608 = .ok (.iload 4, 2) := by decide +kernel
theorem d_L_law_610 : decode cL_law 610 = .ok (.iconst 2, 1) := by decide +kernel
theorem d_L_law_611 : decode cL_law 611 = .ok (.iadd, 1) := by decide +kernel
theorem d_L_law_612 : decode cL_law 612 = .ok (.iaload, 1) := by decide +kernel
theorem d_L_law_613 : decode cL_law 613 = .ok (.aload_n 0, 1) := by decide +kernel
theorem d_L_law_614 : decode cL_law 614 = .ok (.iload 4, 2) := by decide +kernel
theorem d_L_law_616 : decode cL_law 616 = .ok (.iconst 3, 1) := by decide +kernel
theorem d_L_law_617 : decode cL_law 617 = .ok (.iadd, 1) := by decide +kernel
theorem d_L_law_618 : decode cL_law 618 = .ok (.iaload, 1) := by decide +kernel
theorem d_L_law_619 : decode cL_law 619 = .ok (.invokevirtual 113, 3) := by decide +kernel
theorem d_L_law_622 : decode cL_law 622 = .ok (.istore 6, 2) := by decide +kernel
theorem d_L_law_624 : decode cL_law 624 = .ok (.aload_n 2, 1) := by decide +kernel
theorem d_L_law_625 : decode cL_law 625 = .ok (.invokevirtual 85, 3) := by decide +kernel
theorem d_L_law_628 : decode cL_law 628 = .ok (.iload 5, 2) := by decide +kernel
theorem d_L_law_630 : decode cL_law 630 = .ok (.if_icmp .eq 5, 3) := by decide +kernel
theorem d_L_law_633 : decode cL_law 633 = .ok (.iconst 0, 1) := by decide +kernel
theorem d_L_law_634 : decode cL_law 634 = .ok (.ireturn, 1) := by decide +kernel
theorem d_L_law_635 : decode cL_law 635 = .ok (.iload 5, 2) := by decide +kernel
theorem d_L_law_637 : decode cL_law 637 = .ok (.ifCond .ne 15, 3) := by decide +kernel
theorem d_L_law_640 : decode cL_law 640 = .ok (.aload_n 3, 1) := by decide +kernel
theorem d_L_law_641 : decode cL_law 641 = .ok (.iconst 0, 1) := by decide +kernel
theorem d_L_law_642 : decode cL_law 642 = .ok (.laload, 1) := by decide +kernel
theorem d_L_law_643 : decode cL_law 643 = .ok (.iload 6, 2) := by decide +kernel
theorem d_L_law_645 : decode cL_law 645 = .ok (.i2l, 1) := by decide +kernel
theorem d_L_law_646 : decode cL_law 646 = .ok (.lcmp, 1) := by decide +kernel
theorem d_L_law_647 : decode cL_law 647 = .ok (.ifCond .eq 5, 3) := by decide +kernel
theorem d_L_law_650 : decode cL_law 650 = .ok (.iconst 0, 1) := by decide +kernel
theorem d_L_law_651 : decode cL_law 651 = .ok (.ireturn, 1) := by decide +kernel
theorem d_L_law_652 : decode cL_law 652 = .ok (.goto 815, 3) := by decide +kernel
theorem d_L_law_655 : decode cL_law 655 = .ok (.aload_n 1, 1) := by decide +kernel
theorem d_L_law_656 : decode cL_law 656 = .ok (.aload_n 0, 1) := by decide +kernel
theorem d_L_law_657 : decode cL_law 657 = .ok (.iload 4, 2) := by decide +kernel
theorem d_L_law_659 : decode cL_law 659 = .ok (.iconst 1, 1) := by decide +kernel
theorem d_L_law_660 : decode cL_law 660 = .ok (.iadd, 1) := by decide +kernel
theorem d_L_law_661 : decode cL_law 661 = .ok (.iaload, 1) := by decide +kernel
theorem d_L_law_662 : decode cL_law 662 = .ok (.aload_n 3, 1) := by decide +kernel
theorem d_L_law_663 : decode cL_law 663 = .ok (.invokestatic 114, 3) := by decide +kernel
theorem d_L_law_666 : decode cL_law 666 = .ok (.istore 5, 2) := by decide +kernel
theorem d_L_law_668 : decode cL_law 668 = .ok (.aload_n 2, 1) := by decide +kernel
theorem d_L_law_669 : decode cL_law 669 = .ok (.aload_n 0, 1) := by decide +kernel
theorem d_L_law_670 : decode cL_law 670 = .ok (.iload 4, 2) := by decide +kernel
theorem d_L_law_672 : decode cL_law 672 = .ok (.iconst 1, 1) := by decide +kernel
theorem d_L_law_673 : decode cL_law 673 = .ok (.iadd, 1) := by decide +kernel
theorem d_L_law_674 : decode cL_law 674 = .ok (.iaload, 1) := by decide +kernel
theorem d_L_law_675 : decode cL_law 675 = .ok (.invokevirtual 116, 3) := by decide +kernel
theorem d_L_law_678 : decode cL_law 678 = .ok (.istore 6, 2) := by decide +kernel
theorem d_L_law_680 : decode cL_law 680 = .ok (.aload_n 2, 1) := by decide +kernel
theorem d_L_law_681 : decode cL_law 681 = .ok (.invokevirtual 85, 3) := by decide +kernel
theorem d_L_law_684 : decode cL_law 684 = .ok (.iload 5, 2) := by decide +kernel
theorem d_L_law_686 : decode cL_law 686 = .ok (.if_icmp .eq 5, 3) := by decide +kernel
theorem d_L_law_689 : decode cL_law 689 = .ok (.iconst 0, 1) := by decide +kernel
theorem d_L_law_690 : decode cL_law 690 = .ok (.ireturn, 1) := by decide +kernel
theorem d_L_law_691 : decode cL_law 691 = .ok (.iload 5, 2) := by decide +kernel
theorem d_L_law_693 : decode cL_law 693 = .ok (.ifCond .ne 15, 3) := by decide +kernel
theorem d_L_law_696 : decode cL_law 696 = .ok (.aload_n 3, 1) := by decide +kernel
theorem d_L_law_697 : decode cL_law 697 = .ok (.iconst 0, 1) := by decide +kernel
theorem d_L_law_698 : decode cL_law 698 = .ok (.laload, 1) := by decide +kernel
theorem d_L_law_699 : decode cL_law 699 = .ok (.iload 6, 2) := by decide +kernel
theorem d_L_law_701 : decode cL_law 701 = .ok (.i2l, 1) := by decide +kernel
theorem d_L_law_702 : decode cL_law 702 = .ok (.lcmp, 1) := by decide +kernel
theorem d_L_law_703 : decode cL_law 703 = .ok (.ifCond .eq 5, 3) := by decide +kernel
theorem d_L_law_706 : decode cL_law 706 = .ok (.iconst 0, 1) := by decide +kernel
theorem d_L_law_707 : decode cL_law 707 = .ok (.ireturn, 1) := by decide +kernel
theorem d_L_law_708 : decode cL_law 708 = .ok (.goto 759, 3) := by decide +kernel
theorem d_L_law_711 : decode cL_law 711 = .ok (.aload_n 1, 1) := by decide +kernel
theorem d_L_law_712 : decode cL_law 712 = .ok (.aload_n 0, 1) := by decide +kernel
theorem d_L_law_713 : decode cL_law 713 = .ok (.iload 4, 2) := by decide +kernel
theorem d_L_law_715 : decode cL_law 715 = .ok (.iconst 1, 1) := by decide +kernel
theorem d_L_law_716 : decode cL_law 716 = .ok (.iadd, 1) := by decide +kernel
theorem d_L_law_717 : decode cL_law 717 = .ok (.iaload, 1) := by decide +kernel
theorem d_L_law_718 : decode cL_law 718 = .ok (.aload_n 0, 1) := by decide +kernel
theorem d_L_law_719 : decode cL_law 719 = .ok (.iload 4, 2) := by decide +kernel
theorem d_L_law_721 : decode cL_law 721 = .ok (.iconst 2, 1) := by decide +kernel
theorem d_L_law_722 : decode cL_law 722 = .ok (.iadd, 1) := by decide +kernel
theorem d_L_law_723 : decode cL_law 723 = .ok (.iaload, 1) := by decide +kernel
theorem d_L_law_724 : decode cL_law 724 = .ok (.aload_n 3, 1) := by decide +kernel
theorem d_L_law_725 : decode cL_law 725 = .ok (.invokestatic 117, 3) := by decide +kernel
theorem d_L_law_728 : decode cL_law 728 = .ok (.istore 5, 2) := by decide +kernel
theorem d_L_law_730 : decode cL_law 730 = .ok (.aload_n 2, 1) := by decide +kernel
theorem d_L_law_731 : decode cL_law 731 = .ok (.aload_n 0, 1) := by decide +kernel
theorem d_L_law_732 : decode cL_law 732 = .ok (.iload 4, 2) := by decide +kernel
theorem d_L_law_734 : decode cL_law 734 = .ok (.iconst 1, 1) := by decide +kernel
theorem d_L_law_735 : decode cL_law 735 = .ok (.iadd, 1) := by decide +kernel
theorem d_L_law_736 : decode cL_law 736 = .ok (.iaload, 1) := by decide +kernel
theorem d_L_law_737 : decode cL_law 737 = .ok (.aload_n 0, 1) := by decide +kernel
theorem d_L_law_738 : decode cL_law 738 = .ok (.iload 4, 2) := by decide +kernel
theorem d_L_law_740 : decode cL_law 740 = .ok (.iconst 2, 1) := by decide +kernel
theorem d_L_law_741 : decode cL_law 741 = .ok (.iadd, 1) := by decide +kernel
theorem d_L_law_742 : decode cL_law 742 = .ok (.iaload, 1) := by decide +kernel
theorem d_L_law_743 : decode cL_law 743 = .ok (.invokevirtual 119, 3) := by decide +kernel
theorem d_L_law_746 : decode cL_law 746 = .ok (.istore 6, 2) := by decide +kernel
theorem d_L_law_748 : decode cL_law 748 = .ok (.aload_n 2, 1) := by decide +kernel
theorem d_L_law_749 : decode cL_law 749 = .ok (.invokevirtual 85, 3) := by decide +kernel
theorem d_L_law_752 : decode cL_law 752 = .ok (.iload 5, 2) := by decide +kernel
theorem d_L_law_754 : decode cL_law 754 = .ok (.if_icmp .eq 5, 3) := by decide +kernel
theorem d_L_law_757 : decode cL_law 757 = .ok (.iconst 0, 1) := by decide +kernel
theorem d_L_law_758 : decode cL_law 758 = .ok (.ireturn, 1) := by decide +kernel
theorem d_L_law_759 : decode cL_law 759 = .ok (.iload 5, 2) := by decide +kernel
theorem d_L_law_761 : decode cL_law 761 = .ok (.ifCond .ne 15, 3) := by decide +kernel
theorem d_L_law_764 : decode cL_law 764 = .ok (.aload_n 3, 1) := by decide +kernel
theorem d_L_law_765 : decode cL_law 765 = .ok (.iconst 0, 1) := by decide +kernel
theorem d_L_law_766 : decode cL_law 766 = .ok (.laload, 1) := by decide +kernel
theorem d_L_law_767 : decode cL_law 767 = .ok (.iload 6, 2) := by decide +kernel
