theorem d_L_law_769 : decode cL_law 769 = .ok (.i2l, 1) := by decide +kernel
theorem d_L_law_770 : decode cL_law 770 = .ok (.lcmp, 1) := by decide +kernel
theorem d_L_law_771 : decode cL_law 771 = .ok (.ifCond .eq 5, 3) := by decide +kernel
theorem d_L_law_774 : decode cL_law 774 = .ok (.iconst 0, 1) := by decide +kernel
theorem d_L_law_775 : decode cL_law 775 = .ok (.ireturn, 1) := by decide +kernel
theorem d_L_law_776 : decode cL_law 776 = .ok (.goto 691, 3) := by decide +kernel
theorem d_L_law_779 : decode cL_law 779 = .ok (.aload_n 1, 1) := by decide +kernel
theorem d_L_law_780 : decode cL_law 780 = .ok (.aload_n 0, 1) := by decide +kernel
theorem d_L_law_781 : decode cL_law 781 = .ok (.iload 4, 2) := by decide +kernel
theorem d_L_law_783 : decode cL_law 783 = .ok (.iconst 1, 1) := by decide +kernel
theorem d_L_law_784 : decode cL_law 784 = .ok (.iadd, 1) := by decide +kernel
theorem d_L_law_785 : decode cL_law 785 = .ok (.iaload, 1) := by decide +kernel
theorem d_L_law_786 : decode cL_law 786 = .ok (.aload_n 0, 1) := by decide +kernel
theorem d_L_law_787 : decode cL_law 787 = .ok (.iload 4, 2) := by decide +kernel
theorem d_L_law_789 : decode cL_law 789 = .ok (.iconst 2, 1) := by decide +kernel
theorem d_L_law_790 : decode cL_law 790 = .ok (.iadd, 1) := by decide +kernel
theorem d_L_law_791 : decode cL_law 791 = .ok (.iaload, 1) := by decide +kernel
theorem d_L_law_792 : decode cL_law 792 = .ok (.aload_n 3, 1) := by decide +kernel
theorem d_L_law_793 : decode cL_law 793 = .ok (.invokestatic 120, 3) := by decide +kernel
theorem d_L_law_796 : decode cL_law 796 = .ok (.istore 5, 2) := by decide +kernel
theorem d_L_law_798 : decode cL_law 798 = .ok (.aload_n 2, 1) := by decide +kernel
theorem d_L_law_799 : decode cL_law 799 = .ok (.aload_n 0, 1) := by decide +kernel
theorem d_L_law_800 : decode cL_law 800 = .ok (.iload 4, 2) := by decide +kernel
theorem d_L_law_802 : decode cL_law 802 = .ok (.iconst 1, 1) := by decide +kernel
theorem d_L_law_803 : decode cL_law 803 = .ok (.iadd, 1) := by decide +kernel
theorem d_L_law_804 : decode cL_law 804 = .ok (.iaload, 1) := by decide +kernel
theorem d_L_law_805 : decode cL_law 805 = .ok (.aload_n 0, 1) := by decide +kernel
theorem d_L_law_806 : decode cL_law 806 = .ok (.iload 4, 2) := by decide +kernel
theorem d_L_law_808 : decode cL_law 808 = .ok (.iconst 2, 1) := by decide +kernel
theorem d_L_law_809 : decode cL_law 809 = .ok (.iadd, 1) := by decide +kernel
theorem d_L_law_810 : decode cL_law 810 = .ok (.iaload, 1) := by decide +kernel
theorem d_L_law_811 : decode cL_law 811 = .ok (.invokevirtual 122, 3) := by decide +kernel
theorem d_L_law_814 : decode cL_law 814 = .ok (.istore 6, 2) := by decide +kernel
theorem d_L_law_816 : decode cL_law 816 = .ok (.aload_n 2, 1) := by decide +kernel
theorem d_L_law_817 : decode cL_law 817 = .ok (.invokevirtual 85, 3) := by decide +kernel
theorem d_L_law_820 : decode cL_law 820 = .ok (.iload 5, 2) := by decide +kernel
theorem d_L_law_822 : decode cL_law 822 = .ok (.if_icmp .eq 5, 3) := by decide +kernel
theorem d_L_law_825 : decode cL_law 825 = .ok (.iconst 0, 1) := by decide +kernel
theorem d_L_law_826 : decode cL_law 826 = .ok (.ireturn, 1) := by decide +kernel
theorem d_L_law_827 : decode cL_law 827 = .ok (.iload 5, 2) := by decide +kernel
theorem d_L_law_829 : decode cL_law 829 = .ok (.ifCond .ne 15, 3) := by decide +kernel
theorem d_L_law_832 : decode cL_law 832 = .ok (.aload_n 3, 1) := by decide +kernel
theorem d_L_law_833 : decode cL_law 833 = .ok (.iconst 0, 1) := by decide +kernel
theorem d_L_law_834 : decode cL_law 834 = .ok (.laload, 1) := by decide +kernel
theorem d_L_law_835 : decode cL_law 835 = .ok (.iload 6, 2) := by decide +kernel
theorem d_L_law_837 : decode cL_law 837 = .ok (.i2l, 1) := by decide +kernel
theorem d_L_law_838 : decode cL_law 838 = .ok (.lcmp, 1) := by decide +kernel
theorem d_L_law_839 : decode cL_law 839 = .ok (.ifCond .eq 5, 3) := by decide +kernel
theorem d_L_law_842 : decode cL_law 842 = .ok (.iconst 0, 1) := by decide +kernel
theorem d_L_law_843 : decode cL_law 843 = .ok (.ireturn, 1) := by decide +kernel
theorem d_L_law_844 : decode cL_law 844 = .ok (.goto 623, 3) := by decide +kernel
theorem d_L_law_847 : decode cL_law 847 = .ok (.aload_n 1, 1) := by decide +kernel
theorem d_L_law_848 : decode cL_law 848 = .ok (.aload_n 0, 1) := by decide +kernel
theorem d_L_law_849 : decode cL_law 849 = .ok (.iload 4, 2) := by decide +kernel
theorem d_L_law_851 : decode cL_law 851 = .ok (.iconst 1, 1) := by decide +kernel
theorem d_L_law_852 : decode cL_law 852 = .ok (.iadd, 1) := by decide +kernel
theorem d_L_law_853 : decode cL_law 853 = .ok (.iaload, 1) := by decide +kernel
theorem d_L_law_854 : decode cL_law 854 = .ok (.aload_n 0, 1) := by decide +kernel
theorem d_L_law_855 : decode cL_law 855 = .ok (.iload 4, 2) := by decide +kernel
theorem d_L_law_857 : decode cL_law 857 = .ok (.iconst 2, 1) := by decide +kernel
theorem d_L_law_858 : decode cL_law 858 = .ok (.iadd, 1) := by decide +kernel
theorem d_L_law_859 : decode cL_law 859 = .ok (.iaload, 1) := by decide +kernel
theorem d_L_law_860 : decode cL_law 860 = .ok (.aload_n 3, 1) := by decide +kernel
theorem d_L_law_861 : decode cL_law 861 = .ok (.invokestatic 123, 3) := by decide +kernel
theorem d_L_law_864 : decode cL_law 864 = .ok (.istore 5, 2) := by decide +kernel
theorem d_L_law_866 : decode cL_law 866 = .ok (.aload_n 2, 1) := by decide +kernel
theorem d_L_law_867 : decode cL_law 867 = .ok (.aload_n 0, 1) := by decide +kernel
theorem d_L_law_868 : decode cL_law 868 = .ok (.iload 4, 2) := by decide +kernel
theorem d_L_law_870 : decode cL_law 870 = .ok (.iconst 1, 1) := by decide +kernel
theorem d_L_law_871 : decode cL_law 871 = .ok (.iadd, 1) := by decide +kernel
theorem d_L_law_872 : decode cL_law 872 = .ok (.iaload, 1) := by decide +kernel
theorem d_L_law_873 : decode cL_law 873 = .ok (.aload_n 0, 1) := by decide +kernel
theorem d_L_law_874 : decode cL_law 874 = .ok (.iload 4, 2) := by decide +kernel
theorem d_L_law_876 : decode cL_law 876 = .ok (.iconst 2, 1) := by decide +kernel
theorem d_L_law_877 : decode cL_law 877 = .ok (.iadd, 1) := by decide +kernel
theorem d_L_law_878 : decode cL_law 878 = .ok (.iaload, 1) := by decide +kernel
theorem d_L_law_879 : decode cL_law 879 = .ok (.invokevirtual 125, 3) := by decide +kernel
theorem d_L_law_882 : decode cL_law 882 = .ok (.istore 6, 2) := by decide +kernel
theorem d_L_law_884 : decode cL_law 884 = .ok (.aload_n 2, 1) := by decide +kernel
theorem d_L_law_885 : decode cL_law 885 = .ok (.invokevirtual 85, 3) := by decide +kernel
theorem d_L_law_888 : decode cL_law 888 = .ok (.iload 5, 2) := by decide +kernel
theorem d_L_law_890 : decode cL_law 890 = .ok (.if_icmp .eq 5, 3) := by decide +kernel
theorem d_L_law_893 : decode cL_law 893 = .ok (.iconst 0, 1) := by decide +kernel
theorem d_L_law_894 : decode cL_law 894 = .ok (.ireturn, 1) := by decide +kernel
theorem d_L_law_895 : decode cL_law 895 = .ok (.iload 5, 2) := by decide +kernel
theorem d_L_law_897 : decode cL_law 897 = .ok (.ifCond .ne 15, 3) := by decide +kernel
theorem d_L_law_900 : decode cL_law 900 = .ok (.aload_n 3, 1) := by decide +kernel
theorem d_L_law_901 : decode cL_law 901 = .ok (.iconst 0, 1) := by decide +kernel
theorem d_L_law_902 : decode cL_law 902 = .ok (.laload, 1) := by decide +kernel
theorem d_L_law_903 : decode cL_law 903 = .ok (.iload 6, 2) := by decide +kernel
theorem d_L_law_905 : decode cL_law 905 = .ok (.i2l, 1) := by decide +kernel
theorem d_L_law_906 : decode cL_law 906 = .ok (.lcmp, 1) := by decide +kernel
theorem d_L_law_907 : decode cL_law 907 = .ok (.ifCond .eq 5, 3) := by decide +kernel
theorem d_L_law_910 : decode cL_law 910 = .ok (.iconst 0, 1) := by decide +kernel
theorem d_L_law_911 : decode cL_law 911 = .ok (.ireturn, 1) := by decide +kernel
theorem d_L_law_912 : decode cL_law 912 = .ok (.goto 555, 3) := by decide +kernel
theorem d_L_law_915 : decode cL_law 915 = .ok (.aload_n 1, 1) := by decide +kernel
theorem d_L_law_916 : decode cL_law 916 = .ok (.aload_n 0, 1) := by decide +kernel
theorem d_L_law_917 : decode cL_law 917 = .ok (.iload 4, 2) := by decide +kernel
theorem d_L_law_919 : decode cL_law 919 = .ok (.iconst 1, 1) := by decide +kernel
theorem d_L_law_920 : decode cL_law 920 = .ok (.iadd, 1) := by decide +kernel
theorem d_L_law_921 : decode cL_law 921 = .ok (.iaload, 1) := by decide +kernel
theorem d_L_law_922 : decode cL_law 922 = .ok (.aload_n 0, 1) := by decide +kernel
theorem d_L_law_923 : decode cL_law 923 = .ok (.iload 4, 2) := by decide +kernel
theorem d_L_law_925 : decode cL_law 925 = .ok (.iconst 2, 1) := by decide +kernel
theorem d_L_law_926 : decode cL_law 926 = .ok (.iadd, 1) := by decide +kernel
theorem d_L_law_927 : decode cL_law 927 = .ok (.iaload, 1) := by decide +kernel
theorem d_L_law_928 : decode cL_law 928 = .ok (.aload_n 3, 1) := by decide +kernel
theorem d_L_law_929 : decode cL_law 929 = .ok (.invokestatic 126, 3) := by decide +kernel
theorem d_L_law_932 : decode cL_law 932 = .ok (.istore 5, 2) := by decide +kernel
