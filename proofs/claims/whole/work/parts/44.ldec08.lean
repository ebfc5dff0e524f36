theorem dL_law_800 : decode code 800 = .ok (.iload 4, 2) := by decide +kernel
theorem dL_law_802 : decode code 802 = .ok (.iconst 3, 1) := by decide +kernel
theorem dL_law_803 : decode code 803 = .ok (.iadd, 1) := by decide +kernel
theorem dL_law_804 : decode code 804 = .ok (.iaload, 1) := by decide +kernel
theorem dL_law_805 : decode code 805 = .ok (.aload_n 3, 1) := by decide +kernel
theorem dL_law_806 : decode code 806 = .ok (.invokestatic 119, 3) := by decide +kernel
theorem dL_law_809 : decode code 809 = .ok (.istore 5, 2) := by decide +kernel
theorem dL_law_811 : decode code 811 = .ok (.aload_n 2, 1) := by decide +kernel
theorem dL_law_812 : decode code 812 = .ok (.aload_n 0, 1) := by decide +kernel
theorem dL_law_813 : decode code 813 = .ok (.iload 4, 2) := by decide +kernel
theorem dL_law_815 : decode code 815 = .ok (.iconst 1, 1) := by decide +kernel
theorem dL_law_816 : decode code 816 = .ok (.iadd, 1) := by decide +kernel
theorem dL_law_817 : decode code 817 = .ok (.iaload, 1) := by decide +kernel
theorem dL_law_818 : decode code 818 = .ok (.i2l, 1) := by decide +kernel
theorem dL_law_819 : decode code 819 = .ok (.bipush 32, 2) := by decide +kernel
theorem dL_law_821 : decode code 821 = .ok (.lshl, 1) := by decide +kernel
theorem dL_law_822 : decode code 822 = .ok (.aload_n 0, 1) := by decide +kernel
theorem dL_law_823 : decode code 823 = .ok (.iload 4, 2) := by decide +kernel
theorem dL_law_825 : decode code 825 = .ok (.iconst 2, 1) := by decide +kernel
theorem dL_law_826 : decode code 826 = .ok (.iadd, 1) := by decide +kernel
theorem dL_law_827 : decode code 827 = .ok (.iaload, 1) := by decide +kernel
theorem dL_law_828 : decode code 828 = .ok (.i2l, 1) := by decide +kernel
theorem dL_law_829 : decode code 829 = .ok (.ldc2_w 91, 3) := by decide +kernel
theorem dL_law_832 : decode code 832 = .ok (.land, 1) := by decide +kernel
theorem dL_law_833 : decode code 833 = .ok (.lor, 1) := by decide +kernel
theorem dL_law_834 : decode code 834 = .ok (.aload_n 0, 1) := by decide +kernel
theorem dL_law_835 : decode code 835 = .ok (.iload 4, 2) := by decide +kernel
theorem dL_law_837 : decode code 837 = .ok (.iconst 3, 1) := by decide +kernel
theorem dL_law_838 : decode code 838 = .ok (.iadd, 1) := by decide +kernel
theorem dL_law_839 : decode code 839 = .ok (.iaload, 1) := by decide +kernel
theorem dL_law_840 : decode code 840 = .ok (.invokevirtual 122, 3) := by decide +kernel
theorem dL_law_843 : decode code 843 = .ok (.istore 6, 2) := by decide +kernel
theorem dL_law_845 : decode code 845 = .ok (.aload_n 2, 1) := by decide +kernel
theorem dL_law_846 : decode code 846 = .ok (.invokevirtual 75, 3) := by decide +kernel
theorem dL_law_849 : decode code 849 = .ok (.iload 5, 2) := by decide +kernel
theorem dL_law_851 : decode code 851 = .ok (.if_icmp .eq 5, 3) := by decide +kernel
theorem dL_law_854 : decode code 854 = .ok (.iconst 0, 1) := by decide +kernel
theorem dL_law_855 : decode code 855 = .ok (.ireturn, 1) := by decide +kernel
theorem dL_law_856 : decode code 856 = .ok (.iload 5, 2) := by decide +kernel
theorem dL_law_858 : decode code 858 = .ok (.ifCond .ne 15, 3) := by decide +kernel
theorem dL_law_861 : decode code 861 = .ok (.aload_n 3, 1) := by decide +kernel
theorem dL_law_862 : decode code 862 = .ok (.iconst 0, 1) := by decide +kernel
theorem dL_law_863 : decode code 863 = .ok (.laload, 1) := by decide +kernel
theorem dL_law_864 : decode code 864 = .ok (.iload 6, 2) := by decide +kernel
theorem dL_law_866 : decode code 866 = .ok (.i2l, 1) := by decide +kernel
theorem dL_law_867 : decode code 867 = .ok (.lcmp, 1) := by decide +kernel
theorem dL_law_868 : decode code 868 = .ok (.ifCond .eq 5, 3) := by decide +kernel
theorem dL_law_871 : decode code 871 = .ok (.iconst 0, 1) := by decide +kernel
theorem dL_law_872 : decode code 872 = .ok (.ireturn, 1) := by decide +kernel
theorem dL_law_873 : decode code 873 = .ok (.goto 207, 3) := by decide +kernel
theorem dL_law_876 : decode code 876 = .ok (.aload_n 1, 1) := by decide +kernel
theorem dL_law_877 : decode code 877 = .ok (.aload_n 0, 1) := by decide +kernel
theorem dL_law_878 : decode code 878 = .ok (.iload 4, 2) := by decide +kernel
theorem dL_law_880 : decode code 880 = .ok (.iconst 1, 1) := by decide +kernel
theorem dL_law_881 : decode code 881 = .ok (.iadd, 1) := by decide +kernel
theorem dL_law_882 : decode code 882 = .ok (.iaload, 1) := by decide +kernel
theorem dL_law_883 : decode code 883 = .ok (.aload_n 3, 1) := by decide +kernel
theorem dL_law_884 : decode code 884 = .ok (.invokestatic 123, 3) := by decide +kernel
theorem dL_law_887 : decode code 887 = .ok (.istore 5, 2) := by decide +kernel
theorem dL_law_889 : decode code 889 = .ok (.aload_n 2, 1) := by decide +kernel
