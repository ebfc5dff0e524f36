theorem dL_law_719 : decode code 719 = .ok (.aload_n 1, 1) := by decide +kernel
theorem dL_law_720 : decode code 720 = .ok (.aload_n 0, 1) := by decide +kernel
theorem dL_law_721 : decode code 721 = .ok (.iload 4, 2) := by decide +kernel
theorem dL_law_723 : decode code 723 = .ok (.iconst 1, 1) := by decide +kernel
theorem dL_law_724 : decode code 724 = .ok (.iadd, 1) := by decide +kernel
theorem dL_law_725 : decode code 725 = .ok (.iaload, 1) := by decide +kernel
theorem dL_law_726 : decode code 726 = .ok (.i2l, 1) := by decide +kernel
theorem dL_law_727 : decode code 727 = .ok (.bipush 32, 2) := by decide +kernel
theorem dL_law_729 : decode code 729 = .ok (.lshl, 1) := by decide +kernel
theorem dL_law_730 : decode code 730 = .ok (.aload_n 0, 1) := by decide +kernel
theorem dL_law_731 : decode code 731 = .ok (.iload 4, 2) := by decide +kernel
theorem dL_law_733 : decode code 733 = .ok (.iconst 2, 1) := by decide +kernel
theorem dL_law_734 : decode code 734 = .ok (.iadd, 1) := by decide +kernel
theorem dL_law_735 : decode code 735 = .ok (.iaload, 1) := by decide +kernel
theorem dL_law_736 : decode code 736 = .ok (.i2l, 1) := by decide +kernel
theorem dL_law_737 : decode code 737 = .ok (.ldc2_w 91, 3) := by decide +kernel
theorem dL_law_740 : decode code 740 = .ok (.land, 1) := by decide +kernel
theorem dL_law_741 : decode code 741 = .ok (.lor, 1) := by decide +kernel
theorem dL_law_742 : decode code 742 = .ok (.invokevirtual 114, 3) := by decide +kernel
theorem dL_law_745 : decode code 745 = .ok (.aload_n 2, 1) := by decide +kernel
theorem dL_law_746 : decode code 746 = .ok (.aload_n 0, 1) := by decide +kernel
theorem dL_law_747 : decode code 747 = .ok (.iload 4, 2) := by decide +kernel
theorem dL_law_749 : decode code 749 = .ok (.iconst 1, 1) := by decide +kernel
theorem dL_law_750 : decode code 750 = .ok (.iadd, 1) := by decide +kernel
theorem dL_law_751 : decode code 751 = .ok (.iaload, 1) := by decide +kernel
theorem dL_law_752 : decode code 752 = .ok (.i2l, 1) := by decide +kernel
theorem dL_law_753 : decode code 753 = .ok (.bipush 32, 2) := by decide +kernel
theorem dL_law_755 : decode code 755 = .ok (.lshl, 1) := by decide +kernel
theorem dL_law_756 : decode code 756 = .ok (.aload_n 0, 1) := by decide +kernel
theorem dL_law_757 : decode code 757 = .ok (.iload 4, 2) := by decide +kernel
theorem dL_law_759 : decode code 759 = .ok (.iconst 2, 1) := by decide +kernel
theorem dL_law_760 : decode code 760 = .ok (.iadd, 1) := by decide +kernel
theorem dL_law_761 : decode code 761 = .ok (.iaload, 1) := by decide +kernel
theorem dL_law_762 : decode code 762 = .ok (.i2l, 1) := by decide +kernel
theorem dL_law_763 : decode code 763 = .ok (.ldc2_w 91, 3) := by decide +kernel
theorem dL_law_766 : decode code 766 = .ok (.land, 1) := by decide +kernel
theorem dL_law_767 : decode code 767 = .ok (.lor, 1) := by decide +kernel
theorem dL_law_768 : decode code 768 = .ok (.invokevirtual 118, 3) := by decide +kernel
theorem dL_law_771 : decode code 771 = .ok (.if_icmp .eq 309, 3) := by decide +kernel
theorem dL_law_774 : decode code 774 = .ok (.iconst 0, 1) := by decide +kernel
theorem dL_law_775 : decode code 775 = .ok (.ireturn, 1) := by decide +kernel
theorem dL_law_776 : decode code 776 = .ok (.aload_n 1, 1) := by decide +kernel
theorem dL_law_777 : decode code 777 = .ok (.aload_n 0, 1) := by decide +kernel
theorem dL_law_778 : decode code 778 = .ok (.iload 4, 2) := by decide +kernel
theorem dL_law_780 : decode code 780 = .ok (.iconst 1, 1) := by decide +kernel
theorem dL_law_781 : decode code 781 = .ok (.iadd, 1) := by decide +kernel
theorem dL_law_782 : decode code 782 = .ok (.iaload, 1) := by decide +kernel
theorem dL_law_783 : decode code 783 = .ok (.i2l, 1) := by decide +kernel
theorem dL_law_784 : decode code 784 = .ok (.bipush 32, 2) := by decide +kernel
theorem dL_law_786 : decode code 786 = .ok (.lshl, 1) := by decide +kernel
theorem dL_law_787 : decode code 787 = .ok (.aload_n 0, 1) := by decide +kernel
theorem dL_law_788 : decode code 788 = .ok (.iload 4, 2) := by decide +kernel
theorem dL_law_790 : decode code 790 = .ok (.iconst 2, 1) := by decide +kernel
theorem dL_law_791 : decode code 791 = .ok (.iadd, 1) := by decide +kernel
theorem dL_law_792 : decode code 792 = .ok (.iaload, 1) := by decide +kernel
theorem dL_law_793 : decode code 793 = .ok (.i2l, 1) := by decide +kernel
theorem dL_law_794 : decode code 794 = .ok (.ldc2_w 91, 3) := by decide +kernel
theorem dL_law_797 : decode code 797 = .ok (.land, 1) := by decide +kernel
theorem dL_law_798 : decode code 798 = .ok (.lor, 1) := by decide +kernel
theorem dL_law_799 : decode code 799 = .ok (.aload_n 0, 1) := by decide +kernel
