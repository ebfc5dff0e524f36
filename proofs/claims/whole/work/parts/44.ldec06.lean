theorem dL_law_628 : decode code 628 = .ok (.ireturn, 1) := by decide +kernel
theorem dL_law_629 : decode code 629 = .ok (.goto 451, 3) := by decide +kernel
theorem dL_law_632 : decode code 632 = .ok (.aload_n 1, 1) := by decide +kernel
theorem dL_law_633 : decode code 633 = .ok (.aload_n 0, 1) := by decide +kernel
theorem dL_law_634 : decode code 634 = .ok (.iload 4, 2) := by decide +kernel
theorem dL_law_636 : decode code 636 = .ok (.iconst 1, 1) := by decide +kernel
theorem dL_law_637 : decode code 637 = .ok (.iadd, 1) := by decide +kernel
theorem dL_law_638 : decode code 638 = .ok (.iaload, 1) := by decide +kernel
theorem dL_law_639 : decode code 639 = .ok (.i2l, 1) := by decide +kernel
theorem dL_law_640 : decode code 640 = .ok (.bipush 32, 2) := by decide +kernel
theorem dL_law_642 : decode code 642 = .ok (.lshl, 1) := by decide +kernel
theorem dL_law_643 : decode code 643 = .ok (.aload_n 0, 1) := by decide +kernel
theorem dL_law_644 : decode code 644 = .ok (.iload 4, 2) := by decide +kernel
theorem dL_law_646 : decode code 646 = .ok (.iconst 2, 1) := by decide +kernel
theorem dL_law_647 : decode code 647 = .ok (.iadd, 1) := by decide +kernel
theorem dL_law_648 : decode code 648 = .ok (.iaload, 1) := by decide +kernel
theorem dL_law_649 : decode code 649 = .ok (.i2l, 1) := by decide +kernel
theorem dL_law_650 : decode code 650 = .ok (.ldc2_w 91, 3) := by decide +kernel
theorem dL_law_653 : decode code 653 = .ok (.land, 1) := by decide +kernel
theorem dL_law_654 : decode code 654 = .ok (.lor, 1) := by decide +kernel
theorem dL_law_655 : decode code 655 = .ok (.aload_n 3, 1) := by decide +kernel
theorem dL_law_656 : decode code 656 = .ok (.invokestatic 110, 3) := by decide +kernel
theorem dL_law_659 : decode code 659 = .ok (.istore 5, 2) := by decide +kernel
theorem dL_law_661 : decode code 661 = .ok (.aload_n 2, 1) := by decide +kernel
theorem dL_law_662 : decode code 662 = .ok (.aload_n 0, 1) := by decide +kernel
theorem dL_law_663 : decode code 663 = .ok (.iload 4, 2) := by decide +kernel
theorem dL_law_665 : decode code 665 = .ok (.iconst 1, 1) := by decide +kernel
theorem dL_law_666 : decode code 666 = .ok (.iadd, 1) := by decide +kernel
theorem dL_law_667 : decode code 667 = .ok (.iaload, 1) := by decide +kernel
theorem dL_law_668 : decode code 668 = .ok (.i2l, 1) := by decide +kernel
theorem dL_law_669 : decode code 669 = .ok (.bipush 32, 2) := by decide +kernel
theorem dL_law_671 : decode code 671 = .ok (.lshl, 1) := by decide +kernel
theorem dL_law_672 : decode code 672 = .ok (.aload_n 0, 1) := by decide +kernel
theorem dL_law_673 : decode code 673 = .ok (.iload 4, 2) := by decide +kernel
theorem dL_law_675 : decode code 675 = .ok (.iconst 2, 1) := by decide +kernel
theorem dL_law_676 : decode code 676 = .ok (.iadd, 1) := by decide +kernel
theorem dL_law_677 : decode code 677 = .ok (.iaload, 1) := by decide +kernel
theorem dL_law_678 : decode code 678 = .ok (.i2l, 1) := by decide +kernel
theorem dL_law_679 : decode code 679 = .ok (.ldc2_w 91, 3) := by decide +kernel
theorem dL_law_682 : decode code 682 = .ok (.land, 1) := by decide +kernel
theorem dL_law_683 : decode code 683 = .ok (.lor, 1) := by decide +kernel
theorem dL_law_684 : decode code 684 = .ok (.invokevirtual 113, 3) := by decide +kernel
theorem dL_law_687 : decode code 687 = .ok (.lstore 6, 2) := by decide +kernel
theorem dL_law_689 : decode code 689 = .ok (.aload_n 2, 1) := by decide +kernel
theorem dL_law_690 : decode code 690 = .ok (.invokevirtual 75, 3) := by decide +kernel
theorem dL_law_693 : decode code 693 = .ok (.iload 5, 2) := by decide +kernel
theorem dL_law_695 : decode code 695 = .ok (.if_icmp .eq 5, 3) := by decide +kernel
theorem dL_law_698 : decode code 698 = .ok (.iconst 0, 1) := by decide +kernel
theorem dL_law_699 : decode code 699 = .ok (.ireturn, 1) := by decide +kernel
theorem dL_law_700 : decode code 700 = .ok (.iload 5, 2) := by decide +kernel
theorem dL_law_702 : decode code 702 = .ok (.ifCond .ne 14, 3) := by decide +kernel
theorem dL_law_705 : decode code 705 = .ok (.aload_n 3, 1) := by decide +kernel
theorem dL_law_706 : decode code 706 = .ok (.iconst 0, 1) := by decide +kernel
theorem dL_law_707 : decode code 707 = .ok (.laload, 1) := by decide +kernel
theorem dL_law_708 : decode code 708 = .ok (.lload 6, 2) := by decide +kernel
theorem dL_law_710 : decode code 710 = .ok (.lcmp, 1) := by decide +kernel
theorem dL_law_711 : decode code 711 = .ok (.ifCond .eq 5, 3) := by decide +kernel
theorem dL_law_714 : decode code 714 = .ok (.iconst 0, 1) := by decide +kernel
theorem dL_law_715 : decode code 715 = .ok (.ireturn, 1) := by decide +kernel
theorem dL_law_716 : decode code 716 = .ok (.goto 364, 3) := by decide +kernel
