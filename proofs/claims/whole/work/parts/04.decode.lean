theorem dX0_init_0 : decode cX0_init 0 = .ok (.aload_n 0, 1) := by decide +kernel
theorem dX0_init_1 : decode cX0_init 1 = .ok (.invokespecial 3, 3) := by decide +kernel
theorem dX0_init_4 : decode cX0_init 4 = .ok (.aload_n 0, 1) := by decide +kernel
theorem dX0_init_5 : decode cX0_init 5 = .ok (.bipush 64, 2) := by decide +kernel
theorem dX0_init_7 : decode cX0_init 7 = .ok (.newarray .int, 2) := by decide +kernel
theorem dX0_init_9 : decode cX0_init 9 = .ok (.putfield 9, 3) := by decide +kernel
theorem dX0_init_12 : decode cX0_init 12 = .ok (.aload_n 0, 1) := by decide +kernel
theorem dX0_init_13 : decode cX0_init 13 = .ok (.sipush 700, 3) := by decide +kernel
theorem dX0_init_16 : decode cX0_init 16 = .ok (.newarray .int, 2) := by decide +kernel
theorem dX0_init_18 : decode cX0_init 18 = .ok (.putfield 13, 3) := by decide +kernel
theorem dX0_init_21 : decode cX0_init 21 = .ok (.aload_n 0, 1) := by decide +kernel
theorem dX0_init_22 : decode cX0_init 22 = .ok (.bipush 20, 2) := by decide +kernel
theorem dX0_init_24 : decode cX0_init 24 = .ok (.newarray .long, 2) := by decide +kernel
theorem dX0_init_26 : decode cX0_init 26 = .ok (.putfield 16, 3) := by decide +kernel
theorem dX0_init_29 : decode cX0_init 29 = .ok (.aload_n 0, 1) := by decide +kernel
theorem dX0_init_30 : decode cX0_init 30 = .ok (.bipush 20, 2) := by decide +kernel
theorem dX0_init_32 : decode cX0_init 32 = .ok (.newarray .int, 2) := by decide +kernel
theorem dX0_init_34 : decode cX0_init 34 = .ok (.putfield 20, 3) := by decide +kernel
theorem dX0_init_37 : decode cX0_init 37 = .ok (.aload_n 0, 1) := by decide +kernel
theorem dX0_init_38 : decode cX0_init 38 = .ok (.bipush 20, 2) := by decide +kernel
theorem dX0_init_40 : decode cX0_init 40 = .ok (.newarray .int, 2) := by decide +kernel
theorem dX0_init_42 : decode cX0_init 42 = .ok (.putfield 23, 3) := by decide +kernel
theorem dX0_init_45 : decode cX0_init 45 = .ok (.aload_n 0, 1) := by decide +kernel
theorem dX0_init_46 : decode cX0_init 46 = .ok (.bipush 8, 2) := by decide +kernel
theorem dX0_init_48 : decode cX0_init 48 = .ok (.newarray .int, 2) := by decide +kernel
theorem dX0_init_50 : decode cX0_init 50 = .ok (.putfield 26, 3) := by decide +kernel
theorem dX0_init_53 : decode cX0_init 53 = .ok (.aload_n 0, 1) := by decide +kernel
theorem dX0_init_54 : decode cX0_init 54 = .ok (.getfield 26, 3) := by decide +kernel
theorem dX0_init_57 : decode cX0_init 57 = .ok (.iconst (-1), 1) := by decide +kernel
theorem dX0_init_58 : decode cX0_init 58 = .ok (.invokestatic 29, 3) := by decide +kernel
theorem dX0_init_61 : decode cX0_init 61 = .ok (.aload_n 0, 1) := by decide +kernel
theorem dX0_init_62 : decode cX0_init 62 = .ok (.bipush 16, 2) := by decide +kernel
theorem dX0_init_64 : decode cX0_init 64 = .ok (.newarray .long, 2) := by decide +kernel
theorem dX0_init_66 : decode cX0_init 66 = .ok (.putfield 35, 3) := by decide +kernel
theorem dX0_init_69 : decode cX0_init 69 = .ok (.aload_n 0, 1) := by decide +kernel
theorem dX0_init_70 : decode cX0_init 70 = .ok (.bipush 16, 2) := by decide +kernel
theorem dX0_init_72 : decode cX0_init 72 = .ok (.newarray .long, 2) := by decide +kernel
theorem dX0_init_74 : decode cX0_init 74 = .ok (.putfield 38, 3) := by decide +kernel
theorem dX0_init_77 : decode cX0_init 77 = .ok (.aload_n 0, 1) := by decide +kernel
theorem dX0_init_78 : decode cX0_init 78 = .ok (.iconst 4, 1) := by decide +kernel
theorem dX0_init_79 : decode cX0_init 79 = .ok (.newarray .long, 2) := by decide +kernel
theorem dX0_init_81 : decode cX0_init 81 = .ok (.putfield 41, 3) := by decide +kernel
theorem dX0_init_84 : decode cX0_init 84 = .ok (.return_, 1) := by decide +kernel
theorem dX0_type_0 : decode cX0_type 0 = .ok (.aload_n 0, 1) := by decide +kernel
theorem dX0_type_1 : decode cX0_type 1 = .ok (.getfield 44, 3) := by decide +kernel
theorem dX0_type_4 : decode cX0_type 4 = .ok (.iconst 4, 1) := by decide +kernel
theorem dX0_type_5 : decode cX0_type 5 = .ok (.iadd, 1) := by decide +kernel
theorem dX0_type_6 : decode cX0_type 6 = .ok (.bipush 64, 2) := by decide +kernel
theorem dX0_type_8 : decode cX0_type 8 = .ok (.if_icmp .le 13, 3) := by decide +kernel
theorem dX0_type_11 : decode cX0_type 11 = .ok (.new 48, 3) := by decide +kernel
theorem dX0_type_14 : decode cX0_type 14 = .ok (.dup, 1) := by decide +kernel
theorem dX0_type_15 : decode cX0_type 15 = .ok (.ldc 50, 2) := by decide +kernel
theorem dX0_type_17 : decode cX0_type 17 = .ok (.invokespecial 52, 3) := by decide +kernel
theorem dX0_type_20 : decode cX0_type 20 = .ok (.athrow, 1) := by decide +kernel
theorem dX0_type_21 : decode cX0_type 21 = .ok (.iconst 0, 1) := by decide +kernel
theorem dX0_type_22 : decode cX0_type 22 = .ok (.istore_n 2, 1) := by decide +kernel
theorem dX0_type_23 : decode cX0_type 23 = .ok (.iload_n 2, 1) := by decide +kernel
theorem dX0_type_24 : decode cX0_type 24 = .ok (.iconst 4, 1) := by decide +kernel
theorem dX0_type_25 : decode cX0_type 25 = .ok (.if_icmp .ge 30, 3) := by decide +kernel
theorem dX0_type_28 : decode cX0_type 28 = .ok (.aload_n 0, 1) := by decide +kernel
theorem dX0_type_29 : decode cX0_type 29 = .ok (.getfield 9, 3) := by decide +kernel
theorem dX0_type_32 : decode cX0_type 32 = .ok (.aload_n 0, 1) := by decide +kernel
theorem dX0_type_33 : decode cX0_type 33 = .ok (.getfield 44, 3) := by decide +kernel
theorem dX0_type_36 : decode cX0_type 36 = .ok (.iload_n 2, 1) := by decide +kernel
theorem dX0_type_37 : decode cX0_type 37 = .ok (.iadd, 1) := by decide +kernel
theorem dX0_type_38 : decode cX0_type 38 = .ok (.iload_n 1, 1) := by decide +kernel
theorem dX0_type_39 : decode cX0_type 39 = .ok (.bipush 8, 2) := by decide +kernel
theorem dX0_type_41 : decode cX0_type 41 = .ok (.iload_n 2, 1) := by decide +kernel
theorem dX0_type_42 : decode cX0_type 42 = .ok (.imul, 1) := by decide +kernel
theorem dX0_type_43 : decode cX0_type 43 = .ok (.iushr, 1) := by decide +kernel
theorem dX0_type_44 : decode cX0_type 44 = .ok (.sipush 255, 3) := by decide +kernel
theorem dX0_type_47 : decode cX0_type 47 = .ok (.iand, 1) := by decide +kernel
theorem dX0_type_48 : decode cX0_type 48 = .ok (.iastore, 1) := by decide +kernel
theorem dX0_type_49 : decode cX0_type 49 = .ok (.iinc 2 1, 3) := by decide +kernel
theorem dX0_type_52 : decode cX0_type 52 = .ok (.goto (-29), 3) := by decide +kernel
theorem dX0_type_55 : decode cX0_type 55 = .ok (.aload_n 0, 1) := by decide +kernel
theorem dX0_type_56 : decode cX0_type 56 = .ok (.dup, 1) := by decide +kernel
theorem dX0_type_57 : decode cX0_type 57 = .ok (.getfield 44, 3) := by decide +kernel
theorem dX0_type_60 : decode cX0_type 60 = .ok (.iconst 4, 1) := by decide +kernel
theorem dX0_type_61 : decode cX0_type 61 = .ok (.iadd, 1) := by decide +kernel
theorem dX0_type_62 : decode cX0_type 62 = .ok (.putfield 44, 3) := by decide +kernel
theorem dX0_type_65 : decode cX0_type 65 = .ok (.aload_n 0, 1) := by decide +kernel
theorem dX0_type_66 : decode cX0_type 66 = .ok (.getfield 44, 3) := by decide +kernel
theorem dX0_type_69 : decode cX0_type 69 = .ok (.ireturn, 1) := by decide +kernel
theorem dX0_cut_0 : decode cX0_cut 0 = .ok (.iload_n 1, 1) := by decide +kernel
theorem dX0_cut_1 : decode cX0_cut 1 = .ok (.ifCond .lt 11, 3) := by decide +kernel
theorem dX0_cut_4 : decode cX0_cut 4 = .ok (.iload_n 1, 1) := by decide +kernel
theorem dX0_cut_5 : decode cX0_cut 5 = .ok (.aload_n 0, 1) := by decide +kernel
theorem dX0_cut_6 : decode cX0_cut 6 = .ok (.getfield 44, 3) := by decide +kernel
theorem dX0_cut_9 : decode cX0_cut 9 = .ok (.if_icmp .le 13, 3) := by decide +kernel
theorem dX0_cut_12 : decode cX0_cut 12 = .ok (.new 55, 3) := by decide +kernel
theorem dX0_cut_15 : decode cX0_cut 15 = .ok (.dup, 1) := by decide +kernel
theorem dX0_cut_16 : decode cX0_cut 16 = .ok (.ldc 57, 2) := by decide +kernel
theorem dX0_cut_18 : decode cX0_cut 18 = .ok (.invokespecial 59, 3) := by decide +kernel
theorem dX0_cut_21 : decode cX0_cut 21 = .ok (.athrow, 1) := by decide +kernel
theorem dX0_cut_22 : decode cX0_cut 22 = .ok (.aload_n 0, 1) := by decide +kernel
theorem dX0_cut_23 : decode cX0_cut 23 = .ok (.iload_n 1, 1) := by decide +kernel
theorem dX0_cut_24 : decode cX0_cut 24 = .ok (.putfield 44, 3) := by decide +kernel
theorem dX0_cut_27 : decode cX0_cut 27 = .ok (.return_, 1) := by decide +kernel
theorem dX0_digest_0 : decode cX0_digest 0 = .ok (.aload_n 0, 1) := by decide +kernel
theorem dX0_digest_1 : decode cX0_digest 1 = .ok (.getfield 9, 3) := by decide +kernel
theorem dX0_digest_4 : decode cX0_digest 4 = .ok (.iconst 0, 1) := by decide +kernel
theorem dX0_digest_5 : decode cX0_digest 5 = .ok (.aload_n 0, 1) := by decide +kernel
theorem dX0_digest_6 : decode cX0_digest 6 = .ok (.getfield 44, 3) := by decide +kernel
theorem dX0_digest_9 : decode cX0_digest 9 = .ok (.invokestatic 60, 3) := by decide +kernel
theorem dX0_digest_12 : decode cX0_digest 12 = .ok (.lreturn, 1) := by decide +kernel
theorem dX0_keep_0 : decode cX0_keep 0 = .ok (.aload_n 0, 1) := by decide +kernel
theorem dX0_keep_1 : decode cX0_keep 1 = .ok (.getfield 9, 3) := by decide +kernel
theorem dX0_keep_4 : decode cX0_keep 4 = .ok (.iconst 0, 1) := by decide +kernel
theorem dX0_keep_5 : decode cX0_keep 5 = .ok (.aload_n 0, 1) := by decide +kernel
theorem dX0_keep_6 : decode cX0_keep 6 = .ok (.getfield 44, 3) := by decide +kernel
theorem dX0_keep_9 : decode cX0_keep 9 = .ok (.invokestatic 60, 3) := by decide +kernel
theorem dX0_keep_12 : decode cX0_keep 12 = .ok (.lstore_n 1, 1) := by decide +kernel
theorem dX0_keep_13 : decode cX0_keep 13 = .ok (.aload_n 0, 1) := by decide +kernel
theorem dX0_keep_14 : decode cX0_keep 14 = .ok (.lload_n 1, 1) := by decide +kernel
theorem dX0_keep_15 : decode cX0_keep 15 = .ok (.invokevirtual 64, 3) := by decide +kernel
theorem dX0_keep_18 : decode cX0_keep 18 = .ok (.iconst (-1), 1) := by decide +kernel
theorem dX0_keep_19 : decode cX0_keep 19 = .ok (.if_icmp .ne 39, 3) := by decide +kernel
theorem dX0_keep_22 : decode cX0_keep 22 = .ok (.aload_n 0, 1) := by decide +kernel
theorem dX0_keep_23 : decode cX0_keep 23 = .ok (.getfield 68, 3) := by decide +kernel
theorem dX0_keep_26 : decode cX0_keep 26 = .ok (.bipush 20, 2) := by decide +kernel
theorem dX0_keep_28 : decode cX0_keep 28 = .ok (.if_icmp .lt 13, 3) := by decide +kernel
theorem dX0_keep_31 : decode cX0_keep 31 = .ok (.new 48, 3) := by decide +kernel
theorem dX0_keep_34 : decode cX0_keep 34 = .ok (.dup, 1) := by decide +kernel
theorem dX0_keep_35 : decode cX0_keep 35 = .ok (.ldc 71, 2) := by decide +kernel
theorem dX0_keep_37 : decode cX0_keep 37 = .ok (.invokespecial 52, 3) := by decide +kernel
theorem dX0_keep_40 : decode cX0_keep 40 = .ok (.athrow, 1) := by decide +kernel
theorem dX0_keep_41 : decode cX0_keep 41 = .ok (.aload_n 0, 1) := by decide +kernel
theorem dX0_keep_42 : decode cX0_keep 42 = .ok (.aload_n 0, 1) := by decide +kernel
theorem dX0_keep_43 : decode cX0_keep 43 = .ok (.getfield 44, 3) := by decide +kernel
theorem dX0_keep_46 : decode cX0_keep 46 = .ok (.invokevirtual 73, 3) := by decide +kernel
theorem dX0_keep_49 : decode cX0_keep 49 = .ok (.aload_n 0, 1) := by decide +kernel
theorem dX0_keep_50 : decode cX0_keep 50 = .ok (.aload_n 0, 1) := by decide +kernel
theorem dX0_keep_51 : decode cX0_keep 51 = .ok (.invokevirtual 77, 3) := by decide +kernel
theorem dX0_keep_54 : decode cX0_keep 54 = .ok (.invokevirtual 81, 3) := by decide +kernel
theorem dX0_keep_57 : decode cX0_keep 57 = .ok (.pop, 1) := by decide +kernel
theorem dX0_keep_58 : decode cX0_keep 58 = .ok (.lload_n 1, 1) := by decide +kernel
theorem dX0_keep_59 : decode cX0_keep 59 = .ok (.lreturn, 1) := by decide +kernel
theorem dX0_tell_0 : decode cX0_tell 0 = .ok (.iload_n 1, 1) := by decide +kernel
theorem dX0_tell_1 : decode cX0_tell 1 = .ok (.invokestatic 85, 3) := by decide +kernel
theorem dX0_tell_4 : decode cX0_tell 4 = .ok (.aload_n 0, 1) := by decide +kernel
theorem dX0_tell_5 : decode cX0_tell 5 = .ok (.lload_n 2, 1) := by decide +kernel
theorem dX0_tell_6 : decode cX0_tell 6 = .ok (.invokevirtual 64, 3) := by decide +kernel
theorem dX0_tell_9 : decode cX0_tell 9 = .ok (.istore 4, 2) := by decide +kernel
theorem dX0_tell_11 : decode cX0_tell 11 = .ok (.iload 4, 2) := by decide +kernel
theorem dX0_tell_13 : decode cX0_tell 13 = .ok (.iconst (-1), 1) := by decide +kernel
theorem dX0_tell_14 : decode cX0_tell 14 = .ok (.if_icmp .ne 13, 3) := by decide +kernel
theorem dX0_tell_17 : decode cX0_tell 17 = .ok (.new 88, 3) := by decide +kernel
theorem dX0_tell_20 : decode cX0_tell 20 = .ok (.dup, 1) := by decide +kernel
theorem dX0_tell_21 : decode cX0_tell 21 = .ok (.ldc 90, 2) := by decide +kernel
theorem dX0_tell_23 : decode cX0_tell 23 = .ok (.invokespecial 92, 3) := by decide +kernel
theorem dX0_tell_26 : decode cX0_tell 26 = .ok (.athrow, 1) := by decide +kernel
theorem dX0_tell_27 : decode cX0_tell 27 = .ok (.aload_n 0, 1) := by decide +kernel
theorem dX0_tell_28 : decode cX0_tell 28 = .ok (.getfield 26, 3) := by decide +kernel
theorem dX0_tell_31 : decode cX0_tell 31 = .ok (.iload_n 1, 1) := by decide +kernel
theorem dX0_tell_32 : decode cX0_tell 32 = .ok (.iaload, 1) := by decide +kernel
theorem dX0_tell_33 : decode cX0_tell 33 = .ok (.iload 4, 2) := by decide +kernel
theorem dX0_tell_35 : decode cX0_tell 35 = .ok (.if_icmp .eq 20, 3) := by decide +kernel
theorem dX0_tell_38 : decode cX0_tell 38 = .ok (.aload_n 0, 1) := by decide +kernel
theorem dX0_tell_39 : decode cX0_tell 39 = .ok (.bipush 9, 2) := by decide +kernel
theorem dX0_tell_41 : decode cX0_tell 41 = .ok (.invokevirtual 73, 3) := by decide +kernel
theorem dX0_tell_44 : decode cX0_tell 44 = .ok (.aload_n 0, 1) := by decide +kernel
theorem dX0_tell_45 : decode cX0_tell 45 = .ok (.aload_n 0, 1) := by decide +kernel
theorem dX0_tell_46 : decode cX0_tell 46 = .ok (.iload_n 1, 1) := by decide +kernel
theorem dX0_tell_47 : decode cX0_tell 47 = .ok (.lload_n 2, 1) := by decide +kernel
theorem dX0_tell_48 : decode cX0_tell 48 = .ok (.invokevirtual 93, 3) := by decide +kernel
theorem dX0_tell_51 : decode cX0_tell 51 = .ok (.invokevirtual 81, 3) := by decide +kernel
theorem dX0_tell_54 : decode cX0_tell 54 = .ok (.pop, 1) := by decide +kernel
theorem dX0_tell_55 : decode cX0_tell 55 = .ok (.return_, 1) := by decide +kernel
theorem dX0_untell_0 : decode cX0_untell 0 = .ok (.iload_n 1, 1) := by decide +kernel
theorem dX0_untell_1 : decode cX0_untell 1 = .ok (.invokestatic 85, 3) := by decide +kernel
theorem dX0_untell_4 : decode cX0_untell 4 = .ok (.aload_n 0, 1) := by decide +kernel
theorem dX0_untell_5 : decode cX0_untell 5 = .ok (.getfield 26, 3) := by decide +kernel
theorem dX0_untell_8 : decode cX0_untell 8 = .ok (.iload_n 1, 1) := by decide +kernel
theorem dX0_untell_9 : decode cX0_untell 9 = .ok (.iaload, 1) := by decide +kernel
theorem dX0_untell_10 : decode cX0_untell 10 = .ok (.iconst (-1), 1) := by decide +kernel
theorem dX0_untell_11 : decode cX0_untell 11 = .ok (.if_icmp .ne 13, 3) := by decide +kernel
theorem dX0_untell_14 : decode cX0_untell 14 = .ok (.new 88, 3) := by decide +kernel
theorem dX0_untell_17 : decode cX0_untell 17 = .ok (.dup, 1) := by decide +kernel
theorem dX0_untell_18 : decode cX0_untell 18 = .ok (.ldc 97, 2) := by decide +kernel
theorem dX0_untell_20 : decode cX0_untell 20 = .ok (.invokespecial 92, 3) := by decide +kernel
theorem dX0_untell_23 : decode cX0_untell 23 = .ok (.athrow, 1) := by decide +kernel
theorem dX0_untell_24 : decode cX0_untell 24 = .ok (.aload_n 0, 1) := by decide +kernel
theorem dX0_untell_25 : decode cX0_untell 25 = .ok (.iconst 1, 1) := by decide +kernel
theorem dX0_untell_26 : decode cX0_untell 26 = .ok (.invokevirtual 73, 3) := by decide +kernel
theorem dX0_untell_29 : decode cX0_untell 29 = .ok (.aload_n 0, 1) := by decide +kernel
theorem dX0_untell_30 : decode cX0_untell 30 = .ok (.aload_n 0, 1) := by decide +kernel
theorem dX0_untell_31 : decode cX0_untell 31 = .ok (.iload_n 1, 1) := by decide +kernel
theorem dX0_untell_32 : decode cX0_untell 32 = .ok (.invokevirtual 99, 3) := by decide +kernel
theorem dX0_untell_35 : decode cX0_untell 35 = .ok (.invokevirtual 81, 3) := by decide +kernel
theorem dX0_untell_38 : decode cX0_untell 38 = .ok (.pop, 1) := by decide +kernel
theorem dX0_untell_39 : decode cX0_untell 39 = .ok (.return_, 1) := by decide +kernel
theorem dX0_learn_0 : decode cX0_learn 0 = .ok (.aload_n 0, 1) := by decide +kernel
theorem dX0_learn_1 : decode cX0_learn 1 = .ok (.lload_n 1, 1) := by decide +kernel
theorem dX0_learn_2 : decode cX0_learn 2 = .ok (.invokevirtual 103, 3) := by decide +kernel
theorem dX0_learn_5 : decode cX0_learn 5 = .ok (.istore 5, 2) := by decide +kernel
theorem dX0_learn_7 : decode cX0_learn 7 = .ok (.iload 5, 2) := by decide +kernel
theorem dX0_learn_9 : decode cX0_learn 9 = .ok (.iconst (-1), 1) := by decide +kernel
theorem dX0_learn_10 : decode cX0_learn 10 = .ok (.if_icmp .ne 22, 3) := by decide +kernel
theorem dX0_learn_13 : decode cX0_learn 13 = .ok (.aload_n 0, 1) := by decide +kernel
theorem dX0_learn_14 : decode cX0_learn 14 = .ok (.getfield 106, 3) := by decide +kernel
theorem dX0_learn_17 : decode cX0_learn 17 = .ok (.bipush 16, 2) := by decide +kernel
theorem dX0_learn_19 : decode cX0_learn 19 = .ok (.if_icmp .lt 13, 3) := by decide +kernel
theorem dX0_learn_22 : decode cX0_learn 22 = .ok (.new 48, 3) := by decide +kernel
theorem dX0_learn_25 : decode cX0_learn 25 = .ok (.dup, 1) := by decide +kernel
theorem dX0_learn_26 : decode cX0_learn 26 = .ok (.ldc 109, 2) := by decide +kernel
theorem dX0_learn_28 : decode cX0_learn 28 = .ok (.invokespecial 52, 3) := by decide +kernel
theorem dX0_learn_31 : decode cX0_learn 31 = .ok (.athrow, 1) := by decide +kernel
theorem dX0_learn_32 : decode cX0_learn 32 = .ok (.iload 5, 2) := by decide +kernel
theorem dX0_learn_34 : decode cX0_learn 34 = .ok (.iconst (-1), 1) := by decide +kernel
theorem dX0_learn_35 : decode cX0_learn 35 = .ok (.if_icmp .eq 15, 3) := by decide +kernel
theorem dX0_learn_38 : decode cX0_learn 38 = .ok (.aload_n 0, 1) := by decide +kernel
theorem dX0_learn_39 : decode cX0_learn 39 = .ok (.getfield 38, 3) := by decide +kernel
theorem dX0_learn_42 : decode cX0_learn 42 = .ok (.iload 5, 2) := by decide +kernel
theorem dX0_learn_44 : decode cX0_learn 44 = .ok (.laload, 1) := by decide +kernel
theorem dX0_learn_45 : decode cX0_learn 45 = .ok (.lload_n 3, 1) := by decide +kernel
theorem dX0_learn_46 : decode cX0_learn 46 = .ok (.lcmp, 1) := by decide +kernel
theorem dX0_learn_47 : decode cX0_learn 47 = .ok (.ifCond .eq 20, 3) := by decide +kernel
theorem dX0_learn_50 : decode cX0_learn 50 = .ok (.aload_n 0, 1) := by decide +kernel
theorem dX0_learn_51 : decode cX0_learn 51 = .ok (.bipush 16, 2) := by decide +kernel
theorem dX0_learn_53 : decode cX0_learn 53 = .ok (.invokevirtual 73, 3) := by decide +kernel
theorem dX0_learn_56 : decode cX0_learn 56 = .ok (.aload_n 0, 1) := by decide +kernel
theorem dX0_learn_57 : decode cX0_learn 57 = .ok (.aload_n 0, 1) := by decide +kernel
theorem dX0_learn_58 : decode cX0_learn 58 = .ok (.lload_n 1, 1) := by decide +kernel
theorem dX0_learn_59 : decode cX0_learn 59 = .ok (.lload_n 3, 1) := by decide +kernel
theorem dX0_learn_60 : decode cX0_learn 60 = .ok (.invokevirtual 111, 3) := by decide +kernel
theorem dX0_learn_63 : decode cX0_learn 63 = .ok (.invokevirtual 81, 3) := by decide +kernel
theorem dX0_learn_66 : decode cX0_learn 66 = .ok (.pop, 1) := by decide +kernel
theorem dX0_learn_67 : decode cX0_learn 67 = .ok (.return_, 1) := by decide +kernel
theorem dX0_pin_0 : decode cX0_pin 0 = .ok (.iload_n 1, 1) := by decide +kernel
theorem dX0_pin_1 : decode cX0_pin 1 = .ok (.ifCond .lt 8, 3) := by decide +kernel
theorem dX0_pin_4 : decode cX0_pin 4 = .ok (.iload_n 1, 1) := by decide +kernel
theorem dX0_pin_5 : decode cX0_pin 5 = .ok (.iconst 4, 1) := by decide +kernel
theorem dX0_pin_6 : decode cX0_pin 6 = .ok (.if_icmp .lt 13, 3) := by decide +kernel
theorem dX0_pin_9 : decode cX0_pin 9 = .ok (.new 55, 3) := by decide +kernel
theorem dX0_pin_12 : decode cX0_pin 12 = .ok (.dup, 1) := by decide +kernel
theorem dX0_pin_13 : decode cX0_pin 13 = .ok (.ldc 115, 2) := by decide +kernel
theorem dX0_pin_15 : decode cX0_pin 15 = .ok (.invokespecial 59, 3) := by decide +kernel
theorem dX0_pin_18 : decode cX0_pin 18 = .ok (.athrow, 1) := by decide +kernel
theorem dX0_pin_19 : decode cX0_pin 19 = .ok (.aload_n 0, 1) := by decide +kernel
theorem dX0_pin_20 : decode cX0_pin 20 = .ok (.getfield 41, 3) := by decide +kernel
theorem dX0_pin_23 : decode cX0_pin 23 = .ok (.iload_n 1, 1) := by decide +kernel
theorem dX0_pin_24 : decode cX0_pin 24 = .ok (.lload_n 2, 1) := by decide +kernel
theorem dX0_pin_25 : decode cX0_pin 25 = .ok (.lastore, 1) := by decide +kernel
theorem dX0_pin_26 : decode cX0_pin 26 = .ok (.return_, 1) := by decide +kernel
theorem dX0_tag_0 : decode cX0_tag 0 = .ok (.iload_n 1, 1) := by decide +kernel
theorem dX0_tag_1 : decode cX0_tag 1 = .ok (.invokestatic 85, 3) := by decide +kernel
theorem dX0_tag_4 : decode cX0_tag 4 = .ok (.aload_n 0, 1) := by decide +kernel
theorem dX0_tag_5 : decode cX0_tag 5 = .ok (.getfield 26, 3) := by decide +kernel
theorem dX0_tag_8 : decode cX0_tag 8 = .ok (.iload_n 1, 1) := by decide +kernel
theorem dX0_tag_9 : decode cX0_tag 9 = .ok (.iaload, 1) := by decide +kernel
theorem dX0_tag_10 : decode cX0_tag 10 = .ok (.istore_n 2, 1) := by decide +kernel
theorem dX0_tag_11 : decode cX0_tag 11 = .ok (.iload_n 2, 1) := by decide +kernel
theorem dX0_tag_12 : decode cX0_tag 12 = .ok (.iconst (-1), 1) := by decide +kernel
theorem dX0_tag_13 : decode cX0_tag 13 = .ok (.if_icmp .ne 7, 3) := by decide +kernel
theorem dX0_tag_16 : decode cX0_tag 16 = .ok (.lconst 0, 1) := by decide +kernel
theorem dX0_tag_17 : decode cX0_tag 17 = .ok (.goto 9, 3) := by decide +kernel
theorem dX0_tag_20 : decode cX0_tag 20 = .ok (.aload_n 0, 1) := by decide +kernel
theorem dX0_tag_21 : decode cX0_tag 21 = .ok (.getfield 16, 3) := by decide +kernel
theorem dX0_tag_24 : decode cX0_tag 24 = .ok (.iload_n 2, 1) := by decide +kernel
theorem dX0_tag_25 : decode cX0_tag 25 = .ok (.laload, 1) := by decide +kernel
theorem dX0_tag_26 : decode cX0_tag 26 = .ok (.lreturn, 1) := by decide +kernel
theorem dX0_look_0 : decode cX0_look 0 = .ok (.aload_n 0, 1) := by decide +kernel
theorem dX0_look_1 : decode cX0_look 1 = .ok (.lload_n 1, 1) := by decide +kernel
theorem dX0_look_2 : decode cX0_look 2 = .ok (.invokevirtual 103, 3) := by decide +kernel
theorem dX0_look_5 : decode cX0_look 5 = .ok (.istore_n 3, 1) := by decide +kernel
theorem dX0_look_6 : decode cX0_look 6 = .ok (.iload_n 3, 1) := by decide +kernel
theorem dX0_look_7 : decode cX0_look 7 = .ok (.iconst (-1), 1) := by decide +kernel
theorem dX0_look_8 : decode cX0_look 8 = .ok (.if_icmp .ne 13, 3) := by decide +kernel
theorem dX0_look_11 : decode cX0_look 11 = .ok (.new 88, 3) := by decide +kernel
theorem dX0_look_14 : decode cX0_look 14 = .ok (.dup, 1) := by decide +kernel
theorem dX0_look_15 : decode cX0_look 15 = .ok (.ldc 117, 2) := by decide +kernel
theorem dX0_look_17 : decode cX0_look 17 = .ok (.invokespecial 92, 3) := by decide +kernel
theorem dX0_look_20 : decode cX0_look 20 = .ok (.athrow, 1) := by decide +kernel
theorem dX0_look_21 : decode cX0_look 21 = .ok (.aload_n 0, 1) := by decide +kernel
theorem dX0_look_22 : decode cX0_look 22 = .ok (.getfield 38, 3) := by decide +kernel
theorem dX0_look_25 : decode cX0_look 25 = .ok (.iload_n 3, 1) := by decide +kernel
theorem dX0_look_26 : decode cX0_look 26 = .ok (.laload, 1) := by decide +kernel
theorem dX0_look_27 : decode cX0_look 27 = .ok (.lreturn, 1) := by decide +kernel
theorem dX0_length_0 : decode cX0_length 0 = .ok (.aload_n 0, 1) := by decide +kernel
theorem dX0_length_1 : decode cX0_length 1 = .ok (.lload_n 1, 1) := by decide +kernel
theorem dX0_length_2 : decode cX0_length 2 = .ok (.invokevirtual 64, 3) := by decide +kernel
theorem dX0_length_5 : decode cX0_length 5 = .ok (.istore_n 3, 1) := by decide +kernel
theorem dX0_length_6 : decode cX0_length 6 = .ok (.iload_n 3, 1) := by decide +kernel
theorem dX0_length_7 : decode cX0_length 7 = .ok (.iconst (-1), 1) := by decide +kernel
theorem dX0_length_8 : decode cX0_length 8 = .ok (.if_icmp .ne 7, 3) := by decide +kernel
theorem dX0_length_11 : decode cX0_length 11 = .ok (.iconst (-1), 1) := by decide +kernel
theorem dX0_length_12 : decode cX0_length 12 = .ok (.goto 9, 3) := by decide +kernel
theorem dX0_length_15 : decode cX0_length 15 = .ok (.aload_n 0, 1) := by decide +kernel
theorem dX0_length_16 : decode cX0_length 16 = .ok (.getfield 23, 3) := by decide +kernel
theorem dX0_length_19 : decode cX0_length 19 = .ok (.iload_n 3, 1) := by decide +kernel
theorem dX0_length_20 : decode cX0_length 20 = .ok (.iaload, 1) := by decide +kernel
theorem dX0_length_21 : decode cX0_length 21 = .ok (.ireturn, 1) := by decide +kernel
theorem dX0_byteOf_0 : decode cX0_byteOf 0 = .ok (.aload_n 0, 1) := by decide +kernel
theorem dX0_byteOf_1 : decode cX0_byteOf 1 = .ok (.lload_n 1, 1) := by decide +kernel
theorem dX0_byteOf_2 : decode cX0_byteOf 2 = .ok (.invokevirtual 64, 3) := by decide +kernel
theorem dX0_byteOf_5 : decode cX0_byteOf 5 = .ok (.istore 4, 2) := by decide +kernel
theorem dX0_byteOf_7 : decode cX0_byteOf 7 = .ok (.iload 4, 2) := by decide +kernel
theorem dX0_byteOf_9 : decode cX0_byteOf 9 = .ok (.iconst (-1), 1) := by decide +kernel
theorem dX0_byteOf_10 : decode cX0_byteOf 10 = .ok (.if_icmp .ne 13, 3) := by decide +kernel
theorem dX0_byteOf_13 : decode cX0_byteOf 13 = .ok (.new 88, 3) := by decide +kernel
theorem dX0_byteOf_16 : decode cX0_byteOf 16 = .ok (.dup, 1) := by decide +kernel
theorem dX0_byteOf_17 : decode cX0_byteOf 17 = .ok (.ldc 90, 2) := by decide +kernel
theorem dX0_byteOf_19 : decode cX0_byteOf 19 = .ok (.invokespecial 92, 3) := by decide +kernel
theorem dX0_byteOf_22 : decode cX0_byteOf 22 = .ok (.athrow, 1) := by decide +kernel
theorem dX0_byteOf_23 : decode cX0_byteOf 23 = .ok (.iload_n 3, 1) := by decide +kernel
theorem dX0_byteOf_24 : decode cX0_byteOf 24 = .ok (.ifCond .lt 14, 3) := by decide +kernel
theorem dX0_byteOf_27 : decode cX0_byteOf 27 = .ok (.iload_n 3, 1) := by decide +kernel
theorem dX0_byteOf_28 : decode cX0_byteOf 28 = .ok (.aload_n 0, 1) := by decide +kernel
theorem dX0_byteOf_29 : decode cX0_byteOf 29 = .ok (.getfield 23, 3) := by decide +kernel
theorem dX0_byteOf_32 : decode cX0_byteOf 32 = .ok (.iload 4, 2) := by decide +kernel
theorem dX0_byteOf_34 : decode cX0_byteOf 34 = .ok (.iaload, 1) := by decide +kernel
theorem dX0_byteOf_35 : decode cX0_byteOf 35 = .ok (.if_icmp .lt 13, 3) := by decide +kernel
theorem dX0_byteOf_38 : decode cX0_byteOf 38 = .ok (.new 119, 3) := by decide +kernel
theorem dX0_byteOf_41 : decode cX0_byteOf 41 = .ok (.dup, 1) := by decide +kernel
theorem dX0_byteOf_42 : decode cX0_byteOf 42 = .ok (.ldc 121, 2) := by decide +kernel
theorem dX0_byteOf_44 : decode cX0_byteOf 44 = .ok (.invokespecial 123, 3) := by decide +kernel
theorem dX0_byteOf_47 : decode cX0_byteOf 47 = .ok (.athrow, 1) := by decide +kernel
theorem dX0_byteOf_48 : decode cX0_byteOf 48 = .ok (.aload_n 0, 1) := by decide +kernel
theorem dX0_byteOf_49 : decode cX0_byteOf 49 = .ok (.getfield 13, 3) := by decide +kernel
theorem dX0_byteOf_52 : decode cX0_byteOf 52 = .ok (.aload_n 0, 1) := by decide +kernel
theorem dX0_byteOf_53 : decode cX0_byteOf 53 = .ok (.getfield 20, 3) := by decide +kernel
theorem dX0_byteOf_56 : decode cX0_byteOf 56 = .ok (.iload 4, 2) := by decide +kernel
theorem dX0_byteOf_58 : decode cX0_byteOf 58 = .ok (.iaload, 1) := by decide +kernel
theorem dX0_byteOf_59 : decode cX0_byteOf 59 = .ok (.iload_n 3, 1) := by decide +kernel
theorem dX0_byteOf_60 : decode cX0_byteOf 60 = .ok (.iadd, 1) := by decide +kernel
theorem dX0_byteOf_61 : decode cX0_byteOf 61 = .ok (.iaload, 1) := by decide +kernel
theorem dX0_byteOf_62 : decode cX0_byteOf 62 = .ok (.ireturn, 1) := by decide +kernel
theorem dX0_count_0 : decode cX0_count 0 = .ok (.iload_n 1, 1) := by decide +kernel
theorem dX0_count_1 : decode cX0_count 1 = .ok (.tableswitch 51 0 3 #[31, 36, 41, 46], 31) := by decide +kernel
theorem dX0_count_32 : decode cX0_count 32 = .ok (.aload_n 0, 1) := by decide +kernel
theorem dX0_count_33 : decode cX0_count 33 = .ok (.getfield 68, 3) := by decide +kernel
theorem dX0_count_36 : decode cX0_count 36 = .ok (.ireturn, 1) := by decide +kernel
theorem dX0_count_37 : decode cX0_count 37 = .ok (.aload_n 0, 1) := by decide +kernel
theorem dX0_count_38 : decode cX0_count 38 = .ok (.getfield 106, 3) := by decide +kernel
theorem dX0_count_41 : decode cX0_count 41 = .ok (.ireturn, 1) := by decide +kernel
theorem dX0_count_42 : decode cX0_count 42 = .ok (.aload_n 0, 1) := by decide +kernel
theorem dX0_count_43 : decode cX0_count 43 = .ok (.getfield 124, 3) := by decide +kernel
theorem dX0_count_46 : decode cX0_count 46 = .ok (.ireturn, 1) := by decide +kernel
theorem dX0_count_47 : decode cX0_count 47 = .ok (.aload_n 0, 1) := by decide +kernel
theorem dX0_count_48 : decode cX0_count 48 = .ok (.getfield 127, 3) := by decide +kernel
theorem dX0_count_51 : decode cX0_count 51 = .ok (.ireturn, 1) := by decide +kernel
theorem dX0_count_52 : decode cX0_count 52 = .ok (.new 55, 3) := by decide +kernel
theorem dX0_count_55 : decode cX0_count 55 = .ok (.dup, 1) := by decide +kernel
theorem dX0_count_56 : decode cX0_count 56 = .ok (.ldc 130, 2) := by decide +kernel
theorem dX0_count_58 : decode cX0_count 58 = .ok (.invokespecial 59, 3) := by decide +kernel
theorem dX0_count_61 : decode cX0_count 61 = .ok (.athrow, 1) := by decide +kernel
theorem dX0_journal_0 : decode cX0_journal 0 = .ok (.iload_n 1, 1) := by decide +kernel
theorem dX0_journal_1 : decode cX0_journal 1 = .ok (.ifCond .lt 11, 3) := by decide +kernel
theorem dX0_journal_4 : decode cX0_journal 4 = .ok (.iload_n 1, 1) := by decide +kernel
theorem dX0_journal_5 : decode cX0_journal 5 = .ok (.aload_n 0, 1) := by decide +kernel
theorem dX0_journal_6 : decode cX0_journal 6 = .ok (.getfield 124, 3) := by decide +kernel
theorem dX0_journal_9 : decode cX0_journal 9 = .ok (.if_icmp .lt 13, 3) := by decide +kernel
theorem dX0_journal_12 : decode cX0_journal 12 = .ok (.new 119, 3) := by decide +kernel
theorem dX0_journal_15 : decode cX0_journal 15 = .ok (.dup, 1) := by decide +kernel
theorem dX0_journal_16 : decode cX0_journal 16 = .ok (.ldc 132, 2) := by decide +kernel
theorem dX0_journal_18 : decode cX0_journal 18 = .ok (.invokespecial 123, 3) := by decide +kernel
theorem dX0_journal_21 : decode cX0_journal 21 = .ok (.athrow, 1) := by decide +kernel
theorem dX0_journal_22 : decode cX0_journal 22 = .ok (.aload_n 0, 1) := by decide +kernel
theorem dX0_journal_23 : decode cX0_journal 23 = .ok (.getfield 13, 3) := by decide +kernel
theorem dX0_journal_26 : decode cX0_journal 26 = .ok (.iload_n 1, 1) := by decide +kernel
theorem dX0_journal_27 : decode cX0_journal 27 = .ok (.iaload, 1) := by decide +kernel
theorem dX0_journal_28 : decode cX0_journal 28 = .ok (.ireturn, 1) := by decide +kernel
theorem dX0_sync_0 : decode cX0_sync 0 = .ok (.aload_n 0, 1) := by decide +kernel
theorem dX0_sync_1 : decode cX0_sync 1 = .ok (.aload_n 0, 1) := by decide +kernel
theorem dX0_sync_2 : decode cX0_sync 2 = .ok (.getfield 124, 3) := by decide +kernel
theorem dX0_sync_5 : decode cX0_sync 5 = .ok (.putfield 127, 3) := by decide +kernel
theorem dX0_sync_8 : decode cX0_sync 8 = .ok (.return_, 1) := by decide +kernel
theorem dX0_crash_0 : decode cX0_crash 0 = .ok (.iload_n 1, 1) := by decide +kernel
theorem dX0_crash_1 : decode cX0_crash 1 = .ok (.ifCond .lt 16, 3) := by decide +kernel
theorem dX0_crash_4 : decode cX0_crash 4 = .ok (.iload_n 1, 1) := by decide +kernel
theorem dX0_crash_5 : decode cX0_crash 5 = .ok (.aload_n 0, 1) := by decide +kernel
theorem dX0_crash_6 : decode cX0_crash 6 = .ok (.getfield 124, 3) := by decide +kernel
theorem dX0_crash_9 : decode cX0_crash 9 = .ok (.aload_n 0, 1) := by decide +kernel
theorem dX0_crash_10 : decode cX0_crash 10 = .ok (.getfield 127, 3) := by decide +kernel
theorem dX0_crash_13 : decode cX0_crash 13 = .ok (.isub, 1) := by decide +kernel
theorem dX0_crash_14 : decode cX0_crash 14 = .ok (.if_icmp .le 13, 3) := by decide +kernel
theorem dX0_crash_17 : decode cX0_crash 17 = .ok (.new 55, 3) := by decide +kernel
theorem dX0_crash_20 : decode cX0_crash 20 = .ok (.dup, 1) := by decide +kernel
theorem dX0_crash_21 : decode cX0_crash 21 = .ok (.ldc 134, 2) := by decide +kernel
theorem dX0_crash_23 : decode cX0_crash 23 = .ok (.invokespecial 59, 3) := by decide +kernel
theorem dX0_crash_26 : decode cX0_crash 26 = .ok (.athrow, 1) := by decide +kernel
theorem dX0_crash_27 : decode cX0_crash 27 = .ok (.iload_n 2, 1) := by decide +kernel
theorem dX0_crash_28 : decode cX0_crash 28 = .ok (.ifCond .lt 25, 3) := by decide +kernel
theorem dX0_crash_31 : decode cX0_crash 31 = .ok (.iload_n 2, 1) := by decide +kernel
theorem dX0_crash_32 : decode cX0_crash 32 = .ok (.iload_n 1, 1) := by decide +kernel
theorem dX0_crash_33 : decode cX0_crash 33 = .ok (.if_icmp .ge 20, 3) := by decide +kernel
theorem dX0_crash_36 : decode cX0_crash 36 = .ok (.aload_n 0, 1) := by decide +kernel
theorem dX0_crash_37 : decode cX0_crash 37 = .ok (.getfield 13, 3) := by decide +kernel
theorem dX0_crash_40 : decode cX0_crash 40 = .ok (.aload_n 0, 1) := by decide +kernel
theorem dX0_crash_41 : decode cX0_crash 41 = .ok (.getfield 127, 3) := by decide +kernel
theorem dX0_crash_44 : decode cX0_crash 44 = .ok (.iload_n 2, 1) := by decide +kernel
theorem dX0_crash_45 : decode cX0_crash 45 = .ok (.iadd, 1) := by decide +kernel
theorem dX0_crash_46 : decode cX0_crash 46 = .ok (.dup2, 1) := by decide +kernel
theorem dX0_crash_47 : decode cX0_crash 47 = .ok (.iaload, 1) := by decide +kernel
theorem dX0_crash_48 : decode cX0_crash 48 = .ok (.sipush 255, 3) := by decide +kernel
theorem dX0_crash_51 : decode cX0_crash 51 = .ok (.ixor, 1) := by decide +kernel
theorem dX0_crash_52 : decode cX0_crash 52 = .ok (.iastore, 1) := by decide +kernel
theorem dX0_crash_53 : decode cX0_crash 53 = .ok (.aload_n 0, 1) := by decide +kernel
theorem dX0_crash_54 : decode cX0_crash 54 = .ok (.aload_n 0, 1) := by decide +kernel
theorem dX0_crash_55 : decode cX0_crash 55 = .ok (.getfield 127, 3) := by decide +kernel
theorem dX0_crash_58 : decode cX0_crash 58 = .ok (.iload_n 1, 1) := by decide +kernel
theorem dX0_crash_59 : decode cX0_crash 59 = .ok (.iadd, 1) := by decide +kernel
theorem dX0_crash_60 : decode cX0_crash 60 = .ok (.putfield 124, 3) := by decide +kernel
theorem dX0_crash_63 : decode cX0_crash 63 = .ok (.aload_n 0, 1) := by decide +kernel
theorem dX0_crash_64 : decode cX0_crash 64 = .ok (.getfield 41, 3) := by decide +kernel
theorem dX0_crash_67 : decode cX0_crash 67 = .ok (.lconst 0, 1) := by decide +kernel
theorem dX0_crash_68 : decode cX0_crash 68 = .ok (.invokestatic 136, 3) := by decide +kernel
theorem dX0_crash_71 : decode cX0_crash 71 = .ok (.aload_n 0, 1) := by decide +kernel
theorem dX0_crash_72 : decode cX0_crash 72 = .ok (.invokevirtual 139, 3) := by decide +kernel
theorem dX0_crash_75 : decode cX0_crash 75 = .ok (.aload_n 0, 1) := by decide +kernel
theorem dX0_crash_76 : decode cX0_crash 76 = .ok (.getfield 124, 3) := by decide +kernel
theorem dX0_crash_79 : decode cX0_crash 79 = .ok (.ireturn, 1) := by decide +kernel
theorem dX0_collect_0 : decode cX0_collect 0 = .ok (.aload_n 0, 1) := by decide +kernel
theorem dX0_collect_1 : decode cX0_collect 1 = .ok (.getfield 68, 3) := by decide +kernel
theorem dX0_collect_4 : decode cX0_collect 4 = .ok (.istore_n 1, 1) := by decide +kernel
theorem dX0_collect_5 : decode cX0_collect 5 = .ok (.aload_n 0, 1) := by decide +kernel
theorem dX0_collect_6 : decode cX0_collect 6 = .ok (.iconst 0, 1) := by decide +kernel
theorem dX0_collect_7 : decode cX0_collect 7 = .ok (.putfield 124, 3) := by decide +kernel
theorem dX0_collect_10 : decode cX0_collect 10 = .ok (.aload_n 0, 1) := by decide +kernel
theorem dX0_collect_11 : decode cX0_collect 11 = .ok (.invokevirtual 142, 3) := by decide +kernel
theorem dX0_collect_14 : decode cX0_collect 14 = .ok (.aload_n 0, 1) := by decide +kernel
theorem dX0_collect_15 : decode cX0_collect 15 = .ok (.invokevirtual 145, 3) := by decide +kernel
theorem dX0_collect_18 : decode cX0_collect 18 = .ok (.aload_n 0, 1) := by decide +kernel
theorem dX0_collect_19 : decode cX0_collect 19 = .ok (.invokevirtual 148, 3) := by decide +kernel
theorem dX0_collect_22 : decode cX0_collect 22 = .ok (.aload_n 0, 1) := by decide +kernel
theorem dX0_collect_23 : decode cX0_collect 23 = .ok (.invokevirtual 139, 3) := by decide +kernel
theorem dX0_collect_26 : decode cX0_collect 26 = .ok (.iload_n 1, 1) := by decide +kernel
theorem dX0_collect_27 : decode cX0_collect 27 = .ok (.aload_n 0, 1) := by decide +kernel
theorem dX0_collect_28 : decode cX0_collect 28 = .ok (.getfield 68, 3) := by decide +kernel
theorem dX0_collect_31 : decode cX0_collect 31 = .ok (.isub, 1) := by decide +kernel
theorem dX0_collect_32 : decode cX0_collect 32 = .ok (.ireturn, 1) := by decide +kernel
theorem dX0_digestOf_0 : decode cX0_digestOf 0 = .ok (.ldc2_w 151, 3) := by decide +kernel
theorem dX0_digestOf_3 : decode cX0_digestOf 3 = .ok (.lstore_n 3, 1) := by decide +kernel
theorem dX0_digestOf_4 : decode cX0_digestOf 4 = .ok (.iload_n 1, 1) := by decide +kernel
theorem dX0_digestOf_5 : decode cX0_digestOf 5 = .ok (.istore 5, 2) := by decide +kernel
theorem dX0_digestOf_7 : decode cX0_digestOf 7 = .ok (.iload 5, 2) := by decide +kernel
theorem dX0_digestOf_9 : decode cX0_digestOf 9 = .ok (.iload_n 1, 1) := by decide +kernel
theorem dX0_digestOf_10 : decode cX0_digestOf 10 = .ok (.iload_n 2, 1) := by decide +kernel
theorem dX0_digestOf_11 : decode cX0_digestOf 11 = .ok (.iadd, 1) := by decide +kernel
theorem dX0_digestOf_12 : decode cX0_digestOf 12 = .ok (.if_icmp .ge 21, 3) := by decide +kernel
theorem dX0_digestOf_15 : decode cX0_digestOf 15 = .ok (.lload_n 3, 1) := by decide +kernel
theorem dX0_digestOf_16 : decode cX0_digestOf 16 = .ok (.aload_n 0, 1) := by decide +kernel
theorem dX0_digestOf_17 : decode cX0_digestOf 17 = .ok (.iload 5, 2) := by decide +kernel
theorem dX0_digestOf_19 : decode cX0_digestOf 19 = .ok (.iaload, 1) := by decide +kernel
theorem dX0_digestOf_20 : decode cX0_digestOf 20 = .ok (.i2l, 1) := by decide +kernel
theorem dX0_digestOf_21 : decode cX0_digestOf 21 = .ok (.lxor, 1) := by decide +kernel
theorem dX0_digestOf_22 : decode cX0_digestOf 22 = .ok (.ldc2_w 153, 3) := by decide +kernel
theorem dX0_digestOf_25 : decode cX0_digestOf 25 = .ok (.lmul, 1) := by decide +kernel
theorem dX0_digestOf_26 : decode cX0_digestOf 26 = .ok (.lstore_n 3, 1) := by decide +kernel
theorem dX0_digestOf_27 : decode cX0_digestOf 27 = .ok (.iinc 5 1, 3) := by decide +kernel
theorem dX0_digestOf_30 : decode cX0_digestOf 30 = .ok (.goto (-23), 3) := by decide +kernel
theorem dX0_digestOf_33 : decode cX0_digestOf 33 = .ok (.lload_n 3, 1) := by decide +kernel
theorem dX0_digestOf_34 : decode cX0_digestOf 34 = .ok (.iload_n 2, 1) := by decide +kernel
theorem dX0_digestOf_35 : decode cX0_digestOf 35 = .ok (.i2l, 1) := by decide +kernel
theorem dX0_digestOf_36 : decode cX0_digestOf 36 = .ok (.lxor, 1) := by decide +kernel
theorem dX0_digestOf_37 : decode cX0_digestOf 37 = .ok (.ldc2_w 155, 3) := by decide +kernel
theorem dX0_digestOf_40 : decode cX0_digestOf 40 = .ok (.lmul, 1) := by decide +kernel
theorem dX0_digestOf_41 : decode cX0_digestOf 41 = .ok (.lstore_n 3, 1) := by decide +kernel
theorem dX0_digestOf_42 : decode cX0_digestOf 42 = .ok (.lload_n 3, 1) := by decide +kernel
theorem dX0_digestOf_43 : decode cX0_digestOf 43 = .ok (.lload_n 3, 1) := by decide +kernel
theorem dX0_digestOf_44 : decode cX0_digestOf 44 = .ok (.bipush 32, 2) := by decide +kernel
theorem dX0_digestOf_46 : decode cX0_digestOf 46 = .ok (.lushr, 1) := by decide +kernel
theorem dX0_digestOf_47 : decode cX0_digestOf 47 = .ok (.lxor, 1) := by decide +kernel
theorem dX0_digestOf_48 : decode cX0_digestOf 48 = .ok (.lreturn, 1) := by decide +kernel
theorem dX0_findBlob_0 : decode cX0_findBlob 0 = .ok (.iconst 0, 1) := by decide +kernel
theorem dX0_findBlob_1 : decode cX0_findBlob 1 = .ok (.istore_n 3, 1) := by decide +kernel
theorem dX0_findBlob_2 : decode cX0_findBlob 2 = .ok (.iload_n 3, 1) := by decide +kernel
theorem dX0_findBlob_3 : decode cX0_findBlob 3 = .ok (.aload_n 0, 1) := by decide +kernel
theorem dX0_findBlob_4 : decode cX0_findBlob 4 = .ok (.getfield 68, 3) := by decide +kernel
theorem dX0_findBlob_7 : decode cX0_findBlob 7 = .ok (.if_icmp .ge 22, 3) := by decide +kernel
theorem dX0_findBlob_10 : decode cX0_findBlob 10 = .ok (.aload_n 0, 1) := by decide +kernel
theorem dX0_findBlob_11 : decode cX0_findBlob 11 = .ok (.getfield 16, 3) := by decide +kernel
theorem dX0_findBlob_14 : decode cX0_findBlob 14 = .ok (.iload_n 3, 1) := by decide +kernel
theorem dX0_findBlob_15 : decode cX0_findBlob 15 = .ok (.laload, 1) := by decide +kernel
theorem dX0_findBlob_16 : decode cX0_findBlob 16 = .ok (.lload_n 1, 1) := by decide +kernel
theorem dX0_findBlob_17 : decode cX0_findBlob 17 = .ok (.lcmp, 1) := by decide +kernel
theorem dX0_findBlob_18 : decode cX0_findBlob 18 = .ok (.ifCond .ne 5, 3) := by decide +kernel
theorem dX0_findBlob_21 : decode cX0_findBlob 21 = .ok (.iload_n 3, 1) := by decide +kernel
theorem dX0_findBlob_22 : decode cX0_findBlob 22 = .ok (.ireturn, 1) := by decide +kernel
theorem dX0_findBlob_23 : decode cX0_findBlob 23 = .ok (.iinc 3 1, 3) := by decide +kernel
theorem dX0_findBlob_26 : decode cX0_findBlob 26 = .ok (.goto (-24), 3) := by decide +kernel
theorem dX0_findBlob_29 : decode cX0_findBlob 29 = .ok (.iconst (-1), 1) := by decide +kernel
theorem dX0_findBlob_30 : decode cX0_findBlob 30 = .ok (.ireturn, 1) := by decide +kernel
theorem dX0_findKey_0 : decode cX0_findKey 0 = .ok (.iconst 0, 1) := by decide +kernel
theorem dX0_findKey_1 : decode cX0_findKey 1 = .ok (.istore_n 3, 1) := by decide +kernel
theorem dX0_findKey_2 : decode cX0_findKey 2 = .ok (.iload_n 3, 1) := by decide +kernel
theorem dX0_findKey_3 : decode cX0_findKey 3 = .ok (.aload_n 0, 1) := by decide +kernel
theorem dX0_findKey_4 : decode cX0_findKey 4 = .ok (.getfield 106, 3) := by decide +kernel
theorem dX0_findKey_7 : decode cX0_findKey 7 = .ok (.if_icmp .ge 22, 3) := by decide +kernel
theorem dX0_findKey_10 : decode cX0_findKey 10 = .ok (.aload_n 0, 1) := by decide +kernel
theorem dX0_findKey_11 : decode cX0_findKey 11 = .ok (.getfield 35, 3) := by decide +kernel
theorem dX0_findKey_14 : decode cX0_findKey 14 = .ok (.iload_n 3, 1) := by decide +kernel
theorem dX0_findKey_15 : decode cX0_findKey 15 = .ok (.laload, 1) := by decide +kernel
theorem dX0_findKey_16 : decode cX0_findKey 16 = .ok (.lload_n 1, 1) := by decide +kernel
theorem dX0_findKey_17 : decode cX0_findKey 17 = .ok (.lcmp, 1) := by decide +kernel
theorem dX0_findKey_18 : decode cX0_findKey 18 = .ok (.ifCond .ne 5, 3) := by decide +kernel
theorem dX0_findKey_21 : decode cX0_findKey 21 = .ok (.iload_n 3, 1) := by decide +kernel
theorem dX0_findKey_22 : decode cX0_findKey 22 = .ok (.ireturn, 1) := by decide +kernel
theorem dX0_findKey_23 : decode cX0_findKey 23 = .ok (.iinc 3 1, 3) := by decide +kernel
theorem dX0_findKey_26 : decode cX0_findKey 26 = .ok (.goto (-24), 3) := by decide +kernel
theorem dX0_findKey_29 : decode cX0_findKey 29 = .ok (.iconst (-1), 1) := by decide +kernel
theorem dX0_findKey_30 : decode cX0_findKey 30 = .ok (.ireturn, 1) := by decide +kernel
theorem dX0_isTag_0 : decode cX0_isTag 0 = .ok (.iload_n 0, 1) := by decide +kernel
theorem dX0_isTag_1 : decode cX0_isTag 1 = .ok (.ifCond .lt 13, 3) := by decide +kernel
theorem dX0_isTag_4 : decode cX0_isTag 4 = .ok (.iload_n 0, 1) := by decide +kernel
theorem dX0_isTag_5 : decode cX0_isTag 5 = .ok (.bipush 8, 2) := by decide +kernel
theorem dX0_isTag_7 : decode cX0_isTag 7 = .ok (.if_icmp .ge 7, 3) := by decide +kernel
theorem dX0_isTag_10 : decode cX0_isTag 10 = .ok (.iconst 1, 1) := by decide +kernel
theorem dX0_isTag_11 : decode cX0_isTag 11 = .ok (.goto 4, 3) := by decide +kernel
theorem dX0_isTag_14 : decode cX0_isTag 14 = .ok (.iconst 0, 1) := by decide +kernel
theorem dX0_isTag_15 : decode cX0_isTag 15 = .ok (.ireturn, 1) := by decide +kernel
theorem dX0_demandTag_0 : decode cX0_demandTag 0 = .ok (.iload_n 0, 1) := by decide +kernel
theorem dX0_demandTag_1 : decode cX0_demandTag 1 = .ok (.invokestatic 157, 3) := by decide +kernel
theorem dX0_demandTag_4 : decode cX0_demandTag 4 = .ok (.ifCond .ne 13, 3) := by decide +kernel
theorem dX0_demandTag_7 : decode cX0_demandTag 7 = .ok (.new 55, 3) := by decide +kernel
theorem dX0_demandTag_10 : decode cX0_demandTag 10 = .ok (.dup, 1) := by decide +kernel
theorem dX0_demandTag_11 : decode cX0_demandTag 11 = .ok (.ldc 160, 2) := by decide +kernel
theorem dX0_demandTag_13 : decode cX0_demandTag 13 = .ok (.invokespecial 59, 3) := by decide +kernel
theorem dX0_demandTag_16 : decode cX0_demandTag 16 = .ok (.athrow, 1) := by decide +kernel
theorem dX0_demandTag_17 : decode cX0_demandTag 17 = .ok (.return_, 1) := by decide +kernel
theorem dX0_demandRoom_0 : decode cX0_demandRoom 0 = .ok (.aload_n 0, 1) := by decide +kernel
theorem dX0_demandRoom_1 : decode cX0_demandRoom 1 = .ok (.getfield 124, 3) := by decide +kernel
theorem dX0_demandRoom_4 : decode cX0_demandRoom 4 = .ok (.iconst 4, 1) := by decide +kernel
theorem dX0_demandRoom_5 : decode cX0_demandRoom 5 = .ok (.iadd, 1) := by decide +kernel
theorem dX0_demandRoom_6 : decode cX0_demandRoom 6 = .ok (.iload_n 1, 1) := by decide +kernel
theorem dX0_demandRoom_7 : decode cX0_demandRoom 7 = .ok (.iadd, 1) := by decide +kernel
theorem dX0_demandRoom_8 : decode cX0_demandRoom 8 = .ok (.sipush 700, 3) := by decide +kernel
theorem dX0_demandRoom_11 : decode cX0_demandRoom 11 = .ok (.if_icmp .le 13, 3) := by decide +kernel
theorem dX0_demandRoom_14 : decode cX0_demandRoom 14 = .ok (.new 48, 3) := by decide +kernel
theorem dX0_demandRoom_17 : decode cX0_demandRoom 17 = .ok (.dup, 1) := by decide +kernel
theorem dX0_demandRoom_18 : decode cX0_demandRoom 18 = .ok (.ldc 162, 2) := by decide +kernel
theorem dX0_demandRoom_20 : decode cX0_demandRoom 20 = .ok (.invokespecial 52, 3) := by decide +kernel
theorem dX0_demandRoom_23 : decode cX0_demandRoom 23 = .ok (.athrow, 1) := by decide +kernel
theorem dX0_demandRoom_24 : decode cX0_demandRoom 24 = .ok (.return_, 1) := by decide +kernel
theorem dX0_writeTyped_0 : decode cX0_writeTyped 0 = .ok (.aload_n 0, 1) := by decide +kernel
theorem dX0_writeTyped_1 : decode cX0_writeTyped 1 = .ok (.iconst 1, 1) := by decide +kernel
theorem dX0_writeTyped_2 : decode cX0_writeTyped 2 = .ok (.aload_n 0, 1) := by decide +kernel
theorem dX0_writeTyped_3 : decode cX0_writeTyped 3 = .ok (.getfield 44, 3) := by decide +kernel
theorem dX0_writeTyped_6 : decode cX0_writeTyped 6 = .ok (.invokevirtual 164, 3) := by decide +kernel
theorem dX0_writeTyped_9 : decode cX0_writeTyped 9 = .ok (.istore_n 1, 1) := by decide +kernel
theorem dX0_writeTyped_10 : decode cX0_writeTyped 10 = .ok (.iconst 0, 1) := by decide +kernel
theorem dX0_writeTyped_11 : decode cX0_writeTyped 11 = .ok (.istore_n 2, 1) := by decide +kernel
theorem dX0_writeTyped_12 : decode cX0_writeTyped 12 = .ok (.iload_n 2, 1) := by decide +kernel
theorem dX0_writeTyped_13 : decode cX0_writeTyped 13 = .ok (.aload_n 0, 1) := by decide +kernel
theorem dX0_writeTyped_14 : decode cX0_writeTyped 14 = .ok (.getfield 44, 3) := by decide +kernel
theorem dX0_writeTyped_17 : decode cX0_writeTyped 17 = .ok (.if_icmp .ge 19, 3) := by decide +kernel
theorem dX0_writeTyped_20 : decode cX0_writeTyped 20 = .ok (.aload_n 0, 1) := by decide +kernel
theorem dX0_writeTyped_21 : decode cX0_writeTyped 21 = .ok (.aload_n 0, 1) := by decide +kernel
theorem dX0_writeTyped_22 : decode cX0_writeTyped 22 = .ok (.getfield 9, 3) := by decide +kernel
theorem dX0_writeTyped_25 : decode cX0_writeTyped 25 = .ok (.iload_n 2, 1) := by decide +kernel
theorem dX0_writeTyped_26 : decode cX0_writeTyped 26 = .ok (.iaload, 1) := by decide +kernel
theorem dX0_writeTyped_27 : decode cX0_writeTyped 27 = .ok (.invokevirtual 168, 3) := by decide +kernel
theorem dX0_writeTyped_30 : decode cX0_writeTyped 30 = .ok (.iinc 2 1, 3) := by decide +kernel
theorem dX0_writeTyped_33 : decode cX0_writeTyped 33 = .ok (.goto (-21), 3) := by decide +kernel
theorem dX0_writeTyped_36 : decode cX0_writeTyped 36 = .ok (.aload_n 0, 1) := by decide +kernel
theorem dX0_writeTyped_37 : decode cX0_writeTyped 37 = .ok (.iload_n 1, 1) := by decide +kernel
theorem dX0_writeTyped_38 : decode cX0_writeTyped 38 = .ok (.invokevirtual 171, 3) := by decide +kernel
theorem dX0_writeTyped_41 : decode cX0_writeTyped 41 = .ok (.iload_n 1, 1) := by decide +kernel
theorem dX0_writeTyped_42 : decode cX0_writeTyped 42 = .ok (.ireturn, 1) := by decide +kernel
theorem dX0_writeTell_0 : decode cX0_writeTell 0 = .ok (.aload_n 0, 1) := by decide +kernel
theorem dX0_writeTell_1 : decode cX0_writeTell 1 = .ok (.iconst 2, 1) := by decide +kernel
theorem dX0_writeTell_2 : decode cX0_writeTell 2 = .ok (.bipush 9, 2) := by decide +kernel
theorem dX0_writeTell_4 : decode cX0_writeTell 4 = .ok (.invokevirtual 164, 3) := by decide +kernel
theorem dX0_writeTell_7 : decode cX0_writeTell 7 = .ok (.istore 4, 2) := by decide +kernel
theorem dX0_writeTell_9 : decode cX0_writeTell 9 = .ok (.aload_n 0, 1) := by decide +kernel
theorem dX0_writeTell_10 : decode cX0_writeTell 10 = .ok (.iload_n 1, 1) := by decide +kernel
theorem dX0_writeTell_11 : decode cX0_writeTell 11 = .ok (.invokevirtual 168, 3) := by decide +kernel
theorem dX0_writeTell_14 : decode cX0_writeTell 14 = .ok (.aload_n 0, 1) := by decide +kernel
theorem dX0_writeTell_15 : decode cX0_writeTell 15 = .ok (.lload_n 2, 1) := by decide +kernel
theorem dX0_writeTell_16 : decode cX0_writeTell 16 = .ok (.invokevirtual 174, 3) := by decide +kernel
theorem dX0_writeTell_19 : decode cX0_writeTell 19 = .ok (.aload_n 0, 1) := by decide +kernel
theorem dX0_writeTell_20 : decode cX0_writeTell 20 = .ok (.iload 4, 2) := by decide +kernel
theorem dX0_writeTell_22 : decode cX0_writeTell 22 = .ok (.invokevirtual 171, 3) := by decide +kernel
theorem dX0_writeTell_25 : decode cX0_writeTell 25 = .ok (.iload 4, 2) := by decide +kernel
theorem dX0_writeTell_27 : decode cX0_writeTell 27 = .ok (.ireturn, 1) := by decide +kernel
theorem dX0_writeUntell_0 : decode cX0_writeUntell 0 = .ok (.aload_n 0, 1) := by decide +kernel
theorem dX0_writeUntell_1 : decode cX0_writeUntell 1 = .ok (.iconst 3, 1) := by decide +kernel
theorem dX0_writeUntell_2 : decode cX0_writeUntell 2 = .ok (.iconst 1, 1) := by decide +kernel
theorem dX0_writeUntell_3 : decode cX0_writeUntell 3 = .ok (.invokevirtual 164, 3) := by decide +kernel
theorem dX0_writeUntell_6 : decode cX0_writeUntell 6 = .ok (.istore_n 2, 1) := by decide +kernel
theorem dX0_writeUntell_7 : decode cX0_writeUntell 7 = .ok (.aload_n 0, 1) := by decide +kernel
theorem dX0_writeUntell_8 : decode cX0_writeUntell 8 = .ok (.iload_n 1, 1) := by decide +kernel
theorem dX0_writeUntell_9 : decode cX0_writeUntell 9 = .ok (.invokevirtual 168, 3) := by decide +kernel
theorem dX0_writeUntell_12 : decode cX0_writeUntell 12 = .ok (.aload_n 0, 1) := by decide +kernel
theorem dX0_writeUntell_13 : decode cX0_writeUntell 13 = .ok (.iload_n 2, 1) := by decide +kernel
theorem dX0_writeUntell_14 : decode cX0_writeUntell 14 = .ok (.invokevirtual 171, 3) := by decide +kernel
theorem dX0_writeUntell_17 : decode cX0_writeUntell 17 = .ok (.iload_n 2, 1) := by decide +kernel
theorem dX0_writeUntell_18 : decode cX0_writeUntell 18 = .ok (.ireturn, 1) := by decide +kernel
theorem dX0_writeKey_0 : decode cX0_writeKey 0 = .ok (.aload_n 0, 1) := by decide +kernel
theorem dX0_writeKey_1 : decode cX0_writeKey 1 = .ok (.iconst 4, 1) := by decide +kernel
theorem dX0_writeKey_2 : decode cX0_writeKey 2 = .ok (.bipush 16, 2) := by decide +kernel
theorem dX0_writeKey_4 : decode cX0_writeKey 4 = .ok (.invokevirtual 164, 3) := by decide +kernel
theorem dX0_writeKey_7 : decode cX0_writeKey 7 = .ok (.istore 5, 2) := by decide +kernel
theorem dX0_writeKey_9 : decode cX0_writeKey 9 = .ok (.aload_n 0, 1) := by decide +kernel
theorem dX0_writeKey_10 : decode cX0_writeKey 10 = .ok (.lload_n 1, 1) := by decide +kernel
theorem dX0_writeKey_11 : decode cX0_writeKey 11 = .ok (.invokevirtual 174, 3) := by decide +kernel
theorem dX0_writeKey_14 : decode cX0_writeKey 14 = .ok (.aload_n 0, 1) := by decide +kernel
theorem dX0_writeKey_15 : decode cX0_writeKey 15 = .ok (.lload_n 3, 1) := by decide +kernel
theorem dX0_writeKey_16 : decode cX0_writeKey 16 = .ok (.invokevirtual 174, 3) := by decide +kernel
theorem dX0_writeKey_19 : decode cX0_writeKey 19 = .ok (.aload_n 0, 1) := by decide +kernel
theorem dX0_writeKey_20 : decode cX0_writeKey 20 = .ok (.iload 5, 2) := by decide +kernel
theorem dX0_writeKey_22 : decode cX0_writeKey 22 = .ok (.invokevirtual 171, 3) := by decide +kernel
theorem dX0_writeKey_25 : decode cX0_writeKey 25 = .ok (.iload 5, 2) := by decide +kernel
theorem dX0_writeKey_27 : decode cX0_writeKey 27 = .ok (.ireturn, 1) := by decide +kernel
theorem dX0_writeHead_0 : decode cX0_writeHead 0 = .ok (.aload_n 0, 1) := by decide +kernel
theorem dX0_writeHead_1 : decode cX0_writeHead 1 = .ok (.getfield 124, 3) := by decide +kernel
theorem dX0_writeHead_4 : decode cX0_writeHead 4 = .ok (.istore_n 3, 1) := by decide +kernel
theorem dX0_writeHead_5 : decode cX0_writeHead 5 = .ok (.aload_n 0, 1) := by decide +kernel
theorem dX0_writeHead_6 : decode cX0_writeHead 6 = .ok (.iload_n 1, 1) := by decide +kernel
theorem dX0_writeHead_7 : decode cX0_writeHead 7 = .ok (.invokevirtual 168, 3) := by decide +kernel
theorem dX0_writeHead_10 : decode cX0_writeHead 10 = .ok (.aload_n 0, 1) := by decide +kernel
theorem dX0_writeHead_11 : decode cX0_writeHead 11 = .ok (.iload_n 2, 1) := by decide +kernel
theorem dX0_writeHead_12 : decode cX0_writeHead 12 = .ok (.sipush 255, 3) := by decide +kernel
theorem dX0_writeHead_15 : decode cX0_writeHead 15 = .ok (.iand, 1) := by decide +kernel
theorem dX0_writeHead_16 : decode cX0_writeHead 16 = .ok (.invokevirtual 168, 3) := by decide +kernel
theorem dX0_writeHead_19 : decode cX0_writeHead 19 = .ok (.aload_n 0, 1) := by decide +kernel
theorem dX0_writeHead_20 : decode cX0_writeHead 20 = .ok (.iload_n 2, 1) := by decide +kernel
theorem dX0_writeHead_21 : decode cX0_writeHead 21 = .ok (.bipush 8, 2) := by decide +kernel
theorem dX0_writeHead_23 : decode cX0_writeHead 23 = .ok (.iushr, 1) := by decide +kernel
theorem dX0_writeHead_24 : decode cX0_writeHead 24 = .ok (.invokevirtual 168, 3) := by decide +kernel
theorem dX0_writeHead_27 : decode cX0_writeHead 27 = .ok (.iload_n 3, 1) := by decide +kernel
theorem dX0_writeHead_28 : decode cX0_writeHead 28 = .ok (.ireturn, 1) := by decide +kernel
theorem dX0_writeLong_0 : decode cX0_writeLong 0 = .ok (.iconst 0, 1) := by decide +kernel
theorem dX0_writeLong_1 : decode cX0_writeLong 1 = .ok (.istore_n 3, 1) := by decide +kernel
theorem dX0_writeLong_2 : decode cX0_writeLong 2 = .ok (.iload_n 3, 1) := by decide +kernel
theorem dX0_writeLong_3 : decode cX0_writeLong 3 = .ok (.bipush 8, 2) := by decide +kernel
theorem dX0_writeLong_5 : decode cX0_writeLong 5 = .ok (.if_icmp .ge 24, 3) := by decide +kernel
theorem dX0_writeLong_8 : decode cX0_writeLong 8 = .ok (.aload_n 0, 1) := by decide +kernel
theorem dX0_writeLong_9 : decode cX0_writeLong 9 = .ok (.lload_n 1, 1) := by decide +kernel
theorem dX0_writeLong_10 : decode cX0_writeLong 10 = .ok (.bipush 8, 2) := by decide +kernel
theorem dX0_writeLong_12 : decode cX0_writeLong 12 = .ok (.iload_n 3, 1) := by decide +kernel
theorem dX0_writeLong_13 : decode cX0_writeLong 13 = .ok (.imul, 1) := by decide +kernel
theorem dX0_writeLong_14 : decode cX0_writeLong 14 = .ok (.lushr, 1) := by decide +kernel
theorem dX0_writeLong_15 : decode cX0_writeLong 15 = .ok (.l2i, 1) := by decide +kernel
theorem dX0_writeLong_16 : decode cX0_writeLong 16 = .ok (.sipush 255, 3) := by decide +kernel
theorem dX0_writeLong_19 : decode cX0_writeLong 19 = .ok (.iand, 1) := by decide +kernel
theorem dX0_writeLong_20 : decode cX0_writeLong 20 = .ok (.invokevirtual 168, 3) := by decide +kernel
theorem dX0_writeLong_23 : decode cX0_writeLong 23 = .ok (.iinc 3 1, 3) := by decide +kernel
theorem dX0_writeLong_26 : decode cX0_writeLong 26 = .ok (.goto (-24), 3) := by decide +kernel
theorem dX0_writeLong_29 : decode cX0_writeLong 29 = .ok (.return_, 1) := by decide +kernel
theorem dX0_writeSum_0 : decode cX0_writeSum 0 = .ok (.aload_n 0, 1) := by decide +kernel
theorem dX0_writeSum_1 : decode cX0_writeSum 1 = .ok (.aload_n 0, 1) := by decide +kernel
theorem dX0_writeSum_2 : decode cX0_writeSum 2 = .ok (.iload_n 1, 1) := by decide +kernel
theorem dX0_writeSum_3 : decode cX0_writeSum 3 = .ok (.aload_n 0, 1) := by decide +kernel
theorem dX0_writeSum_4 : decode cX0_writeSum 4 = .ok (.getfield 124, 3) := by decide +kernel
theorem dX0_writeSum_7 : decode cX0_writeSum 7 = .ok (.invokevirtual 178, 3) := by decide +kernel
theorem dX0_writeSum_10 : decode cX0_writeSum 10 = .ok (.invokevirtual 168, 3) := by decide +kernel
theorem dX0_writeSum_13 : decode cX0_writeSum 13 = .ok (.return_, 1) := by decide +kernel
theorem dX0_writeByte_0 : decode cX0_writeByte 0 = .ok (.aload_n 0, 1) := by decide +kernel
theorem dX0_writeByte_1 : decode cX0_writeByte 1 = .ok (.getfield 124, 3) := by decide +kernel
theorem dX0_writeByte_4 : decode cX0_writeByte 4 = .ok (.sipush 700, 3) := by decide +kernel
theorem dX0_writeByte_7 : decode cX0_writeByte 7 = .ok (.if_icmp .ge 23, 3) := by decide +kernel
theorem dX0_writeByte_10 : decode cX0_writeByte 10 = .ok (.aload_n 0, 1) := by decide +kernel
theorem dX0_writeByte_11 : decode cX0_writeByte 11 = .ok (.getfield 13, 3) := by decide +kernel
theorem dX0_writeByte_14 : decode cX0_writeByte 14 = .ok (.aload_n 0, 1) := by decide +kernel
theorem dX0_writeByte_15 : decode cX0_writeByte 15 = .ok (.getfield 124, 3) := by decide +kernel
theorem dX0_writeByte_18 : decode cX0_writeByte 18 = .ok (.iload_n 1, 1) := by decide +kernel
theorem dX0_writeByte_19 : decode cX0_writeByte 19 = .ok (.iastore, 1) := by decide +kernel
theorem dX0_writeByte_20 : decode cX0_writeByte 20 = .ok (.aload_n 0, 1) := by decide +kernel
theorem dX0_writeByte_21 : decode cX0_writeByte 21 = .ok (.dup, 1) := by decide +kernel
theorem dX0_writeByte_22 : decode cX0_writeByte 22 = .ok (.getfield 124, 3) := by decide +kernel
theorem dX0_writeByte_25 : decode cX0_writeByte 25 = .ok (.iconst 1, 1) := by decide +kernel
theorem dX0_writeByte_26 : decode cX0_writeByte 26 = .ok (.iadd, 1) := by decide +kernel
theorem dX0_writeByte_27 : decode cX0_writeByte 27 = .ok (.putfield 124, 3) := by decide +kernel
theorem dX0_writeByte_30 : decode cX0_writeByte 30 = .ok (.return_, 1) := by decide +kernel
theorem dX0_sumOf_0 : decode cX0_sumOf 0 = .ok (.iconst 0, 1) := by decide +kernel
theorem dX0_sumOf_1 : decode cX0_sumOf 1 = .ok (.istore_n 3, 1) := by decide +kernel
theorem dX0_sumOf_2 : decode cX0_sumOf 2 = .ok (.iload_n 1, 1) := by decide +kernel
theorem dX0_sumOf_3 : decode cX0_sumOf 3 = .ok (.istore 4, 2) := by decide +kernel
theorem dX0_sumOf_5 : decode cX0_sumOf 5 = .ok (.iload 4, 2) := by decide +kernel
theorem dX0_sumOf_7 : decode cX0_sumOf 7 = .ok (.iload_n 2, 1) := by decide +kernel
theorem dX0_sumOf_8 : decode cX0_sumOf 8 = .ok (.if_icmp .ge 19, 3) := by decide +kernel
theorem dX0_sumOf_11 : decode cX0_sumOf 11 = .ok (.iload_n 3, 1) := by decide +kernel
theorem dX0_sumOf_12 : decode cX0_sumOf 12 = .ok (.aload_n 0, 1) := by decide +kernel
theorem dX0_sumOf_13 : decode cX0_sumOf 13 = .ok (.getfield 13, 3) := by decide +kernel
theorem dX0_sumOf_16 : decode cX0_sumOf 16 = .ok (.iload 4, 2) := by decide +kernel
theorem dX0_sumOf_18 : decode cX0_sumOf 18 = .ok (.iaload, 1) := by decide +kernel
theorem dX0_sumOf_19 : decode cX0_sumOf 19 = .ok (.iadd, 1) := by decide +kernel
theorem dX0_sumOf_20 : decode cX0_sumOf 20 = .ok (.istore_n 3, 1) := by decide +kernel
theorem dX0_sumOf_21 : decode cX0_sumOf 21 = .ok (.iinc 4 1, 3) := by decide +kernel
theorem dX0_sumOf_24 : decode cX0_sumOf 24 = .ok (.goto (-19), 3) := by decide +kernel
theorem dX0_sumOf_27 : decode cX0_sumOf 27 = .ok (.iload_n 3, 1) := by decide +kernel
theorem dX0_sumOf_28 : decode cX0_sumOf 28 = .ok (.sipush 255, 3) := by decide +kernel
theorem dX0_sumOf_31 : decode cX0_sumOf 31 = .ok (.iand, 1) := by decide +kernel
theorem dX0_sumOf_32 : decode cX0_sumOf 32 = .ok (.ireturn, 1) := by decide +kernel
theorem dX0_restore_0 : decode cX0_restore 0 = .ok (.aload_n 0, 1) := by decide +kernel
theorem dX0_restore_1 : decode cX0_restore 1 = .ok (.getfield 124, 3) := by decide +kernel
theorem dX0_restore_4 : decode cX0_restore 4 = .ok (.istore_n 1, 1) := by decide +kernel
theorem dX0_restore_5 : decode cX0_restore 5 = .ok (.aload_n 0, 1) := by decide +kernel
theorem dX0_restore_6 : decode cX0_restore 6 = .ok (.iconst 0, 1) := by decide +kernel
theorem dX0_restore_7 : decode cX0_restore 7 = .ok (.putfield 68, 3) := by decide +kernel
theorem dX0_restore_10 : decode cX0_restore 10 = .ok (.aload_n 0, 1) := by decide +kernel
theorem dX0_restore_11 : decode cX0_restore 11 = .ok (.iconst 0, 1) := by decide +kernel
theorem dX0_restore_12 : decode cX0_restore 12 = .ok (.putfield 106, 3) := by decide +kernel
theorem dX0_restore_15 : decode cX0_restore 15 = .ok (.aload_n 0, 1) := by decide +kernel
theorem dX0_restore_16 : decode cX0_restore 16 = .ok (.getfield 26, 3) := by decide +kernel
theorem dX0_restore_19 : decode cX0_restore 19 = .ok (.iconst (-1), 1) := by decide +kernel
theorem dX0_restore_20 : decode cX0_restore 20 = .ok (.invokestatic 29, 3) := by decide +kernel
theorem dX0_restore_23 : decode cX0_restore 23 = .ok (.iconst 0, 1) := by decide +kernel
theorem dX0_restore_24 : decode cX0_restore 24 = .ok (.istore_n 2, 1) := by decide +kernel
theorem dX0_restore_25 : decode cX0_restore 25 = .ok (.iconst 0, 1) := by decide +kernel
theorem dX0_restore_26 : decode cX0_restore 26 = .ok (.istore_n 3, 1) := by decide +kernel
theorem dX0_restore_27 : decode cX0_restore 27 = .ok (.iload_n 3, 1) := by decide +kernel
theorem dX0_restore_28 : decode cX0_restore 28 = .ok (.sipush 175, 3) := by decide +kernel
theorem dX0_restore_31 : decode cX0_restore 31 = .ok (.if_icmp .ge 36, 3) := by decide +kernel
theorem dX0_restore_34 : decode cX0_restore 34 = .ok (.aload_n 0, 1) := by decide +kernel
theorem dX0_restore_35 : decode cX0_restore 35 = .ok (.iload_n 2, 1) := by decide +kernel
theorem dX0_restore_36 : decode cX0_restore 36 = .ok (.iload_n 1, 1) := by decide +kernel
theorem dX0_restore_37 : decode cX0_restore 37 = .ok (.invokevirtual 181, 3) := by decide +kernel
theorem dX0_restore_40 : decode cX0_restore 40 = .ok (.ifCond .eq 27, 3) := by decide +kernel
theorem dX0_restore_43 : decode cX0_restore 43 = .ok (.aload_n 0, 1) := by decide +kernel
theorem dX0_restore_44 : decode cX0_restore 44 = .ok (.iload_n 2, 1) := by decide +kernel
theorem dX0_restore_45 : decode cX0_restore 45 = .ok (.invokevirtual 81, 3) := by decide +kernel
theorem dX0_restore_48 : decode cX0_restore 48 = .ok (.ifCond .eq 19, 3) := by decide +kernel
theorem dX0_restore_51 : decode cX0_restore 51 = .ok (.iload_n 2, 1) := by decide +kernel
theorem dX0_restore_52 : decode cX0_restore 52 = .ok (.iconst 4, 1) := by decide +kernel
theorem dX0_restore_53 : decode cX0_restore 53 = .ok (.aload_n 0, 1) := by decide +kernel
theorem dX0_restore_54 : decode cX0_restore 54 = .ok (.iload_n 2, 1) := by decide +kernel
theorem dX0_restore_55 : decode cX0_restore 55 = .ok (.invokevirtual 185, 3) := by decide +kernel
theorem dX0_restore_58 : decode cX0_restore 58 = .ok (.iadd, 1) := by decide +kernel
theorem dX0_restore_59 : decode cX0_restore 59 = .ok (.iadd, 1) := by decide +kernel
theorem dX0_restore_60 : decode cX0_restore 60 = .ok (.istore_n 2, 1) := by decide +kernel
theorem dX0_restore_61 : decode cX0_restore 61 = .ok (.iinc 3 1, 3) := by decide +kernel
theorem dX0_restore_64 : decode cX0_restore 64 = .ok (.goto (-37), 3) := by decide +kernel
theorem dX0_restore_67 : decode cX0_restore 67 = .ok (.aload_n 0, 1) := by decide +kernel
theorem dX0_restore_68 : decode cX0_restore 68 = .ok (.iload_n 2, 1) := by decide +kernel
theorem dX0_restore_69 : decode cX0_restore 69 = .ok (.putfield 124, 3) := by decide +kernel
theorem dX0_restore_72 : decode cX0_restore 72 = .ok (.aload_n 0, 1) := by decide +kernel
theorem dX0_restore_73 : decode cX0_restore 73 = .ok (.iload_n 2, 1) := by decide +kernel
theorem dX0_restore_74 : decode cX0_restore 74 = .ok (.putfield 127, 3) := by decide +kernel
theorem dX0_restore_77 : decode cX0_restore 77 = .ok (.return_, 1) := by decide +kernel
theorem dX0_isWhole_0 : decode cX0_isWhole 0 = .ok (.iload_n 1, 1) := by decide +kernel
theorem dX0_isWhole_1 : decode cX0_isWhole 1 = .ok (.iconst 4, 1) := by decide +kernel
theorem dX0_isWhole_2 : decode cX0_isWhole 2 = .ok (.iadd, 1) := by decide +kernel
theorem dX0_isWhole_3 : decode cX0_isWhole 3 = .ok (.iload_n 2, 1) := by decide +kernel
theorem dX0_isWhole_4 : decode cX0_isWhole 4 = .ok (.if_icmp .le 5, 3) := by decide +kernel
theorem dX0_isWhole_7 : decode cX0_isWhole 7 = .ok (.iconst 0, 1) := by decide +kernel
theorem dX0_isWhole_8 : decode cX0_isWhole 8 = .ok (.ireturn, 1) := by decide +kernel
theorem dX0_isWhole_9 : decode cX0_isWhole 9 = .ok (.iload_n 1, 1) := by decide +kernel
theorem dX0_isWhole_10 : decode cX0_isWhole 10 = .ok (.iconst 3, 1) := by decide +kernel
theorem dX0_isWhole_11 : decode cX0_isWhole 11 = .ok (.iadd, 1) := by decide +kernel
theorem dX0_isWhole_12 : decode cX0_isWhole 12 = .ok (.aload_n 0, 1) := by decide +kernel
theorem dX0_isWhole_13 : decode cX0_isWhole 13 = .ok (.iload_n 1, 1) := by decide +kernel
theorem dX0_isWhole_14 : decode cX0_isWhole 14 = .ok (.invokevirtual 185, 3) := by decide +kernel
theorem dX0_isWhole_17 : decode cX0_isWhole 17 = .ok (.iadd, 1) := by decide +kernel
theorem dX0_isWhole_18 : decode cX0_isWhole 18 = .ok (.istore_n 3, 1) := by decide +kernel
theorem dX0_isWhole_19 : decode cX0_isWhole 19 = .ok (.iload_n 3, 1) := by decide +kernel
theorem dX0_isWhole_20 : decode cX0_isWhole 20 = .ok (.iload_n 2, 1) := by decide +kernel
theorem dX0_isWhole_21 : decode cX0_isWhole 21 = .ok (.if_icmp .ge 22, 3) := by decide +kernel
theorem dX0_isWhole_24 : decode cX0_isWhole 24 = .ok (.aload_n 0, 1) := by decide +kernel
theorem dX0_isWhole_25 : decode cX0_isWhole 25 = .ok (.getfield 13, 3) := by decide +kernel
theorem dX0_isWhole_28 : decode cX0_isWhole 28 = .ok (.iload_n 3, 1) := by decide +kernel
theorem dX0_isWhole_29 : decode cX0_isWhole 29 = .ok (.iaload, 1) := by decide +kernel
theorem dX0_isWhole_30 : decode cX0_isWhole 30 = .ok (.aload_n 0, 1) := by decide +kernel
theorem dX0_isWhole_31 : decode cX0_isWhole 31 = .ok (.iload_n 1, 1) := by decide +kernel
theorem dX0_isWhole_32 : decode cX0_isWhole 32 = .ok (.iload_n 3, 1) := by decide +kernel
theorem dX0_isWhole_33 : decode cX0_isWhole 33 = .ok (.invokevirtual 178, 3) := by decide +kernel
theorem dX0_isWhole_36 : decode cX0_isWhole 36 = .ok (.if_icmp .ne 7, 3) := by decide +kernel
theorem dX0_isWhole_39 : decode cX0_isWhole 39 = .ok (.iconst 1, 1) := by decide +kernel
theorem dX0_isWhole_40 : decode cX0_isWhole 40 = .ok (.goto 4, 3) := by decide +kernel
theorem dX0_isWhole_43 : decode cX0_isWhole 43 = .ok (.iconst 0, 1) := by decide +kernel
theorem dX0_isWhole_44 : decode cX0_isWhole 44 = .ok (.ireturn, 1) := by decide +kernel
theorem dX0_lengthAt_0 : decode cX0_lengthAt 0 = .ok (.aload_n 0, 1) := by decide +kernel
theorem dX0_lengthAt_1 : decode cX0_lengthAt 1 = .ok (.getfield 13, 3) := by decide +kernel
theorem dX0_lengthAt_4 : decode cX0_lengthAt 4 = .ok (.iload_n 1, 1) := by decide +kernel
theorem dX0_lengthAt_5 : decode cX0_lengthAt 5 = .ok (.iconst 1, 1) := by decide +kernel
theorem dX0_lengthAt_6 : decode cX0_lengthAt 6 = .ok (.iadd, 1) := by decide +kernel
theorem dX0_lengthAt_7 : decode cX0_lengthAt 7 = .ok (.iaload, 1) := by decide +kernel
theorem dX0_lengthAt_8 : decode cX0_lengthAt 8 = .ok (.sipush 256, 3) := by decide +kernel
theorem dX0_lengthAt_11 : decode cX0_lengthAt 11 = .ok (.aload_n 0, 1) := by decide +kernel
theorem dX0_lengthAt_12 : decode cX0_lengthAt 12 = .ok (.getfield 13, 3) := by decide +kernel
theorem dX0_lengthAt_15 : decode cX0_lengthAt 15 = .ok (.iload_n 1, 1) := by decide +kernel
theorem dX0_lengthAt_16 : decode cX0_lengthAt 16 = .ok (.iconst 2, 1) := by decide +kernel
theorem dX0_lengthAt_17 : decode cX0_lengthAt 17 = .ok (.iadd, 1) := by decide +kernel
theorem dX0_lengthAt_18 : decode cX0_lengthAt 18 = .ok (.iaload, 1) := by decide +kernel
theorem dX0_lengthAt_19 : decode cX0_lengthAt 19 = .ok (.imul, 1) := by decide +kernel
theorem dX0_lengthAt_20 : decode cX0_lengthAt 20 = .ok (.iadd, 1) := by decide +kernel
theorem dX0_lengthAt_21 : decode cX0_lengthAt 21 = .ok (.ireturn, 1) := by decide +kernel
theorem dX0_longAt_0 : decode cX0_longAt 0 = .ok (.lconst 0, 1) := by decide +kernel
theorem dX0_longAt_1 : decode cX0_longAt 1 = .ok (.lstore_n 2, 1) := by decide +kernel
theorem dX0_longAt_2 : decode cX0_longAt 2 = .ok (.bipush 7, 2) := by decide +kernel
theorem dX0_longAt_4 : decode cX0_longAt 4 = .ok (.istore 4, 2) := by decide +kernel
theorem dX0_longAt_6 : decode cX0_longAt 6 = .ok (.iload 4, 2) := by decide +kernel
theorem dX0_longAt_8 : decode cX0_longAt 8 = .ok (.ifCond .lt 25, 3) := by decide +kernel
theorem dX0_longAt_11 : decode cX0_longAt 11 = .ok (.lload_n 2, 1) := by decide +kernel
theorem dX0_longAt_12 : decode cX0_longAt 12 = .ok (.bipush 8, 2) := by decide +kernel
theorem dX0_longAt_14 : decode cX0_longAt 14 = .ok (.lshl, 1) := by decide +kernel
theorem dX0_longAt_15 : decode cX0_longAt 15 = .ok (.aload_n 0, 1) := by decide +kernel
theorem dX0_longAt_16 : decode cX0_longAt 16 = .ok (.getfield 13, 3) := by decide +kernel
theorem dX0_longAt_19 : decode cX0_longAt 19 = .ok (.iload_n 1, 1) := by decide +kernel
theorem dX0_longAt_20 : decode cX0_longAt 20 = .ok (.iload 4, 2) := by decide +kernel
theorem dX0_longAt_22 : decode cX0_longAt 22 = .ok (.iadd, 1) := by decide +kernel
theorem dX0_longAt_23 : decode cX0_longAt 23 = .ok (.iaload, 1) := by decide +kernel
theorem dX0_longAt_24 : decode cX0_longAt 24 = .ok (.i2l, 1) := by decide +kernel
theorem dX0_longAt_25 : decode cX0_longAt 25 = .ok (.lor, 1) := by decide +kernel
theorem dX0_longAt_26 : decode cX0_longAt 26 = .ok (.lstore_n 2, 1) := by decide +kernel
theorem dX0_longAt_27 : decode cX0_longAt 27 = .ok (.iinc 4 (-1), 3) := by decide +kernel
theorem dX0_longAt_30 : decode cX0_longAt 30 = .ok (.goto (-24), 3) := by decide +kernel
theorem dX0_longAt_33 : decode cX0_longAt 33 = .ok (.lload_n 2, 1) := by decide +kernel
theorem dX0_longAt_34 : decode cX0_longAt 34 = .ok (.lreturn, 1) := by decide +kernel
theorem dX0_follow_0 : decode cX0_follow 0 = .ok (.aload_n 0, 1) := by decide +kernel
theorem dX0_follow_1 : decode cX0_follow 1 = .ok (.iload_n 1, 1) := by decide +kernel
theorem dX0_follow_2 : decode cX0_follow 2 = .ok (.invokevirtual 185, 3) := by decide +kernel
theorem dX0_follow_5 : decode cX0_follow 5 = .ok (.istore_n 2, 1) := by decide +kernel
theorem dX0_follow_6 : decode cX0_follow 6 = .ok (.iload_n 1, 1) := by decide +kernel
theorem dX0_follow_7 : decode cX0_follow 7 = .ok (.iconst 3, 1) := by decide +kernel
theorem dX0_follow_8 : decode cX0_follow 8 = .ok (.iadd, 1) := by decide +kernel
theorem dX0_follow_9 : decode cX0_follow 9 = .ok (.istore_n 3, 1) := by decide +kernel
theorem dX0_follow_10 : decode cX0_follow 10 = .ok (.aload_n 0, 1) := by decide +kernel
theorem dX0_follow_11 : decode cX0_follow 11 = .ok (.getfield 13, 3) := by decide +kernel
theorem dX0_follow_14 : decode cX0_follow 14 = .ok (.iload_n 1, 1) := by decide +kernel
theorem dX0_follow_15 : decode cX0_follow 15 = .ok (.iaload, 1) := by decide +kernel
theorem dX0_follow_16 : decode cX0_follow 16 = .ok (.tableswitch 127 1 4 #[32, 39, 71, 95], 32) := by decide +kernel
theorem dX0_follow_48 : decode cX0_follow 48 = .ok (.aload_n 0, 1) := by decide +kernel
theorem dX0_follow_49 : decode cX0_follow 49 = .ok (.iload_n 3, 1) := by decide +kernel
theorem dX0_follow_50 : decode cX0_follow 50 = .ok (.iload_n 2, 1) := by decide +kernel
theorem dX0_follow_51 : decode cX0_follow 51 = .ok (.invokevirtual 188, 3) := by decide +kernel
theorem dX0_follow_54 : decode cX0_follow 54 = .ok (.ireturn, 1) := by decide +kernel
theorem dX0_follow_55 : decode cX0_follow 55 = .ok (.iload_n 2, 1) := by decide +kernel
theorem dX0_follow_56 : decode cX0_follow 56 = .ok (.bipush 9, 2) := by decide +kernel
theorem dX0_follow_58 : decode cX0_follow 58 = .ok (.if_icmp .ne 27, 3) := by decide +kernel
theorem dX0_follow_61 : decode cX0_follow 61 = .ok (.aload_n 0, 1) := by decide +kernel
theorem dX0_follow_62 : decode cX0_follow 62 = .ok (.aload_n 0, 1) := by decide +kernel
theorem dX0_follow_63 : decode cX0_follow 63 = .ok (.getfield 13, 3) := by decide +kernel
theorem dX0_follow_66 : decode cX0_follow 66 = .ok (.iload_n 3, 1) := by decide +kernel
theorem dX0_follow_67 : decode cX0_follow 67 = .ok (.iaload, 1) := by decide +kernel
theorem dX0_follow_68 : decode cX0_follow 68 = .ok (.aload_n 0, 1) := by decide +kernel
theorem dX0_follow_69 : decode cX0_follow 69 = .ok (.iload_n 3, 1) := by decide +kernel
theorem dX0_follow_70 : decode cX0_follow 70 = .ok (.iconst 1, 1) := by decide +kernel
theorem dX0_follow_71 : decode cX0_follow 71 = .ok (.iadd, 1) := by decide +kernel
theorem dX0_follow_72 : decode cX0_follow 72 = .ok (.invokevirtual 191, 3) := by decide +kernel
theorem dX0_follow_75 : decode cX0_follow 75 = .ok (.invokevirtual 195, 3) := by decide +kernel
theorem dX0_follow_78 : decode cX0_follow 78 = .ok (.ifCond .eq 7, 3) := by decide +kernel
theorem dX0_follow_81 : decode cX0_follow 81 = .ok (.iconst 1, 1) := by decide +kernel
theorem dX0_follow_82 : decode cX0_follow 82 = .ok (.goto 4, 3) := by decide +kernel
theorem dX0_follow_85 : decode cX0_follow 85 = .ok (.iconst 0, 1) := by decide +kernel
theorem dX0_follow_86 : decode cX0_follow 86 = .ok (.ireturn, 1) := by decide +kernel
theorem dX0_follow_87 : decode cX0_follow 87 = .ok (.iload_n 2, 1) := by decide +kernel
theorem dX0_follow_88 : decode cX0_follow 88 = .ok (.iconst 1, 1) := by decide +kernel
theorem dX0_follow_89 : decode cX0_follow 89 = .ok (.if_icmp .ne 20, 3) := by decide +kernel
theorem dX0_follow_92 : decode cX0_follow 92 = .ok (.aload_n 0, 1) := by decide +kernel
theorem dX0_follow_93 : decode cX0_follow 93 = .ok (.aload_n 0, 1) := by decide +kernel
theorem dX0_follow_94 : decode cX0_follow 94 = .ok (.getfield 13, 3) := by decide +kernel
theorem dX0_follow_97 : decode cX0_follow 97 = .ok (.iload_n 3, 1) := by decide +kernel
theorem dX0_follow_98 : decode cX0_follow 98 = .ok (.iaload, 1) := by decide +kernel
theorem dX0_follow_99 : decode cX0_follow 99 = .ok (.invokevirtual 199, 3) := by decide +kernel
theorem dX0_follow_102 : decode cX0_follow 102 = .ok (.ifCond .eq 7, 3) := by decide +kernel
theorem dX0_follow_105 : decode cX0_follow 105 = .ok (.iconst 1, 1) := by decide +kernel
theorem dX0_follow_106 : decode cX0_follow 106 = .ok (.goto 4, 3) := by decide +kernel
theorem dX0_follow_109 : decode cX0_follow 109 = .ok (.iconst 0, 1) := by decide +kernel
theorem dX0_follow_110 : decode cX0_follow 110 = .ok (.ireturn, 1) := by decide +kernel
theorem dX0_follow_111 : decode cX0_follow 111 = .ok (.iload_n 2, 1) := by decide +kernel
theorem dX0_follow_112 : decode cX0_follow 112 = .ok (.bipush 16, 2) := by decide +kernel
theorem dX0_follow_114 : decode cX0_follow 114 = .ok (.if_icmp .ne 27, 3) := by decide +kernel
theorem dX0_follow_117 : decode cX0_follow 117 = .ok (.aload_n 0, 1) := by decide +kernel
theorem dX0_follow_118 : decode cX0_follow 118 = .ok (.aload_n 0, 1) := by decide +kernel
theorem dX0_follow_119 : decode cX0_follow 119 = .ok (.iload_n 3, 1) := by decide +kernel
theorem dX0_follow_120 : decode cX0_follow 120 = .ok (.invokevirtual 191, 3) := by decide +kernel
theorem dX0_follow_123 : decode cX0_follow 123 = .ok (.aload_n 0, 1) := by decide +kernel
theorem dX0_follow_124 : decode cX0_follow 124 = .ok (.iload_n 3, 1) := by decide +kernel
theorem dX0_follow_125 : decode cX0_follow 125 = .ok (.bipush 8, 2) := by decide +kernel
theorem dX0_follow_127 : decode cX0_follow 127 = .ok (.iadd, 1) := by decide +kernel
theorem dX0_follow_128 : decode cX0_follow 128 = .ok (.invokevirtual 191, 3) := by decide +kernel
theorem dX0_follow_131 : decode cX0_follow 131 = .ok (.invokevirtual 202, 3) := by decide +kernel
theorem dX0_follow_134 : decode cX0_follow 134 = .ok (.ifCond .eq 7, 3) := by decide +kernel
theorem dX0_follow_137 : decode cX0_follow 137 = .ok (.iconst 1, 1) := by decide +kernel
theorem dX0_follow_138 : decode cX0_follow 138 = .ok (.goto 4, 3) := by decide +kernel
theorem dX0_follow_141 : decode cX0_follow 141 = .ok (.iconst 0, 1) := by decide +kernel
theorem dX0_follow_142 : decode cX0_follow 142 = .ok (.ireturn, 1) := by decide +kernel
theorem dX0_follow_143 : decode cX0_follow 143 = .ok (.iconst 0, 1) := by decide +kernel
theorem dX0_follow_144 : decode cX0_follow 144 = .ok (.ireturn, 1) := by decide +kernel
theorem dX0_followBlob_0 : decode cX0_followBlob 0 = .ok (.aload_n 0, 1) := by decide +kernel
theorem dX0_followBlob_1 : decode cX0_followBlob 1 = .ok (.getfield 13, 3) := by decide +kernel
theorem dX0_followBlob_4 : decode cX0_followBlob 4 = .ok (.iload_n 1, 1) := by decide +kernel
theorem dX0_followBlob_5 : decode cX0_followBlob 5 = .ok (.iload_n 2, 1) := by decide +kernel
theorem dX0_followBlob_6 : decode cX0_followBlob 6 = .ok (.invokestatic 60, 3) := by decide +kernel
theorem dX0_followBlob_9 : decode cX0_followBlob 9 = .ok (.lstore_n 3, 1) := by decide +kernel
theorem dX0_followBlob_10 : decode cX0_followBlob 10 = .ok (.aload_n 0, 1) := by decide +kernel
theorem dX0_followBlob_11 : decode cX0_followBlob 11 = .ok (.lload_n 3, 1) := by decide +kernel
theorem dX0_followBlob_12 : decode cX0_followBlob 12 = .ok (.invokevirtual 64, 3) := by decide +kernel
theorem dX0_followBlob_15 : decode cX0_followBlob 15 = .ok (.iconst (-1), 1) := by decide +kernel
theorem dX0_followBlob_16 : decode cX0_followBlob 16 = .ok (.if_icmp .eq 5, 3) := by decide +kernel
theorem dX0_followBlob_19 : decode cX0_followBlob 19 = .ok (.iconst 1, 1) := by decide +kernel
theorem dX0_followBlob_20 : decode cX0_followBlob 20 = .ok (.ireturn, 1) := by decide +kernel
theorem dX0_followBlob_21 : decode cX0_followBlob 21 = .ok (.aload_n 0, 1) := by decide +kernel
theorem dX0_followBlob_22 : decode cX0_followBlob 22 = .ok (.getfield 68, 3) := by decide +kernel
theorem dX0_followBlob_25 : decode cX0_followBlob 25 = .ok (.bipush 20, 2) := by decide +kernel
theorem dX0_followBlob_27 : decode cX0_followBlob 27 = .ok (.if_icmp .lt 5, 3) := by decide +kernel
theorem dX0_followBlob_30 : decode cX0_followBlob 30 = .ok (.iconst 0, 1) := by decide +kernel
theorem dX0_followBlob_31 : decode cX0_followBlob 31 = .ok (.ireturn, 1) := by decide +kernel
theorem dX0_followBlob_32 : decode cX0_followBlob 32 = .ok (.aload_n 0, 1) := by decide +kernel
theorem dX0_followBlob_33 : decode cX0_followBlob 33 = .ok (.getfield 16, 3) := by decide +kernel
theorem dX0_followBlob_36 : decode cX0_followBlob 36 = .ok (.aload_n 0, 1) := by decide +kernel
theorem dX0_followBlob_37 : decode cX0_followBlob 37 = .ok (.getfield 68, 3) := by decide +kernel
theorem dX0_followBlob_40 : decode cX0_followBlob 40 = .ok (.lload_n 3, 1) := by decide +kernel
theorem dX0_followBlob_41 : decode cX0_followBlob 41 = .ok (.lastore, 1) := by decide +kernel
theorem dX0_followBlob_42 : decode cX0_followBlob 42 = .ok (.aload_n 0, 1) := by decide +kernel
theorem dX0_followBlob_43 : decode cX0_followBlob 43 = .ok (.getfield 20, 3) := by decide +kernel
theorem dX0_followBlob_46 : decode cX0_followBlob 46 = .ok (.aload_n 0, 1) := by decide +kernel
theorem dX0_followBlob_47 : decode cX0_followBlob 47 = .ok (.getfield 68, 3) := by decide +kernel
theorem dX0_followBlob_50 : decode cX0_followBlob 50 = .ok (.iload_n 1, 1) := by decide +kernel
theorem dX0_followBlob_51 : decode cX0_followBlob 51 = .ok (.iastore, 1) := by decide +kernel
theorem dX0_followBlob_52 : decode cX0_followBlob 52 = .ok (.aload_n 0, 1) := by decide +kernel
theorem dX0_followBlob_53 : decode cX0_followBlob 53 = .ok (.getfield 23, 3) := by decide +kernel
theorem dX0_followBlob_56 : decode cX0_followBlob 56 = .ok (.aload_n 0, 1) := by decide +kernel
theorem dX0_followBlob_57 : decode cX0_followBlob 57 = .ok (.getfield 68, 3) := by decide +kernel
theorem dX0_followBlob_60 : decode cX0_followBlob 60 = .ok (.iload_n 2, 1) := by decide +kernel
theorem dX0_followBlob_61 : decode cX0_followBlob 61 = .ok (.iastore, 1) := by decide +kernel
theorem dX0_followBlob_62 : decode cX0_followBlob 62 = .ok (.aload_n 0, 1) := by decide +kernel
theorem dX0_followBlob_63 : decode cX0_followBlob 63 = .ok (.dup, 1) := by decide +kernel
theorem dX0_followBlob_64 : decode cX0_followBlob 64 = .ok (.getfield 68, 3) := by decide +kernel
theorem dX0_followBlob_67 : decode cX0_followBlob 67 = .ok (.iconst 1, 1) := by decide +kernel
theorem dX0_followBlob_68 : decode cX0_followBlob 68 = .ok (.iadd, 1) := by decide +kernel
theorem dX0_followBlob_69 : decode cX0_followBlob 69 = .ok (.putfield 68, 3) := by decide +kernel
theorem dX0_followBlob_72 : decode cX0_followBlob 72 = .ok (.iconst 1, 1) := by decide +kernel
theorem dX0_followBlob_73 : decode cX0_followBlob 73 = .ok (.ireturn, 1) := by decide +kernel
theorem dX0_followTell_0 : decode cX0_followTell 0 = .ok (.aload_n 0, 1) := by decide +kernel
theorem dX0_followTell_1 : decode cX0_followTell 1 = .ok (.lload_n 2, 1) := by decide +kernel
theorem dX0_followTell_2 : decode cX0_followTell 2 = .ok (.invokevirtual 64, 3) := by decide +kernel
theorem dX0_followTell_5 : decode cX0_followTell 5 = .ok (.istore 4, 2) := by decide +kernel
theorem dX0_followTell_7 : decode cX0_followTell 7 = .ok (.iload_n 1, 1) := by decide +kernel
theorem dX0_followTell_8 : decode cX0_followTell 8 = .ok (.invokestatic 157, 3) := by decide +kernel
theorem dX0_followTell_11 : decode cX0_followTell 11 = .ok (.ifCond .eq 9, 3) := by decide +kernel
theorem dX0_followTell_14 : decode cX0_followTell 14 = .ok (.iload 4, 2) := by decide +kernel
theorem dX0_followTell_16 : decode cX0_followTell 16 = .ok (.iconst (-1), 1) := by decide +kernel
theorem dX0_followTell_17 : decode cX0_followTell 17 = .ok (.if_icmp .ne 5, 3) := by decide +kernel
theorem dX0_followTell_20 : decode cX0_followTell 20 = .ok (.iconst 0, 1) := by decide +kernel
theorem dX0_followTell_21 : decode cX0_followTell 21 = .ok (.ireturn, 1) := by decide +kernel
theorem dX0_followTell_22 : decode cX0_followTell 22 = .ok (.aload_n 0, 1) := by decide +kernel
theorem dX0_followTell_23 : decode cX0_followTell 23 = .ok (.getfield 26, 3) := by decide +kernel
theorem dX0_followTell_26 : decode cX0_followTell 26 = .ok (.iload_n 1, 1) := by decide +kernel
theorem dX0_followTell_27 : decode cX0_followTell 27 = .ok (.iload 4, 2) := by decide +kernel
theorem dX0_followTell_29 : decode cX0_followTell 29 = .ok (.iastore, 1) := by decide +kernel
theorem dX0_followTell_30 : decode cX0_followTell 30 = .ok (.iconst 1, 1) := by decide +kernel
theorem dX0_followTell_31 : decode cX0_followTell 31 = .ok (.ireturn, 1) := by decide +kernel
theorem dX0_followUntell_0 : decode cX0_followUntell 0 = .ok (.iload_n 1, 1) := by decide +kernel
theorem dX0_followUntell_1 : decode cX0_followUntell 1 = .ok (.invokestatic 157, 3) := by decide +kernel
theorem dX0_followUntell_4 : decode cX0_followUntell 4 = .ok (.ifCond .ne 5, 3) := by decide +kernel
theorem dX0_followUntell_7 : decode cX0_followUntell 7 = .ok (.iconst 0, 1) := by decide +kernel
theorem dX0_followUntell_8 : decode cX0_followUntell 8 = .ok (.ireturn, 1) := by decide +kernel
theorem dX0_followUntell_9 : decode cX0_followUntell 9 = .ok (.aload_n 0, 1) := by decide +kernel
theorem dX0_followUntell_10 : decode cX0_followUntell 10 = .ok (.getfield 26, 3) := by decide +kernel
theorem dX0_followUntell_13 : decode cX0_followUntell 13 = .ok (.iload_n 1, 1) := by decide +kernel
theorem dX0_followUntell_14 : decode cX0_followUntell 14 = .ok (.iconst (-1), 1) := by decide +kernel
theorem dX0_followUntell_15 : decode cX0_followUntell 15 = .ok (.iastore, 1) := by decide +kernel
theorem dX0_followUntell_16 : decode cX0_followUntell 16 = .ok (.iconst 1, 1) := by decide +kernel
theorem dX0_followUntell_17 : decode cX0_followUntell 17 = .ok (.ireturn, 1) := by decide +kernel
theorem dX0_followKey_0 : decode cX0_followKey 0 = .ok (.aload_n 0, 1) := by decide +kernel
theorem dX0_followKey_1 : decode cX0_followKey 1 = .ok (.lload_n 1, 1) := by decide +kernel
theorem dX0_followKey_2 : decode cX0_followKey 2 = .ok (.invokevirtual 103, 3) := by decide +kernel
theorem dX0_followKey_5 : decode cX0_followKey 5 = .ok (.istore 5, 2) := by decide +kernel
theorem dX0_followKey_7 : decode cX0_followKey 7 = .ok (.iload 5, 2) := by decide +kernel
theorem dX0_followKey_9 : decode cX0_followKey 9 = .ok (.iconst (-1), 1) := by decide +kernel
theorem dX0_followKey_10 : decode cX0_followKey 10 = .ok (.if_icmp .ne 38, 3) := by decide +kernel
theorem dX0_followKey_13 : decode cX0_followKey 13 = .ok (.aload_n 0, 1) := by decide +kernel
theorem dX0_followKey_14 : decode cX0_followKey 14 = .ok (.getfield 106, 3) := by decide +kernel
theorem dX0_followKey_17 : decode cX0_followKey 17 = .ok (.bipush 16, 2) := by decide +kernel
theorem dX0_followKey_19 : decode cX0_followKey 19 = .ok (.if_icmp .lt 5, 3) := by decide +kernel
theorem dX0_followKey_22 : decode cX0_followKey 22 = .ok (.iconst 0, 1) := by decide +kernel
theorem dX0_followKey_23 : decode cX0_followKey 23 = .ok (.ireturn, 1) := by decide +kernel
theorem dX0_followKey_24 : decode cX0_followKey 24 = .ok (.aload_n 0, 1) := by decide +kernel
theorem dX0_followKey_25 : decode cX0_followKey 25 = .ok (.getfield 106, 3) := by decide +kernel
theorem dX0_followKey_28 : decode cX0_followKey 28 = .ok (.istore 5, 2) := by decide +kernel
theorem dX0_followKey_30 : decode cX0_followKey 30 = .ok (.aload_n 0, 1) := by decide +kernel
theorem dX0_followKey_31 : decode cX0_followKey 31 = .ok (.getfield 35, 3) := by decide +kernel
theorem dX0_followKey_34 : decode cX0_followKey 34 = .ok (.iload 5, 2) := by decide +kernel
theorem dX0_followKey_36 : decode cX0_followKey 36 = .ok (.lload_n 1, 1) := by decide +kernel
theorem dX0_followKey_37 : decode cX0_followKey 37 = .ok (.lastore, 1) := by decide +kernel
theorem dX0_followKey_38 : decode cX0_followKey 38 = .ok (.aload_n 0, 1) := by decide +kernel
theorem dX0_followKey_39 : decode cX0_followKey 39 = .ok (.dup, 1) := by decide +kernel
theorem dX0_followKey_40 : decode cX0_followKey 40 = .ok (.getfield 106, 3) := by decide +kernel
theorem dX0_followKey_43 : decode cX0_followKey 43 = .ok (.iconst 1, 1) := by decide +kernel
theorem dX0_followKey_44 : decode cX0_followKey 44 = .ok (.iadd, 1) := by decide +kernel
theorem dX0_followKey_45 : decode cX0_followKey 45 = .ok (.putfield 106, 3) := by decide +kernel
theorem dX0_followKey_48 : decode cX0_followKey 48 = .ok (.aload_n 0, 1) := by decide +kernel
theorem dX0_followKey_49 : decode cX0_followKey 49 = .ok (.getfield 38, 3) := by decide +kernel
theorem dX0_followKey_52 : decode cX0_followKey 52 = .ok (.iload 5, 2) := by decide +kernel
theorem dX0_followKey_54 : decode cX0_followKey 54 = .ok (.lload_n 3, 1) := by decide +kernel
theorem dX0_followKey_55 : decode cX0_followKey 55 = .ok (.lastore, 1) := by decide +kernel
theorem dX0_followKey_56 : decode cX0_followKey 56 = .ok (.iconst 1, 1) := by decide +kernel
theorem dX0_followKey_57 : decode cX0_followKey 57 = .ok (.ireturn, 1) := by decide +kernel
theorem dX0_rewriteBlobs_0 : decode cX0_rewriteBlobs 0 = .ok (.iconst 0, 1) := by decide +kernel
theorem dX0_rewriteBlobs_1 : decode cX0_rewriteBlobs 1 = .ok (.istore_n 1, 1) := by decide +kernel
theorem dX0_rewriteBlobs_2 : decode cX0_rewriteBlobs 2 = .ok (.iload_n 1, 1) := by decide +kernel
theorem dX0_rewriteBlobs_3 : decode cX0_rewriteBlobs 3 = .ok (.aload_n 0, 1) := by decide +kernel
theorem dX0_rewriteBlobs_4 : decode cX0_rewriteBlobs 4 = .ok (.getfield 68, 3) := by decide +kernel
theorem dX0_rewriteBlobs_7 : decode cX0_rewriteBlobs 7 = .ok (.if_icmp .ge 60, 3) := by decide +kernel
theorem dX0_rewriteBlobs_10 : decode cX0_rewriteBlobs 10 = .ok (.aload_n 0, 1) := by decide +kernel
theorem dX0_rewriteBlobs_11 : decode cX0_rewriteBlobs 11 = .ok (.iload_n 1, 1) := by decide +kernel
theorem dX0_rewriteBlobs_12 : decode cX0_rewriteBlobs 12 = .ok (.invokevirtual 206, 3) := by decide +kernel
theorem dX0_rewriteBlobs_15 : decode cX0_rewriteBlobs 15 = .ok (.ifCond .eq 46, 3) := by decide +kernel
theorem dX0_rewriteBlobs_18 : decode cX0_rewriteBlobs 18 = .ok (.iconst 4, 1) := by decide +kernel
theorem dX0_rewriteBlobs_19 : decode cX0_rewriteBlobs 19 = .ok (.aload_n 0, 1) := by decide +kernel
theorem dX0_rewriteBlobs_20 : decode cX0_rewriteBlobs 20 = .ok (.getfield 23, 3) := by decide +kernel
theorem dX0_rewriteBlobs_23 : decode cX0_rewriteBlobs 23 = .ok (.iload_n 1, 1) := by decide +kernel
theorem dX0_rewriteBlobs_24 : decode cX0_rewriteBlobs 24 = .ok (.iaload, 1) := by decide +kernel
theorem dX0_rewriteBlobs_25 : decode cX0_rewriteBlobs 25 = .ok (.iadd, 1) := by decide +kernel
theorem dX0_rewriteBlobs_26 : decode cX0_rewriteBlobs 26 = .ok (.istore_n 2, 1) := by decide +kernel
theorem dX0_rewriteBlobs_27 : decode cX0_rewriteBlobs 27 = .ok (.aload_n 0, 1) := by decide +kernel
theorem dX0_rewriteBlobs_28 : decode cX0_rewriteBlobs 28 = .ok (.getfield 13, 3) := by decide +kernel
theorem dX0_rewriteBlobs_31 : decode cX0_rewriteBlobs 31 = .ok (.aload_n 0, 1) := by decide +kernel
theorem dX0_rewriteBlobs_32 : decode cX0_rewriteBlobs 32 = .ok (.getfield 20, 3) := by decide +kernel
theorem dX0_rewriteBlobs_35 : decode cX0_rewriteBlobs 35 = .ok (.iload_n 1, 1) := by decide +kernel
theorem dX0_rewriteBlobs_36 : decode cX0_rewriteBlobs 36 = .ok (.iaload, 1) := by decide +kernel
theorem dX0_rewriteBlobs_37 : decode cX0_rewriteBlobs 37 = .ok (.iconst 3, 1) := by decide +kernel
theorem dX0_rewriteBlobs_38 : decode cX0_rewriteBlobs 38 = .ok (.isub, 1) := by decide +kernel
theorem dX0_rewriteBlobs_39 : decode cX0_rewriteBlobs 39 = .ok (.aload_n 0, 1) := by decide +kernel
theorem dX0_rewriteBlobs_40 : decode cX0_rewriteBlobs 40 = .ok (.getfield 13, 3) := by decide +kernel
theorem dX0_rewriteBlobs_43 : decode cX0_rewriteBlobs 43 = .ok (.aload_n 0, 1) := by decide +kernel
theorem dX0_rewriteBlobs_44 : decode cX0_rewriteBlobs 44 = .ok (.getfield 124, 3) := by decide +kernel
theorem dX0_rewriteBlobs_47 : decode cX0_rewriteBlobs 47 = .ok (.iload_n 2, 1) := by decide +kernel
theorem dX0_rewriteBlobs_48 : decode cX0_rewriteBlobs 48 = .ok (.invokestatic 209, 3) := by decide +kernel
theorem dX0_rewriteBlobs_51 : decode cX0_rewriteBlobs 51 = .ok (.aload_n 0, 1) := by decide +kernel
theorem dX0_rewriteBlobs_52 : decode cX0_rewriteBlobs 52 = .ok (.dup, 1) := by decide +kernel
theorem dX0_rewriteBlobs_53 : decode cX0_rewriteBlobs 53 = .ok (.getfield 124, 3) := by decide +kernel
theorem dX0_rewriteBlobs_56 : decode cX0_rewriteBlobs 56 = .ok (.iload_n 2, 1) := by decide +kernel
theorem dX0_rewriteBlobs_57 : decode cX0_rewriteBlobs 57 = .ok (.iadd, 1) := by decide +kernel
theorem dX0_rewriteBlobs_58 : decode cX0_rewriteBlobs 58 = .ok (.putfield 124, 3) := by decide +kernel
theorem dX0_rewriteBlobs_61 : decode cX0_rewriteBlobs 61 = .ok (.iinc 1 1, 3) := by decide +kernel
theorem dX0_rewriteBlobs_64 : decode cX0_rewriteBlobs 64 = .ok (.goto (-62), 3) := by decide +kernel
theorem dX0_rewriteBlobs_67 : decode cX0_rewriteBlobs 67 = .ok (.return_, 1) := by decide +kernel
theorem dX0_rewriteTags_0 : decode cX0_rewriteTags 0 = .ok (.iconst 0, 1) := by decide +kernel
theorem dX0_rewriteTags_1 : decode cX0_rewriteTags 1 = .ok (.istore_n 1, 1) := by decide +kernel
theorem dX0_rewriteTags_2 : decode cX0_rewriteTags 2 = .ok (.iload_n 1, 1) := by decide +kernel
theorem dX0_rewriteTags_3 : decode cX0_rewriteTags 3 = .ok (.bipush 8, 2) := by decide +kernel
theorem dX0_rewriteTags_5 : decode cX0_rewriteTags 5 = .ok (.if_icmp .ge 33, 3) := by decide +kernel
theorem dX0_rewriteTags_8 : decode cX0_rewriteTags 8 = .ok (.aload_n 0, 1) := by decide +kernel
theorem dX0_rewriteTags_9 : decode cX0_rewriteTags 9 = .ok (.getfield 26, 3) := by decide +kernel
theorem dX0_rewriteTags_12 : decode cX0_rewriteTags 12 = .ok (.iload_n 1, 1) := by decide +kernel
theorem dX0_rewriteTags_13 : decode cX0_rewriteTags 13 = .ok (.iaload, 1) := by decide +kernel
theorem dX0_rewriteTags_14 : decode cX0_rewriteTags 14 = .ok (.istore_n 2, 1) := by decide +kernel
theorem dX0_rewriteTags_15 : decode cX0_rewriteTags 15 = .ok (.iload_n 2, 1) := by decide +kernel
theorem dX0_rewriteTags_16 : decode cX0_rewriteTags 16 = .ok (.iconst (-1), 1) := by decide +kernel
theorem dX0_rewriteTags_17 : decode cX0_rewriteTags 17 = .ok (.if_icmp .eq 15, 3) := by decide +kernel
theorem dX0_rewriteTags_20 : decode cX0_rewriteTags 20 = .ok (.aload_n 0, 1) := by decide +kernel
theorem dX0_rewriteTags_21 : decode cX0_rewriteTags 21 = .ok (.iload_n 1, 1) := by decide +kernel
theorem dX0_rewriteTags_22 : decode cX0_rewriteTags 22 = .ok (.aload_n 0, 1) := by decide +kernel
theorem dX0_rewriteTags_23 : decode cX0_rewriteTags 23 = .ok (.getfield 16, 3) := by decide +kernel
theorem dX0_rewriteTags_26 : decode cX0_rewriteTags 26 = .ok (.iload_n 2, 1) := by decide +kernel
theorem dX0_rewriteTags_27 : decode cX0_rewriteTags 27 = .ok (.laload, 1) := by decide +kernel
theorem dX0_rewriteTags_28 : decode cX0_rewriteTags 28 = .ok (.invokevirtual 93, 3) := by decide +kernel
theorem dX0_rewriteTags_31 : decode cX0_rewriteTags 31 = .ok (.pop, 1) := by decide +kernel
theorem dX0_rewriteTags_32 : decode cX0_rewriteTags 32 = .ok (.iinc 1 1, 3) := by decide +kernel
theorem dX0_rewriteTags_35 : decode cX0_rewriteTags 35 = .ok (.goto (-33), 3) := by decide +kernel
theorem dX0_rewriteTags_38 : decode cX0_rewriteTags 38 = .ok (.return_, 1) := by decide +kernel
theorem dX0_rewriteKeys_0 : decode cX0_rewriteKeys 0 = .ok (.iconst 0, 1) := by decide +kernel
theorem dX0_rewriteKeys_1 : decode cX0_rewriteKeys 1 = .ok (.istore_n 1, 1) := by decide +kernel
theorem dX0_rewriteKeys_2 : decode cX0_rewriteKeys 2 = .ok (.iload_n 1, 1) := by decide +kernel
theorem dX0_rewriteKeys_3 : decode cX0_rewriteKeys 3 = .ok (.aload_n 0, 1) := by decide +kernel
theorem dX0_rewriteKeys_4 : decode cX0_rewriteKeys 4 = .ok (.getfield 106, 3) := by decide +kernel
theorem dX0_rewriteKeys_7 : decode cX0_rewriteKeys 7 = .ok (.if_icmp .ge 50, 3) := by decide +kernel
theorem dX0_rewriteKeys_10 : decode cX0_rewriteKeys 10 = .ok (.aload_n 0, 1) := by decide +kernel
theorem dX0_rewriteKeys_11 : decode cX0_rewriteKeys 11 = .ok (.aload_n 0, 1) := by decide +kernel
theorem dX0_rewriteKeys_12 : decode cX0_rewriteKeys 12 = .ok (.getfield 38, 3) := by decide +kernel
theorem dX0_rewriteKeys_15 : decode cX0_rewriteKeys 15 = .ok (.iload_n 1, 1) := by decide +kernel
theorem dX0_rewriteKeys_16 : decode cX0_rewriteKeys 16 = .ok (.laload, 1) := by decide +kernel
theorem dX0_rewriteKeys_17 : decode cX0_rewriteKeys 17 = .ok (.invokevirtual 64, 3) := by decide +kernel
theorem dX0_rewriteKeys_20 : decode cX0_rewriteKeys 20 = .ok (.istore_n 2, 1) := by decide +kernel
theorem dX0_rewriteKeys_21 : decode cX0_rewriteKeys 21 = .ok (.iload_n 2, 1) := by decide +kernel
theorem dX0_rewriteKeys_22 : decode cX0_rewriteKeys 22 = .ok (.iconst (-1), 1) := by decide +kernel
theorem dX0_rewriteKeys_23 : decode cX0_rewriteKeys 23 = .ok (.if_icmp .eq 28, 3) := by decide +kernel
theorem dX0_rewriteKeys_26 : decode cX0_rewriteKeys 26 = .ok (.aload_n 0, 1) := by decide +kernel
theorem dX0_rewriteKeys_27 : decode cX0_rewriteKeys 27 = .ok (.iload_n 2, 1) := by decide +kernel
theorem dX0_rewriteKeys_28 : decode cX0_rewriteKeys 28 = .ok (.invokevirtual 206, 3) := by decide +kernel
theorem dX0_rewriteKeys_31 : decode cX0_rewriteKeys 31 = .ok (.ifCond .eq 20, 3) := by decide +kernel
theorem dX0_rewriteKeys_34 : decode cX0_rewriteKeys 34 = .ok (.aload_n 0, 1) := by decide +kernel
theorem dX0_rewriteKeys_35 : decode cX0_rewriteKeys 35 = .ok (.aload_n 0, 1) := by decide +kernel
theorem dX0_rewriteKeys_36 : decode cX0_rewriteKeys 36 = .ok (.getfield 35, 3) := by decide +kernel
theorem dX0_rewriteKeys_39 : decode cX0_rewriteKeys 39 = .ok (.iload_n 1, 1) := by decide +kernel
theorem dX0_rewriteKeys_40 : decode cX0_rewriteKeys 40 = .ok (.laload, 1) := by decide +kernel
theorem dX0_rewriteKeys_41 : decode cX0_rewriteKeys 41 = .ok (.aload_n 0, 1) := by decide +kernel
theorem dX0_rewriteKeys_42 : decode cX0_rewriteKeys 42 = .ok (.getfield 38, 3) := by decide +kernel
theorem dX0_rewriteKeys_45 : decode cX0_rewriteKeys 45 = .ok (.iload_n 1, 1) := by decide +kernel
theorem dX0_rewriteKeys_46 : decode cX0_rewriteKeys 46 = .ok (.laload, 1) := by decide +kernel
theorem dX0_rewriteKeys_47 : decode cX0_rewriteKeys 47 = .ok (.invokevirtual 111, 3) := by decide +kernel
theorem dX0_rewriteKeys_50 : decode cX0_rewriteKeys 50 = .ok (.pop, 1) := by decide +kernel
theorem dX0_rewriteKeys_51 : decode cX0_rewriteKeys 51 = .ok (.iinc 1 1, 3) := by decide +kernel
theorem dX0_rewriteKeys_54 : decode cX0_rewriteKeys 54 = .ok (.goto (-52), 3) := by decide +kernel
theorem dX0_rewriteKeys_57 : decode cX0_rewriteKeys 57 = .ok (.return_, 1) := by decide +kernel
theorem dX0_isTold_0 : decode cX0_isTold 0 = .ok (.iconst 0, 1) := by decide +kernel
theorem dX0_isTold_1 : decode cX0_isTold 1 = .ok (.istore_n 2, 1) := by decide +kernel
theorem dX0_isTold_2 : decode cX0_isTold 2 = .ok (.iload_n 2, 1) := by decide +kernel
theorem dX0_isTold_3 : decode cX0_isTold 3 = .ok (.bipush 8, 2) := by decide +kernel
theorem dX0_isTold_5 : decode cX0_isTold 5 = .ok (.if_icmp .ge 21, 3) := by decide +kernel
theorem dX0_isTold_8 : decode cX0_isTold 8 = .ok (.aload_n 0, 1) := by decide +kernel
theorem dX0_isTold_9 : decode cX0_isTold 9 = .ok (.getfield 26, 3) := by decide +kernel
theorem dX0_isTold_12 : decode cX0_isTold 12 = .ok (.iload_n 2, 1) := by decide +kernel
theorem dX0_isTold_13 : decode cX0_isTold 13 = .ok (.iaload, 1) := by decide +kernel
theorem dX0_isTold_14 : decode cX0_isTold 14 = .ok (.iload_n 1, 1) := by decide +kernel
theorem dX0_isTold_15 : decode cX0_isTold 15 = .ok (.if_icmp .ne 5, 3) := by decide +kernel
theorem dX0_isTold_18 : decode cX0_isTold 18 = .ok (.iconst 1, 1) := by decide +kernel
theorem dX0_isTold_19 : decode cX0_isTold 19 = .ok (.ireturn, 1) := by decide +kernel
theorem dX0_isTold_20 : decode cX0_isTold 20 = .ok (.iinc 2 1, 3) := by decide +kernel
theorem dX0_isTold_23 : decode cX0_isTold 23 = .ok (.goto (-21), 3) := by decide +kernel
theorem dX0_isTold_26 : decode cX0_isTold 26 = .ok (.iconst 0, 1) := by decide +kernel
theorem dX0_isTold_27 : decode cX0_isTold 27 = .ok (.istore_n 2, 1) := by decide +kernel
theorem dX0_isTold_28 : decode cX0_isTold 28 = .ok (.iload_n 2, 1) := by decide +kernel
theorem dX0_isTold_29 : decode cX0_isTold 29 = .ok (.iconst 4, 1) := by decide +kernel
theorem dX0_isTold_30 : decode cX0_isTold 30 = .ok (.if_icmp .ge 38, 3) := by decide +kernel
theorem dX0_isTold_33 : decode cX0_isTold 33 = .ok (.aload_n 0, 1) := by decide +kernel
theorem dX0_isTold_34 : decode cX0_isTold 34 = .ok (.getfield 41, 3) := by decide +kernel
theorem dX0_isTold_37 : decode cX0_isTold 37 = .ok (.iload_n 2, 1) := by decide +kernel
theorem dX0_isTold_38 : decode cX0_isTold 38 = .ok (.laload, 1) := by decide +kernel
theorem dX0_isTold_39 : decode cX0_isTold 39 = .ok (.lconst 0, 1) := by decide +kernel
theorem dX0_isTold_40 : decode cX0_isTold 40 = .ok (.lcmp, 1) := by decide +kernel
theorem dX0_isTold_41 : decode cX0_isTold 41 = .ok (.ifCond .eq 21, 3) := by decide +kernel
theorem dX0_isTold_44 : decode cX0_isTold 44 = .ok (.aload_n 0, 1) := by decide +kernel
theorem dX0_isTold_45 : decode cX0_isTold 45 = .ok (.getfield 41, 3) := by decide +kernel
theorem dX0_isTold_48 : decode cX0_isTold 48 = .ok (.iload_n 2, 1) := by decide +kernel
theorem dX0_isTold_49 : decode cX0_isTold 49 = .ok (.laload, 1) := by decide +kernel
theorem dX0_isTold_50 : decode cX0_isTold 50 = .ok (.aload_n 0, 1) := by decide +kernel
theorem dX0_isTold_51 : decode cX0_isTold 51 = .ok (.getfield 16, 3) := by decide +kernel
theorem dX0_isTold_54 : decode cX0_isTold 54 = .ok (.iload_n 1, 1) := by decide +kernel
theorem dX0_isTold_55 : decode cX0_isTold 55 = .ok (.laload, 1) := by decide +kernel
theorem dX0_isTold_56 : decode cX0_isTold 56 = .ok (.lcmp, 1) := by decide +kernel
theorem dX0_isTold_57 : decode cX0_isTold 57 = .ok (.ifCond .ne 5, 3) := by decide +kernel
theorem dX0_isTold_60 : decode cX0_isTold 60 = .ok (.iconst 1, 1) := by decide +kernel
theorem dX0_isTold_61 : decode cX0_isTold 61 = .ok (.ireturn, 1) := by decide +kernel
theorem dX0_isTold_62 : decode cX0_isTold 62 = .ok (.iinc 2 1, 3) := by decide +kernel
theorem dX0_isTold_65 : decode cX0_isTold 65 = .ok (.goto (-37), 3) := by decide +kernel
theorem dX0_isTold_68 : decode cX0_isTold 68 = .ok (.iconst 0, 1) := by decide +kernel
theorem dX0_isTold_69 : decode cX0_isTold 69 = .ok (.ireturn, 1) := by decide +kernel
