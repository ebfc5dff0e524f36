theorem dX1_init_0 : decode cX1_init 0 = .ok (.aload_n 0, 1) := by decide +kernel
theorem dX1_init_1 : decode cX1_init 1 = .ok (.invokespecial 1, 3) := by decide +kernel
theorem dX1_init_4 : decode cX1_init 4 = .ok (.aload_n 0, 1) := by decide +kernel
theorem dX1_init_5 : decode cX1_init 5 = .ok (.bipush 64, 2) := by decide +kernel
theorem dX1_init_7 : decode cX1_init 7 = .ok (.newarray .int, 2) := by decide +kernel
theorem dX1_init_9 : decode cX1_init 9 = .ok (.putfield 7, 3) := by decide +kernel
theorem dX1_init_12 : decode cX1_init 12 = .ok (.aload_n 0, 1) := by decide +kernel
theorem dX1_init_13 : decode cX1_init 13 = .ok (.bipush 20, 2) := by decide +kernel
theorem dX1_init_15 : decode cX1_init 15 = .ok (.newarray .long, 2) := by decide +kernel
theorem dX1_init_17 : decode cX1_init 17 = .ok (.putfield 13, 3) := by decide +kernel
theorem dX1_init_20 : decode cX1_init 20 = .ok (.aload_n 0, 1) := by decide +kernel
theorem dX1_init_21 : decode cX1_init 21 = .ok (.bipush 20, 2) := by decide +kernel
theorem dX1_init_23 : decode cX1_init 23 = .ok (.newarray .int, 2) := by decide +kernel
theorem dX1_init_25 : decode cX1_init 25 = .ok (.putfield 17, 3) := by decide +kernel
theorem dX1_init_28 : decode cX1_init 28 = .ok (.aload_n 0, 1) := by decide +kernel
theorem dX1_init_29 : decode cX1_init 29 = .ok (.sipush 14000, 3) := by decide +kernel
theorem dX1_init_32 : decode cX1_init 32 = .ok (.newarray .int, 2) := by decide +kernel
theorem dX1_init_34 : decode cX1_init 34 = .ok (.putfield 20, 3) := by decide +kernel
theorem dX1_init_37 : decode cX1_init 37 = .ok (.aload_n 0, 1) := by decide +kernel
theorem dX1_init_38 : decode cX1_init 38 = .ok (.bipush 8, 2) := by decide +kernel
theorem dX1_init_40 : decode cX1_init 40 = .ok (.newarray .long, 2) := by decide +kernel
theorem dX1_init_42 : decode cX1_init 42 = .ok (.putfield 23, 3) := by decide +kernel
theorem dX1_init_45 : decode cX1_init 45 = .ok (.aload_n 0, 1) := by decide +kernel
theorem dX1_init_46 : decode cX1_init 46 = .ok (.bipush 8, 2) := by decide +kernel
theorem dX1_init_48 : decode cX1_init 48 = .ok (.newarray .boolean, 2) := by decide +kernel
theorem dX1_init_50 : decode cX1_init 50 = .ok (.putfield 26, 3) := by decide +kernel
theorem dX1_init_53 : decode cX1_init 53 = .ok (.aload_n 0, 1) := by decide +kernel
theorem dX1_init_54 : decode cX1_init 54 = .ok (.bipush 16, 2) := by decide +kernel
theorem dX1_init_56 : decode cX1_init 56 = .ok (.newarray .long, 2) := by decide +kernel
theorem dX1_init_58 : decode cX1_init 58 = .ok (.putfield 30, 3) := by decide +kernel
theorem dX1_init_61 : decode cX1_init 61 = .ok (.aload_n 0, 1) := by decide +kernel
theorem dX1_init_62 : decode cX1_init 62 = .ok (.bipush 16, 2) := by decide +kernel
theorem dX1_init_64 : decode cX1_init 64 = .ok (.newarray .long, 2) := by decide +kernel
theorem dX1_init_66 : decode cX1_init 66 = .ok (.putfield 33, 3) := by decide +kernel
theorem dX1_init_69 : decode cX1_init 69 = .ok (.aload_n 0, 1) := by decide +kernel
theorem dX1_init_70 : decode cX1_init 70 = .ok (.iconst 4, 1) := by decide +kernel
theorem dX1_init_71 : decode cX1_init 71 = .ok (.newarray .long, 2) := by decide +kernel
theorem dX1_init_73 : decode cX1_init 73 = .ok (.putfield 36, 3) := by decide +kernel
theorem dX1_init_76 : decode cX1_init 76 = .ok (.aload_n 0, 1) := by decide +kernel
theorem dX1_init_77 : decode cX1_init 77 = .ok (.sipush 700, 3) := by decide +kernel
theorem dX1_init_80 : decode cX1_init 80 = .ok (.newarray .int, 2) := by decide +kernel
theorem dX1_init_82 : decode cX1_init 82 = .ok (.putfield 39, 3) := by decide +kernel
theorem dX1_init_85 : decode cX1_init 85 = .ok (.aload_n 0, 1) := by decide +kernel
theorem dX1_init_86 : decode cX1_init 86 = .ok (.sipush 700, 3) := by decide +kernel
theorem dX1_init_89 : decode cX1_init 89 = .ok (.newarray .int, 2) := by decide +kernel
theorem dX1_init_91 : decode cX1_init 91 = .ok (.putfield 42, 3) := by decide +kernel
theorem dX1_init_94 : decode cX1_init 94 = .ok (.return_, 1) := by decide +kernel
theorem dX1_thrown_0 : decode cX1_thrown 0 = .ok (.aload_n 0, 1) := by decide +kernel
theorem dX1_thrown_1 : decode cX1_thrown 1 = .ok (.getfield 45, 3) := by decide +kernel
theorem dX1_thrown_4 : decode cX1_thrown 4 = .ok (.ireturn, 1) := by decide +kernel
theorem dX1_type_0 : decode cX1_type 0 = .ok (.aload_n 0, 1) := by decide +kernel
theorem dX1_type_1 : decode cX1_type 1 = .ok (.aload_n 0, 1) := by decide +kernel
theorem dX1_type_2 : decode cX1_type 2 = .ok (.getfield 49, 3) := by decide +kernel
theorem dX1_type_5 : decode cX1_type 5 = .ok (.iconst 4, 1) := by decide +kernel
theorem dX1_type_6 : decode cX1_type 6 = .ok (.iadd, 1) := by decide +kernel
theorem dX1_type_7 : decode cX1_type 7 = .ok (.bipush 64, 2) := by decide +kernel
theorem dX1_type_9 : decode cX1_type 9 = .ok (.if_icmp .le 7, 3) := by decide +kernel
theorem dX1_type_12 : decode cX1_type 12 = .ok (.iconst 1, 1) := by decide +kernel
theorem dX1_type_13 : decode cX1_type 13 = .ok (.goto 4, 3) := by decide +kernel
theorem dX1_type_16 : decode cX1_type 16 = .ok (.iconst 0, 1) := by decide +kernel
theorem dX1_type_17 : decode cX1_type 17 = .ok (.putfield 45, 3) := by decide +kernel
theorem dX1_type_20 : decode cX1_type 20 = .ok (.aload_n 0, 1) := by decide +kernel
theorem dX1_type_21 : decode cX1_type 21 = .ok (.getfield 45, 3) := by decide +kernel
theorem dX1_type_24 : decode cX1_type 24 = .ok (.ifCond .le 5, 3) := by decide +kernel
theorem dX1_type_27 : decode cX1_type 27 = .ok (.iconst 0, 1) := by decide +kernel
theorem dX1_type_28 : decode cX1_type 28 = .ok (.ireturn, 1) := by decide +kernel
theorem dX1_type_29 : decode cX1_type 29 = .ok (.iconst 0, 1) := by decide +kernel
theorem dX1_type_30 : decode cX1_type 30 = .ok (.istore_n 2, 1) := by decide +kernel
theorem dX1_type_31 : decode cX1_type 31 = .ok (.iload_n 2, 1) := by decide +kernel
theorem dX1_type_32 : decode cX1_type 32 = .ok (.iconst 4, 1) := by decide +kernel
theorem dX1_type_33 : decode cX1_type 33 = .ok (.if_icmp .ge 38, 3) := by decide +kernel
theorem dX1_type_36 : decode cX1_type 36 = .ok (.aload_n 0, 1) := by decide +kernel
theorem dX1_type_37 : decode cX1_type 37 = .ok (.getfield 7, 3) := by decide +kernel
theorem dX1_type_40 : decode cX1_type 40 = .ok (.aload_n 0, 1) := by decide +kernel
theorem dX1_type_41 : decode cX1_type 41 = .ok (.getfield 49, 3) := by decide +kernel
theorem dX1_type_44 : decode cX1_type 44 = .ok (.iload_n 1, 1) := by decide +kernel
theorem dX1_type_45 : decode cX1_type 45 = .ok (.bipush 8, 2) := by decide +kernel
theorem dX1_type_47 : decode cX1_type 47 = .ok (.iload_n 2, 1) := by decide +kernel
theorem dX1_type_48 : decode cX1_type 48 = .ok (.imul, 1) := by decide +kernel
theorem dX1_type_49 : decode cX1_type 49 = .ok (.ishr, 1) := by decide +kernel
theorem dX1_type_50 : decode cX1_type 50 = .ok (.sipush 255, 3) := by decide +kernel
theorem dX1_type_53 : decode cX1_type 53 = .ok (.iand, 1) := by decide +kernel
theorem dX1_type_54 : decode cX1_type 54 = .ok (.iastore, 1) := by decide +kernel
theorem dX1_type_55 : decode cX1_type 55 = .ok (.aload_n 0, 1) := by decide +kernel
theorem dX1_type_56 : decode cX1_type 56 = .ok (.dup, 1) := by decide +kernel
theorem dX1_type_57 : decode cX1_type 57 = .ok (.getfield 49, 3) := by decide +kernel
theorem dX1_type_60 : decode cX1_type 60 = .ok (.iconst 1, 1) := by decide +kernel
theorem dX1_type_61 : decode cX1_type 61 = .ok (.iadd, 1) := by decide +kernel
theorem dX1_type_62 : decode cX1_type 62 = .ok (.putfield 49, 3) := by decide +kernel
theorem dX1_type_65 : decode cX1_type 65 = .ok (.iinc 2 1, 3) := by decide +kernel
theorem dX1_type_68 : decode cX1_type 68 = .ok (.goto (-37), 3) := by decide +kernel
theorem dX1_type_71 : decode cX1_type 71 = .ok (.aload_n 0, 1) := by decide +kernel
theorem dX1_type_72 : decode cX1_type 72 = .ok (.getfield 49, 3) := by decide +kernel
theorem dX1_type_75 : decode cX1_type 75 = .ok (.ireturn, 1) := by decide +kernel
theorem dX1_cut_0 : decode cX1_cut 0 = .ok (.aload_n 0, 1) := by decide +kernel
theorem dX1_cut_1 : decode cX1_cut 1 = .ok (.iload_n 1, 1) := by decide +kernel
theorem dX1_cut_2 : decode cX1_cut 2 = .ok (.ifCond .lt 11, 3) := by decide +kernel
theorem dX1_cut_5 : decode cX1_cut 5 = .ok (.iload_n 1, 1) := by decide +kernel
theorem dX1_cut_6 : decode cX1_cut 6 = .ok (.aload_n 0, 1) := by decide +kernel
theorem dX1_cut_7 : decode cX1_cut 7 = .ok (.getfield 49, 3) := by decide +kernel
theorem dX1_cut_10 : decode cX1_cut 10 = .ok (.if_icmp .le 7, 3) := by decide +kernel
theorem dX1_cut_13 : decode cX1_cut 13 = .ok (.iconst 1, 1) := by decide +kernel
theorem dX1_cut_14 : decode cX1_cut 14 = .ok (.goto 4, 3) := by decide +kernel
theorem dX1_cut_17 : decode cX1_cut 17 = .ok (.iconst 0, 1) := by decide +kernel
theorem dX1_cut_18 : decode cX1_cut 18 = .ok (.putfield 45, 3) := by decide +kernel
theorem dX1_cut_21 : decode cX1_cut 21 = .ok (.aload_n 0, 1) := by decide +kernel
theorem dX1_cut_22 : decode cX1_cut 22 = .ok (.aload_n 0, 1) := by decide +kernel
theorem dX1_cut_23 : decode cX1_cut 23 = .ok (.getfield 45, 3) := by decide +kernel
theorem dX1_cut_26 : decode cX1_cut 26 = .ok (.ifCond .le 10, 3) := by decide +kernel
theorem dX1_cut_29 : decode cX1_cut 29 = .ok (.aload_n 0, 1) := by decide +kernel
theorem dX1_cut_30 : decode cX1_cut 30 = .ok (.getfield 49, 3) := by decide +kernel
theorem dX1_cut_33 : decode cX1_cut 33 = .ok (.goto 4, 3) := by decide +kernel
theorem dX1_cut_36 : decode cX1_cut 36 = .ok (.iload_n 1, 1) := by decide +kernel
theorem dX1_cut_37 : decode cX1_cut 37 = .ok (.putfield 49, 3) := by decide +kernel
theorem dX1_cut_40 : decode cX1_cut 40 = .ok (.return_, 1) := by decide +kernel
theorem dX1_ends_0 : decode cX1_ends 0 = .ok (.lload_n 0, 1) := by decide +kernel
theorem dX1_ends_1 : decode cX1_ends 1 = .ok (.iload_n 2, 1) := by decide +kernel
theorem dX1_ends_2 : decode cX1_ends 2 = .ok (.i2l, 1) := by decide +kernel
theorem dX1_ends_3 : decode cX1_ends 3 = .ok (.lxor, 1) := by decide +kernel
theorem dX1_ends_4 : decode cX1_ends 4 = .ok (.ldc2_w 52, 3) := by decide +kernel
theorem dX1_ends_7 : decode cX1_ends 7 = .ok (.lmul, 1) := by decide +kernel
theorem dX1_ends_8 : decode cX1_ends 8 = .ok (.lstore_n 3, 1) := by decide +kernel
theorem dX1_ends_9 : decode cX1_ends 9 = .ok (.lload_n 3, 1) := by decide +kernel
theorem dX1_ends_10 : decode cX1_ends 10 = .ok (.lload_n 3, 1) := by decide +kernel
theorem dX1_ends_11 : decode cX1_ends 11 = .ok (.bipush 32, 2) := by decide +kernel
theorem dX1_ends_13 : decode cX1_ends 13 = .ok (.lushr, 1) := by decide +kernel
theorem dX1_ends_14 : decode cX1_ends 14 = .ok (.lxor, 1) := by decide +kernel
theorem dX1_ends_15 : decode cX1_ends 15 = .ok (.lreturn, 1) := by decide +kernel
theorem dX1_goes_0 : decode cX1_goes 0 = .ok (.lload_n 0, 1) := by decide +kernel
theorem dX1_goes_1 : decode cX1_goes 1 = .ok (.iload_n 2, 1) := by decide +kernel
theorem dX1_goes_2 : decode cX1_goes 2 = .ok (.i2l, 1) := by decide +kernel
theorem dX1_goes_3 : decode cX1_goes 3 = .ok (.lxor, 1) := by decide +kernel
theorem dX1_goes_4 : decode cX1_goes 4 = .ok (.ldc2_w 54, 3) := by decide +kernel
theorem dX1_goes_7 : decode cX1_goes 7 = .ok (.lmul, 1) := by decide +kernel
theorem dX1_goes_8 : decode cX1_goes 8 = .ok (.lreturn, 1) := by decide +kernel
theorem dX1_digestOfTyped_0 : decode cX1_digestOfTyped 0 = .ok (.ldc2_w 56, 3) := by decide +kernel
theorem dX1_digestOfTyped_3 : decode cX1_digestOfTyped 3 = .ok (.lstore_n 1, 1) := by decide +kernel
theorem dX1_digestOfTyped_4 : decode cX1_digestOfTyped 4 = .ok (.iconst 0, 1) := by decide +kernel
theorem dX1_digestOfTyped_5 : decode cX1_digestOfTyped 5 = .ok (.istore_n 3, 1) := by decide +kernel
theorem dX1_digestOfTyped_6 : decode cX1_digestOfTyped 6 = .ok (.iload_n 3, 1) := by decide +kernel
theorem dX1_digestOfTyped_7 : decode cX1_digestOfTyped 7 = .ok (.aload_n 0, 1) := by decide +kernel
theorem dX1_digestOfTyped_8 : decode cX1_digestOfTyped 8 = .ok (.getfield 49, 3) := by decide +kernel
theorem dX1_digestOfTyped_11 : decode cX1_digestOfTyped 11 = .ok (.if_icmp .ge 20, 3) := by decide +kernel
theorem dX1_digestOfTyped_14 : decode cX1_digestOfTyped 14 = .ok (.lload_n 1, 1) := by decide +kernel
theorem dX1_digestOfTyped_15 : decode cX1_digestOfTyped 15 = .ok (.aload_n 0, 1) := by decide +kernel
theorem dX1_digestOfTyped_16 : decode cX1_digestOfTyped 16 = .ok (.getfield 7, 3) := by decide +kernel
theorem dX1_digestOfTyped_19 : decode cX1_digestOfTyped 19 = .ok (.iload_n 3, 1) := by decide +kernel
theorem dX1_digestOfTyped_20 : decode cX1_digestOfTyped 20 = .ok (.iaload, 1) := by decide +kernel
theorem dX1_digestOfTyped_21 : decode cX1_digestOfTyped 21 = .ok (.invokestatic 58, 3) := by decide +kernel
theorem dX1_digestOfTyped_24 : decode cX1_digestOfTyped 24 = .ok (.lstore_n 1, 1) := by decide +kernel
theorem dX1_digestOfTyped_25 : decode cX1_digestOfTyped 25 = .ok (.iinc 3 1, 3) := by decide +kernel
theorem dX1_digestOfTyped_28 : decode cX1_digestOfTyped 28 = .ok (.goto (-22), 3) := by decide +kernel
theorem dX1_digestOfTyped_31 : decode cX1_digestOfTyped 31 = .ok (.lload_n 1, 1) := by decide +kernel
theorem dX1_digestOfTyped_32 : decode cX1_digestOfTyped 32 = .ok (.aload_n 0, 1) := by decide +kernel
theorem dX1_digestOfTyped_33 : decode cX1_digestOfTyped 33 = .ok (.getfield 49, 3) := by decide +kernel
theorem dX1_digestOfTyped_36 : decode cX1_digestOfTyped 36 = .ok (.invokestatic 62, 3) := by decide +kernel
theorem dX1_digestOfTyped_39 : decode cX1_digestOfTyped 39 = .ok (.lreturn, 1) := by decide +kernel
theorem dX1_digestOfRecord_0 : decode cX1_digestOfRecord 0 = .ok (.ldc2_w 56, 3) := by decide +kernel
theorem dX1_digestOfRecord_3 : decode cX1_digestOfRecord 3 = .ok (.lstore_n 1, 1) := by decide +kernel
theorem dX1_digestOfRecord_4 : decode cX1_digestOfRecord 4 = .ok (.iconst 0, 1) := by decide +kernel
theorem dX1_digestOfRecord_5 : decode cX1_digestOfRecord 5 = .ok (.istore_n 3, 1) := by decide +kernel
theorem dX1_digestOfRecord_6 : decode cX1_digestOfRecord 6 = .ok (.iload_n 3, 1) := by decide +kernel
theorem dX1_digestOfRecord_7 : decode cX1_digestOfRecord 7 = .ok (.aload_n 0, 1) := by decide +kernel
theorem dX1_digestOfRecord_8 : decode cX1_digestOfRecord 8 = .ok (.getfield 65, 3) := by decide +kernel
theorem dX1_digestOfRecord_11 : decode cX1_digestOfRecord 11 = .ok (.if_icmp .ge 20, 3) := by decide +kernel
theorem dX1_digestOfRecord_14 : decode cX1_digestOfRecord 14 = .ok (.lload_n 1, 1) := by decide +kernel
theorem dX1_digestOfRecord_15 : decode cX1_digestOfRecord 15 = .ok (.aload_n 0, 1) := by decide +kernel
theorem dX1_digestOfRecord_16 : decode cX1_digestOfRecord 16 = .ok (.getfield 42, 3) := by decide +kernel
theorem dX1_digestOfRecord_19 : decode cX1_digestOfRecord 19 = .ok (.iload_n 3, 1) := by decide +kernel
theorem dX1_digestOfRecord_20 : decode cX1_digestOfRecord 20 = .ok (.iaload, 1) := by decide +kernel
theorem dX1_digestOfRecord_21 : decode cX1_digestOfRecord 21 = .ok (.invokestatic 58, 3) := by decide +kernel
theorem dX1_digestOfRecord_24 : decode cX1_digestOfRecord 24 = .ok (.lstore_n 1, 1) := by decide +kernel
theorem dX1_digestOfRecord_25 : decode cX1_digestOfRecord 25 = .ok (.iinc 3 1, 3) := by decide +kernel
theorem dX1_digestOfRecord_28 : decode cX1_digestOfRecord 28 = .ok (.goto (-22), 3) := by decide +kernel
theorem dX1_digestOfRecord_31 : decode cX1_digestOfRecord 31 = .ok (.lload_n 1, 1) := by decide +kernel
theorem dX1_digestOfRecord_32 : decode cX1_digestOfRecord 32 = .ok (.aload_n 0, 1) := by decide +kernel
theorem dX1_digestOfRecord_33 : decode cX1_digestOfRecord 33 = .ok (.getfield 65, 3) := by decide +kernel
theorem dX1_digestOfRecord_36 : decode cX1_digestOfRecord 36 = .ok (.invokestatic 62, 3) := by decide +kernel
theorem dX1_digestOfRecord_39 : decode cX1_digestOfRecord 39 = .ok (.lreturn, 1) := by decide +kernel
theorem dX1_digest_0 : decode cX1_digest 0 = .ok (.aload_n 0, 1) := by decide +kernel
theorem dX1_digest_1 : decode cX1_digest 1 = .ok (.iconst 0, 1) := by decide +kernel
theorem dX1_digest_2 : decode cX1_digest 2 = .ok (.putfield 45, 3) := by decide +kernel
theorem dX1_digest_5 : decode cX1_digest 5 = .ok (.aload_n 0, 1) := by decide +kernel
theorem dX1_digest_6 : decode cX1_digest 6 = .ok (.invokevirtual 68, 3) := by decide +kernel
theorem dX1_digest_9 : decode cX1_digest 9 = .ok (.lreturn, 1) := by decide +kernel
theorem dX1_blobOf_0 : decode cX1_blobOf 0 = .ok (.iconst 0, 1) := by decide +kernel
theorem dX1_blobOf_1 : decode cX1_blobOf 1 = .ok (.istore_n 3, 1) := by decide +kernel
theorem dX1_blobOf_2 : decode cX1_blobOf 2 = .ok (.iload_n 3, 1) := by decide +kernel
theorem dX1_blobOf_3 : decode cX1_blobOf 3 = .ok (.aload_n 0, 1) := by decide +kernel
theorem dX1_blobOf_4 : decode cX1_blobOf 4 = .ok (.getfield 72, 3) := by decide +kernel
theorem dX1_blobOf_7 : decode cX1_blobOf 7 = .ok (.if_icmp .ge 22, 3) := by decide +kernel
theorem dX1_blobOf_10 : decode cX1_blobOf 10 = .ok (.aload_n 0, 1) := by decide +kernel
theorem dX1_blobOf_11 : decode cX1_blobOf 11 = .ok (.getfield 13, 3) := by decide +kernel
theorem dX1_blobOf_14 : decode cX1_blobOf 14 = .ok (.iload_n 3, 1) := by decide +kernel
theorem dX1_blobOf_15 : decode cX1_blobOf 15 = .ok (.laload, 1) := by decide +kernel
theorem dX1_blobOf_16 : decode cX1_blobOf 16 = .ok (.lload_n 1, 1) := by decide +kernel
theorem dX1_blobOf_17 : decode cX1_blobOf 17 = .ok (.lcmp, 1) := by decide +kernel
theorem dX1_blobOf_18 : decode cX1_blobOf 18 = .ok (.ifCond .ne 5, 3) := by decide +kernel
theorem dX1_blobOf_21 : decode cX1_blobOf 21 = .ok (.iload_n 3, 1) := by decide +kernel
theorem dX1_blobOf_22 : decode cX1_blobOf 22 = .ok (.ireturn, 1) := by decide +kernel
theorem dX1_blobOf_23 : decode cX1_blobOf 23 = .ok (.iinc 3 1, 3) := by decide +kernel
theorem dX1_blobOf_26 : decode cX1_blobOf 26 = .ok (.goto (-24), 3) := by decide +kernel
theorem dX1_blobOf_29 : decode cX1_blobOf 29 = .ok (.iconst (-1), 1) := by decide +kernel
theorem dX1_blobOf_30 : decode cX1_blobOf 30 = .ok (.ireturn, 1) := by decide +kernel
theorem dX1_keyOf_0 : decode cX1_keyOf 0 = .ok (.iconst 0, 1) := by decide +kernel
theorem dX1_keyOf_1 : decode cX1_keyOf 1 = .ok (.istore_n 3, 1) := by decide +kernel
theorem dX1_keyOf_2 : decode cX1_keyOf 2 = .ok (.iload_n 3, 1) := by decide +kernel
theorem dX1_keyOf_3 : decode cX1_keyOf 3 = .ok (.aload_n 0, 1) := by decide +kernel
theorem dX1_keyOf_4 : decode cX1_keyOf 4 = .ok (.getfield 75, 3) := by decide +kernel
theorem dX1_keyOf_7 : decode cX1_keyOf 7 = .ok (.if_icmp .ge 22, 3) := by decide +kernel
theorem dX1_keyOf_10 : decode cX1_keyOf 10 = .ok (.aload_n 0, 1) := by decide +kernel
theorem dX1_keyOf_11 : decode cX1_keyOf 11 = .ok (.getfield 30, 3) := by decide +kernel
theorem dX1_keyOf_14 : decode cX1_keyOf 14 = .ok (.iload_n 3, 1) := by decide +kernel
theorem dX1_keyOf_15 : decode cX1_keyOf 15 = .ok (.laload, 1) := by decide +kernel
theorem dX1_keyOf_16 : decode cX1_keyOf 16 = .ok (.lload_n 1, 1) := by decide +kernel
theorem dX1_keyOf_17 : decode cX1_keyOf 17 = .ok (.lcmp, 1) := by decide +kernel
theorem dX1_keyOf_18 : decode cX1_keyOf 18 = .ok (.ifCond .ne 5, 3) := by decide +kernel
theorem dX1_keyOf_21 : decode cX1_keyOf 21 = .ok (.iload_n 3, 1) := by decide +kernel
theorem dX1_keyOf_22 : decode cX1_keyOf 22 = .ok (.ireturn, 1) := by decide +kernel
theorem dX1_keyOf_23 : decode cX1_keyOf 23 = .ok (.iinc 3 1, 3) := by decide +kernel
theorem dX1_keyOf_26 : decode cX1_keyOf 26 = .ok (.goto (-24), 3) := by decide +kernel
theorem dX1_keyOf_29 : decode cX1_keyOf 29 = .ok (.iconst (-1), 1) := by decide +kernel
theorem dX1_keyOf_30 : decode cX1_keyOf 30 = .ok (.ireturn, 1) := by decide +kernel
theorem dX1_next_0 : decode cX1_next 0 = .ok (.iconst 0, 1) := by decide +kernel
theorem dX1_next_1 : decode cX1_next 1 = .ok (.istore 4, 2) := by decide +kernel
theorem dX1_next_3 : decode cX1_next 3 = .ok (.iload 4, 2) := by decide +kernel
theorem dX1_next_5 : decode cX1_next 5 = .ok (.iload_n 3, 1) := by decide +kernel
theorem dX1_next_6 : decode cX1_next 6 = .ok (.if_icmp .ge 40, 3) := by decide +kernel
theorem dX1_next_9 : decode cX1_next 9 = .ok (.aload_n 0, 1) := by decide +kernel
theorem dX1_next_10 : decode cX1_next 10 = .ok (.getfield 42, 3) := by decide +kernel
theorem dX1_next_13 : decode cX1_next 13 = .ok (.aload_n 0, 1) := by decide +kernel
theorem dX1_next_14 : decode cX1_next 14 = .ok (.getfield 65, 3) := by decide +kernel
theorem dX1_next_17 : decode cX1_next 17 = .ok (.lload_n 1, 1) := by decide +kernel
theorem dX1_next_18 : decode cX1_next 18 = .ok (.bipush 8, 2) := by decide +kernel
theorem dX1_next_20 : decode cX1_next 20 = .ok (.iload 4, 2) := by decide +kernel
theorem dX1_next_22 : decode cX1_next 22 = .ok (.imul, 1) := by decide +kernel
theorem dX1_next_23 : decode cX1_next 23 = .ok (.lshr, 1) := by decide +kernel
theorem dX1_next_24 : decode cX1_next 24 = .ok (.ldc2_w 78, 3) := by decide +kernel
theorem dX1_next_27 : decode cX1_next 27 = .ok (.land, 1) := by decide +kernel
theorem dX1_next_28 : decode cX1_next 28 = .ok (.l2i, 1) := by decide +kernel
theorem dX1_next_29 : decode cX1_next 29 = .ok (.iastore, 1) := by decide +kernel
theorem dX1_next_30 : decode cX1_next 30 = .ok (.aload_n 0, 1) := by decide +kernel
theorem dX1_next_31 : decode cX1_next 31 = .ok (.dup, 1) := by decide +kernel
theorem dX1_next_32 : decode cX1_next 32 = .ok (.getfield 65, 3) := by decide +kernel
theorem dX1_next_35 : decode cX1_next 35 = .ok (.iconst 1, 1) := by decide +kernel
theorem dX1_next_36 : decode cX1_next 36 = .ok (.iadd, 1) := by decide +kernel
theorem dX1_next_37 : decode cX1_next 37 = .ok (.putfield 65, 3) := by decide +kernel
theorem dX1_next_40 : decode cX1_next 40 = .ok (.iinc 4 1, 3) := by decide +kernel
theorem dX1_next_43 : decode cX1_next 43 = .ok (.goto (-40), 3) := by decide +kernel
theorem dX1_next_46 : decode cX1_next 46 = .ok (.return_, 1) := by decide +kernel
theorem dX1_eight_0 : decode cX1_eight 0 = .ok (.lconst 0, 1) := by decide +kernel
theorem dX1_eight_1 : decode cX1_eight 1 = .ok (.lstore_n 2, 1) := by decide +kernel
theorem dX1_eight_2 : decode cX1_eight 2 = .ok (.bipush 7, 2) := by decide +kernel
theorem dX1_eight_4 : decode cX1_eight 4 = .ok (.istore 4, 2) := by decide +kernel
theorem dX1_eight_6 : decode cX1_eight 6 = .ok (.iload 4, 2) := by decide +kernel
theorem dX1_eight_8 : decode cX1_eight 8 = .ok (.ifCond .lt 25, 3) := by decide +kernel
theorem dX1_eight_11 : decode cX1_eight 11 = .ok (.lload_n 2, 1) := by decide +kernel
theorem dX1_eight_12 : decode cX1_eight 12 = .ok (.bipush 8, 2) := by decide +kernel
theorem dX1_eight_14 : decode cX1_eight 14 = .ok (.lshl, 1) := by decide +kernel
theorem dX1_eight_15 : decode cX1_eight 15 = .ok (.aload_n 0, 1) := by decide +kernel
theorem dX1_eight_16 : decode cX1_eight 16 = .ok (.getfield 42, 3) := by decide +kernel
theorem dX1_eight_19 : decode cX1_eight 19 = .ok (.iload_n 1, 1) := by decide +kernel
theorem dX1_eight_20 : decode cX1_eight 20 = .ok (.iload 4, 2) := by decide +kernel
theorem dX1_eight_22 : decode cX1_eight 22 = .ok (.iadd, 1) := by decide +kernel
theorem dX1_eight_23 : decode cX1_eight 23 = .ok (.iaload, 1) := by decide +kernel
theorem dX1_eight_24 : decode cX1_eight 24 = .ok (.i2l, 1) := by decide +kernel
theorem dX1_eight_25 : decode cX1_eight 25 = .ok (.lor, 1) := by decide +kernel
theorem dX1_eight_26 : decode cX1_eight 26 = .ok (.lstore_n 2, 1) := by decide +kernel
theorem dX1_eight_27 : decode cX1_eight 27 = .ok (.iinc 4 (-1), 3) := by decide +kernel
theorem dX1_eight_30 : decode cX1_eight 30 = .ok (.goto (-24), 3) := by decide +kernel
theorem dX1_eight_33 : decode cX1_eight 33 = .ok (.lload_n 2, 1) := by decide +kernel
theorem dX1_eight_34 : decode cX1_eight 34 = .ok (.lreturn, 1) := by decide +kernel
theorem dX1_hasRoom_0 : decode cX1_hasRoom 0 = .ok (.aload_n 0, 1) := by decide +kernel
theorem dX1_hasRoom_1 : decode cX1_hasRoom 1 = .ok (.getfield 80, 3) := by decide +kernel
theorem dX1_hasRoom_4 : decode cX1_hasRoom 4 = .ok (.aload_n 0, 1) := by decide +kernel
theorem dX1_hasRoom_5 : decode cX1_hasRoom 5 = .ok (.getfield 65, 3) := by decide +kernel
theorem dX1_hasRoom_8 : decode cX1_hasRoom 8 = .ok (.iadd, 1) := by decide +kernel
theorem dX1_hasRoom_9 : decode cX1_hasRoom 9 = .ok (.iconst 4, 1) := by decide +kernel
theorem dX1_hasRoom_10 : decode cX1_hasRoom 10 = .ok (.iadd, 1) := by decide +kernel
theorem dX1_hasRoom_11 : decode cX1_hasRoom 11 = .ok (.sipush 700, 3) := by decide +kernel
theorem dX1_hasRoom_14 : decode cX1_hasRoom 14 = .ok (.if_icmp .gt 7, 3) := by decide +kernel
theorem dX1_hasRoom_17 : decode cX1_hasRoom 17 = .ok (.iconst 1, 1) := by decide +kernel
theorem dX1_hasRoom_18 : decode cX1_hasRoom 18 = .ok (.goto 4, 3) := by decide +kernel
theorem dX1_hasRoom_21 : decode cX1_hasRoom 21 = .ok (.iconst 0, 1) := by decide +kernel
theorem dX1_hasRoom_22 : decode cX1_hasRoom 22 = .ok (.ireturn, 1) := by decide +kernel
theorem dX1_write_0 : decode cX1_write 0 = .ok (.aload_n 0, 1) := by decide +kernel
theorem dX1_write_1 : decode cX1_write 1 = .ok (.getfield 80, 3) := by decide +kernel
theorem dX1_write_4 : decode cX1_write 4 = .ok (.istore_n 2, 1) := by decide +kernel
theorem dX1_write_5 : decode cX1_write 5 = .ok (.aload_n 0, 1) := by decide +kernel
theorem dX1_write_6 : decode cX1_write 6 = .ok (.getfield 39, 3) := by decide +kernel
theorem dX1_write_9 : decode cX1_write 9 = .ok (.aload_n 0, 1) := by decide +kernel
theorem dX1_write_10 : decode cX1_write 10 = .ok (.getfield 80, 3) := by decide +kernel
theorem dX1_write_13 : decode cX1_write 13 = .ok (.iload_n 1, 1) := by decide +kernel
theorem dX1_write_14 : decode cX1_write 14 = .ok (.iastore, 1) := by decide +kernel
theorem dX1_write_15 : decode cX1_write 15 = .ok (.aload_n 0, 1) := by decide +kernel
theorem dX1_write_16 : decode cX1_write 16 = .ok (.getfield 39, 3) := by decide +kernel
theorem dX1_write_19 : decode cX1_write 19 = .ok (.aload_n 0, 1) := by decide +kernel
theorem dX1_write_20 : decode cX1_write 20 = .ok (.getfield 80, 3) := by decide +kernel
theorem dX1_write_23 : decode cX1_write 23 = .ok (.iconst 1, 1) := by decide +kernel
theorem dX1_write_24 : decode cX1_write 24 = .ok (.iadd, 1) := by decide +kernel
theorem dX1_write_25 : decode cX1_write 25 = .ok (.aload_n 0, 1) := by decide +kernel
theorem dX1_write_26 : decode cX1_write 26 = .ok (.getfield 65, 3) := by decide +kernel
theorem dX1_write_29 : decode cX1_write 29 = .ok (.sipush 255, 3) := by decide +kernel
theorem dX1_write_32 : decode cX1_write 32 = .ok (.iand, 1) := by decide +kernel
theorem dX1_write_33 : decode cX1_write 33 = .ok (.iastore, 1) := by decide +kernel
theorem dX1_write_34 : decode cX1_write 34 = .ok (.aload_n 0, 1) := by decide +kernel
theorem dX1_write_35 : decode cX1_write 35 = .ok (.getfield 39, 3) := by decide +kernel
theorem dX1_write_38 : decode cX1_write 38 = .ok (.aload_n 0, 1) := by decide +kernel
theorem dX1_write_39 : decode cX1_write 39 = .ok (.getfield 80, 3) := by decide +kernel
theorem dX1_write_42 : decode cX1_write 42 = .ok (.iconst 2, 1) := by decide +kernel
theorem dX1_write_43 : decode cX1_write 43 = .ok (.iadd, 1) := by decide +kernel
theorem dX1_write_44 : decode cX1_write 44 = .ok (.aload_n 0, 1) := by decide +kernel
theorem dX1_write_45 : decode cX1_write 45 = .ok (.getfield 65, 3) := by decide +kernel
theorem dX1_write_48 : decode cX1_write 48 = .ok (.bipush 8, 2) := by decide +kernel
theorem dX1_write_50 : decode cX1_write 50 = .ok (.ishr, 1) := by decide +kernel
theorem dX1_write_51 : decode cX1_write 51 = .ok (.iastore, 1) := by decide +kernel
theorem dX1_write_52 : decode cX1_write 52 = .ok (.aload_n 0, 1) := by decide +kernel
theorem dX1_write_53 : decode cX1_write 53 = .ok (.dup, 1) := by decide +kernel
theorem dX1_write_54 : decode cX1_write 54 = .ok (.getfield 80, 3) := by decide +kernel
theorem dX1_write_57 : decode cX1_write 57 = .ok (.iconst 3, 1) := by decide +kernel
theorem dX1_write_58 : decode cX1_write 58 = .ok (.iadd, 1) := by decide +kernel
theorem dX1_write_59 : decode cX1_write 59 = .ok (.putfield 80, 3) := by decide +kernel
theorem dX1_write_62 : decode cX1_write 62 = .ok (.iconst 0, 1) := by decide +kernel
theorem dX1_write_63 : decode cX1_write 63 = .ok (.istore_n 3, 1) := by decide +kernel
theorem dX1_write_64 : decode cX1_write 64 = .ok (.iload_n 3, 1) := by decide +kernel
theorem dX1_write_65 : decode cX1_write 65 = .ok (.aload_n 0, 1) := by decide +kernel
theorem dX1_write_66 : decode cX1_write 66 = .ok (.getfield 65, 3) := by decide +kernel
theorem dX1_write_69 : decode cX1_write 69 = .ok (.if_icmp .ge 34, 3) := by decide +kernel
theorem dX1_write_72 : decode cX1_write 72 = .ok (.aload_n 0, 1) := by decide +kernel
theorem dX1_write_73 : decode cX1_write 73 = .ok (.getfield 39, 3) := by decide +kernel
theorem dX1_write_76 : decode cX1_write 76 = .ok (.aload_n 0, 1) := by decide +kernel
theorem dX1_write_77 : decode cX1_write 77 = .ok (.getfield 80, 3) := by decide +kernel
theorem dX1_write_80 : decode cX1_write 80 = .ok (.aload_n 0, 1) := by decide +kernel
theorem dX1_write_81 : decode cX1_write 81 = .ok (.getfield 42, 3) := by decide +kernel
theorem dX1_write_84 : decode cX1_write 84 = .ok (.iload_n 3, 1) := by decide +kernel
theorem dX1_write_85 : decode cX1_write 85 = .ok (.iaload, 1) := by decide +kernel
theorem dX1_write_86 : decode cX1_write 86 = .ok (.iastore, 1) := by decide +kernel
theorem dX1_write_87 : decode cX1_write 87 = .ok (.aload_n 0, 1) := by decide +kernel
theorem dX1_write_88 : decode cX1_write 88 = .ok (.dup, 1) := by decide +kernel
theorem dX1_write_89 : decode cX1_write 89 = .ok (.getfield 80, 3) := by decide +kernel
theorem dX1_write_92 : decode cX1_write 92 = .ok (.iconst 1, 1) := by decide +kernel
theorem dX1_write_93 : decode cX1_write 93 = .ok (.iadd, 1) := by decide +kernel
theorem dX1_write_94 : decode cX1_write 94 = .ok (.putfield 80, 3) := by decide +kernel
theorem dX1_write_97 : decode cX1_write 97 = .ok (.iinc 3 1, 3) := by decide +kernel
theorem dX1_write_100 : decode cX1_write 100 = .ok (.goto (-36), 3) := by decide +kernel
theorem dX1_write_103 : decode cX1_write 103 = .ok (.iconst 0, 1) := by decide +kernel
theorem dX1_write_104 : decode cX1_write 104 = .ok (.istore_n 3, 1) := by decide +kernel
theorem dX1_write_105 : decode cX1_write 105 = .ok (.iload_n 2, 1) := by decide +kernel
theorem dX1_write_106 : decode cX1_write 106 = .ok (.istore 4, 2) := by decide +kernel
theorem dX1_write_108 : decode cX1_write 108 = .ok (.iload 4, 2) := by decide +kernel
theorem dX1_write_110 : decode cX1_write 110 = .ok (.aload_n 0, 1) := by decide +kernel
theorem dX1_write_111 : decode cX1_write 111 = .ok (.getfield 80, 3) := by decide +kernel
theorem dX1_write_114 : decode cX1_write 114 = .ok (.if_icmp .ge 19, 3) := by decide +kernel
theorem dX1_write_117 : decode cX1_write 117 = .ok (.iload_n 3, 1) := by decide +kernel
theorem dX1_write_118 : decode cX1_write 118 = .ok (.aload_n 0, 1) := by decide +kernel
theorem dX1_write_119 : decode cX1_write 119 = .ok (.getfield 39, 3) := by decide +kernel
theorem dX1_write_122 : decode cX1_write 122 = .ok (.iload 4, 2) := by decide +kernel
theorem dX1_write_124 : decode cX1_write 124 = .ok (.iaload, 1) := by decide +kernel
theorem dX1_write_125 : decode cX1_write 125 = .ok (.iadd, 1) := by decide +kernel
theorem dX1_write_126 : decode cX1_write 126 = .ok (.istore_n 3, 1) := by decide +kernel
theorem dX1_write_127 : decode cX1_write 127 = .ok (.iinc 4 1, 3) := by decide +kernel
theorem dX1_write_130 : decode cX1_write 130 = .ok (.goto (-22), 3) := by decide +kernel
theorem dX1_write_133 : decode cX1_write 133 = .ok (.aload_n 0, 1) := by decide +kernel
theorem dX1_write_134 : decode cX1_write 134 = .ok (.getfield 39, 3) := by decide +kernel
theorem dX1_write_137 : decode cX1_write 137 = .ok (.aload_n 0, 1) := by decide +kernel
theorem dX1_write_138 : decode cX1_write 138 = .ok (.getfield 80, 3) := by decide +kernel
theorem dX1_write_141 : decode cX1_write 141 = .ok (.iload_n 3, 1) := by decide +kernel
theorem dX1_write_142 : decode cX1_write 142 = .ok (.sipush 255, 3) := by decide +kernel
theorem dX1_write_145 : decode cX1_write 145 = .ok (.iand, 1) := by decide +kernel
theorem dX1_write_146 : decode cX1_write 146 = .ok (.iastore, 1) := by decide +kernel
theorem dX1_write_147 : decode cX1_write 147 = .ok (.aload_n 0, 1) := by decide +kernel
theorem dX1_write_148 : decode cX1_write 148 = .ok (.dup, 1) := by decide +kernel
theorem dX1_write_149 : decode cX1_write 149 = .ok (.getfield 80, 3) := by decide +kernel
theorem dX1_write_152 : decode cX1_write 152 = .ok (.iconst 1, 1) := by decide +kernel
theorem dX1_write_153 : decode cX1_write 153 = .ok (.iadd, 1) := by decide +kernel
theorem dX1_write_154 : decode cX1_write 154 = .ok (.putfield 80, 3) := by decide +kernel
theorem dX1_write_157 : decode cX1_write 157 = .ok (.return_, 1) := by decide +kernel
theorem dX1_says_0 : decode cX1_says 0 = .ok (.iload_n 1, 1) := by decide +kernel
theorem dX1_says_1 : decode cX1_says 1 = .ok (.tableswitch 165 1 3 #[27, 32, 119], 27) := by decide +kernel
theorem dX1_says_28 : decode cX1_says 28 = .ok (.aload_n 0, 1) := by decide +kernel
theorem dX1_says_29 : decode cX1_says 29 = .ok (.invokevirtual 83, 3) := by decide +kernel
theorem dX1_says_32 : decode cX1_says 32 = .ok (.ireturn, 1) := by decide +kernel
theorem dX1_says_33 : decode cX1_says 33 = .ok (.aload_n 0, 1) := by decide +kernel
theorem dX1_says_34 : decode cX1_says 34 = .ok (.getfield 65, 3) := by decide +kernel
theorem dX1_says_37 : decode cX1_says 37 = .ok (.bipush 9, 2) := by decide +kernel
theorem dX1_says_39 : decode cX1_says 39 = .ok (.if_icmp .ne 11, 3) := by decide +kernel
theorem dX1_says_42 : decode cX1_says 42 = .ok (.aload_n 0, 1) := by decide +kernel
theorem dX1_says_43 : decode cX1_says 43 = .ok (.iconst 1, 1) := by decide +kernel
theorem dX1_says_44 : decode cX1_says 44 = .ok (.invokevirtual 87, 3) := by decide +kernel
theorem dX1_says_47 : decode cX1_says 47 = .ok (.goto 4, 3) := by decide +kernel
theorem dX1_says_50 : decode cX1_says 50 = .ok (.lconst 0, 1) := by decide +kernel
theorem dX1_says_51 : decode cX1_says 51 = .ok (.lstore_n 2, 1) := by decide +kernel
theorem dX1_says_52 : decode cX1_says 52 = .ok (.aload_n 0, 1) := by decide +kernel
theorem dX1_says_53 : decode cX1_says 53 = .ok (.getfield 65, 3) := by decide +kernel
theorem dX1_says_56 : decode cX1_says 56 = .ok (.bipush 9, 2) := by decide +kernel
theorem dX1_says_58 : decode cX1_says 58 = .ok (.if_icmp .ne 27, 3) := by decide +kernel
theorem dX1_says_61 : decode cX1_says 61 = .ok (.aload_n 0, 1) := by decide +kernel
theorem dX1_says_62 : decode cX1_says 62 = .ok (.getfield 42, 3) := by decide +kernel
theorem dX1_says_65 : decode cX1_says 65 = .ok (.iconst 0, 1) := by decide +kernel
theorem dX1_says_66 : decode cX1_says 66 = .ok (.iaload, 1) := by decide +kernel
theorem dX1_says_67 : decode cX1_says 67 = .ok (.bipush 8, 2) := by decide +kernel
theorem dX1_says_69 : decode cX1_says 69 = .ok (.if_icmp .ge 16, 3) := by decide +kernel
theorem dX1_says_72 : decode cX1_says 72 = .ok (.aload_n 0, 1) := by decide +kernel
theorem dX1_says_73 : decode cX1_says 73 = .ok (.lload_n 2, 1) := by decide +kernel
theorem dX1_says_74 : decode cX1_says 74 = .ok (.invokevirtual 91, 3) := by decide +kernel
theorem dX1_says_77 : decode cX1_says 77 = .ok (.iconst (-1), 1) := by decide +kernel
theorem dX1_says_78 : decode cX1_says 78 = .ok (.if_icmp .eq 7, 3) := by decide +kernel
theorem dX1_says_81 : decode cX1_says 81 = .ok (.iconst 1, 1) := by decide +kernel
theorem dX1_says_82 : decode cX1_says 82 = .ok (.goto 4, 3) := by decide +kernel
theorem dX1_says_85 : decode cX1_says 85 = .ok (.iconst 0, 1) := by decide +kernel
theorem dX1_says_86 : decode cX1_says 86 = .ok (.istore 4, 2) := by decide +kernel
theorem dX1_says_88 : decode cX1_says 88 = .ok (.iload 4, 2) := by decide +kernel
theorem dX1_says_90 : decode cX1_says 90 = .ok (.ifCond .eq 27, 3) := by decide +kernel
theorem dX1_says_93 : decode cX1_says 93 = .ok (.aload_n 0, 1) := by decide +kernel
theorem dX1_says_94 : decode cX1_says 94 = .ok (.getfield 23, 3) := by decide +kernel
theorem dX1_says_97 : decode cX1_says 97 = .ok (.aload_n 0, 1) := by decide +kernel
theorem dX1_says_98 : decode cX1_says 98 = .ok (.getfield 42, 3) := by decide +kernel
theorem dX1_says_101 : decode cX1_says 101 = .ok (.iconst 0, 1) := by decide +kernel
theorem dX1_says_102 : decode cX1_says 102 = .ok (.iaload, 1) := by decide +kernel
theorem dX1_says_103 : decode cX1_says 103 = .ok (.lload_n 2, 1) := by decide +kernel
theorem dX1_says_104 : decode cX1_says 104 = .ok (.lastore, 1) := by decide +kernel
theorem dX1_says_105 : decode cX1_says 105 = .ok (.aload_n 0, 1) := by decide +kernel
theorem dX1_says_106 : decode cX1_says 106 = .ok (.getfield 26, 3) := by decide +kernel
theorem dX1_says_109 : decode cX1_says 109 = .ok (.aload_n 0, 1) := by decide +kernel
theorem dX1_says_110 : decode cX1_says 110 = .ok (.getfield 42, 3) := by decide +kernel
theorem dX1_says_113 : decode cX1_says 113 = .ok (.iconst 0, 1) := by decide +kernel
theorem dX1_says_114 : decode cX1_says 114 = .ok (.iaload, 1) := by decide +kernel
theorem dX1_says_115 : decode cX1_says 115 = .ok (.iconst 1, 1) := by decide +kernel
theorem dX1_says_116 : decode cX1_says 116 = .ok (.bastore, 1) := by decide +kernel
theorem dX1_says_117 : decode cX1_says 117 = .ok (.iload 4, 2) := by decide +kernel
theorem dX1_says_119 : decode cX1_says 119 = .ok (.ireturn, 1) := by decide +kernel
theorem dX1_says_120 : decode cX1_says 120 = .ok (.aload_n 0, 1) := by decide +kernel
theorem dX1_says_121 : decode cX1_says 121 = .ok (.getfield 65, 3) := by decide +kernel
theorem dX1_says_124 : decode cX1_says 124 = .ok (.iconst 1, 1) := by decide +kernel
theorem dX1_says_125 : decode cX1_says 125 = .ok (.if_icmp .ne 18, 3) := by decide +kernel
theorem dX1_says_128 : decode cX1_says 128 = .ok (.aload_n 0, 1) := by decide +kernel
theorem dX1_says_129 : decode cX1_says 129 = .ok (.getfield 42, 3) := by decide +kernel
theorem dX1_says_132 : decode cX1_says 132 = .ok (.iconst 0, 1) := by decide +kernel
theorem dX1_says_133 : decode cX1_says 133 = .ok (.iaload, 1) := by decide +kernel
theorem dX1_says_134 : decode cX1_says 134 = .ok (.bipush 8, 2) := by decide +kernel
theorem dX1_says_136 : decode cX1_says 136 = .ok (.if_icmp .ge 7, 3) := by decide +kernel
theorem dX1_says_139 : decode cX1_says 139 = .ok (.iconst 1, 1) := by decide +kernel
theorem dX1_says_140 : decode cX1_says 140 = .ok (.goto 4, 3) := by decide +kernel
theorem dX1_says_143 : decode cX1_says 143 = .ok (.iconst 0, 1) := by decide +kernel
theorem dX1_says_144 : decode cX1_says 144 = .ok (.istore 5, 2) := by decide +kernel
theorem dX1_says_146 : decode cX1_says 146 = .ok (.iload 5, 2) := by decide +kernel
theorem dX1_says_148 : decode cX1_says 148 = .ok (.ifCond .eq 15, 3) := by decide +kernel
theorem dX1_says_151 : decode cX1_says 151 = .ok (.aload_n 0, 1) := by decide +kernel
theorem dX1_says_152 : decode cX1_says 152 = .ok (.getfield 26, 3) := by decide +kernel
theorem dX1_says_155 : decode cX1_says 155 = .ok (.aload_n 0, 1) := by decide +kernel
theorem dX1_says_156 : decode cX1_says 156 = .ok (.getfield 42, 3) := by decide +kernel
theorem dX1_says_159 : decode cX1_says 159 = .ok (.iconst 0, 1) := by decide +kernel
theorem dX1_says_160 : decode cX1_says 160 = .ok (.iaload, 1) := by decide +kernel
theorem dX1_says_161 : decode cX1_says 161 = .ok (.iconst 0, 1) := by decide +kernel
theorem dX1_says_162 : decode cX1_says 162 = .ok (.bastore, 1) := by decide +kernel
theorem dX1_says_163 : decode cX1_says 163 = .ok (.iload 5, 2) := by decide +kernel
theorem dX1_says_165 : decode cX1_says 165 = .ok (.ireturn, 1) := by decide +kernel
theorem dX1_says_166 : decode cX1_says 166 = .ok (.aload_n 0, 1) := by decide +kernel
theorem dX1_says_167 : decode cX1_says 167 = .ok (.getfield 65, 3) := by decide +kernel
theorem dX1_says_170 : decode cX1_says 170 = .ok (.bipush 16, 2) := by decide +kernel
theorem dX1_says_172 : decode cX1_says 172 = .ok (.if_icmp .ne 25, 3) := by decide +kernel
theorem dX1_says_175 : decode cX1_says 175 = .ok (.aload_n 0, 1) := by decide +kernel
theorem dX1_says_176 : decode cX1_says 176 = .ok (.aload_n 0, 1) := by decide +kernel
theorem dX1_says_177 : decode cX1_says 177 = .ok (.iconst 0, 1) := by decide +kernel
theorem dX1_says_178 : decode cX1_says 178 = .ok (.invokevirtual 87, 3) := by decide +kernel
theorem dX1_says_181 : decode cX1_says 181 = .ok (.aload_n 0, 1) := by decide +kernel
theorem dX1_says_182 : decode cX1_says 182 = .ok (.bipush 8, 2) := by decide +kernel
theorem dX1_says_184 : decode cX1_says 184 = .ok (.invokevirtual 87, 3) := by decide +kernel
theorem dX1_says_187 : decode cX1_says 187 = .ok (.invokevirtual 95, 3) := by decide +kernel
theorem dX1_says_190 : decode cX1_says 190 = .ok (.ifCond .eq 7, 3) := by decide +kernel
theorem dX1_says_193 : decode cX1_says 193 = .ok (.iconst 1, 1) := by decide +kernel
theorem dX1_says_194 : decode cX1_says 194 = .ok (.goto 4, 3) := by decide +kernel
theorem dX1_says_197 : decode cX1_says 197 = .ok (.iconst 0, 1) := by decide +kernel
theorem dX1_says_198 : decode cX1_says 198 = .ok (.ireturn, 1) := by decide +kernel
theorem dX1_saysBlob_0 : decode cX1_saysBlob 0 = .ok (.aload_n 0, 1) := by decide +kernel
theorem dX1_saysBlob_1 : decode cX1_saysBlob 1 = .ok (.invokevirtual 99, 3) := by decide +kernel
theorem dX1_saysBlob_4 : decode cX1_saysBlob 4 = .ok (.lstore_n 1, 1) := by decide +kernel
theorem dX1_saysBlob_5 : decode cX1_saysBlob 5 = .ok (.aload_n 0, 1) := by decide +kernel
theorem dX1_saysBlob_6 : decode cX1_saysBlob 6 = .ok (.lload_n 1, 1) := by decide +kernel
theorem dX1_saysBlob_7 : decode cX1_saysBlob 7 = .ok (.invokevirtual 91, 3) := by decide +kernel
theorem dX1_saysBlob_10 : decode cX1_saysBlob 10 = .ok (.iconst (-1), 1) := by decide +kernel
theorem dX1_saysBlob_11 : decode cX1_saysBlob 11 = .ok (.if_icmp .eq 5, 3) := by decide +kernel
theorem dX1_saysBlob_14 : decode cX1_saysBlob 14 = .ok (.iconst 1, 1) := by decide +kernel
theorem dX1_saysBlob_15 : decode cX1_saysBlob 15 = .ok (.ireturn, 1) := by decide +kernel
theorem dX1_saysBlob_16 : decode cX1_saysBlob 16 = .ok (.aload_n 0, 1) := by decide +kernel
theorem dX1_saysBlob_17 : decode cX1_saysBlob 17 = .ok (.getfield 72, 3) := by decide +kernel
theorem dX1_saysBlob_20 : decode cX1_saysBlob 20 = .ok (.bipush 20, 2) := by decide +kernel
theorem dX1_saysBlob_22 : decode cX1_saysBlob 22 = .ok (.if_icmp .ne 5, 3) := by decide +kernel
theorem dX1_saysBlob_25 : decode cX1_saysBlob 25 = .ok (.iconst 0, 1) := by decide +kernel
theorem dX1_saysBlob_26 : decode cX1_saysBlob 26 = .ok (.ireturn, 1) := by decide +kernel
theorem dX1_saysBlob_27 : decode cX1_saysBlob 27 = .ok (.aload_n 0, 1) := by decide +kernel
theorem dX1_saysBlob_28 : decode cX1_saysBlob 28 = .ok (.getfield 13, 3) := by decide +kernel
theorem dX1_saysBlob_31 : decode cX1_saysBlob 31 = .ok (.aload_n 0, 1) := by decide +kernel
theorem dX1_saysBlob_32 : decode cX1_saysBlob 32 = .ok (.getfield 72, 3) := by decide +kernel
theorem dX1_saysBlob_35 : decode cX1_saysBlob 35 = .ok (.lload_n 1, 1) := by decide +kernel
theorem dX1_saysBlob_36 : decode cX1_saysBlob 36 = .ok (.lastore, 1) := by decide +kernel
theorem dX1_saysBlob_37 : decode cX1_saysBlob 37 = .ok (.aload_n 0, 1) := by decide +kernel
theorem dX1_saysBlob_38 : decode cX1_saysBlob 38 = .ok (.getfield 17, 3) := by decide +kernel
theorem dX1_saysBlob_41 : decode cX1_saysBlob 41 = .ok (.aload_n 0, 1) := by decide +kernel
theorem dX1_saysBlob_42 : decode cX1_saysBlob 42 = .ok (.getfield 72, 3) := by decide +kernel
theorem dX1_saysBlob_45 : decode cX1_saysBlob 45 = .ok (.aload_n 0, 1) := by decide +kernel
theorem dX1_saysBlob_46 : decode cX1_saysBlob 46 = .ok (.getfield 65, 3) := by decide +kernel
theorem dX1_saysBlob_49 : decode cX1_saysBlob 49 = .ok (.iastore, 1) := by decide +kernel
theorem dX1_saysBlob_50 : decode cX1_saysBlob 50 = .ok (.iconst 0, 1) := by decide +kernel
theorem dX1_saysBlob_51 : decode cX1_saysBlob 51 = .ok (.istore_n 3, 1) := by decide +kernel
theorem dX1_saysBlob_52 : decode cX1_saysBlob 52 = .ok (.iload_n 3, 1) := by decide +kernel
theorem dX1_saysBlob_53 : decode cX1_saysBlob 53 = .ok (.aload_n 0, 1) := by decide +kernel
theorem dX1_saysBlob_54 : decode cX1_saysBlob 54 = .ok (.getfield 65, 3) := by decide +kernel
theorem dX1_saysBlob_57 : decode cX1_saysBlob 57 = .ok (.if_icmp .ge 30, 3) := by decide +kernel
theorem dX1_saysBlob_60 : decode cX1_saysBlob 60 = .ok (.aload_n 0, 1) := by decide +kernel
theorem dX1_saysBlob_61 : decode cX1_saysBlob 61 = .ok (.getfield 20, 3) := by decide +kernel
theorem dX1_saysBlob_64 : decode cX1_saysBlob 64 = .ok (.sipush 700, 3) := by decide +kernel
theorem dX1_saysBlob_67 : decode cX1_saysBlob 67 = .ok (.aload_n 0, 1) := by decide +kernel
theorem dX1_saysBlob_68 : decode cX1_saysBlob 68 = .ok (.getfield 72, 3) := by decide +kernel
theorem dX1_saysBlob_71 : decode cX1_saysBlob 71 = .ok (.imul, 1) := by decide +kernel
theorem dX1_saysBlob_72 : decode cX1_saysBlob 72 = .ok (.iload_n 3, 1) := by decide +kernel
theorem dX1_saysBlob_73 : decode cX1_saysBlob 73 = .ok (.iadd, 1) := by decide +kernel
theorem dX1_saysBlob_74 : decode cX1_saysBlob 74 = .ok (.aload_n 0, 1) := by decide +kernel
theorem dX1_saysBlob_75 : decode cX1_saysBlob 75 = .ok (.getfield 42, 3) := by decide +kernel
theorem dX1_saysBlob_78 : decode cX1_saysBlob 78 = .ok (.iload_n 3, 1) := by decide +kernel
theorem dX1_saysBlob_79 : decode cX1_saysBlob 79 = .ok (.iaload, 1) := by decide +kernel
theorem dX1_saysBlob_80 : decode cX1_saysBlob 80 = .ok (.iastore, 1) := by decide +kernel
theorem dX1_saysBlob_81 : decode cX1_saysBlob 81 = .ok (.iinc 3 1, 3) := by decide +kernel
theorem dX1_saysBlob_84 : decode cX1_saysBlob 84 = .ok (.goto (-32), 3) := by decide +kernel
theorem dX1_saysBlob_87 : decode cX1_saysBlob 87 = .ok (.aload_n 0, 1) := by decide +kernel
theorem dX1_saysBlob_88 : decode cX1_saysBlob 88 = .ok (.dup, 1) := by decide +kernel
theorem dX1_saysBlob_89 : decode cX1_saysBlob 89 = .ok (.getfield 72, 3) := by decide +kernel
theorem dX1_saysBlob_92 : decode cX1_saysBlob 92 = .ok (.iconst 1, 1) := by decide +kernel
theorem dX1_saysBlob_93 : decode cX1_saysBlob 93 = .ok (.iadd, 1) := by decide +kernel
theorem dX1_saysBlob_94 : decode cX1_saysBlob 94 = .ok (.putfield 72, 3) := by decide +kernel
theorem dX1_saysBlob_97 : decode cX1_saysBlob 97 = .ok (.iconst 1, 1) := by decide +kernel
theorem dX1_saysBlob_98 : decode cX1_saysBlob 98 = .ok (.ireturn, 1) := by decide +kernel
theorem dX1_saysKey_0 : decode cX1_saysKey 0 = .ok (.aload_n 0, 1) := by decide +kernel
theorem dX1_saysKey_1 : decode cX1_saysKey 1 = .ok (.lload_n 1, 1) := by decide +kernel
theorem dX1_saysKey_2 : decode cX1_saysKey 2 = .ok (.invokevirtual 102, 3) := by decide +kernel
theorem dX1_saysKey_5 : decode cX1_saysKey 5 = .ok (.istore 5, 2) := by decide +kernel
theorem dX1_saysKey_7 : decode cX1_saysKey 7 = .ok (.iload 5, 2) := by decide +kernel
theorem dX1_saysKey_9 : decode cX1_saysKey 9 = .ok (.iconst (-1), 1) := by decide +kernel
theorem dX1_saysKey_10 : decode cX1_saysKey 10 = .ok (.if_icmp .ne 14, 3) := by decide +kernel
theorem dX1_saysKey_13 : decode cX1_saysKey 13 = .ok (.aload_n 0, 1) := by decide +kernel
theorem dX1_saysKey_14 : decode cX1_saysKey 14 = .ok (.getfield 75, 3) := by decide +kernel
theorem dX1_saysKey_17 : decode cX1_saysKey 17 = .ok (.bipush 16, 2) := by decide +kernel
theorem dX1_saysKey_19 : decode cX1_saysKey 19 = .ok (.if_icmp .ne 5, 3) := by decide +kernel
theorem dX1_saysKey_22 : decode cX1_saysKey 22 = .ok (.iconst 0, 1) := by decide +kernel
theorem dX1_saysKey_23 : decode cX1_saysKey 23 = .ok (.ireturn, 1) := by decide +kernel
theorem dX1_saysKey_24 : decode cX1_saysKey 24 = .ok (.iload 5, 2) := by decide +kernel
theorem dX1_saysKey_26 : decode cX1_saysKey 26 = .ok (.iconst (-1), 1) := by decide +kernel
theorem dX1_saysKey_27 : decode cX1_saysKey 27 = .ok (.if_icmp .ne 19, 3) := by decide +kernel
theorem dX1_saysKey_30 : decode cX1_saysKey 30 = .ok (.aload_n 0, 1) := by decide +kernel
theorem dX1_saysKey_31 : decode cX1_saysKey 31 = .ok (.getfield 75, 3) := by decide +kernel
theorem dX1_saysKey_34 : decode cX1_saysKey 34 = .ok (.istore 5, 2) := by decide +kernel
theorem dX1_saysKey_36 : decode cX1_saysKey 36 = .ok (.aload_n 0, 1) := by decide +kernel
theorem dX1_saysKey_37 : decode cX1_saysKey 37 = .ok (.dup, 1) := by decide +kernel
theorem dX1_saysKey_38 : decode cX1_saysKey 38 = .ok (.getfield 75, 3) := by decide +kernel
theorem dX1_saysKey_41 : decode cX1_saysKey 41 = .ok (.iconst 1, 1) := by decide +kernel
theorem dX1_saysKey_42 : decode cX1_saysKey 42 = .ok (.iadd, 1) := by decide +kernel
theorem dX1_saysKey_43 : decode cX1_saysKey 43 = .ok (.putfield 75, 3) := by decide +kernel
theorem dX1_saysKey_46 : decode cX1_saysKey 46 = .ok (.aload_n 0, 1) := by decide +kernel
theorem dX1_saysKey_47 : decode cX1_saysKey 47 = .ok (.getfield 30, 3) := by decide +kernel
theorem dX1_saysKey_50 : decode cX1_saysKey 50 = .ok (.iload 5, 2) := by decide +kernel
theorem dX1_saysKey_52 : decode cX1_saysKey 52 = .ok (.lload_n 1, 1) := by decide +kernel
theorem dX1_saysKey_53 : decode cX1_saysKey 53 = .ok (.lastore, 1) := by decide +kernel
theorem dX1_saysKey_54 : decode cX1_saysKey 54 = .ok (.aload_n 0, 1) := by decide +kernel
theorem dX1_saysKey_55 : decode cX1_saysKey 55 = .ok (.getfield 33, 3) := by decide +kernel
theorem dX1_saysKey_58 : decode cX1_saysKey 58 = .ok (.iload 5, 2) := by decide +kernel
theorem dX1_saysKey_60 : decode cX1_saysKey 60 = .ok (.lload_n 3, 1) := by decide +kernel
theorem dX1_saysKey_61 : decode cX1_saysKey 61 = .ok (.lastore, 1) := by decide +kernel
theorem dX1_saysKey_62 : decode cX1_saysKey 62 = .ok (.iconst 1, 1) := by decide +kernel
theorem dX1_saysKey_63 : decode cX1_saysKey 63 = .ok (.ireturn, 1) := by decide +kernel
theorem dX1_keep_0 : decode cX1_keep 0 = .ok (.aload_n 0, 1) := by decide +kernel
theorem dX1_keep_1 : decode cX1_keep 1 = .ok (.invokevirtual 68, 3) := by decide +kernel
theorem dX1_keep_4 : decode cX1_keep 4 = .ok (.lstore_n 1, 1) := by decide +kernel
theorem dX1_keep_5 : decode cX1_keep 5 = .ok (.aload_n 0, 1) := by decide +kernel
theorem dX1_keep_6 : decode cX1_keep 6 = .ok (.iconst 0, 1) := by decide +kernel
theorem dX1_keep_7 : decode cX1_keep 7 = .ok (.putfield 65, 3) := by decide +kernel
theorem dX1_keep_10 : decode cX1_keep 10 = .ok (.iconst 0, 1) := by decide +kernel
theorem dX1_keep_11 : decode cX1_keep 11 = .ok (.istore_n 3, 1) := by decide +kernel
theorem dX1_keep_12 : decode cX1_keep 12 = .ok (.iload_n 3, 1) := by decide +kernel
theorem dX1_keep_13 : decode cX1_keep 13 = .ok (.aload_n 0, 1) := by decide +kernel
theorem dX1_keep_14 : decode cX1_keep 14 = .ok (.getfield 49, 3) := by decide +kernel
theorem dX1_keep_17 : decode cX1_keep 17 = .ok (.if_icmp .ge 21, 3) := by decide +kernel
theorem dX1_keep_20 : decode cX1_keep 20 = .ok (.aload_n 0, 1) := by decide +kernel
theorem dX1_keep_21 : decode cX1_keep 21 = .ok (.aload_n 0, 1) := by decide +kernel
theorem dX1_keep_22 : decode cX1_keep 22 = .ok (.getfield 7, 3) := by decide +kernel
theorem dX1_keep_25 : decode cX1_keep 25 = .ok (.iload_n 3, 1) := by decide +kernel
theorem dX1_keep_26 : decode cX1_keep 26 = .ok (.iaload, 1) := by decide +kernel
theorem dX1_keep_27 : decode cX1_keep 27 = .ok (.i2l, 1) := by decide +kernel
theorem dX1_keep_28 : decode cX1_keep 28 = .ok (.iconst 1, 1) := by decide +kernel
theorem dX1_keep_29 : decode cX1_keep 29 = .ok (.invokevirtual 105, 3) := by decide +kernel
theorem dX1_keep_32 : decode cX1_keep 32 = .ok (.iinc 3 1, 3) := by decide +kernel
theorem dX1_keep_35 : decode cX1_keep 35 = .ok (.goto (-23), 3) := by decide +kernel
theorem dX1_keep_38 : decode cX1_keep 38 = .ok (.aload_n 0, 1) := by decide +kernel
theorem dX1_keep_39 : decode cX1_keep 39 = .ok (.lload_n 1, 1) := by decide +kernel
theorem dX1_keep_40 : decode cX1_keep 40 = .ok (.invokevirtual 91, 3) := by decide +kernel
theorem dX1_keep_43 : decode cX1_keep 43 = .ok (.iconst (-1), 1) := by decide +kernel
theorem dX1_keep_44 : decode cX1_keep 44 = .ok (.if_icmp .ne 7, 3) := by decide +kernel
theorem dX1_keep_47 : decode cX1_keep 47 = .ok (.iconst 1, 1) := by decide +kernel
theorem dX1_keep_48 : decode cX1_keep 48 = .ok (.goto 4, 3) := by decide +kernel
theorem dX1_keep_51 : decode cX1_keep 51 = .ok (.iconst 0, 1) := by decide +kernel
theorem dX1_keep_52 : decode cX1_keep 52 = .ok (.istore_n 3, 1) := by decide +kernel
theorem dX1_keep_53 : decode cX1_keep 53 = .ok (.aload_n 0, 1) := by decide +kernel
theorem dX1_keep_54 : decode cX1_keep 54 = .ok (.iload_n 3, 1) := by decide +kernel
theorem dX1_keep_55 : decode cX1_keep 55 = .ok (.ifCond .eq 23, 3) := by decide +kernel
theorem dX1_keep_58 : decode cX1_keep 58 = .ok (.aload_n 0, 1) := by decide +kernel
theorem dX1_keep_59 : decode cX1_keep 59 = .ok (.getfield 72, 3) := by decide +kernel
theorem dX1_keep_62 : decode cX1_keep 62 = .ok (.bipush 20, 2) := by decide +kernel
theorem dX1_keep_64 : decode cX1_keep 64 = .ok (.if_icmp .eq 10, 3) := by decide +kernel
theorem dX1_keep_67 : decode cX1_keep 67 = .ok (.aload_n 0, 1) := by decide +kernel
theorem dX1_keep_68 : decode cX1_keep 68 = .ok (.invokevirtual 109, 3) := by decide +kernel
theorem dX1_keep_71 : decode cX1_keep 71 = .ok (.ifCond .ne 7, 3) := by decide +kernel
theorem dX1_keep_74 : decode cX1_keep 74 = .ok (.iconst 1, 1) := by decide +kernel
theorem dX1_keep_75 : decode cX1_keep 75 = .ok (.goto 4, 3) := by decide +kernel
theorem dX1_keep_78 : decode cX1_keep 78 = .ok (.iconst 0, 1) := by decide +kernel
theorem dX1_keep_79 : decode cX1_keep 79 = .ok (.putfield 45, 3) := by decide +kernel
theorem dX1_keep_82 : decode cX1_keep 82 = .ok (.aload_n 0, 1) := by decide +kernel
theorem dX1_keep_83 : decode cX1_keep 83 = .ok (.getfield 45, 3) := by decide +kernel
theorem dX1_keep_86 : decode cX1_keep 86 = .ok (.ifCond .ne 18, 3) := by decide +kernel
theorem dX1_keep_89 : decode cX1_keep 89 = .ok (.iload_n 3, 1) := by decide +kernel
theorem dX1_keep_90 : decode cX1_keep 90 = .ok (.ifCond .eq 14, 3) := by decide +kernel
theorem dX1_keep_93 : decode cX1_keep 93 = .ok (.aload_n 0, 1) := by decide +kernel
theorem dX1_keep_94 : decode cX1_keep 94 = .ok (.iconst 1, 1) := by decide +kernel
theorem dX1_keep_95 : decode cX1_keep 95 = .ok (.invokevirtual 112, 3) := by decide +kernel
theorem dX1_keep_98 : decode cX1_keep 98 = .ok (.aload_n 0, 1) := by decide +kernel
theorem dX1_keep_99 : decode cX1_keep 99 = .ok (.iconst 1, 1) := by decide +kernel
theorem dX1_keep_100 : decode cX1_keep 100 = .ok (.invokevirtual 116, 3) := by decide +kernel
theorem dX1_keep_103 : decode cX1_keep 103 = .ok (.pop, 1) := by decide +kernel
theorem dX1_keep_104 : decode cX1_keep 104 = .ok (.aload_n 0, 1) := by decide +kernel
theorem dX1_keep_105 : decode cX1_keep 105 = .ok (.getfield 45, 3) := by decide +kernel
theorem dX1_keep_108 : decode cX1_keep 108 = .ok (.ifCond .le 7, 3) := by decide +kernel
theorem dX1_keep_111 : decode cX1_keep 111 = .ok (.lconst 0, 1) := by decide +kernel
theorem dX1_keep_112 : decode cX1_keep 112 = .ok (.goto 4, 3) := by decide +kernel
theorem dX1_keep_115 : decode cX1_keep 115 = .ok (.lload_n 1, 1) := by decide +kernel
theorem dX1_keep_116 : decode cX1_keep 116 = .ok (.lreturn, 1) := by decide +kernel
theorem dX1_isTag_0 : decode cX1_isTag 0 = .ok (.iload_n 0, 1) := by decide +kernel
theorem dX1_isTag_1 : decode cX1_isTag 1 = .ok (.ifCond .lt 13, 3) := by decide +kernel
theorem dX1_isTag_4 : decode cX1_isTag 4 = .ok (.iload_n 0, 1) := by decide +kernel
theorem dX1_isTag_5 : decode cX1_isTag 5 = .ok (.bipush 8, 2) := by decide +kernel
theorem dX1_isTag_7 : decode cX1_isTag 7 = .ok (.if_icmp .ge 7, 3) := by decide +kernel
theorem dX1_isTag_10 : decode cX1_isTag 10 = .ok (.iconst 1, 1) := by decide +kernel
theorem dX1_isTag_11 : decode cX1_isTag 11 = .ok (.goto 4, 3) := by decide +kernel
theorem dX1_isTag_14 : decode cX1_isTag 14 = .ok (.iconst 0, 1) := by decide +kernel
theorem dX1_isTag_15 : decode cX1_isTag 15 = .ok (.ireturn, 1) := by decide +kernel
theorem dX1_tell_0 : decode cX1_tell 0 = .ok (.aload_n 0, 1) := by decide +kernel
theorem dX1_tell_1 : decode cX1_tell 1 = .ok (.iload_n 1, 1) := by decide +kernel
theorem dX1_tell_2 : decode cX1_tell 2 = .ok (.invokestatic 120, 3) := by decide +kernel
theorem dX1_tell_5 : decode cX1_tell 5 = .ok (.ifCond .ne 7, 3) := by decide +kernel
theorem dX1_tell_8 : decode cX1_tell 8 = .ok (.iconst 1, 1) := by decide +kernel
theorem dX1_tell_9 : decode cX1_tell 9 = .ok (.goto 17, 3) := by decide +kernel
theorem dX1_tell_12 : decode cX1_tell 12 = .ok (.aload_n 0, 1) := by decide +kernel
theorem dX1_tell_13 : decode cX1_tell 13 = .ok (.lload_n 2, 1) := by decide +kernel
theorem dX1_tell_14 : decode cX1_tell 14 = .ok (.invokevirtual 91, 3) := by decide +kernel
theorem dX1_tell_17 : decode cX1_tell 17 = .ok (.iconst (-1), 1) := by decide +kernel
theorem dX1_tell_18 : decode cX1_tell 18 = .ok (.if_icmp .ne 7, 3) := by decide +kernel
theorem dX1_tell_21 : decode cX1_tell 21 = .ok (.iconst 2, 1) := by decide +kernel
theorem dX1_tell_22 : decode cX1_tell 22 = .ok (.goto 4, 3) := by decide +kernel
theorem dX1_tell_25 : decode cX1_tell 25 = .ok (.iconst 0, 1) := by decide +kernel
theorem dX1_tell_26 : decode cX1_tell 26 = .ok (.putfield 45, 3) := by decide +kernel
theorem dX1_tell_29 : decode cX1_tell 29 = .ok (.aload_n 0, 1) := by decide +kernel
theorem dX1_tell_30 : decode cX1_tell 30 = .ok (.getfield 45, 3) := by decide +kernel
theorem dX1_tell_33 : decode cX1_tell 33 = .ok (.ifCond .gt 23, 3) := by decide +kernel
theorem dX1_tell_36 : decode cX1_tell 36 = .ok (.aload_n 0, 1) := by decide +kernel
theorem dX1_tell_37 : decode cX1_tell 37 = .ok (.getfield 26, 3) := by decide +kernel
theorem dX1_tell_40 : decode cX1_tell 40 = .ok (.iload_n 1, 1) := by decide +kernel
theorem dX1_tell_41 : decode cX1_tell 41 = .ok (.baload, 1) := by decide +kernel
theorem dX1_tell_42 : decode cX1_tell 42 = .ok (.ifCond .eq 15, 3) := by decide +kernel
theorem dX1_tell_45 : decode cX1_tell 45 = .ok (.aload_n 0, 1) := by decide +kernel
theorem dX1_tell_46 : decode cX1_tell 46 = .ok (.getfield 23, 3) := by decide +kernel
theorem dX1_tell_49 : decode cX1_tell 49 = .ok (.iload_n 1, 1) := by decide +kernel
theorem dX1_tell_50 : decode cX1_tell 50 = .ok (.laload, 1) := by decide +kernel
theorem dX1_tell_51 : decode cX1_tell 51 = .ok (.lload_n 2, 1) := by decide +kernel
theorem dX1_tell_52 : decode cX1_tell 52 = .ok (.lcmp, 1) := by decide +kernel
theorem dX1_tell_53 : decode cX1_tell 53 = .ok (.ifCond .ne 4, 3) := by decide +kernel
theorem dX1_tell_56 : decode cX1_tell 56 = .ok (.return_, 1) := by decide +kernel
theorem dX1_tell_57 : decode cX1_tell 57 = .ok (.aload_n 0, 1) := by decide +kernel
theorem dX1_tell_58 : decode cX1_tell 58 = .ok (.iconst 0, 1) := by decide +kernel
theorem dX1_tell_59 : decode cX1_tell 59 = .ok (.putfield 65, 3) := by decide +kernel
theorem dX1_tell_62 : decode cX1_tell 62 = .ok (.aload_n 0, 1) := by decide +kernel
theorem dX1_tell_63 : decode cX1_tell 63 = .ok (.iload_n 1, 1) := by decide +kernel
theorem dX1_tell_64 : decode cX1_tell 64 = .ok (.i2l, 1) := by decide +kernel
theorem dX1_tell_65 : decode cX1_tell 65 = .ok (.iconst 1, 1) := by decide +kernel
theorem dX1_tell_66 : decode cX1_tell 66 = .ok (.invokevirtual 105, 3) := by decide +kernel
theorem dX1_tell_69 : decode cX1_tell 69 = .ok (.aload_n 0, 1) := by decide +kernel
theorem dX1_tell_70 : decode cX1_tell 70 = .ok (.lload_n 2, 1) := by decide +kernel
theorem dX1_tell_71 : decode cX1_tell 71 = .ok (.bipush 8, 2) := by decide +kernel
theorem dX1_tell_73 : decode cX1_tell 73 = .ok (.invokevirtual 105, 3) := by decide +kernel
theorem dX1_tell_76 : decode cX1_tell 76 = .ok (.aload_n 0, 1) := by decide +kernel
theorem dX1_tell_77 : decode cX1_tell 77 = .ok (.aload_n 0, 1) := by decide +kernel
theorem dX1_tell_78 : decode cX1_tell 78 = .ok (.invokevirtual 109, 3) := by decide +kernel
theorem dX1_tell_81 : decode cX1_tell 81 = .ok (.ifCond .eq 7, 3) := by decide +kernel
theorem dX1_tell_84 : decode cX1_tell 84 = .ok (.iconst 0, 1) := by decide +kernel
theorem dX1_tell_85 : decode cX1_tell 85 = .ok (.goto 4, 3) := by decide +kernel
theorem dX1_tell_88 : decode cX1_tell 88 = .ok (.iconst 3, 1) := by decide +kernel
theorem dX1_tell_89 : decode cX1_tell 89 = .ok (.putfield 45, 3) := by decide +kernel
theorem dX1_tell_92 : decode cX1_tell 92 = .ok (.aload_n 0, 1) := by decide +kernel
theorem dX1_tell_93 : decode cX1_tell 93 = .ok (.getfield 45, 3) := by decide +kernel
theorem dX1_tell_96 : decode cX1_tell 96 = .ok (.ifCond .ne 14, 3) := by decide +kernel
theorem dX1_tell_99 : decode cX1_tell 99 = .ok (.aload_n 0, 1) := by decide +kernel
theorem dX1_tell_100 : decode cX1_tell 100 = .ok (.iconst 2, 1) := by decide +kernel
theorem dX1_tell_101 : decode cX1_tell 101 = .ok (.invokevirtual 112, 3) := by decide +kernel
theorem dX1_tell_104 : decode cX1_tell 104 = .ok (.aload_n 0, 1) := by decide +kernel
theorem dX1_tell_105 : decode cX1_tell 105 = .ok (.iconst 2, 1) := by decide +kernel
theorem dX1_tell_106 : decode cX1_tell 106 = .ok (.invokevirtual 116, 3) := by decide +kernel
theorem dX1_tell_109 : decode cX1_tell 109 = .ok (.pop, 1) := by decide +kernel
theorem dX1_tell_110 : decode cX1_tell 110 = .ok (.return_, 1) := by decide +kernel
theorem dX1_untell_0 : decode cX1_untell 0 = .ok (.aload_n 0, 1) := by decide +kernel
theorem dX1_untell_1 : decode cX1_untell 1 = .ok (.iload_n 1, 1) := by decide +kernel
theorem dX1_untell_2 : decode cX1_untell 2 = .ok (.invokestatic 120, 3) := by decide +kernel
theorem dX1_untell_5 : decode cX1_untell 5 = .ok (.ifCond .ne 7, 3) := by decide +kernel
theorem dX1_untell_8 : decode cX1_untell 8 = .ok (.iconst 1, 1) := by decide +kernel
theorem dX1_untell_9 : decode cX1_untell 9 = .ok (.goto 17, 3) := by decide +kernel
theorem dX1_untell_12 : decode cX1_untell 12 = .ok (.aload_n 0, 1) := by decide +kernel
theorem dX1_untell_13 : decode cX1_untell 13 = .ok (.getfield 26, 3) := by decide +kernel
theorem dX1_untell_16 : decode cX1_untell 16 = .ok (.iload_n 1, 1) := by decide +kernel
theorem dX1_untell_17 : decode cX1_untell 17 = .ok (.baload, 1) := by decide +kernel
theorem dX1_untell_18 : decode cX1_untell 18 = .ok (.ifCond .ne 7, 3) := by decide +kernel
theorem dX1_untell_21 : decode cX1_untell 21 = .ok (.iconst 2, 1) := by decide +kernel
theorem dX1_untell_22 : decode cX1_untell 22 = .ok (.goto 4, 3) := by decide +kernel
theorem dX1_untell_25 : decode cX1_untell 25 = .ok (.iconst 0, 1) := by decide +kernel
theorem dX1_untell_26 : decode cX1_untell 26 = .ok (.putfield 45, 3) := by decide +kernel
theorem dX1_untell_29 : decode cX1_untell 29 = .ok (.aload_n 0, 1) := by decide +kernel
theorem dX1_untell_30 : decode cX1_untell 30 = .ok (.getfield 45, 3) := by decide +kernel
theorem dX1_untell_33 : decode cX1_untell 33 = .ok (.ifCond .le 4, 3) := by decide +kernel
theorem dX1_untell_36 : decode cX1_untell 36 = .ok (.return_, 1) := by decide +kernel
theorem dX1_untell_37 : decode cX1_untell 37 = .ok (.aload_n 0, 1) := by decide +kernel
theorem dX1_untell_38 : decode cX1_untell 38 = .ok (.iconst 0, 1) := by decide +kernel
theorem dX1_untell_39 : decode cX1_untell 39 = .ok (.putfield 65, 3) := by decide +kernel
theorem dX1_untell_42 : decode cX1_untell 42 = .ok (.aload_n 0, 1) := by decide +kernel
theorem dX1_untell_43 : decode cX1_untell 43 = .ok (.iload_n 1, 1) := by decide +kernel
theorem dX1_untell_44 : decode cX1_untell 44 = .ok (.i2l, 1) := by decide +kernel
theorem dX1_untell_45 : decode cX1_untell 45 = .ok (.iconst 1, 1) := by decide +kernel
theorem dX1_untell_46 : decode cX1_untell 46 = .ok (.invokevirtual 105, 3) := by decide +kernel
theorem dX1_untell_49 : decode cX1_untell 49 = .ok (.aload_n 0, 1) := by decide +kernel
theorem dX1_untell_50 : decode cX1_untell 50 = .ok (.aload_n 0, 1) := by decide +kernel
theorem dX1_untell_51 : decode cX1_untell 51 = .ok (.invokevirtual 109, 3) := by decide +kernel
theorem dX1_untell_54 : decode cX1_untell 54 = .ok (.ifCond .eq 7, 3) := by decide +kernel
theorem dX1_untell_57 : decode cX1_untell 57 = .ok (.iconst 0, 1) := by decide +kernel
theorem dX1_untell_58 : decode cX1_untell 58 = .ok (.goto 4, 3) := by decide +kernel
theorem dX1_untell_61 : decode cX1_untell 61 = .ok (.iconst 3, 1) := by decide +kernel
theorem dX1_untell_62 : decode cX1_untell 62 = .ok (.putfield 45, 3) := by decide +kernel
theorem dX1_untell_65 : decode cX1_untell 65 = .ok (.aload_n 0, 1) := by decide +kernel
theorem dX1_untell_66 : decode cX1_untell 66 = .ok (.getfield 45, 3) := by decide +kernel
theorem dX1_untell_69 : decode cX1_untell 69 = .ok (.ifCond .ne 14, 3) := by decide +kernel
theorem dX1_untell_72 : decode cX1_untell 72 = .ok (.aload_n 0, 1) := by decide +kernel
theorem dX1_untell_73 : decode cX1_untell 73 = .ok (.iconst 3, 1) := by decide +kernel
theorem dX1_untell_74 : decode cX1_untell 74 = .ok (.invokevirtual 112, 3) := by decide +kernel
theorem dX1_untell_77 : decode cX1_untell 77 = .ok (.aload_n 0, 1) := by decide +kernel
theorem dX1_untell_78 : decode cX1_untell 78 = .ok (.iconst 3, 1) := by decide +kernel
theorem dX1_untell_79 : decode cX1_untell 79 = .ok (.invokevirtual 116, 3) := by decide +kernel
theorem dX1_untell_82 : decode cX1_untell 82 = .ok (.pop, 1) := by decide +kernel
theorem dX1_untell_83 : decode cX1_untell 83 = .ok (.return_, 1) := by decide +kernel
theorem dX1_learn_0 : decode cX1_learn 0 = .ok (.aload_n 0, 1) := by decide +kernel
theorem dX1_learn_1 : decode cX1_learn 1 = .ok (.lload_n 1, 1) := by decide +kernel
theorem dX1_learn_2 : decode cX1_learn 2 = .ok (.invokevirtual 102, 3) := by decide +kernel
theorem dX1_learn_5 : decode cX1_learn 5 = .ok (.istore 5, 2) := by decide +kernel
theorem dX1_learn_7 : decode cX1_learn 7 = .ok (.aload_n 0, 1) := by decide +kernel
theorem dX1_learn_8 : decode cX1_learn 8 = .ok (.iconst 0, 1) := by decide +kernel
theorem dX1_learn_9 : decode cX1_learn 9 = .ok (.putfield 45, 3) := by decide +kernel
theorem dX1_learn_12 : decode cX1_learn 12 = .ok (.iload 5, 2) := by decide +kernel
theorem dX1_learn_14 : decode cX1_learn 14 = .ok (.iconst (-1), 1) := by decide +kernel
theorem dX1_learn_15 : decode cX1_learn 15 = .ok (.if_icmp .eq 16, 3) := by decide +kernel
theorem dX1_learn_18 : decode cX1_learn 18 = .ok (.aload_n 0, 1) := by decide +kernel
theorem dX1_learn_19 : decode cX1_learn 19 = .ok (.getfield 33, 3) := by decide +kernel
theorem dX1_learn_22 : decode cX1_learn 22 = .ok (.iload 5, 2) := by decide +kernel
theorem dX1_learn_24 : decode cX1_learn 24 = .ok (.laload, 1) := by decide +kernel
theorem dX1_learn_25 : decode cX1_learn 25 = .ok (.lload_n 3, 1) := by decide +kernel
theorem dX1_learn_26 : decode cX1_learn 26 = .ok (.lcmp, 1) := by decide +kernel
theorem dX1_learn_27 : decode cX1_learn 27 = .ok (.ifCond .ne 4, 3) := by decide +kernel
theorem dX1_learn_30 : decode cX1_learn 30 = .ok (.return_, 1) := by decide +kernel
theorem dX1_learn_31 : decode cX1_learn 31 = .ok (.aload_n 0, 1) := by decide +kernel
theorem dX1_learn_32 : decode cX1_learn 32 = .ok (.iconst 0, 1) := by decide +kernel
theorem dX1_learn_33 : decode cX1_learn 33 = .ok (.putfield 65, 3) := by decide +kernel
theorem dX1_learn_36 : decode cX1_learn 36 = .ok (.aload_n 0, 1) := by decide +kernel
theorem dX1_learn_37 : decode cX1_learn 37 = .ok (.lload_n 1, 1) := by decide +kernel
theorem dX1_learn_38 : decode cX1_learn 38 = .ok (.bipush 8, 2) := by decide +kernel
theorem dX1_learn_40 : decode cX1_learn 40 = .ok (.invokevirtual 105, 3) := by decide +kernel
theorem dX1_learn_43 : decode cX1_learn 43 = .ok (.aload_n 0, 1) := by decide +kernel
theorem dX1_learn_44 : decode cX1_learn 44 = .ok (.lload_n 3, 1) := by decide +kernel
theorem dX1_learn_45 : decode cX1_learn 45 = .ok (.bipush 8, 2) := by decide +kernel
theorem dX1_learn_47 : decode cX1_learn 47 = .ok (.invokevirtual 105, 3) := by decide +kernel
theorem dX1_learn_50 : decode cX1_learn 50 = .ok (.aload_n 0, 1) := by decide +kernel
theorem dX1_learn_51 : decode cX1_learn 51 = .ok (.iload 5, 2) := by decide +kernel
theorem dX1_learn_53 : decode cX1_learn 53 = .ok (.iconst (-1), 1) := by decide +kernel
theorem dX1_learn_54 : decode cX1_learn 54 = .ok (.if_icmp .ne 12, 3) := by decide +kernel
theorem dX1_learn_57 : decode cX1_learn 57 = .ok (.aload_n 0, 1) := by decide +kernel
theorem dX1_learn_58 : decode cX1_learn 58 = .ok (.getfield 75, 3) := by decide +kernel
theorem dX1_learn_61 : decode cX1_learn 61 = .ok (.bipush 16, 2) := by decide +kernel
theorem dX1_learn_63 : decode cX1_learn 63 = .ok (.if_icmp .eq 10, 3) := by decide +kernel
theorem dX1_learn_66 : decode cX1_learn 66 = .ok (.aload_n 0, 1) := by decide +kernel
theorem dX1_learn_67 : decode cX1_learn 67 = .ok (.invokevirtual 109, 3) := by decide +kernel
theorem dX1_learn_70 : decode cX1_learn 70 = .ok (.ifCond .ne 7, 3) := by decide +kernel
theorem dX1_learn_73 : decode cX1_learn 73 = .ok (.iconst 1, 1) := by decide +kernel
theorem dX1_learn_74 : decode cX1_learn 74 = .ok (.goto 4, 3) := by decide +kernel
theorem dX1_learn_77 : decode cX1_learn 77 = .ok (.iconst 0, 1) := by decide +kernel
theorem dX1_learn_78 : decode cX1_learn 78 = .ok (.putfield 45, 3) := by decide +kernel
theorem dX1_learn_81 : decode cX1_learn 81 = .ok (.aload_n 0, 1) := by decide +kernel
theorem dX1_learn_82 : decode cX1_learn 82 = .ok (.getfield 45, 3) := by decide +kernel
theorem dX1_learn_85 : decode cX1_learn 85 = .ok (.ifCond .ne 14, 3) := by decide +kernel
theorem dX1_learn_88 : decode cX1_learn 88 = .ok (.aload_n 0, 1) := by decide +kernel
theorem dX1_learn_89 : decode cX1_learn 89 = .ok (.iconst 4, 1) := by decide +kernel
theorem dX1_learn_90 : decode cX1_learn 90 = .ok (.invokevirtual 112, 3) := by decide +kernel
theorem dX1_learn_93 : decode cX1_learn 93 = .ok (.aload_n 0, 1) := by decide +kernel
theorem dX1_learn_94 : decode cX1_learn 94 = .ok (.iconst 4, 1) := by decide +kernel
theorem dX1_learn_95 : decode cX1_learn 95 = .ok (.invokevirtual 116, 3) := by decide +kernel
theorem dX1_learn_98 : decode cX1_learn 98 = .ok (.pop, 1) := by decide +kernel
theorem dX1_learn_99 : decode cX1_learn 99 = .ok (.return_, 1) := by decide +kernel
theorem dX1_pin_0 : decode cX1_pin 0 = .ok (.aload_n 0, 1) := by decide +kernel
theorem dX1_pin_1 : decode cX1_pin 1 = .ok (.iload_n 1, 1) := by decide +kernel
theorem dX1_pin_2 : decode cX1_pin 2 = .ok (.ifCond .lt 8, 3) := by decide +kernel
theorem dX1_pin_5 : decode cX1_pin 5 = .ok (.iload_n 1, 1) := by decide +kernel
theorem dX1_pin_6 : decode cX1_pin 6 = .ok (.iconst 4, 1) := by decide +kernel
theorem dX1_pin_7 : decode cX1_pin 7 = .ok (.if_icmp .lt 7, 3) := by decide +kernel
theorem dX1_pin_10 : decode cX1_pin 10 = .ok (.iconst 1, 1) := by decide +kernel
theorem dX1_pin_11 : decode cX1_pin 11 = .ok (.goto 4, 3) := by decide +kernel
theorem dX1_pin_14 : decode cX1_pin 14 = .ok (.iconst 0, 1) := by decide +kernel
theorem dX1_pin_15 : decode cX1_pin 15 = .ok (.putfield 45, 3) := by decide +kernel
theorem dX1_pin_18 : decode cX1_pin 18 = .ok (.aload_n 0, 1) := by decide +kernel
theorem dX1_pin_19 : decode cX1_pin 19 = .ok (.getfield 45, 3) := by decide +kernel
theorem dX1_pin_22 : decode cX1_pin 22 = .ok (.ifCond .ne 10, 3) := by decide +kernel
theorem dX1_pin_25 : decode cX1_pin 25 = .ok (.aload_n 0, 1) := by decide +kernel
theorem dX1_pin_26 : decode cX1_pin 26 = .ok (.getfield 36, 3) := by decide +kernel
theorem dX1_pin_29 : decode cX1_pin 29 = .ok (.iload_n 1, 1) := by decide +kernel
theorem dX1_pin_30 : decode cX1_pin 30 = .ok (.lload_n 2, 1) := by decide +kernel
theorem dX1_pin_31 : decode cX1_pin 31 = .ok (.lastore, 1) := by decide +kernel
theorem dX1_pin_32 : decode cX1_pin 32 = .ok (.return_, 1) := by decide +kernel
theorem dX1_tag_0 : decode cX1_tag 0 = .ok (.aload_n 0, 1) := by decide +kernel
theorem dX1_tag_1 : decode cX1_tag 1 = .ok (.iload_n 1, 1) := by decide +kernel
theorem dX1_tag_2 : decode cX1_tag 2 = .ok (.invokestatic 120, 3) := by decide +kernel
theorem dX1_tag_5 : decode cX1_tag 5 = .ok (.ifCond .eq 7, 3) := by decide +kernel
theorem dX1_tag_8 : decode cX1_tag 8 = .ok (.iconst 0, 1) := by decide +kernel
theorem dX1_tag_9 : decode cX1_tag 9 = .ok (.goto 4, 3) := by decide +kernel
theorem dX1_tag_12 : decode cX1_tag 12 = .ok (.iconst 1, 1) := by decide +kernel
theorem dX1_tag_13 : decode cX1_tag 13 = .ok (.putfield 45, 3) := by decide +kernel
theorem dX1_tag_16 : decode cX1_tag 16 = .ok (.aload_n 0, 1) := by decide +kernel
theorem dX1_tag_17 : decode cX1_tag 17 = .ok (.getfield 45, 3) := by decide +kernel
theorem dX1_tag_20 : decode cX1_tag 20 = .ok (.ifCond .gt 12, 3) := by decide +kernel
theorem dX1_tag_23 : decode cX1_tag 23 = .ok (.aload_n 0, 1) := by decide +kernel
theorem dX1_tag_24 : decode cX1_tag 24 = .ok (.getfield 26, 3) := by decide +kernel
theorem dX1_tag_27 : decode cX1_tag 27 = .ok (.iload_n 1, 1) := by decide +kernel
theorem dX1_tag_28 : decode cX1_tag 28 = .ok (.baload, 1) := by decide +kernel
theorem dX1_tag_29 : decode cX1_tag 29 = .ok (.ifCond .ne 7, 3) := by decide +kernel
theorem dX1_tag_32 : decode cX1_tag 32 = .ok (.lconst 0, 1) := by decide +kernel
theorem dX1_tag_33 : decode cX1_tag 33 = .ok (.goto 9, 3) := by decide +kernel
theorem dX1_tag_36 : decode cX1_tag 36 = .ok (.aload_n 0, 1) := by decide +kernel
theorem dX1_tag_37 : decode cX1_tag 37 = .ok (.getfield 23, 3) := by decide +kernel
theorem dX1_tag_40 : decode cX1_tag 40 = .ok (.iload_n 1, 1) := by decide +kernel
theorem dX1_tag_41 : decode cX1_tag 41 = .ok (.laload, 1) := by decide +kernel
theorem dX1_tag_42 : decode cX1_tag 42 = .ok (.lreturn, 1) := by decide +kernel
theorem dX1_look_0 : decode cX1_look 0 = .ok (.aload_n 0, 1) := by decide +kernel
theorem dX1_look_1 : decode cX1_look 1 = .ok (.lload_n 1, 1) := by decide +kernel
theorem dX1_look_2 : decode cX1_look 2 = .ok (.invokevirtual 102, 3) := by decide +kernel
theorem dX1_look_5 : decode cX1_look 5 = .ok (.istore_n 3, 1) := by decide +kernel
theorem dX1_look_6 : decode cX1_look 6 = .ok (.aload_n 0, 1) := by decide +kernel
theorem dX1_look_7 : decode cX1_look 7 = .ok (.iload_n 3, 1) := by decide +kernel
theorem dX1_look_8 : decode cX1_look 8 = .ok (.iconst (-1), 1) := by decide +kernel
theorem dX1_look_9 : decode cX1_look 9 = .ok (.if_icmp .ne 7, 3) := by decide +kernel
theorem dX1_look_12 : decode cX1_look 12 = .ok (.iconst 1, 1) := by decide +kernel
theorem dX1_look_13 : decode cX1_look 13 = .ok (.goto 4, 3) := by decide +kernel
theorem dX1_look_16 : decode cX1_look 16 = .ok (.iconst 0, 1) := by decide +kernel
theorem dX1_look_17 : decode cX1_look 17 = .ok (.putfield 45, 3) := by decide +kernel
theorem dX1_look_20 : decode cX1_look 20 = .ok (.iload_n 3, 1) := by decide +kernel
theorem dX1_look_21 : decode cX1_look 21 = .ok (.iconst (-1), 1) := by decide +kernel
theorem dX1_look_22 : decode cX1_look 22 = .ok (.if_icmp .ne 7, 3) := by decide +kernel
theorem dX1_look_25 : decode cX1_look 25 = .ok (.lconst 0, 1) := by decide +kernel
theorem dX1_look_26 : decode cX1_look 26 = .ok (.goto 9, 3) := by decide +kernel
theorem dX1_look_29 : decode cX1_look 29 = .ok (.aload_n 0, 1) := by decide +kernel
theorem dX1_look_30 : decode cX1_look 30 = .ok (.getfield 33, 3) := by decide +kernel
theorem dX1_look_33 : decode cX1_look 33 = .ok (.iload_n 3, 1) := by decide +kernel
theorem dX1_look_34 : decode cX1_look 34 = .ok (.laload, 1) := by decide +kernel
theorem dX1_look_35 : decode cX1_look 35 = .ok (.lreturn, 1) := by decide +kernel
theorem dX1_length_0 : decode cX1_length 0 = .ok (.aload_n 0, 1) := by decide +kernel
theorem dX1_length_1 : decode cX1_length 1 = .ok (.iconst 0, 1) := by decide +kernel
theorem dX1_length_2 : decode cX1_length 2 = .ok (.putfield 45, 3) := by decide +kernel
theorem dX1_length_5 : decode cX1_length 5 = .ok (.aload_n 0, 1) := by decide +kernel
theorem dX1_length_6 : decode cX1_length 6 = .ok (.lload_n 1, 1) := by decide +kernel
theorem dX1_length_7 : decode cX1_length 7 = .ok (.invokevirtual 91, 3) := by decide +kernel
theorem dX1_length_10 : decode cX1_length 10 = .ok (.istore_n 3, 1) := by decide +kernel
theorem dX1_length_11 : decode cX1_length 11 = .ok (.iload_n 3, 1) := by decide +kernel
theorem dX1_length_12 : decode cX1_length 12 = .ok (.iconst (-1), 1) := by decide +kernel
theorem dX1_length_13 : decode cX1_length 13 = .ok (.if_icmp .ne 7, 3) := by decide +kernel
theorem dX1_length_16 : decode cX1_length 16 = .ok (.iconst (-1), 1) := by decide +kernel
theorem dX1_length_17 : decode cX1_length 17 = .ok (.goto 9, 3) := by decide +kernel
theorem dX1_length_20 : decode cX1_length 20 = .ok (.aload_n 0, 1) := by decide +kernel
theorem dX1_length_21 : decode cX1_length 21 = .ok (.getfield 17, 3) := by decide +kernel
theorem dX1_length_24 : decode cX1_length 24 = .ok (.iload_n 3, 1) := by decide +kernel
theorem dX1_length_25 : decode cX1_length 25 = .ok (.iaload, 1) := by decide +kernel
theorem dX1_length_26 : decode cX1_length 26 = .ok (.ireturn, 1) := by decide +kernel
theorem dX1_byteOf_0 : decode cX1_byteOf 0 = .ok (.aload_n 0, 1) := by decide +kernel
theorem dX1_byteOf_1 : decode cX1_byteOf 1 = .ok (.lload_n 1, 1) := by decide +kernel
theorem dX1_byteOf_2 : decode cX1_byteOf 2 = .ok (.invokevirtual 91, 3) := by decide +kernel
theorem dX1_byteOf_5 : decode cX1_byteOf 5 = .ok (.istore 4, 2) := by decide +kernel
theorem dX1_byteOf_7 : decode cX1_byteOf 7 = .ok (.aload_n 0, 1) := by decide +kernel
theorem dX1_byteOf_8 : decode cX1_byteOf 8 = .ok (.iload 4, 2) := by decide +kernel
theorem dX1_byteOf_10 : decode cX1_byteOf 10 = .ok (.iconst (-1), 1) := by decide +kernel
theorem dX1_byteOf_11 : decode cX1_byteOf 11 = .ok (.if_icmp .ne 7, 3) := by decide +kernel
theorem dX1_byteOf_14 : decode cX1_byteOf 14 = .ok (.iconst 1, 1) := by decide +kernel
theorem dX1_byteOf_15 : decode cX1_byteOf 15 = .ok (.goto 23, 3) := by decide +kernel
theorem dX1_byteOf_18 : decode cX1_byteOf 18 = .ok (.iload_n 3, 1) := by decide +kernel
theorem dX1_byteOf_19 : decode cX1_byteOf 19 = .ok (.ifCond .lt 14, 3) := by decide +kernel
theorem dX1_byteOf_22 : decode cX1_byteOf 22 = .ok (.iload_n 3, 1) := by decide +kernel
theorem dX1_byteOf_23 : decode cX1_byteOf 23 = .ok (.aload_n 0, 1) := by decide +kernel
theorem dX1_byteOf_24 : decode cX1_byteOf 24 = .ok (.getfield 17, 3) := by decide +kernel
theorem dX1_byteOf_27 : decode cX1_byteOf 27 = .ok (.iload 4, 2) := by decide +kernel
theorem dX1_byteOf_29 : decode cX1_byteOf 29 = .ok (.iaload, 1) := by decide +kernel
theorem dX1_byteOf_30 : decode cX1_byteOf 30 = .ok (.if_icmp .lt 7, 3) := by decide +kernel
theorem dX1_byteOf_33 : decode cX1_byteOf 33 = .ok (.iconst 2, 1) := by decide +kernel
theorem dX1_byteOf_34 : decode cX1_byteOf 34 = .ok (.goto 4, 3) := by decide +kernel
theorem dX1_byteOf_37 : decode cX1_byteOf 37 = .ok (.iconst 0, 1) := by decide +kernel
theorem dX1_byteOf_38 : decode cX1_byteOf 38 = .ok (.putfield 45, 3) := by decide +kernel
theorem dX1_byteOf_41 : decode cX1_byteOf 41 = .ok (.aload_n 0, 1) := by decide +kernel
theorem dX1_byteOf_42 : decode cX1_byteOf 42 = .ok (.getfield 45, 3) := by decide +kernel
theorem dX1_byteOf_45 : decode cX1_byteOf 45 = .ok (.ifCond .le 7, 3) := by decide +kernel
theorem dX1_byteOf_48 : decode cX1_byteOf 48 = .ok (.iconst 0, 1) := by decide +kernel
theorem dX1_byteOf_49 : decode cX1_byteOf 49 = .ok (.goto 16, 3) := by decide +kernel
theorem dX1_byteOf_52 : decode cX1_byteOf 52 = .ok (.aload_n 0, 1) := by decide +kernel
theorem dX1_byteOf_53 : decode cX1_byteOf 53 = .ok (.getfield 20, 3) := by decide +kernel
theorem dX1_byteOf_56 : decode cX1_byteOf 56 = .ok (.sipush 700, 3) := by decide +kernel
theorem dX1_byteOf_59 : decode cX1_byteOf 59 = .ok (.iload 4, 2) := by decide +kernel
theorem dX1_byteOf_61 : decode cX1_byteOf 61 = .ok (.imul, 1) := by decide +kernel
theorem dX1_byteOf_62 : decode cX1_byteOf 62 = .ok (.iload_n 3, 1) := by decide +kernel
theorem dX1_byteOf_63 : decode cX1_byteOf 63 = .ok (.iadd, 1) := by decide +kernel
theorem dX1_byteOf_64 : decode cX1_byteOf 64 = .ok (.iaload, 1) := by decide +kernel
theorem dX1_byteOf_65 : decode cX1_byteOf 65 = .ok (.ireturn, 1) := by decide +kernel
theorem dX1_count_0 : decode cX1_count 0 = .ok (.aload_n 0, 1) := by decide +kernel
theorem dX1_count_1 : decode cX1_count 1 = .ok (.iload_n 1, 1) := by decide +kernel
theorem dX1_count_2 : decode cX1_count 2 = .ok (.ifCond .lt 8, 3) := by decide +kernel
theorem dX1_count_5 : decode cX1_count 5 = .ok (.iload_n 1, 1) := by decide +kernel
theorem dX1_count_6 : decode cX1_count 6 = .ok (.iconst 3, 1) := by decide +kernel
theorem dX1_count_7 : decode cX1_count 7 = .ok (.if_icmp .le 7, 3) := by decide +kernel
theorem dX1_count_10 : decode cX1_count 10 = .ok (.iconst 1, 1) := by decide +kernel
theorem dX1_count_11 : decode cX1_count 11 = .ok (.goto 4, 3) := by decide +kernel
theorem dX1_count_14 : decode cX1_count 14 = .ok (.iconst 0, 1) := by decide +kernel
theorem dX1_count_15 : decode cX1_count 15 = .ok (.putfield 45, 3) := by decide +kernel
theorem dX1_count_18 : decode cX1_count 18 = .ok (.iload_n 1, 1) := by decide +kernel
theorem dX1_count_19 : decode cX1_count 19 = .ok (.ifCond .ne 10, 3) := by decide +kernel
theorem dX1_count_22 : decode cX1_count 22 = .ok (.aload_n 0, 1) := by decide +kernel
theorem dX1_count_23 : decode cX1_count 23 = .ok (.getfield 72, 3) := by decide +kernel
theorem dX1_count_26 : decode cX1_count 26 = .ok (.goto 40, 3) := by decide +kernel
theorem dX1_count_29 : decode cX1_count 29 = .ok (.iload_n 1, 1) := by decide +kernel
theorem dX1_count_30 : decode cX1_count 30 = .ok (.iconst 1, 1) := by decide +kernel
theorem dX1_count_31 : decode cX1_count 31 = .ok (.if_icmp .ne 10, 3) := by decide +kernel
theorem dX1_count_34 : decode cX1_count 34 = .ok (.aload_n 0, 1) := by decide +kernel
theorem dX1_count_35 : decode cX1_count 35 = .ok (.getfield 75, 3) := by decide +kernel
theorem dX1_count_38 : decode cX1_count 38 = .ok (.goto 28, 3) := by decide +kernel
theorem dX1_count_41 : decode cX1_count 41 = .ok (.iload_n 1, 1) := by decide +kernel
theorem dX1_count_42 : decode cX1_count 42 = .ok (.iconst 2, 1) := by decide +kernel
theorem dX1_count_43 : decode cX1_count 43 = .ok (.if_icmp .ne 10, 3) := by decide +kernel
theorem dX1_count_46 : decode cX1_count 46 = .ok (.aload_n 0, 1) := by decide +kernel
theorem dX1_count_47 : decode cX1_count 47 = .ok (.getfield 80, 3) := by decide +kernel
theorem dX1_count_50 : decode cX1_count 50 = .ok (.goto 16, 3) := by decide +kernel
theorem dX1_count_53 : decode cX1_count 53 = .ok (.iload_n 1, 1) := by decide +kernel
theorem dX1_count_54 : decode cX1_count 54 = .ok (.iconst 3, 1) := by decide +kernel
theorem dX1_count_55 : decode cX1_count 55 = .ok (.if_icmp .ne 10, 3) := by decide +kernel
theorem dX1_count_58 : decode cX1_count 58 = .ok (.aload_n 0, 1) := by decide +kernel
theorem dX1_count_59 : decode cX1_count 59 = .ok (.getfield 123, 3) := by decide +kernel
theorem dX1_count_62 : decode cX1_count 62 = .ok (.goto 4, 3) := by decide +kernel
theorem dX1_count_65 : decode cX1_count 65 = .ok (.iconst 0, 1) := by decide +kernel
theorem dX1_count_66 : decode cX1_count 66 = .ok (.ireturn, 1) := by decide +kernel
theorem dX1_journal_0 : decode cX1_journal 0 = .ok (.aload_n 0, 1) := by decide +kernel
theorem dX1_journal_1 : decode cX1_journal 1 = .ok (.iload_n 1, 1) := by decide +kernel
theorem dX1_journal_2 : decode cX1_journal 2 = .ok (.ifCond .lt 11, 3) := by decide +kernel
theorem dX1_journal_5 : decode cX1_journal 5 = .ok (.iload_n 1, 1) := by decide +kernel
theorem dX1_journal_6 : decode cX1_journal 6 = .ok (.aload_n 0, 1) := by decide +kernel
theorem dX1_journal_7 : decode cX1_journal 7 = .ok (.getfield 80, 3) := by decide +kernel
theorem dX1_journal_10 : decode cX1_journal 10 = .ok (.if_icmp .lt 7, 3) := by decide +kernel
theorem dX1_journal_13 : decode cX1_journal 13 = .ok (.iconst 1, 1) := by decide +kernel
theorem dX1_journal_14 : decode cX1_journal 14 = .ok (.goto 4, 3) := by decide +kernel
theorem dX1_journal_17 : decode cX1_journal 17 = .ok (.iconst 0, 1) := by decide +kernel
theorem dX1_journal_18 : decode cX1_journal 18 = .ok (.putfield 45, 3) := by decide +kernel
theorem dX1_journal_21 : decode cX1_journal 21 = .ok (.aload_n 0, 1) := by decide +kernel
theorem dX1_journal_22 : decode cX1_journal 22 = .ok (.getfield 45, 3) := by decide +kernel
theorem dX1_journal_25 : decode cX1_journal 25 = .ok (.ifCond .le 7, 3) := by decide +kernel
theorem dX1_journal_28 : decode cX1_journal 28 = .ok (.iconst 0, 1) := by decide +kernel
theorem dX1_journal_29 : decode cX1_journal 29 = .ok (.goto 9, 3) := by decide +kernel
theorem dX1_journal_32 : decode cX1_journal 32 = .ok (.aload_n 0, 1) := by decide +kernel
theorem dX1_journal_33 : decode cX1_journal 33 = .ok (.getfield 39, 3) := by decide +kernel
theorem dX1_journal_36 : decode cX1_journal 36 = .ok (.iload_n 1, 1) := by decide +kernel
theorem dX1_journal_37 : decode cX1_journal 37 = .ok (.iaload, 1) := by decide +kernel
theorem dX1_journal_38 : decode cX1_journal 38 = .ok (.ireturn, 1) := by decide +kernel
theorem dX1_sync_0 : decode cX1_sync 0 = .ok (.aload_n 0, 1) := by decide +kernel
theorem dX1_sync_1 : decode cX1_sync 1 = .ok (.iconst 0, 1) := by decide +kernel
theorem dX1_sync_2 : decode cX1_sync 2 = .ok (.putfield 45, 3) := by decide +kernel
theorem dX1_sync_5 : decode cX1_sync 5 = .ok (.aload_n 0, 1) := by decide +kernel
theorem dX1_sync_6 : decode cX1_sync 6 = .ok (.aload_n 0, 1) := by decide +kernel
theorem dX1_sync_7 : decode cX1_sync 7 = .ok (.getfield 80, 3) := by decide +kernel
theorem dX1_sync_10 : decode cX1_sync 10 = .ok (.putfield 123, 3) := by decide +kernel
theorem dX1_sync_13 : decode cX1_sync 13 = .ok (.return_, 1) := by decide +kernel
theorem dX1_empties_0 : decode cX1_empties 0 = .ok (.aload_n 0, 1) := by decide +kernel
theorem dX1_empties_1 : decode cX1_empties 1 = .ok (.iconst 0, 1) := by decide +kernel
theorem dX1_empties_2 : decode cX1_empties 2 = .ok (.putfield 72, 3) := by decide +kernel
theorem dX1_empties_5 : decode cX1_empties 5 = .ok (.aload_n 0, 1) := by decide +kernel
theorem dX1_empties_6 : decode cX1_empties 6 = .ok (.iconst 0, 1) := by decide +kernel
theorem dX1_empties_7 : decode cX1_empties 7 = .ok (.putfield 75, 3) := by decide +kernel
theorem dX1_empties_10 : decode cX1_empties 10 = .ok (.iconst 0, 1) := by decide +kernel
theorem dX1_empties_11 : decode cX1_empties 11 = .ok (.istore_n 1, 1) := by decide +kernel
theorem dX1_empties_12 : decode cX1_empties 12 = .ok (.iload_n 1, 1) := by decide +kernel
theorem dX1_empties_13 : decode cX1_empties 13 = .ok (.bipush 8, 2) := by decide +kernel
theorem dX1_empties_15 : decode cX1_empties 15 = .ok (.if_icmp .ge 16, 3) := by decide +kernel
theorem dX1_empties_18 : decode cX1_empties 18 = .ok (.aload_n 0, 1) := by decide +kernel
theorem dX1_empties_19 : decode cX1_empties 19 = .ok (.getfield 26, 3) := by decide +kernel
theorem dX1_empties_22 : decode cX1_empties 22 = .ok (.iload_n 1, 1) := by decide +kernel
theorem dX1_empties_23 : decode cX1_empties 23 = .ok (.iconst 0, 1) := by decide +kernel
theorem dX1_empties_24 : decode cX1_empties 24 = .ok (.bastore, 1) := by decide +kernel
theorem dX1_empties_25 : decode cX1_empties 25 = .ok (.iinc 1 1, 3) := by decide +kernel
theorem dX1_empties_28 : decode cX1_empties 28 = .ok (.goto (-16), 3) := by decide +kernel
theorem dX1_empties_31 : decode cX1_empties 31 = .ok (.return_, 1) := by decide +kernel
theorem dX1_reads_0 : decode cX1_reads 0 = .ok (.iload_n 1, 1) := by decide +kernel
theorem dX1_reads_1 : decode cX1_reads 1 = .ok (.iconst 4, 1) := by decide +kernel
theorem dX1_reads_2 : decode cX1_reads 2 = .ok (.iadd, 1) := by decide +kernel
theorem dX1_reads_3 : decode cX1_reads 3 = .ok (.iload_n 2, 1) := by decide +kernel
theorem dX1_reads_4 : decode cX1_reads 4 = .ok (.if_icmp .gt 23, 3) := by decide +kernel
theorem dX1_reads_7 : decode cX1_reads 7 = .ok (.aload_n 0, 1) := by decide +kernel
theorem dX1_reads_8 : decode cX1_reads 8 = .ok (.getfield 39, 3) := by decide +kernel
theorem dX1_reads_11 : decode cX1_reads 11 = .ok (.iload_n 1, 1) := by decide +kernel
theorem dX1_reads_12 : decode cX1_reads 12 = .ok (.iaload, 1) := by decide +kernel
theorem dX1_reads_13 : decode cX1_reads 13 = .ok (.iconst 1, 1) := by decide +kernel
theorem dX1_reads_14 : decode cX1_reads 14 = .ok (.if_icmp .lt 13, 3) := by decide +kernel
theorem dX1_reads_17 : decode cX1_reads 17 = .ok (.aload_n 0, 1) := by decide +kernel
theorem dX1_reads_18 : decode cX1_reads 18 = .ok (.getfield 39, 3) := by decide +kernel
theorem dX1_reads_21 : decode cX1_reads 21 = .ok (.iload_n 1, 1) := by decide +kernel
theorem dX1_reads_22 : decode cX1_reads 22 = .ok (.iaload, 1) := by decide +kernel
theorem dX1_reads_23 : decode cX1_reads 23 = .ok (.iconst 4, 1) := by decide +kernel
theorem dX1_reads_24 : decode cX1_reads 24 = .ok (.if_icmp .le 5, 3) := by decide +kernel
theorem dX1_reads_27 : decode cX1_reads 27 = .ok (.iconst (-1), 1) := by decide +kernel
theorem dX1_reads_28 : decode cX1_reads 28 = .ok (.ireturn, 1) := by decide +kernel
theorem dX1_reads_29 : decode cX1_reads 29 = .ok (.aload_n 0, 1) := by decide +kernel
theorem dX1_reads_30 : decode cX1_reads 30 = .ok (.aload_n 0, 1) := by decide +kernel
theorem dX1_reads_31 : decode cX1_reads 31 = .ok (.getfield 39, 3) := by decide +kernel
theorem dX1_reads_34 : decode cX1_reads 34 = .ok (.iload_n 1, 1) := by decide +kernel
theorem dX1_reads_35 : decode cX1_reads 35 = .ok (.iconst 1, 1) := by decide +kernel
theorem dX1_reads_36 : decode cX1_reads 36 = .ok (.iadd, 1) := by decide +kernel
theorem dX1_reads_37 : decode cX1_reads 37 = .ok (.iaload, 1) := by decide +kernel
theorem dX1_reads_38 : decode cX1_reads 38 = .ok (.sipush 256, 3) := by decide +kernel
theorem dX1_reads_41 : decode cX1_reads 41 = .ok (.aload_n 0, 1) := by decide +kernel
theorem dX1_reads_42 : decode cX1_reads 42 = .ok (.getfield 39, 3) := by decide +kernel
theorem dX1_reads_45 : decode cX1_reads 45 = .ok (.iload_n 1, 1) := by decide +kernel
theorem dX1_reads_46 : decode cX1_reads 46 = .ok (.iconst 2, 1) := by decide +kernel
theorem dX1_reads_47 : decode cX1_reads 47 = .ok (.iadd, 1) := by decide +kernel
theorem dX1_reads_48 : decode cX1_reads 48 = .ok (.iaload, 1) := by decide +kernel
theorem dX1_reads_49 : decode cX1_reads 49 = .ok (.imul, 1) := by decide +kernel
theorem dX1_reads_50 : decode cX1_reads 50 = .ok (.iadd, 1) := by decide +kernel
theorem dX1_reads_51 : decode cX1_reads 51 = .ok (.putfield 65, 3) := by decide +kernel
theorem dX1_reads_54 : decode cX1_reads 54 = .ok (.iload_n 1, 1) := by decide +kernel
theorem dX1_reads_55 : decode cX1_reads 55 = .ok (.iconst 3, 1) := by decide +kernel
theorem dX1_reads_56 : decode cX1_reads 56 = .ok (.iadd, 1) := by decide +kernel
theorem dX1_reads_57 : decode cX1_reads 57 = .ok (.aload_n 0, 1) := by decide +kernel
theorem dX1_reads_58 : decode cX1_reads 58 = .ok (.getfield 65, 3) := by decide +kernel
theorem dX1_reads_61 : decode cX1_reads 61 = .ok (.iadd, 1) := by decide +kernel
theorem dX1_reads_62 : decode cX1_reads 62 = .ok (.istore_n 3, 1) := by decide +kernel
theorem dX1_reads_63 : decode cX1_reads 63 = .ok (.iload_n 3, 1) := by decide +kernel
theorem dX1_reads_64 : decode cX1_reads 64 = .ok (.iload_n 2, 1) := by decide +kernel
theorem dX1_reads_65 : decode cX1_reads 65 = .ok (.if_icmp .lt 5, 3) := by decide +kernel
theorem dX1_reads_68 : decode cX1_reads 68 = .ok (.iconst (-1), 1) := by decide +kernel
theorem dX1_reads_69 : decode cX1_reads 69 = .ok (.ireturn, 1) := by decide +kernel
theorem dX1_reads_70 : decode cX1_reads 70 = .ok (.iconst 0, 1) := by decide +kernel
theorem dX1_reads_71 : decode cX1_reads 71 = .ok (.istore 4, 2) := by decide +kernel
theorem dX1_reads_73 : decode cX1_reads 73 = .ok (.iload_n 1, 1) := by decide +kernel
theorem dX1_reads_74 : decode cX1_reads 74 = .ok (.istore 5, 2) := by decide +kernel
theorem dX1_reads_76 : decode cX1_reads 76 = .ok (.iload 5, 2) := by decide +kernel
theorem dX1_reads_78 : decode cX1_reads 78 = .ok (.iload_n 3, 1) := by decide +kernel
theorem dX1_reads_79 : decode cX1_reads 79 = .ok (.if_icmp .ge 21, 3) := by decide +kernel
theorem dX1_reads_82 : decode cX1_reads 82 = .ok (.iload 4, 2) := by decide +kernel
theorem dX1_reads_84 : decode cX1_reads 84 = .ok (.aload_n 0, 1) := by decide +kernel
theorem dX1_reads_85 : decode cX1_reads 85 = .ok (.getfield 39, 3) := by decide +kernel
theorem dX1_reads_88 : decode cX1_reads 88 = .ok (.iload 5, 2) := by decide +kernel
theorem dX1_reads_90 : decode cX1_reads 90 = .ok (.iaload, 1) := by decide +kernel
theorem dX1_reads_91 : decode cX1_reads 91 = .ok (.iadd, 1) := by decide +kernel
theorem dX1_reads_92 : decode cX1_reads 92 = .ok (.istore 4, 2) := by decide +kernel
theorem dX1_reads_94 : decode cX1_reads 94 = .ok (.iinc 5 1, 3) := by decide +kernel
theorem dX1_reads_97 : decode cX1_reads 97 = .ok (.goto (-21), 3) := by decide +kernel
theorem dX1_reads_100 : decode cX1_reads 100 = .ok (.iconst 0, 1) := by decide +kernel
theorem dX1_reads_101 : decode cX1_reads 101 = .ok (.istore 5, 2) := by decide +kernel
theorem dX1_reads_103 : decode cX1_reads 103 = .ok (.iload 5, 2) := by decide +kernel
theorem dX1_reads_105 : decode cX1_reads 105 = .ok (.aload_n 0, 1) := by decide +kernel
theorem dX1_reads_106 : decode cX1_reads 106 = .ok (.getfield 65, 3) := by decide +kernel
theorem dX1_reads_109 : decode cX1_reads 109 = .ok (.if_icmp .ge 27, 3) := by decide +kernel
theorem dX1_reads_112 : decode cX1_reads 112 = .ok (.aload_n 0, 1) := by decide +kernel
theorem dX1_reads_113 : decode cX1_reads 113 = .ok (.getfield 42, 3) := by decide +kernel
theorem dX1_reads_116 : decode cX1_reads 116 = .ok (.iload 5, 2) := by decide +kernel
theorem dX1_reads_118 : decode cX1_reads 118 = .ok (.aload_n 0, 1) := by decide +kernel
theorem dX1_reads_119 : decode cX1_reads 119 = .ok (.getfield 39, 3) := by decide +kernel
theorem dX1_reads_122 : decode cX1_reads 122 = .ok (.iload_n 1, 1) := by decide +kernel
theorem dX1_reads_123 : decode cX1_reads 123 = .ok (.iconst 3, 1) := by decide +kernel
theorem dX1_reads_124 : decode cX1_reads 124 = .ok (.iadd, 1) := by decide +kernel
theorem dX1_reads_125 : decode cX1_reads 125 = .ok (.iload 5, 2) := by decide +kernel
theorem dX1_reads_127 : decode cX1_reads 127 = .ok (.iadd, 1) := by decide +kernel
theorem dX1_reads_128 : decode cX1_reads 128 = .ok (.iaload, 1) := by decide +kernel
theorem dX1_reads_129 : decode cX1_reads 129 = .ok (.iastore, 1) := by decide +kernel
theorem dX1_reads_130 : decode cX1_reads 130 = .ok (.iinc 5 1, 3) := by decide +kernel
theorem dX1_reads_133 : decode cX1_reads 133 = .ok (.goto (-30), 3) := by decide +kernel
theorem dX1_reads_136 : decode cX1_reads 136 = .ok (.iload 4, 2) := by decide +kernel
theorem dX1_reads_138 : decode cX1_reads 138 = .ok (.sipush 255, 3) := by decide +kernel
theorem dX1_reads_141 : decode cX1_reads 141 = .ok (.iand, 1) := by decide +kernel
theorem dX1_reads_142 : decode cX1_reads 142 = .ok (.aload_n 0, 1) := by decide +kernel
theorem dX1_reads_143 : decode cX1_reads 143 = .ok (.getfield 39, 3) := by decide +kernel
theorem dX1_reads_146 : decode cX1_reads 146 = .ok (.iload_n 3, 1) := by decide +kernel
theorem dX1_reads_147 : decode cX1_reads 147 = .ok (.iaload, 1) := by decide +kernel
theorem dX1_reads_148 : decode cX1_reads 148 = .ok (.if_icmp .ne 9, 3) := by decide +kernel
theorem dX1_reads_151 : decode cX1_reads 151 = .ok (.iload_n 3, 1) := by decide +kernel
theorem dX1_reads_152 : decode cX1_reads 152 = .ok (.iconst 1, 1) := by decide +kernel
theorem dX1_reads_153 : decode cX1_reads 153 = .ok (.iadd, 1) := by decide +kernel
theorem dX1_reads_154 : decode cX1_reads 154 = .ok (.goto 4, 3) := by decide +kernel
theorem dX1_reads_157 : decode cX1_reads 157 = .ok (.iconst (-1), 1) := by decide +kernel
theorem dX1_reads_158 : decode cX1_reads 158 = .ok (.ireturn, 1) := by decide +kernel
theorem dX1_crash_0 : decode cX1_crash 0 = .ok (.aload_n 0, 1) := by decide +kernel
theorem dX1_crash_1 : decode cX1_crash 1 = .ok (.iload_n 1, 1) := by decide +kernel
theorem dX1_crash_2 : decode cX1_crash 2 = .ok (.ifCond .lt 16, 3) := by decide +kernel
theorem dX1_crash_5 : decode cX1_crash 5 = .ok (.iload_n 1, 1) := by decide +kernel
theorem dX1_crash_6 : decode cX1_crash 6 = .ok (.aload_n 0, 1) := by decide +kernel
theorem dX1_crash_7 : decode cX1_crash 7 = .ok (.getfield 80, 3) := by decide +kernel
theorem dX1_crash_10 : decode cX1_crash 10 = .ok (.aload_n 0, 1) := by decide +kernel
theorem dX1_crash_11 : decode cX1_crash 11 = .ok (.getfield 123, 3) := by decide +kernel
theorem dX1_crash_14 : decode cX1_crash 14 = .ok (.isub, 1) := by decide +kernel
theorem dX1_crash_15 : decode cX1_crash 15 = .ok (.if_icmp .le 7, 3) := by decide +kernel
theorem dX1_crash_18 : decode cX1_crash 18 = .ok (.iconst 1, 1) := by decide +kernel
theorem dX1_crash_19 : decode cX1_crash 19 = .ok (.goto 4, 3) := by decide +kernel
theorem dX1_crash_22 : decode cX1_crash 22 = .ok (.iconst 0, 1) := by decide +kernel
theorem dX1_crash_23 : decode cX1_crash 23 = .ok (.putfield 45, 3) := by decide +kernel
theorem dX1_crash_26 : decode cX1_crash 26 = .ok (.aload_n 0, 1) := by decide +kernel
theorem dX1_crash_27 : decode cX1_crash 27 = .ok (.getfield 45, 3) := by decide +kernel
theorem dX1_crash_30 : decode cX1_crash 30 = .ok (.ifCond .le 5, 3) := by decide +kernel
theorem dX1_crash_33 : decode cX1_crash 33 = .ok (.iconst 0, 1) := by decide +kernel
theorem dX1_crash_34 : decode cX1_crash 34 = .ok (.ireturn, 1) := by decide +kernel
theorem dX1_crash_35 : decode cX1_crash 35 = .ok (.aload_n 0, 1) := by decide +kernel
theorem dX1_crash_36 : decode cX1_crash 36 = .ok (.getfield 123, 3) := by decide +kernel
theorem dX1_crash_39 : decode cX1_crash 39 = .ok (.iload_n 1, 1) := by decide +kernel
theorem dX1_crash_40 : decode cX1_crash 40 = .ok (.iadd, 1) := by decide +kernel
theorem dX1_crash_41 : decode cX1_crash 41 = .ok (.istore_n 3, 1) := by decide +kernel
theorem dX1_crash_42 : decode cX1_crash 42 = .ok (.iload_n 2, 1) := by decide +kernel
theorem dX1_crash_43 : decode cX1_crash 43 = .ok (.ifCond .lt 34, 3) := by decide +kernel
theorem dX1_crash_46 : decode cX1_crash 46 = .ok (.iload_n 2, 1) := by decide +kernel
theorem dX1_crash_47 : decode cX1_crash 47 = .ok (.iload_n 1, 1) := by decide +kernel
theorem dX1_crash_48 : decode cX1_crash 48 = .ok (.if_icmp .ge 29, 3) := by decide +kernel
theorem dX1_crash_51 : decode cX1_crash 51 = .ok (.aload_n 0, 1) := by decide +kernel
theorem dX1_crash_52 : decode cX1_crash 52 = .ok (.getfield 39, 3) := by decide +kernel
theorem dX1_crash_55 : decode cX1_crash 55 = .ok (.aload_n 0, 1) := by decide +kernel
theorem dX1_crash_56 : decode cX1_crash 56 = .ok (.getfield 123, 3) := by decide +kernel
theorem dX1_crash_59 : decode cX1_crash 59 = .ok (.iload_n 2, 1) := by decide +kernel
theorem dX1_crash_60 : decode cX1_crash 60 = .ok (.iadd, 1) := by decide +kernel
theorem dX1_crash_61 : decode cX1_crash 61 = .ok (.sipush 255, 3) := by decide +kernel
theorem dX1_crash_64 : decode cX1_crash 64 = .ok (.aload_n 0, 1) := by decide +kernel
theorem dX1_crash_65 : decode cX1_crash 65 = .ok (.getfield 39, 3) := by decide +kernel
theorem dX1_crash_68 : decode cX1_crash 68 = .ok (.aload_n 0, 1) := by decide +kernel
theorem dX1_crash_69 : decode cX1_crash 69 = .ok (.getfield 123, 3) := by decide +kernel
theorem dX1_crash_72 : decode cX1_crash 72 = .ok (.iload_n 2, 1) := by decide +kernel
theorem dX1_crash_73 : decode cX1_crash 73 = .ok (.iadd, 1) := by decide +kernel
theorem dX1_crash_74 : decode cX1_crash 74 = .ok (.iaload, 1) := by decide +kernel
theorem dX1_crash_75 : decode cX1_crash 75 = .ok (.isub, 1) := by decide +kernel
theorem dX1_crash_76 : decode cX1_crash 76 = .ok (.iastore, 1) := by decide +kernel
theorem dX1_crash_77 : decode cX1_crash 77 = .ok (.aload_n 0, 1) := by decide +kernel
theorem dX1_crash_78 : decode cX1_crash 78 = .ok (.invokevirtual 126, 3) := by decide +kernel
theorem dX1_crash_81 : decode cX1_crash 81 = .ok (.iconst 0, 1) := by decide +kernel
theorem dX1_crash_82 : decode cX1_crash 82 = .ok (.istore 4, 2) := by decide +kernel
theorem dX1_crash_84 : decode cX1_crash 84 = .ok (.iload 4, 2) := by decide +kernel
theorem dX1_crash_86 : decode cX1_crash 86 = .ok (.iconst 4, 1) := by decide +kernel
theorem dX1_crash_87 : decode cX1_crash 87 = .ok (.if_icmp .ge 17, 3) := by decide +kernel
theorem dX1_crash_90 : decode cX1_crash 90 = .ok (.aload_n 0, 1) := by decide +kernel
theorem dX1_crash_91 : decode cX1_crash 91 = .ok (.getfield 36, 3) := by decide +kernel
theorem dX1_crash_94 : decode cX1_crash 94 = .ok (.iload 4, 2) := by decide +kernel
theorem dX1_crash_96 : decode cX1_crash 96 = .ok (.lconst 0, 1) := by decide +kernel
theorem dX1_crash_97 : decode cX1_crash 97 = .ok (.lastore, 1) := by decide +kernel
theorem dX1_crash_98 : decode cX1_crash 98 = .ok (.iinc 4 1, 3) := by decide +kernel
theorem dX1_crash_101 : decode cX1_crash 101 = .ok (.goto (-17), 3) := by decide +kernel
theorem dX1_crash_104 : decode cX1_crash 104 = .ok (.iconst 0, 1) := by decide +kernel
theorem dX1_crash_105 : decode cX1_crash 105 = .ok (.istore 4, 2) := by decide +kernel
theorem dX1_crash_107 : decode cX1_crash 107 = .ok (.aload_n 0, 1) := by decide +kernel
theorem dX1_crash_108 : decode cX1_crash 108 = .ok (.iconst 0, 1) := by decide +kernel
theorem dX1_crash_109 : decode cX1_crash 109 = .ok (.iload_n 3, 1) := by decide +kernel
theorem dX1_crash_110 : decode cX1_crash 110 = .ok (.invokevirtual 129, 3) := by decide +kernel
theorem dX1_crash_113 : decode cX1_crash 113 = .ok (.istore 5, 2) := by decide +kernel
theorem dX1_crash_115 : decode cX1_crash 115 = .ok (.iload 5, 2) := by decide +kernel
theorem dX1_crash_117 : decode cX1_crash 117 = .ok (.iconst (-1), 1) := by decide +kernel
theorem dX1_crash_118 : decode cX1_crash 118 = .ok (.if_icmp .eq 33, 3) := by decide +kernel
theorem dX1_crash_121 : decode cX1_crash 121 = .ok (.aload_n 0, 1) := by decide +kernel
theorem dX1_crash_122 : decode cX1_crash 122 = .ok (.aload_n 0, 1) := by decide +kernel
theorem dX1_crash_123 : decode cX1_crash 123 = .ok (.getfield 39, 3) := by decide +kernel
theorem dX1_crash_126 : decode cX1_crash 126 = .ok (.iload 4, 2) := by decide +kernel
theorem dX1_crash_128 : decode cX1_crash 128 = .ok (.iaload, 1) := by decide +kernel
theorem dX1_crash_129 : decode cX1_crash 129 = .ok (.invokevirtual 116, 3) := by decide +kernel
theorem dX1_crash_132 : decode cX1_crash 132 = .ok (.ifCond .eq 19, 3) := by decide +kernel
theorem dX1_crash_135 : decode cX1_crash 135 = .ok (.iload 5, 2) := by decide +kernel
theorem dX1_crash_137 : decode cX1_crash 137 = .ok (.istore 4, 2) := by decide +kernel
theorem dX1_crash_139 : decode cX1_crash 139 = .ok (.aload_n 0, 1) := by decide +kernel
theorem dX1_crash_140 : decode cX1_crash 140 = .ok (.iload 4, 2) := by decide +kernel
theorem dX1_crash_142 : decode cX1_crash 142 = .ok (.iload_n 3, 1) := by decide +kernel
theorem dX1_crash_143 : decode cX1_crash 143 = .ok (.invokevirtual 129, 3) := by decide +kernel
theorem dX1_crash_146 : decode cX1_crash 146 = .ok (.istore 5, 2) := by decide +kernel
theorem dX1_crash_148 : decode cX1_crash 148 = .ok (.goto (-33), 3) := by decide +kernel
theorem dX1_crash_151 : decode cX1_crash 151 = .ok (.aload_n 0, 1) := by decide +kernel
theorem dX1_crash_152 : decode cX1_crash 152 = .ok (.iload 4, 2) := by decide +kernel
theorem dX1_crash_154 : decode cX1_crash 154 = .ok (.putfield 80, 3) := by decide +kernel
theorem dX1_crash_157 : decode cX1_crash 157 = .ok (.aload_n 0, 1) := by decide +kernel
theorem dX1_crash_158 : decode cX1_crash 158 = .ok (.iload 4, 2) := by decide +kernel
theorem dX1_crash_160 : decode cX1_crash 160 = .ok (.putfield 123, 3) := by decide +kernel
theorem dX1_crash_163 : decode cX1_crash 163 = .ok (.iload 4, 2) := by decide +kernel
theorem dX1_crash_165 : decode cX1_crash 165 = .ok (.ireturn, 1) := by decide +kernel
theorem dX1_isTold_0 : decode cX1_isTold 0 = .ok (.iconst 0, 1) := by decide +kernel
theorem dX1_isTold_1 : decode cX1_isTold 1 = .ok (.istore_n 3, 1) := by decide +kernel
theorem dX1_isTold_2 : decode cX1_isTold 2 = .ok (.iconst 0, 1) := by decide +kernel
theorem dX1_isTold_3 : decode cX1_isTold 3 = .ok (.istore 4, 2) := by decide +kernel
theorem dX1_isTold_5 : decode cX1_isTold 5 = .ok (.iload 4, 2) := by decide +kernel
theorem dX1_isTold_7 : decode cX1_isTold 7 = .ok (.bipush 8, 2) := by decide +kernel
theorem dX1_isTold_9 : decode cX1_isTold 9 = .ok (.if_icmp .ge 41, 3) := by decide +kernel
theorem dX1_isTold_12 : decode cX1_isTold 12 = .ok (.iload_n 3, 1) := by decide +kernel
theorem dX1_isTold_13 : decode cX1_isTold 13 = .ok (.ifCond .ne 25, 3) := by decide +kernel
theorem dX1_isTold_16 : decode cX1_isTold 16 = .ok (.aload_n 0, 1) := by decide +kernel
theorem dX1_isTold_17 : decode cX1_isTold 17 = .ok (.getfield 26, 3) := by decide +kernel
theorem dX1_isTold_20 : decode cX1_isTold 20 = .ok (.iload 4, 2) := by decide +kernel
theorem dX1_isTold_22 : decode cX1_isTold 22 = .ok (.baload, 1) := by decide +kernel
theorem dX1_isTold_23 : decode cX1_isTold 23 = .ok (.ifCond .eq 19, 3) := by decide +kernel
theorem dX1_isTold_26 : decode cX1_isTold 26 = .ok (.aload_n 0, 1) := by decide +kernel
theorem dX1_isTold_27 : decode cX1_isTold 27 = .ok (.getfield 23, 3) := by decide +kernel
theorem dX1_isTold_30 : decode cX1_isTold 30 = .ok (.iload 4, 2) := by decide +kernel
theorem dX1_isTold_32 : decode cX1_isTold 32 = .ok (.laload, 1) := by decide +kernel
theorem dX1_isTold_33 : decode cX1_isTold 33 = .ok (.lload_n 1, 1) := by decide +kernel
theorem dX1_isTold_34 : decode cX1_isTold 34 = .ok (.lcmp, 1) := by decide +kernel
theorem dX1_isTold_35 : decode cX1_isTold 35 = .ok (.ifCond .ne 7, 3) := by decide +kernel
theorem dX1_isTold_38 : decode cX1_isTold 38 = .ok (.iconst 1, 1) := by decide +kernel
theorem dX1_isTold_39 : decode cX1_isTold 39 = .ok (.goto 4, 3) := by decide +kernel
theorem dX1_isTold_42 : decode cX1_isTold 42 = .ok (.iconst 0, 1) := by decide +kernel
theorem dX1_isTold_43 : decode cX1_isTold 43 = .ok (.istore_n 3, 1) := by decide +kernel
theorem dX1_isTold_44 : decode cX1_isTold 44 = .ok (.iinc 4 1, 3) := by decide +kernel
theorem dX1_isTold_47 : decode cX1_isTold 47 = .ok (.goto (-42), 3) := by decide +kernel
theorem dX1_isTold_50 : decode cX1_isTold 50 = .ok (.iconst 0, 1) := by decide +kernel
theorem dX1_isTold_51 : decode cX1_isTold 51 = .ok (.istore 4, 2) := by decide +kernel
theorem dX1_isTold_53 : decode cX1_isTold 53 = .ok (.iload 4, 2) := by decide +kernel
theorem dX1_isTold_55 : decode cX1_isTold 55 = .ok (.iconst 4, 1) := by decide +kernel
theorem dX1_isTold_56 : decode cX1_isTold 56 = .ok (.if_icmp .ge 43, 3) := by decide +kernel
theorem dX1_isTold_59 : decode cX1_isTold 59 = .ok (.iload_n 3, 1) := by decide +kernel
theorem dX1_isTold_60 : decode cX1_isTold 60 = .ok (.ifCond .ne 27, 3) := by decide +kernel
theorem dX1_isTold_63 : decode cX1_isTold 63 = .ok (.aload_n 0, 1) := by decide +kernel
theorem dX1_isTold_64 : decode cX1_isTold 64 = .ok (.getfield 36, 3) := by decide +kernel
theorem dX1_isTold_67 : decode cX1_isTold 67 = .ok (.iload 4, 2) := by decide +kernel
theorem dX1_isTold_69 : decode cX1_isTold 69 = .ok (.laload, 1) := by decide +kernel
theorem dX1_isTold_70 : decode cX1_isTold 70 = .ok (.lconst 0, 1) := by decide +kernel
theorem dX1_isTold_71 : decode cX1_isTold 71 = .ok (.lcmp, 1) := by decide +kernel
theorem dX1_isTold_72 : decode cX1_isTold 72 = .ok (.ifCond .eq 19, 3) := by decide +kernel
theorem dX1_isTold_75 : decode cX1_isTold 75 = .ok (.aload_n 0, 1) := by decide +kernel
theorem dX1_isTold_76 : decode cX1_isTold 76 = .ok (.getfield 36, 3) := by decide +kernel
theorem dX1_isTold_79 : decode cX1_isTold 79 = .ok (.iload 4, 2) := by decide +kernel
theorem dX1_isTold_81 : decode cX1_isTold 81 = .ok (.laload, 1) := by decide +kernel
theorem dX1_isTold_82 : decode cX1_isTold 82 = .ok (.lload_n 1, 1) := by decide +kernel
theorem dX1_isTold_83 : decode cX1_isTold 83 = .ok (.lcmp, 1) := by decide +kernel
theorem dX1_isTold_84 : decode cX1_isTold 84 = .ok (.ifCond .ne 7, 3) := by decide +kernel
theorem dX1_isTold_87 : decode cX1_isTold 87 = .ok (.iconst 1, 1) := by decide +kernel
theorem dX1_isTold_88 : decode cX1_isTold 88 = .ok (.goto 4, 3) := by decide +kernel
theorem dX1_isTold_91 : decode cX1_isTold 91 = .ok (.iconst 0, 1) := by decide +kernel
theorem dX1_isTold_92 : decode cX1_isTold 92 = .ok (.istore_n 3, 1) := by decide +kernel
theorem dX1_isTold_93 : decode cX1_isTold 93 = .ok (.iinc 4 1, 3) := by decide +kernel
theorem dX1_isTold_96 : decode cX1_isTold 96 = .ok (.goto (-43), 3) := by decide +kernel
theorem dX1_isTold_99 : decode cX1_isTold 99 = .ok (.iload_n 3, 1) := by decide +kernel
theorem dX1_isTold_100 : decode cX1_isTold 100 = .ok (.ireturn, 1) := by decide +kernel
theorem dX1_collect_0 : decode cX1_collect 0 = .ok (.aload_n 0, 1) := by decide +kernel
theorem dX1_collect_1 : decode cX1_collect 1 = .ok (.iconst 0, 1) := by decide +kernel
theorem dX1_collect_2 : decode cX1_collect 2 = .ok (.putfield 45, 3) := by decide +kernel
theorem dX1_collect_5 : decode cX1_collect 5 = .ok (.aload_n 0, 1) := by decide +kernel
theorem dX1_collect_6 : decode cX1_collect 6 = .ok (.iconst 0, 1) := by decide +kernel
theorem dX1_collect_7 : decode cX1_collect 7 = .ok (.putfield 80, 3) := by decide +kernel
theorem dX1_collect_10 : decode cX1_collect 10 = .ok (.iconst 0, 1) := by decide +kernel
theorem dX1_collect_11 : decode cX1_collect 11 = .ok (.istore_n 1, 1) := by decide +kernel
theorem dX1_collect_12 : decode cX1_collect 12 = .ok (.iconst 0, 1) := by decide +kernel
theorem dX1_collect_13 : decode cX1_collect 13 = .ok (.istore_n 2, 1) := by decide +kernel
theorem dX1_collect_14 : decode cX1_collect 14 = .ok (.iload_n 2, 1) := by decide +kernel
theorem dX1_collect_15 : decode cX1_collect 15 = .ok (.aload_n 0, 1) := by decide +kernel
theorem dX1_collect_16 : decode cX1_collect 16 = .ok (.getfield 72, 3) := by decide +kernel
theorem dX1_collect_19 : decode cX1_collect 19 = .ok (.if_icmp .ge 113, 3) := by decide +kernel
theorem dX1_collect_22 : decode cX1_collect 22 = .ok (.aload_n 0, 1) := by decide +kernel
theorem dX1_collect_23 : decode cX1_collect 23 = .ok (.aload_n 0, 1) := by decide +kernel
theorem dX1_collect_24 : decode cX1_collect 24 = .ok (.getfield 13, 3) := by decide +kernel
theorem dX1_collect_27 : decode cX1_collect 27 = .ok (.iload_n 2, 1) := by decide +kernel
theorem dX1_collect_28 : decode cX1_collect 28 = .ok (.laload, 1) := by decide +kernel
theorem dX1_collect_29 : decode cX1_collect 29 = .ok (.invokevirtual 133, 3) := by decide +kernel
theorem dX1_collect_32 : decode cX1_collect 32 = .ok (.ifCond .eq 94, 3) := by decide +kernel
theorem dX1_collect_35 : decode cX1_collect 35 = .ok (.aload_n 0, 1) := by decide +kernel
theorem dX1_collect_36 : decode cX1_collect 36 = .ok (.iconst 0, 1) := by decide +kernel
theorem dX1_collect_37 : decode cX1_collect 37 = .ok (.putfield 65, 3) := by decide +kernel
theorem dX1_collect_40 : decode cX1_collect 40 = .ok (.iconst 0, 1) := by decide +kernel
theorem dX1_collect_41 : decode cX1_collect 41 = .ok (.istore_n 3, 1) := by decide +kernel
theorem dX1_collect_42 : decode cX1_collect 42 = .ok (.iload_n 3, 1) := by decide +kernel
theorem dX1_collect_43 : decode cX1_collect 43 = .ok (.aload_n 0, 1) := by decide +kernel
theorem dX1_collect_44 : decode cX1_collect 44 = .ok (.getfield 17, 3) := by decide +kernel
theorem dX1_collect_47 : decode cX1_collect 47 = .ok (.iload_n 2, 1) := by decide +kernel
theorem dX1_collect_48 : decode cX1_collect 48 = .ok (.iaload, 1) := by decide +kernel
theorem dX1_collect_49 : decode cX1_collect 49 = .ok (.if_icmp .ge 45, 3) := by decide +kernel
theorem dX1_collect_52 : decode cX1_collect 52 = .ok (.aload_n 0, 1) := by decide +kernel
theorem dX1_collect_53 : decode cX1_collect 53 = .ok (.aload_n 0, 1) := by decide +kernel
theorem dX1_collect_54 : decode cX1_collect 54 = .ok (.getfield 20, 3) := by decide +kernel
theorem dX1_collect_57 : decode cX1_collect 57 = .ok (.sipush 700, 3) := by decide +kernel
theorem dX1_collect_60 : decode cX1_collect 60 = .ok (.iload_n 2, 1) := by decide +kernel
theorem dX1_collect_61 : decode cX1_collect 61 = .ok (.imul, 1) := by decide +kernel
theorem dX1_collect_62 : decode cX1_collect 62 = .ok (.iload_n 3, 1) := by decide +kernel
theorem dX1_collect_63 : decode cX1_collect 63 = .ok (.iadd, 1) := by decide +kernel
theorem dX1_collect_64 : decode cX1_collect 64 = .ok (.iaload, 1) := by decide +kernel
theorem dX1_collect_65 : decode cX1_collect 65 = .ok (.i2l, 1) := by decide +kernel
theorem dX1_collect_66 : decode cX1_collect 66 = .ok (.iconst 1, 1) := by decide +kernel
theorem dX1_collect_67 : decode cX1_collect 67 = .ok (.invokevirtual 105, 3) := by decide +kernel
theorem dX1_collect_70 : decode cX1_collect 70 = .ok (.aload_n 0, 1) := by decide +kernel
theorem dX1_collect_71 : decode cX1_collect 71 = .ok (.getfield 20, 3) := by decide +kernel
theorem dX1_collect_74 : decode cX1_collect 74 = .ok (.sipush 700, 3) := by decide +kernel
theorem dX1_collect_77 : decode cX1_collect 77 = .ok (.iload_n 1, 1) := by decide +kernel
theorem dX1_collect_78 : decode cX1_collect 78 = .ok (.imul, 1) := by decide +kernel
theorem dX1_collect_79 : decode cX1_collect 79 = .ok (.iload_n 3, 1) := by decide +kernel
theorem dX1_collect_80 : decode cX1_collect 80 = .ok (.iadd, 1) := by decide +kernel
theorem dX1_collect_81 : decode cX1_collect 81 = .ok (.aload_n 0, 1) := by decide +kernel
theorem dX1_collect_82 : decode cX1_collect 82 = .ok (.getfield 42, 3) := by decide +kernel
theorem dX1_collect_85 : decode cX1_collect 85 = .ok (.iload_n 3, 1) := by decide +kernel
theorem dX1_collect_86 : decode cX1_collect 86 = .ok (.iaload, 1) := by decide +kernel
theorem dX1_collect_87 : decode cX1_collect 87 = .ok (.iastore, 1) := by decide +kernel
theorem dX1_collect_88 : decode cX1_collect 88 = .ok (.iinc 3 1, 3) := by decide +kernel
theorem dX1_collect_91 : decode cX1_collect 91 = .ok (.goto (-49), 3) := by decide +kernel
theorem dX1_collect_94 : decode cX1_collect 94 = .ok (.aload_n 0, 1) := by decide +kernel
theorem dX1_collect_95 : decode cX1_collect 95 = .ok (.getfield 13, 3) := by decide +kernel
theorem dX1_collect_98 : decode cX1_collect 98 = .ok (.iload_n 1, 1) := by decide +kernel
theorem dX1_collect_99 : decode cX1_collect 99 = .ok (.aload_n 0, 1) := by decide +kernel
theorem dX1_collect_100 : decode cX1_collect 100 = .ok (.getfield 13, 3) := by decide +kernel
theorem dX1_collect_103 : decode cX1_collect 103 = .ok (.iload_n 2, 1) := by decide +kernel
theorem dX1_collect_104 : decode cX1_collect 104 = .ok (.laload, 1) := by decide +kernel
theorem dX1_collect_105 : decode cX1_collect 105 = .ok (.lastore, 1) := by decide +kernel
theorem dX1_collect_106 : decode cX1_collect 106 = .ok (.aload_n 0, 1) := by decide +kernel
theorem dX1_collect_107 : decode cX1_collect 107 = .ok (.getfield 17, 3) := by decide +kernel
theorem dX1_collect_110 : decode cX1_collect 110 = .ok (.iload_n 1, 1) := by decide +kernel
theorem dX1_collect_111 : decode cX1_collect 111 = .ok (.aload_n 0, 1) := by decide +kernel
theorem dX1_collect_112 : decode cX1_collect 112 = .ok (.getfield 17, 3) := by decide +kernel
theorem dX1_collect_115 : decode cX1_collect 115 = .ok (.iload_n 2, 1) := by decide +kernel
theorem dX1_collect_116 : decode cX1_collect 116 = .ok (.iaload, 1) := by decide +kernel
theorem dX1_collect_117 : decode cX1_collect 117 = .ok (.iastore, 1) := by decide +kernel
theorem dX1_collect_118 : decode cX1_collect 118 = .ok (.iinc 1 1, 3) := by decide +kernel
theorem dX1_collect_121 : decode cX1_collect 121 = .ok (.aload_n 0, 1) := by decide +kernel
theorem dX1_collect_122 : decode cX1_collect 122 = .ok (.iconst 1, 1) := by decide +kernel
theorem dX1_collect_123 : decode cX1_collect 123 = .ok (.invokevirtual 112, 3) := by decide +kernel
theorem dX1_collect_126 : decode cX1_collect 126 = .ok (.iinc 2 1, 3) := by decide +kernel
theorem dX1_collect_129 : decode cX1_collect 129 = .ok (.goto (-115), 3) := by decide +kernel
theorem dX1_collect_132 : decode cX1_collect 132 = .ok (.aload_n 0, 1) := by decide +kernel
theorem dX1_collect_133 : decode cX1_collect 133 = .ok (.getfield 72, 3) := by decide +kernel
theorem dX1_collect_136 : decode cX1_collect 136 = .ok (.iload_n 1, 1) := by decide +kernel
theorem dX1_collect_137 : decode cX1_collect 137 = .ok (.isub, 1) := by decide +kernel
theorem dX1_collect_138 : decode cX1_collect 138 = .ok (.istore_n 2, 1) := by decide +kernel
theorem dX1_collect_139 : decode cX1_collect 139 = .ok (.aload_n 0, 1) := by decide +kernel
theorem dX1_collect_140 : decode cX1_collect 140 = .ok (.iload_n 1, 1) := by decide +kernel
theorem dX1_collect_141 : decode cX1_collect 141 = .ok (.putfield 72, 3) := by decide +kernel
theorem dX1_collect_144 : decode cX1_collect 144 = .ok (.iconst 0, 1) := by decide +kernel
theorem dX1_collect_145 : decode cX1_collect 145 = .ok (.istore_n 3, 1) := by decide +kernel
theorem dX1_collect_146 : decode cX1_collect 146 = .ok (.iload_n 3, 1) := by decide +kernel
theorem dX1_collect_147 : decode cX1_collect 147 = .ok (.bipush 8, 2) := by decide +kernel
theorem dX1_collect_149 : decode cX1_collect 149 = .ok (.if_icmp .ge 47, 3) := by decide +kernel
theorem dX1_collect_152 : decode cX1_collect 152 = .ok (.aload_n 0, 1) := by decide +kernel
theorem dX1_collect_153 : decode cX1_collect 153 = .ok (.getfield 26, 3) := by decide +kernel
theorem dX1_collect_156 : decode cX1_collect 156 = .ok (.iload_n 3, 1) := by decide +kernel
theorem dX1_collect_157 : decode cX1_collect 157 = .ok (.baload, 1) := by decide +kernel
theorem dX1_collect_158 : decode cX1_collect 158 = .ok (.ifCond .eq 32, 3) := by decide +kernel
theorem dX1_collect_161 : decode cX1_collect 161 = .ok (.aload_n 0, 1) := by decide +kernel
theorem dX1_collect_162 : decode cX1_collect 162 = .ok (.iconst 0, 1) := by decide +kernel
theorem dX1_collect_163 : decode cX1_collect 163 = .ok (.putfield 65, 3) := by decide +kernel
theorem dX1_collect_166 : decode cX1_collect 166 = .ok (.aload_n 0, 1) := by decide +kernel
theorem dX1_collect_167 : decode cX1_collect 167 = .ok (.iload_n 3, 1) := by decide +kernel
theorem dX1_collect_168 : decode cX1_collect 168 = .ok (.i2l, 1) := by decide +kernel
theorem dX1_collect_169 : decode cX1_collect 169 = .ok (.iconst 1, 1) := by decide +kernel
theorem dX1_collect_170 : decode cX1_collect 170 = .ok (.invokevirtual 105, 3) := by decide +kernel
theorem dX1_collect_173 : decode cX1_collect 173 = .ok (.aload_n 0, 1) := by decide +kernel
theorem dX1_collect_174 : decode cX1_collect 174 = .ok (.aload_n 0, 1) := by decide +kernel
theorem dX1_collect_175 : decode cX1_collect 175 = .ok (.getfield 23, 3) := by decide +kernel
theorem dX1_collect_178 : decode cX1_collect 178 = .ok (.iload_n 3, 1) := by decide +kernel
theorem dX1_collect_179 : decode cX1_collect 179 = .ok (.laload, 1) := by decide +kernel
theorem dX1_collect_180 : decode cX1_collect 180 = .ok (.bipush 8, 2) := by decide +kernel
theorem dX1_collect_182 : decode cX1_collect 182 = .ok (.invokevirtual 105, 3) := by decide +kernel
theorem dX1_collect_185 : decode cX1_collect 185 = .ok (.aload_n 0, 1) := by decide +kernel
theorem dX1_collect_186 : decode cX1_collect 186 = .ok (.iconst 2, 1) := by decide +kernel
theorem dX1_collect_187 : decode cX1_collect 187 = .ok (.invokevirtual 112, 3) := by decide +kernel
theorem dX1_collect_190 : decode cX1_collect 190 = .ok (.iinc 3 1, 3) := by decide +kernel
theorem dX1_collect_193 : decode cX1_collect 193 = .ok (.goto (-47), 3) := by decide +kernel
theorem dX1_collect_196 : decode cX1_collect 196 = .ok (.iconst 0, 1) := by decide +kernel
theorem dX1_collect_197 : decode cX1_collect 197 = .ok (.istore_n 1, 1) := by decide +kernel
theorem dX1_collect_198 : decode cX1_collect 198 = .ok (.iconst 0, 1) := by decide +kernel
theorem dX1_collect_199 : decode cX1_collect 199 = .ok (.istore_n 3, 1) := by decide +kernel
theorem dX1_collect_200 : decode cX1_collect 200 = .ok (.iload_n 3, 1) := by decide +kernel
theorem dX1_collect_201 : decode cX1_collect 201 = .ok (.aload_n 0, 1) := by decide +kernel
theorem dX1_collect_202 : decode cX1_collect 202 = .ok (.getfield 75, 3) := by decide +kernel
theorem dX1_collect_205 : decode cX1_collect 205 = .ok (.if_icmp .ge 84, 3) := by decide +kernel
theorem dX1_collect_208 : decode cX1_collect 208 = .ok (.aload_n 0, 1) := by decide +kernel
theorem dX1_collect_209 : decode cX1_collect 209 = .ok (.aload_n 0, 1) := by decide +kernel
theorem dX1_collect_210 : decode cX1_collect 210 = .ok (.getfield 33, 3) := by decide +kernel
theorem dX1_collect_213 : decode cX1_collect 213 = .ok (.iload_n 3, 1) := by decide +kernel
theorem dX1_collect_214 : decode cX1_collect 214 = .ok (.laload, 1) := by decide +kernel
theorem dX1_collect_215 : decode cX1_collect 215 = .ok (.invokevirtual 91, 3) := by decide +kernel
theorem dX1_collect_218 : decode cX1_collect 218 = .ok (.iconst (-1), 1) := by decide +kernel
theorem dX1_collect_219 : decode cX1_collect 219 = .ok (.if_icmp .eq 64, 3) := by decide +kernel
theorem dX1_collect_222 : decode cX1_collect 222 = .ok (.aload_n 0, 1) := by decide +kernel
theorem dX1_collect_223 : decode cX1_collect 223 = .ok (.iconst 0, 1) := by decide +kernel
theorem dX1_collect_224 : decode cX1_collect 224 = .ok (.putfield 65, 3) := by decide +kernel
theorem dX1_collect_227 : decode cX1_collect 227 = .ok (.aload_n 0, 1) := by decide +kernel
theorem dX1_collect_228 : decode cX1_collect 228 = .ok (.aload_n 0, 1) := by decide +kernel
theorem dX1_collect_229 : decode cX1_collect 229 = .ok (.getfield 30, 3) := by decide +kernel
theorem dX1_collect_232 : decode cX1_collect 232 = .ok (.iload_n 3, 1) := by decide +kernel
theorem dX1_collect_233 : decode cX1_collect 233 = .ok (.laload, 1) := by decide +kernel
theorem dX1_collect_234 : decode cX1_collect 234 = .ok (.bipush 8, 2) := by decide +kernel
theorem dX1_collect_236 : decode cX1_collect 236 = .ok (.invokevirtual 105, 3) := by decide +kernel
theorem dX1_collect_239 : decode cX1_collect 239 = .ok (.aload_n 0, 1) := by decide +kernel
theorem dX1_collect_240 : decode cX1_collect 240 = .ok (.aload_n 0, 1) := by decide +kernel
theorem dX1_collect_241 : decode cX1_collect 241 = .ok (.getfield 33, 3) := by decide +kernel
theorem dX1_collect_244 : decode cX1_collect 244 = .ok (.iload_n 3, 1) := by decide +kernel
theorem dX1_collect_245 : decode cX1_collect 245 = .ok (.laload, 1) := by decide +kernel
theorem dX1_collect_246 : decode cX1_collect 246 = .ok (.bipush 8, 2) := by decide +kernel
theorem dX1_collect_248 : decode cX1_collect 248 = .ok (.invokevirtual 105, 3) := by decide +kernel
theorem dX1_collect_251 : decode cX1_collect 251 = .ok (.aload_n 0, 1) := by decide +kernel
theorem dX1_collect_252 : decode cX1_collect 252 = .ok (.getfield 30, 3) := by decide +kernel
theorem dX1_collect_255 : decode cX1_collect 255 = .ok (.iload_n 1, 1) := by decide +kernel
theorem dX1_collect_256 : decode cX1_collect 256 = .ok (.aload_n 0, 1) := by decide +kernel
theorem dX1_collect_257 : decode cX1_collect 257 = .ok (.getfield 30, 3) := by decide +kernel
theorem dX1_collect_260 : decode cX1_collect 260 = .ok (.iload_n 3, 1) := by decide +kernel
theorem dX1_collect_261 : decode cX1_collect 261 = .ok (.laload, 1) := by decide +kernel
theorem dX1_collect_262 : decode cX1_collect 262 = .ok (.lastore, 1) := by decide +kernel
theorem dX1_collect_263 : decode cX1_collect 263 = .ok (.aload_n 0, 1) := by decide +kernel
theorem dX1_collect_264 : decode cX1_collect 264 = .ok (.getfield 33, 3) := by decide +kernel
theorem dX1_collect_267 : decode cX1_collect 267 = .ok (.iload_n 1, 1) := by decide +kernel
theorem dX1_collect_268 : decode cX1_collect 268 = .ok (.aload_n 0, 1) := by decide +kernel
theorem dX1_collect_269 : decode cX1_collect 269 = .ok (.getfield 33, 3) := by decide +kernel
theorem dX1_collect_272 : decode cX1_collect 272 = .ok (.iload_n 3, 1) := by decide +kernel
theorem dX1_collect_273 : decode cX1_collect 273 = .ok (.laload, 1) := by decide +kernel
theorem dX1_collect_274 : decode cX1_collect 274 = .ok (.lastore, 1) := by decide +kernel
theorem dX1_collect_275 : decode cX1_collect 275 = .ok (.iinc 1 1, 3) := by decide +kernel
theorem dX1_collect_278 : decode cX1_collect 278 = .ok (.aload_n 0, 1) := by decide +kernel
theorem dX1_collect_279 : decode cX1_collect 279 = .ok (.iconst 4, 1) := by decide +kernel
theorem dX1_collect_280 : decode cX1_collect 280 = .ok (.invokevirtual 112, 3) := by decide +kernel
theorem dX1_collect_283 : decode cX1_collect 283 = .ok (.iinc 3 1, 3) := by decide +kernel
theorem dX1_collect_286 : decode cX1_collect 286 = .ok (.goto (-86), 3) := by decide +kernel
theorem dX1_collect_289 : decode cX1_collect 289 = .ok (.aload_n 0, 1) := by decide +kernel
theorem dX1_collect_290 : decode cX1_collect 290 = .ok (.iload_n 1, 1) := by decide +kernel
theorem dX1_collect_291 : decode cX1_collect 291 = .ok (.putfield 75, 3) := by decide +kernel
theorem dX1_collect_294 : decode cX1_collect 294 = .ok (.aload_n 0, 1) := by decide +kernel
theorem dX1_collect_295 : decode cX1_collect 295 = .ok (.aload_n 0, 1) := by decide +kernel
theorem dX1_collect_296 : decode cX1_collect 296 = .ok (.getfield 80, 3) := by decide +kernel
theorem dX1_collect_299 : decode cX1_collect 299 = .ok (.putfield 123, 3) := by decide +kernel
theorem dX1_collect_302 : decode cX1_collect 302 = .ok (.iload_n 2, 1) := by decide +kernel
theorem dX1_collect_303 : decode cX1_collect 303 = .ok (.ireturn, 1) := by decide +kernel
