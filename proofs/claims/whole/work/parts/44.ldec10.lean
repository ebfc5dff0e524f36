theorem dL_law_988 : decode code 988 = .ok (.aload_n 1, 1) := by decide +kernel
theorem dL_law_989 : decode code 989 = .ok (.invokevirtual 129, 3) := by decide +kernel
theorem dL_law_992 : decode code 992 = .ok (.aload_n 2, 1) := by decide +kernel
theorem dL_law_993 : decode code 993 = .ok (.invokevirtual 132, 3) := by decide +kernel
theorem dL_law_996 : decode code 996 = .ok (.goto 84, 3) := by decide +kernel
theorem dL_law_999 : decode code 999 = .ok (.aload_n 1, 1) := by decide +kernel
theorem dL_law_1000 : decode code 1000 = .ok (.aload_n 0, 1) := by decide +kernel
theorem dL_law_1001 : decode code 1001 = .ok (.iload 4, 2) := by decide +kernel
theorem dL_law_1003 : decode code 1003 = .ok (.iconst 1, 1) := by decide +kernel
theorem dL_law_1004 : decode code 1004 = .ok (.iadd, 1) := by decide +kernel
theorem dL_law_1005 : decode code 1005 = .ok (.iaload, 1) := by decide +kernel
theorem dL_law_1006 : decode code 1006 = .ok (.aload_n 0, 1) := by decide +kernel
theorem dL_law_1007 : decode code 1007 = .ok (.iload 4, 2) := by decide +kernel
theorem dL_law_1009 : decode code 1009 = .ok (.iconst 2, 1) := by decide +kernel
theorem dL_law_1010 : decode code 1010 = .ok (.iadd, 1) := by decide +kernel
theorem dL_law_1011 : decode code 1011 = .ok (.iaload, 1) := by decide +kernel
theorem dL_law_1012 : decode code 1012 = .ok (.aload_n 3, 1) := by decide +kernel
theorem dL_law_1013 : decode code 1013 = .ok (.invokestatic 133, 3) := by decide +kernel
theorem dL_law_1016 : decode code 1016 = .ok (.istore 5, 2) := by decide +kernel
theorem dL_law_1018 : decode code 1018 = .ok (.aload_n 2, 1) := by decide +kernel
theorem dL_law_1019 : decode code 1019 = .ok (.aload_n 0, 1) := by decide +kernel
theorem dL_law_1020 : decode code 1020 = .ok (.iload 4, 2) := by decide +kernel
theorem dL_law_1022 : decode code 1022 = .ok (.iconst 1, 1) := by decide +kernel
theorem dL_law_1023 : decode code 1023 = .ok (.iadd, 1) := by decide +kernel
theorem dL_law_1024 : decode code 1024 = .ok (.iaload, 1) := by decide +kernel
theorem dL_law_1025 : decode code 1025 = .ok (.aload_n 0, 1) := by decide +kernel
theorem dL_law_1026 : decode code 1026 = .ok (.iload 4, 2) := by decide +kernel
theorem dL_law_1028 : decode code 1028 = .ok (.iconst 2, 1) := by decide +kernel
theorem dL_law_1029 : decode code 1029 = .ok (.iadd, 1) := by decide +kernel
theorem dL_law_1030 : decode code 1030 = .ok (.iaload, 1) := by decide +kernel
theorem dL_law_1031 : decode code 1031 = .ok (.invokevirtual 136, 3) := by decide +kernel
theorem dL_law_1034 : decode code 1034 = .ok (.istore 6, 2) := by decide +kernel
theorem dL_law_1036 : decode code 1036 = .ok (.aload_n 2, 1) := by decide +kernel
theorem dL_law_1037 : decode code 1037 = .ok (.invokevirtual 75, 3) := by decide +kernel
theorem dL_law_1040 : decode code 1040 = .ok (.iload 5, 2) := by decide +kernel
theorem dL_law_1042 : decode code 1042 = .ok (.if_icmp .eq 5, 3) := by decide +kernel
theorem dL_law_1045 : decode code 1045 = .ok (.iconst 0, 1) := by decide +kernel
theorem dL_law_1046 : decode code 1046 = .ok (.ireturn, 1) := by decide +kernel
theorem dL_law_1047 : decode code 1047 = .ok (.iload 5, 2) := by decide +kernel
theorem dL_law_1049 : decode code 1049 = .ok (.ifCond .ne 15, 3) := by decide +kernel
theorem dL_law_1052 : decode code 1052 = .ok (.aload_n 3, 1) := by decide +kernel
theorem dL_law_1053 : decode code 1053 = .ok (.iconst 0, 1) := by decide +kernel
theorem dL_law_1054 : decode code 1054 = .ok (.laload, 1) := by decide +kernel
theorem dL_law_1055 : decode code 1055 = .ok (.iload 6, 2) := by decide +kernel
theorem dL_law_1057 : decode code 1057 = .ok (.i2l, 1) := by decide +kernel
theorem dL_law_1058 : decode code 1058 = .ok (.lcmp, 1) := by decide +kernel
theorem dL_law_1059 : decode code 1059 = .ok (.ifCond .eq 5, 3) := by decide +kernel
theorem dL_law_1062 : decode code 1062 = .ok (.iconst 0, 1) := by decide +kernel
theorem dL_law_1063 : decode code 1063 = .ok (.ireturn, 1) := by decide +kernel
theorem dL_law_1064 : decode code 1064 = .ok (.goto 16, 3) := by decide +kernel
theorem dL_law_1067 : decode code 1067 = .ok (.aload_n 1, 1) := by decide +kernel
theorem dL_law_1068 : decode code 1068 = .ok (.invokevirtual 137, 3) := by decide +kernel
theorem dL_law_1071 : decode code 1071 = .ok (.aload_n 2, 1) := by decide +kernel
theorem dL_law_1072 : decode code 1072 = .ok (.invokevirtual 140, 3) := by decide +kernel
theorem dL_law_1075 : decode code 1075 = .ok (.if_icmp .eq 5, 3) := by decide +kernel
theorem dL_law_1078 : decode code 1078 = .ok (.iconst 0, 1) := by decide +kernel
theorem dL_law_1079 : decode code 1079 = .ok (.ireturn, 1) := by decide +kernel
theorem dL_law_1080 : decode code 1080 = .ok (.iinc 4 5, 3) := by decide +kernel
theorem dL_law_1083 : decode code 1083 = .ok (.goto (-1060), 3) := by decide +kernel
theorem dL_law_1086 : decode code 1086 = .ok (.iconst 1, 1) := by decide +kernel
