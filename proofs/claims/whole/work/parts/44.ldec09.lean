theorem dL_law_890 : decode code 890 = .ok (.aload_n 0, 1) := by decide +kernel
theorem dL_law_891 : decode code 891 = .ok (.iload 4, 2) := by decide +kernel
theorem dL_law_893 : decode code 893 = .ok (.iconst 1, 1) := by decide +kernel
theorem dL_law_894 : decode code 894 = .ok (.iadd, 1) := by decide +kernel
theorem dL_law_895 : decode code 895 = .ok (.iaload, 1) := by decide +kernel
theorem dL_law_896 : decode code 896 = .ok (.invokevirtual 125, 3) := by decide +kernel
theorem dL_law_899 : decode code 899 = .ok (.istore 6, 2) := by decide +kernel
theorem dL_law_901 : decode code 901 = .ok (.aload_n 2, 1) := by decide +kernel
theorem dL_law_902 : decode code 902 = .ok (.invokevirtual 75, 3) := by decide +kernel
theorem dL_law_905 : decode code 905 = .ok (.iload 5, 2) := by decide +kernel
theorem dL_law_907 : decode code 907 = .ok (.if_icmp .eq 5, 3) := by decide +kernel
theorem dL_law_910 : decode code 910 = .ok (.iconst 0, 1) := by decide +kernel
theorem dL_law_911 : decode code 911 = .ok (.ireturn, 1) := by decide +kernel
theorem dL_law_912 : decode code 912 = .ok (.iload 5, 2) := by decide +kernel
theorem dL_law_914 : decode code 914 = .ok (.ifCond .ne 15, 3) := by decide +kernel
theorem dL_law_917 : decode code 917 = .ok (.aload_n 3, 1) := by decide +kernel
theorem dL_law_918 : decode code 918 = .ok (.iconst 0, 1) := by decide +kernel
theorem dL_law_919 : decode code 919 = .ok (.laload, 1) := by decide +kernel
theorem dL_law_920 : decode code 920 = .ok (.iload 6, 2) := by decide +kernel
theorem dL_law_922 : decode code 922 = .ok (.i2l, 1) := by decide +kernel
theorem dL_law_923 : decode code 923 = .ok (.lcmp, 1) := by decide +kernel
theorem dL_law_924 : decode code 924 = .ok (.ifCond .eq 5, 3) := by decide +kernel
theorem dL_law_927 : decode code 927 = .ok (.iconst 0, 1) := by decide +kernel
theorem dL_law_928 : decode code 928 = .ok (.ireturn, 1) := by decide +kernel
theorem dL_law_929 : decode code 929 = .ok (.goto 151, 3) := by decide +kernel
theorem dL_law_932 : decode code 932 = .ok (.aload_n 1, 1) := by decide +kernel
theorem dL_law_933 : decode code 933 = .ok (.aload_n 0, 1) := by decide +kernel
theorem dL_law_934 : decode code 934 = .ok (.iload 4, 2) := by decide +kernel
theorem dL_law_936 : decode code 936 = .ok (.iconst 1, 1) := by decide +kernel
theorem dL_law_937 : decode code 937 = .ok (.iadd, 1) := by decide +kernel
theorem dL_law_938 : decode code 938 = .ok (.iaload, 1) := by decide +kernel
theorem dL_law_939 : decode code 939 = .ok (.aload_n 3, 1) := by decide +kernel
theorem dL_law_940 : decode code 940 = .ok (.invokestatic 126, 3) := by decide +kernel
theorem dL_law_943 : decode code 943 = .ok (.istore 5, 2) := by decide +kernel
theorem dL_law_945 : decode code 945 = .ok (.aload_n 2, 1) := by decide +kernel
theorem dL_law_946 : decode code 946 = .ok (.aload_n 0, 1) := by decide +kernel
theorem dL_law_947 : decode code 947 = .ok (.iload 4, 2) := by decide +kernel
theorem dL_law_949 : decode code 949 = .ok (.iconst 1, 1) := by decide +kernel
theorem dL_law_950 : decode code 950 = .ok (.iadd, 1) := by decide +kernel
theorem dL_law_951 : decode code 951 = .ok (.iaload, 1) := by decide +kernel
theorem dL_law_952 : decode code 952 = .ok (.invokevirtual 128, 3) := by decide +kernel
theorem dL_law_955 : decode code 955 = .ok (.istore 6, 2) := by decide +kernel
theorem dL_law_957 : decode code 957 = .ok (.aload_n 2, 1) := by decide +kernel
theorem dL_law_958 : decode code 958 = .ok (.invokevirtual 75, 3) := by decide +kernel
theorem dL_law_961 : decode code 961 = .ok (.iload 5, 2) := by decide +kernel
theorem dL_law_963 : decode code 963 = .ok (.if_icmp .eq 5, 3) := by decide +kernel
theorem dL_law_966 : decode code 966 = .ok (.iconst 0, 1) := by decide +kernel
theorem dL_law_967 : decode code 967 = .ok (.ireturn, 1) := by decide +kernel
theorem dL_law_968 : decode code 968 = .ok (.iload 5, 2) := by decide +kernel
theorem dL_law_970 : decode code 970 = .ok (.ifCond .ne 15, 3) := by decide +kernel
theorem dL_law_973 : decode code 973 = .ok (.aload_n 3, 1) := by decide +kernel
theorem dL_law_974 : decode code 974 = .ok (.iconst 0, 1) := by decide +kernel
theorem dL_law_975 : decode code 975 = .ok (.laload, 1) := by decide +kernel
theorem dL_law_976 : decode code 976 = .ok (.iload 6, 2) := by decide +kernel
theorem dL_law_978 : decode code 978 = .ok (.i2l, 1) := by decide +kernel
theorem dL_law_979 : decode code 979 = .ok (.lcmp, 1) := by decide +kernel
theorem dL_law_980 : decode code 980 = .ok (.ifCond .eq 5, 3) := by decide +kernel
theorem dL_law_983 : decode code 983 = .ok (.iconst 0, 1) := by decide +kernel
theorem dL_law_984 : decode code 984 = .ok (.ireturn, 1) := by decide +kernel
theorem dL_law_985 : decode code 985 = .ok (.goto 95, 3) := by decide +kernel
