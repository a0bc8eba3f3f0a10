theorem dL_init_0 : decode bL_init 0 = .ok (.aload_n 0, 1) := by decide +kernel
theorem dL_init_1 : decode bL_init 1 = .ok (.invokespecial 3, 3) := by decide +kernel
theorem dL_init_4 : decode bL_init 4 = .ok (.aload_n 0, 1) := by decide +kernel
theorem dL_init_5 : decode bL_init 5 = .ok (.sipush 4000, 3) := by decide +kernel
theorem dL_init_8 : decode bL_init 8 = .ok (.newarray .int, 2) := by decide +kernel
theorem dL_init_10 : decode bL_init 10 = .ok (.putfield 9, 3) := by decide +kernel
theorem dL_init_13 : decode bL_init 13 = .ok (.aload_n 0, 1) := by decide +kernel
theorem dL_init_14 : decode bL_init 14 = .ok (.new 13, 3) := by decide +kernel
theorem dL_init_17 : decode bL_init 17 = .ok (.dup, 1) := by decide +kernel
theorem dL_init_18 : decode bL_init 18 = .ok (.invokespecial 15, 3) := by decide +kernel
theorem dL_init_21 : decode bL_init 21 = .ok (.putfield 16, 3) := by decide +kernel
theorem dL_init_24 : decode bL_init 24 = .ok (.aload_n 0, 1) := by decide +kernel
theorem dL_init_25 : decode bL_init 25 = .ok (.sipush 512, 3) := by decide +kernel
theorem dL_init_28 : decode bL_init 28 = .ok (.newarray .int, 2) := by decide +kernel
theorem dL_init_30 : decode bL_init 30 = .ok (.putfield 20, 3) := by decide +kernel
theorem dL_init_33 : decode bL_init 33 = .ok (.aload_n 0, 1) := by decide +kernel
theorem dL_init_34 : decode bL_init 34 = .ok (.iconst 0, 1) := by decide +kernel
theorem dL_init_35 : decode bL_init 35 = .ok (.putfield 23, 3) := by decide +kernel
theorem dL_init_38 : decode bL_init 38 = .ok (.aload_n 0, 1) := by decide +kernel
theorem dL_init_39 : decode bL_init 39 = .ok (.iconst 0, 1) := by decide +kernel
theorem dL_init_40 : decode bL_init 40 = .ok (.putfield 27, 3) := by decide +kernel
theorem dL_init_43 : decode bL_init 43 = .ok (.return_, 1) := by decide +kernel
theorem dT_init_0 : decode bT_init 0 = .ok (.aload_n 0, 1) := by decide +kernel
theorem dT_init_1 : decode bT_init 1 = .ok (.invokespecial 3, 3) := by decide +kernel
theorem dT_init_4 : decode bT_init 4 = .ok (.aload_n 0, 1) := by decide +kernel
theorem dT_init_5 : decode bT_init 5 = .ok (.bipush 9, 2) := by decide +kernel
theorem dT_init_7 : decode bT_init 7 = .ok (.anewarray 9, 3) := by decide +kernel
theorem dT_init_10 : decode bT_init 10 = .ok (.putfield 11, 3) := by decide +kernel
theorem dT_init_13 : decode bT_init 13 = .ok (.aload_n 0, 1) := by decide +kernel
theorem dT_init_14 : decode bT_init 14 = .ok (.sipush 4000, 3) := by decide +kernel
theorem dT_init_17 : decode bT_init 17 = .ok (.newarray .int, 2) := by decide +kernel
theorem dT_init_19 : decode bT_init 19 = .ok (.putfield 17, 3) := by decide +kernel
theorem dT_init_22 : decode bT_init 22 = .ok (.aload_n 0, 1) := by decide +kernel
theorem dT_init_23 : decode bT_init 23 = .ok (.sipush 4000, 3) := by decide +kernel
theorem dT_init_26 : decode bT_init 26 = .ok (.newarray .int, 2) := by decide +kernel
theorem dT_init_28 : decode bT_init 28 = .ok (.putfield 21, 3) := by decide +kernel
theorem dT_init_31 : decode bT_init 31 = .ok (.iconst 0, 1) := by decide +kernel
theorem dT_init_32 : decode bT_init 32 = .ok (.istore_n 1, 1) := by decide +kernel
theorem dT_init_33 : decode bT_init 33 = .ok (.iload_n 1, 1) := by decide +kernel
theorem dT_init_34 : decode bT_init 34 = .ok (.bipush 9, 2) := by decide +kernel
theorem dT_init_36 : decode bT_init 36 = .ok (.if_icmp .ge 22, 3) := by decide +kernel
theorem dT_init_39 : decode bT_init 39 = .ok (.aload_n 0, 1) := by decide +kernel
theorem dT_init_40 : decode bT_init 40 = .ok (.getfield 11, 3) := by decide +kernel
theorem dT_init_43 : decode bT_init 43 = .ok (.iload_n 1, 1) := by decide +kernel
theorem dT_init_44 : decode bT_init 44 = .ok (.new 9, 3) := by decide +kernel
theorem dT_init_47 : decode bT_init 47 = .ok (.dup, 1) := by decide +kernel
theorem dT_init_48 : decode bT_init 48 = .ok (.invokespecial 24, 3) := by decide +kernel
theorem dT_init_51 : decode bT_init 51 = .ok (.aastore, 1) := by decide +kernel
theorem dT_init_52 : decode bT_init 52 = .ok (.iinc 1 1, 3) := by decide +kernel
theorem dT_init_55 : decode bT_init 55 = .ok (.goto (-22), 3) := by decide +kernel
theorem dT_init_58 : decode bT_init 58 = .ok (.aload_n 0, 1) := by decide +kernel
theorem dT_init_59 : decode bT_init 59 = .ok (.iconst 0, 1) := by decide +kernel
theorem dT_init_60 : decode bT_init 60 = .ok (.putfield 25, 3) := by decide +kernel
theorem dT_init_63 : decode bT_init 63 = .ok (.return_, 1) := by decide +kernel
theorem dV_init_0 : decode bV_init 0 = .ok (.aload_n 0, 1) := by decide +kernel
theorem dV_init_1 : decode bV_init 1 = .ok (.invokespecial 3, 3) := by decide +kernel
theorem dV_init_4 : decode bV_init 4 = .ok (.aload_n 0, 1) := by decide +kernel
theorem dV_init_5 : decode bV_init 5 = .ok (.bipush 126, 2) := by decide +kernel
theorem dV_init_7 : decode bV_init 7 = .ok (.newarray .int, 2) := by decide +kernel
theorem dV_init_9 : decode bV_init 9 = .ok (.putfield 9, 3) := by decide +kernel
theorem dV_init_12 : decode bV_init 12 = .ok (.aload_n 0, 1) := by decide +kernel
theorem dV_init_13 : decode bV_init 13 = .ok (.bipush 126, 2) := by decide +kernel
theorem dV_init_15 : decode bV_init 15 = .ok (.newarray .int, 2) := by decide +kernel
theorem dV_init_17 : decode bV_init 17 = .ok (.putfield 15, 3) := by decide +kernel
theorem dV_init_20 : decode bV_init 20 = .ok (.aload_n 0, 1) := by decide +kernel
theorem dV_init_21 : decode bV_init 21 = .ok (.iconst 0, 1) := by decide +kernel
theorem dV_init_22 : decode bV_init 22 = .ok (.putfield 18, 3) := by decide +kernel
theorem dV_init_25 : decode bV_init 25 = .ok (.aload_n 0, 1) := by decide +kernel
theorem dV_init_26 : decode bV_init 26 = .ok (.iconst 0, 1) := by decide +kernel
theorem dV_init_27 : decode bV_init 27 = .ok (.putfield 22, 3) := by decide +kernel
theorem dV_init_30 : decode bV_init 30 = .ok (.return_, 1) := by decide +kernel
theorem dL_build_0 : decode bL_build 0 = .ok (.aload_n 0, 1) := by decide +kernel
theorem dL_build_1 : decode bL_build 1 = .ok (.getfield 16, 3) := by decide +kernel
theorem dL_build_4 : decode bL_build 4 = .ok (.aload_n 0, 1) := by decide +kernel
theorem dL_build_5 : decode bL_build 5 = .ok (.getfield 9, 3) := by decide +kernel
theorem dL_build_8 : decode bL_build 8 = .ok (.aload_n 0, 1) := by decide +kernel
theorem dL_build_9 : decode bL_build 9 = .ok (.getfield 23, 3) := by decide +kernel
theorem dL_build_12 : decode bL_build 12 = .ok (.invokevirtual 42, 3) := by decide +kernel
theorem dL_build_15 : decode bL_build 15 = .ok (.aload_n 0, 1) := by decide +kernel
theorem dL_build_16 : decode bL_build 16 = .ok (.getfield 16, 3) := by decide +kernel
theorem dL_build_19 : decode bL_build 19 = .ok (.invokevirtual 46, 3) := by decide +kernel
theorem dL_build_22 : decode bL_build 22 = .ok (.ireturn, 1) := by decide +kernel
theorem dT_fill_0 : decode bT_fill 0 = .ok (.aload_n 0, 1) := by decide +kernel
theorem dT_fill_1 : decode bT_fill 1 = .ok (.iload_n 2, 1) := by decide +kernel
theorem dT_fill_2 : decode bT_fill 2 = .ok (.putfield 25, 3) := by decide +kernel
theorem dT_fill_5 : decode bT_fill 5 = .ok (.aload_n 1, 1) := by decide +kernel
theorem dT_fill_6 : decode bT_fill 6 = .ok (.iconst 0, 1) := by decide +kernel
theorem dT_fill_7 : decode bT_fill 7 = .ok (.aload_n 0, 1) := by decide +kernel
theorem dT_fill_8 : decode bT_fill 8 = .ok (.getfield 17, 3) := by decide +kernel
theorem dT_fill_11 : decode bT_fill 11 = .ok (.iconst 0, 1) := by decide +kernel
theorem dT_fill_12 : decode bT_fill 12 = .ok (.iload_n 2, 1) := by decide +kernel
theorem dT_fill_13 : decode bT_fill 13 = .ok (.invokestatic 29, 3) := by decide +kernel
theorem dT_fill_16 : decode bT_fill 16 = .ok (.iconst 0, 1) := by decide +kernel
theorem dT_fill_17 : decode bT_fill 17 = .ok (.istore_n 3, 1) := by decide +kernel
theorem dT_fill_18 : decode bT_fill 18 = .ok (.iload_n 3, 1) := by decide +kernel
theorem dT_fill_19 : decode bT_fill 19 = .ok (.bipush 9, 2) := by decide +kernel
theorem dT_fill_21 : decode bT_fill 21 = .ok (.if_icmp .ge 35, 3) := by decide +kernel
theorem dT_fill_24 : decode bT_fill 24 = .ok (.aload_n 0, 1) := by decide +kernel
theorem dT_fill_25 : decode bT_fill 25 = .ok (.getfield 11, 3) := by decide +kernel
theorem dT_fill_28 : decode bT_fill 28 = .ok (.iload_n 3, 1) := by decide +kernel
theorem dT_fill_29 : decode bT_fill 29 = .ok (.aaload, 1) := by decide +kernel
theorem dT_fill_30 : decode bT_fill 30 = .ok (.aload_n 0, 1) := by decide +kernel
theorem dT_fill_31 : decode bT_fill 31 = .ok (.getfield 17, 3) := by decide +kernel
theorem dT_fill_34 : decode bT_fill 34 = .ok (.iload_n 2, 1) := by decide +kernel
theorem dT_fill_35 : decode bT_fill 35 = .ok (.iload_n 3, 1) := by decide +kernel
theorem dT_fill_36 : decode bT_fill 36 = .ok (.invokestatic 35, 3) := by decide +kernel
theorem dT_fill_39 : decode bT_fill 39 = .ok (.invokevirtual 39, 3) := by decide +kernel
theorem dT_fill_42 : decode bT_fill 42 = .ok (.aload_n 0, 1) := by decide +kernel
theorem dT_fill_43 : decode bT_fill 43 = .ok (.iload_n 3, 1) := by decide +kernel
theorem dT_fill_44 : decode bT_fill 44 = .ok (.invokestatic 35, 3) := by decide +kernel
theorem dT_fill_47 : decode bT_fill 47 = .ok (.invokevirtual 43, 3) := by decide +kernel
theorem dT_fill_50 : decode bT_fill 50 = .ok (.iinc 3 1, 3) := by decide +kernel
theorem dT_fill_53 : decode bT_fill 53 = .ok (.goto (-35), 3) := by decide +kernel
theorem dT_fill_56 : decode bT_fill 56 = .ok (.return_, 1) := by decide +kernel
theorem dT_shiftOf_0 : decode bT_shiftOf 0 = .ok (.bipush 8, 2) := by decide +kernel
theorem dT_shiftOf_2 : decode bT_shiftOf 2 = .ok (.iload_n 0, 1) := by decide +kernel
theorem dT_shiftOf_3 : decode bT_shiftOf 3 = .ok (.isub, 1) := by decide +kernel
theorem dT_shiftOf_4 : decode bT_shiftOf 4 = .ok (.ireturn, 1) := by decide +kernel
theorem dV_fill_0 : decode bV_fill 0 = .ok (.aload_n 0, 1) := by decide +kernel
theorem dV_fill_1 : decode bV_fill 1 = .ok (.getfield 9, 3) := by decide +kernel
theorem dV_fill_4 : decode bV_fill 4 = .ok (.iconst 0, 1) := by decide +kernel
theorem dV_fill_5 : decode bV_fill 5 = .ok (.invokestatic 25, 3) := by decide +kernel
theorem dV_fill_8 : decode bV_fill 8 = .ok (.iconst 0, 1) := by decide +kernel
theorem dV_fill_9 : decode bV_fill 9 = .ok (.istore 4, 2) := by decide +kernel
theorem dV_fill_11 : decode bV_fill 11 = .ok (.iload 4, 2) := by decide +kernel
theorem dV_fill_13 : decode bV_fill 13 = .ok (.iload_n 2, 1) := by decide +kernel
theorem dV_fill_14 : decode bV_fill 14 = .ok (.if_icmp .ge 36, 3) := by decide +kernel
theorem dV_fill_17 : decode bV_fill 17 = .ok (.aload_n 0, 1) := by decide +kernel
theorem dV_fill_18 : decode bV_fill 18 = .ok (.getfield 9, 3) := by decide +kernel
theorem dV_fill_21 : decode bV_fill 21 = .ok (.iload 4, 2) := by decide +kernel
theorem dV_fill_23 : decode bV_fill 23 = .ok (.bipush 32, 2) := by decide +kernel
theorem dV_fill_25 : decode bV_fill 25 = .ok (.idiv, 1) := by decide +kernel
theorem dV_fill_26 : decode bV_fill 26 = .ok (.dup2, 1) := by decide +kernel
theorem dV_fill_27 : decode bV_fill 27 = .ok (.iaload, 1) := by decide +kernel
theorem dV_fill_28 : decode bV_fill 28 = .ok (.aload_n 1, 1) := by decide +kernel
theorem dV_fill_29 : decode bV_fill 29 = .ok (.iload 4, 2) := by decide +kernel
theorem dV_fill_31 : decode bV_fill 31 = .ok (.iaload, 1) := by decide +kernel
theorem dV_fill_32 : decode bV_fill 32 = .ok (.iload_n 3, 1) := by decide +kernel
theorem dV_fill_33 : decode bV_fill 33 = .ok (.ishr, 1) := by decide +kernel
theorem dV_fill_34 : decode bV_fill 34 = .ok (.iconst 1, 1) := by decide +kernel
theorem dV_fill_35 : decode bV_fill 35 = .ok (.iand, 1) := by decide +kernel
theorem dV_fill_36 : decode bV_fill 36 = .ok (.iload 4, 2) := by decide +kernel
theorem dV_fill_38 : decode bV_fill 38 = .ok (.bipush 32, 2) := by decide +kernel
theorem dV_fill_40 : decode bV_fill 40 = .ok (.irem, 1) := by decide +kernel
theorem dV_fill_41 : decode bV_fill 41 = .ok (.ishl, 1) := by decide +kernel
theorem dV_fill_42 : decode bV_fill 42 = .ok (.ior, 1) := by decide +kernel
theorem dV_fill_43 : decode bV_fill 43 = .ok (.iastore, 1) := by decide +kernel
theorem dV_fill_44 : decode bV_fill 44 = .ok (.iinc 4 1, 3) := by decide +kernel
theorem dV_fill_47 : decode bV_fill 47 = .ok (.goto (-36), 3) := by decide +kernel
theorem dV_fill_50 : decode bV_fill 50 = .ok (.iconst 0, 1) := by decide +kernel
theorem dV_fill_51 : decode bV_fill 51 = .ok (.istore 4, 2) := by decide +kernel
theorem dV_fill_53 : decode bV_fill 53 = .ok (.iconst 0, 1) := by decide +kernel
theorem dV_fill_54 : decode bV_fill 54 = .ok (.istore 5, 2) := by decide +kernel
theorem dV_fill_56 : decode bV_fill 56 = .ok (.iload 5, 2) := by decide +kernel
theorem dV_fill_58 : decode bV_fill 58 = .ok (.bipush 126, 2) := by decide +kernel
theorem dV_fill_60 : decode bV_fill 60 = .ok (.if_icmp .ge 33, 3) := by decide +kernel
theorem dV_fill_63 : decode bV_fill 63 = .ok (.aload_n 0, 1) := by decide +kernel
theorem dV_fill_64 : decode bV_fill 64 = .ok (.getfield 15, 3) := by decide +kernel
theorem dV_fill_67 : decode bV_fill 67 = .ok (.iload 5, 2) := by decide +kernel
theorem dV_fill_69 : decode bV_fill 69 = .ok (.iload 4, 2) := by decide +kernel
theorem dV_fill_71 : decode bV_fill 71 = .ok (.iastore, 1) := by decide +kernel
theorem dV_fill_72 : decode bV_fill 72 = .ok (.iload 4, 2) := by decide +kernel
theorem dV_fill_74 : decode bV_fill 74 = .ok (.aload_n 0, 1) := by decide +kernel
theorem dV_fill_75 : decode bV_fill 75 = .ok (.getfield 9, 3) := by decide +kernel
theorem dV_fill_78 : decode bV_fill 78 = .ok (.iload 5, 2) := by decide +kernel
theorem dV_fill_80 : decode bV_fill 80 = .ok (.iaload, 1) := by decide +kernel
theorem dV_fill_81 : decode bV_fill 81 = .ok (.invokestatic 31, 3) := by decide +kernel
theorem dV_fill_84 : decode bV_fill 84 = .ok (.iadd, 1) := by decide +kernel
theorem dV_fill_85 : decode bV_fill 85 = .ok (.istore 4, 2) := by decide +kernel
theorem dV_fill_87 : decode bV_fill 87 = .ok (.iinc 5 1, 3) := by decide +kernel
theorem dV_fill_90 : decode bV_fill 90 = .ok (.goto (-34), 3) := by decide +kernel
theorem dV_fill_93 : decode bV_fill 93 = .ok (.aload_n 0, 1) := by decide +kernel
theorem dV_fill_94 : decode bV_fill 94 = .ok (.iload_n 2, 1) := by decide +kernel
theorem dV_fill_95 : decode bV_fill 95 = .ok (.putfield 18, 3) := by decide +kernel
theorem dV_fill_98 : decode bV_fill 98 = .ok (.aload_n 0, 1) := by decide +kernel
theorem dV_fill_99 : decode bV_fill 99 = .ok (.iload_n 2, 1) := by decide +kernel
theorem dV_fill_100 : decode bV_fill 100 = .ok (.iload 4, 2) := by decide +kernel
theorem dV_fill_102 : decode bV_fill 102 = .ok (.isub, 1) := by decide +kernel
theorem dV_fill_103 : decode bV_fill 103 = .ok (.putfield 22, 3) := by decide +kernel
theorem dV_fill_106 : decode bV_fill 106 = .ok (.return_, 1) := by decide +kernel
theorem dF_fill_0 : decode bF_fill 0 = .ok (.iconst 0, 1) := by decide +kernel
theorem dF_fill_1 : decode bF_fill 1 = .ok (.istore_n 2, 1) := by decide +kernel
theorem dF_fill_2 : decode bF_fill 2 = .ok (.aload_n 0, 1) := by decide +kernel
theorem dF_fill_3 : decode bF_fill 3 = .ok (.arraylength, 1) := by decide +kernel
theorem dF_fill_4 : decode bF_fill 4 = .ok (.istore_n 3, 1) := by decide +kernel
theorem dF_fill_5 : decode bF_fill 5 = .ok (.iload_n 2, 1) := by decide +kernel
theorem dF_fill_6 : decode bF_fill 6 = .ok (.iload_n 3, 1) := by decide +kernel
theorem dF_fill_7 : decode bF_fill 7 = .ok (.if_icmp .ge 13, 3) := by decide +kernel
theorem dF_fill_10 : decode bF_fill 10 = .ok (.aload_n 0, 1) := by decide +kernel
theorem dF_fill_11 : decode bF_fill 11 = .ok (.iload_n 2, 1) := by decide +kernel
theorem dF_fill_12 : decode bF_fill 12 = .ok (.iload_n 1, 1) := by decide +kernel
theorem dF_fill_13 : decode bF_fill 13 = .ok (.iastore, 1) := by decide +kernel
theorem dF_fill_14 : decode bF_fill 14 = .ok (.iinc 2 1, 3) := by decide +kernel
theorem dF_fill_17 : decode bF_fill 17 = .ok (.goto (-12), 3) := by decide +kernel
theorem dF_fill_20 : decode bF_fill 20 = .ok (.return_, 1) := by decide +kernel
theorem dJ_bitCount_0 : decode bJ_bitCount 0 = .ok (.iload_n 0, 1) := by decide +kernel
theorem dJ_bitCount_1 : decode bJ_bitCount 1 = .ok (.iload_n 0, 1) := by decide +kernel
theorem dJ_bitCount_2 : decode bJ_bitCount 2 = .ok (.iconst 1, 1) := by decide +kernel
theorem dJ_bitCount_3 : decode bJ_bitCount 3 = .ok (.iushr, 1) := by decide +kernel
theorem dJ_bitCount_4 : decode bJ_bitCount 4 = .ok (.ldc_w 265, 3) := by decide +kernel
theorem dJ_bitCount_7 : decode bJ_bitCount 7 = .ok (.iand, 1) := by decide +kernel
theorem dJ_bitCount_8 : decode bJ_bitCount 8 = .ok (.isub, 1) := by decide +kernel
theorem dJ_bitCount_9 : decode bJ_bitCount 9 = .ok (.istore_n 0, 1) := by decide +kernel
theorem dJ_bitCount_10 : decode bJ_bitCount 10 = .ok (.iload_n 0, 1) := by decide +kernel
theorem dJ_bitCount_11 : decode bJ_bitCount 11 = .ok (.ldc_w 266, 3) := by decide +kernel
theorem dJ_bitCount_14 : decode bJ_bitCount 14 = .ok (.iand, 1) := by decide +kernel
theorem dJ_bitCount_15 : decode bJ_bitCount 15 = .ok (.iload_n 0, 1) := by decide +kernel
theorem dJ_bitCount_16 : decode bJ_bitCount 16 = .ok (.iconst 2, 1) := by decide +kernel
theorem dJ_bitCount_17 : decode bJ_bitCount 17 = .ok (.iushr, 1) := by decide +kernel
theorem dJ_bitCount_18 : decode bJ_bitCount 18 = .ok (.ldc_w 266, 3) := by decide +kernel
theorem dJ_bitCount_21 : decode bJ_bitCount 21 = .ok (.iand, 1) := by decide +kernel
theorem dJ_bitCount_22 : decode bJ_bitCount 22 = .ok (.iadd, 1) := by decide +kernel
theorem dJ_bitCount_23 : decode bJ_bitCount 23 = .ok (.istore_n 0, 1) := by decide +kernel
theorem dJ_bitCount_24 : decode bJ_bitCount 24 = .ok (.iload_n 0, 1) := by decide +kernel
theorem dJ_bitCount_25 : decode bJ_bitCount 25 = .ok (.iload_n 0, 1) := by decide +kernel
theorem dJ_bitCount_26 : decode bJ_bitCount 26 = .ok (.iconst 4, 1) := by decide +kernel
theorem dJ_bitCount_27 : decode bJ_bitCount 27 = .ok (.iushr, 1) := by decide +kernel
theorem dJ_bitCount_28 : decode bJ_bitCount 28 = .ok (.iadd, 1) := by decide +kernel
theorem dJ_bitCount_29 : decode bJ_bitCount 29 = .ok (.ldc_w 267, 3) := by decide +kernel
theorem dJ_bitCount_32 : decode bJ_bitCount 32 = .ok (.iand, 1) := by decide +kernel
theorem dJ_bitCount_33 : decode bJ_bitCount 33 = .ok (.istore_n 0, 1) := by decide +kernel
theorem dJ_bitCount_34 : decode bJ_bitCount 34 = .ok (.iload_n 0, 1) := by decide +kernel
theorem dJ_bitCount_35 : decode bJ_bitCount 35 = .ok (.iload_n 0, 1) := by decide +kernel
theorem dJ_bitCount_36 : decode bJ_bitCount 36 = .ok (.bipush 8, 2) := by decide +kernel
theorem dJ_bitCount_38 : decode bJ_bitCount 38 = .ok (.iushr, 1) := by decide +kernel
theorem dJ_bitCount_39 : decode bJ_bitCount 39 = .ok (.iadd, 1) := by decide +kernel
theorem dJ_bitCount_40 : decode bJ_bitCount 40 = .ok (.istore_n 0, 1) := by decide +kernel
theorem dJ_bitCount_41 : decode bJ_bitCount 41 = .ok (.iload_n 0, 1) := by decide +kernel
theorem dJ_bitCount_42 : decode bJ_bitCount 42 = .ok (.iload_n 0, 1) := by decide +kernel
theorem dJ_bitCount_43 : decode bJ_bitCount 43 = .ok (.bipush 16, 2) := by decide +kernel
theorem dJ_bitCount_45 : decode bJ_bitCount 45 = .ok (.iushr, 1) := by decide +kernel
theorem dJ_bitCount_46 : decode bJ_bitCount 46 = .ok (.iadd, 1) := by decide +kernel
theorem dJ_bitCount_47 : decode bJ_bitCount 47 = .ok (.istore_n 0, 1) := by decide +kernel
theorem dJ_bitCount_48 : decode bJ_bitCount 48 = .ok (.iload_n 0, 1) := by decide +kernel
theorem dJ_bitCount_49 : decode bJ_bitCount 49 = .ok (.bipush 63, 2) := by decide +kernel
theorem dJ_bitCount_51 : decode bJ_bitCount 51 = .ok (.iand, 1) := by decide +kernel
theorem dJ_bitCount_52 : decode bJ_bitCount 52 = .ok (.ireturn, 1) := by decide +kernel
theorem dT_putZerosInFront_0 : decode bT_putZerosInFront 0 = .ok (.iconst 0, 1) := by decide +kernel
theorem dT_putZerosInFront_1 : decode bT_putZerosInFront 1 = .ok (.istore_n 2, 1) := by decide +kernel
theorem dT_putZerosInFront_2 : decode bT_putZerosInFront 2 = .ok (.iconst 0, 1) := by decide +kernel
theorem dT_putZerosInFront_3 : decode bT_putZerosInFront 3 = .ok (.istore_n 3, 1) := by decide +kernel
theorem dT_putZerosInFront_4 : decode bT_putZerosInFront 4 = .ok (.iconst 0, 1) := by decide +kernel
theorem dT_putZerosInFront_5 : decode bT_putZerosInFront 5 = .ok (.istore 4, 2) := by decide +kernel
theorem dT_putZerosInFront_7 : decode bT_putZerosInFront 7 = .ok (.iload 4, 2) := by decide +kernel
theorem dT_putZerosInFront_9 : decode bT_putZerosInFront 9 = .ok (.aload_n 0, 1) := by decide +kernel
theorem dT_putZerosInFront_10 : decode bT_putZerosInFront 10 = .ok (.getfield 25, 3) := by decide +kernel
theorem dT_putZerosInFront_13 : decode bT_putZerosInFront 13 = .ok (.if_icmp .ge 52, 3) := by decide +kernel
theorem dT_putZerosInFront_16 : decode bT_putZerosInFront 16 = .ok (.aload_n 0, 1) := by decide +kernel
theorem dT_putZerosInFront_17 : decode bT_putZerosInFront 17 = .ok (.getfield 17, 3) := by decide +kernel
theorem dT_putZerosInFront_20 : decode bT_putZerosInFront 20 = .ok (.iload 4, 2) := by decide +kernel
theorem dT_putZerosInFront_22 : decode bT_putZerosInFront 22 = .ok (.iaload, 1) := by decide +kernel
theorem dT_putZerosInFront_23 : decode bT_putZerosInFront 23 = .ok (.istore 5, 2) := by decide +kernel
theorem dT_putZerosInFront_25 : decode bT_putZerosInFront 25 = .ok (.iload 5, 2) := by decide +kernel
theorem dT_putZerosInFront_27 : decode bT_putZerosInFront 27 = .ok (.iload_n 1, 1) := by decide +kernel
theorem dT_putZerosInFront_28 : decode bT_putZerosInFront 28 = .ok (.ishr, 1) := by decide +kernel
theorem dT_putZerosInFront_29 : decode bT_putZerosInFront 29 = .ok (.iconst 1, 1) := by decide +kernel
theorem dT_putZerosInFront_30 : decode bT_putZerosInFront 30 = .ok (.iand, 1) := by decide +kernel
theorem dT_putZerosInFront_31 : decode bT_putZerosInFront 31 = .ok (.ifCond .ne 17, 3) := by decide +kernel
theorem dT_putZerosInFront_34 : decode bT_putZerosInFront 34 = .ok (.aload_n 0, 1) := by decide +kernel
theorem dT_putZerosInFront_35 : decode bT_putZerosInFront 35 = .ok (.getfield 17, 3) := by decide +kernel
theorem dT_putZerosInFront_38 : decode bT_putZerosInFront 38 = .ok (.iload_n 2, 1) := by decide +kernel
theorem dT_putZerosInFront_39 : decode bT_putZerosInFront 39 = .ok (.iload 5, 2) := by decide +kernel
theorem dT_putZerosInFront_41 : decode bT_putZerosInFront 41 = .ok (.iastore, 1) := by decide +kernel
theorem dT_putZerosInFront_42 : decode bT_putZerosInFront 42 = .ok (.iinc 2 1, 3) := by decide +kernel
theorem dT_putZerosInFront_45 : decode bT_putZerosInFront 45 = .ok (.goto 14, 3) := by decide +kernel
theorem dT_putZerosInFront_48 : decode bT_putZerosInFront 48 = .ok (.aload_n 0, 1) := by decide +kernel
theorem dT_putZerosInFront_49 : decode bT_putZerosInFront 49 = .ok (.getfield 21, 3) := by decide +kernel
theorem dT_putZerosInFront_52 : decode bT_putZerosInFront 52 = .ok (.iload_n 3, 1) := by decide +kernel
theorem dT_putZerosInFront_53 : decode bT_putZerosInFront 53 = .ok (.iload 5, 2) := by decide +kernel
theorem dT_putZerosInFront_55 : decode bT_putZerosInFront 55 = .ok (.iastore, 1) := by decide +kernel
theorem dT_putZerosInFront_56 : decode bT_putZerosInFront 56 = .ok (.iinc 3 1, 3) := by decide +kernel
theorem dT_putZerosInFront_59 : decode bT_putZerosInFront 59 = .ok (.iinc 4 1, 3) := by decide +kernel
theorem dT_putZerosInFront_62 : decode bT_putZerosInFront 62 = .ok (.goto (-55), 3) := by decide +kernel
theorem dT_putZerosInFront_65 : decode bT_putZerosInFront 65 = .ok (.aload_n 0, 1) := by decide +kernel
theorem dT_putZerosInFront_66 : decode bT_putZerosInFront 66 = .ok (.getfield 21, 3) := by decide +kernel
theorem dT_putZerosInFront_69 : decode bT_putZerosInFront 69 = .ok (.iconst 0, 1) := by decide +kernel
theorem dT_putZerosInFront_70 : decode bT_putZerosInFront 70 = .ok (.aload_n 0, 1) := by decide +kernel
theorem dT_putZerosInFront_71 : decode bT_putZerosInFront 71 = .ok (.getfield 17, 3) := by decide +kernel
theorem dT_putZerosInFront_74 : decode bT_putZerosInFront 74 = .ok (.iload_n 2, 1) := by decide +kernel
theorem dT_putZerosInFront_75 : decode bT_putZerosInFront 75 = .ok (.iload_n 3, 1) := by decide +kernel
theorem dT_putZerosInFront_76 : decode bT_putZerosInFront 76 = .ok (.invokestatic 29, 3) := by decide +kernel
theorem dT_putZerosInFront_79 : decode bT_putZerosInFront 79 = .ok (.return_, 1) := by decide +kernel
theorem dT_size_0 : decode bT_size 0 = .ok (.aload_n 0, 1) := by decide +kernel
theorem dT_size_1 : decode bT_size 1 = .ok (.getfield 25, 3) := by decide +kernel
theorem dT_size_4 : decode bT_size 4 = .ok (.ireturn, 1) := by decide +kernel
theorem dL_count_0 : decode bL_count 0 = .ok (.iload_n 1, 1) := by decide +kernel
theorem dL_count_1 : decode bL_count 1 = .ok (.ifCond .ne 8, 3) := by decide +kernel
theorem dL_count_4 : decode bL_count 4 = .ok (.aload_n 0, 1) := by decide +kernel
theorem dL_count_5 : decode bL_count 5 = .ok (.getfield 23, 3) := by decide +kernel
theorem dL_count_8 : decode bL_count 8 = .ok (.ireturn, 1) := by decide +kernel
theorem dL_count_9 : decode bL_count 9 = .ok (.iload_n 1, 1) := by decide +kernel
theorem dL_count_10 : decode bL_count 10 = .ok (.iconst 1, 1) := by decide +kernel
theorem dL_count_11 : decode bL_count 11 = .ok (.if_icmp .ne 13, 3) := by decide +kernel
theorem dL_count_14 : decode bL_count 14 = .ok (.aload_n 0, 1) := by decide +kernel
theorem dL_count_15 : decode bL_count 15 = .ok (.getfield 16, 3) := by decide +kernel
theorem dL_count_18 : decode bL_count 18 = .ok (.invokevirtual 46, 3) := by decide +kernel
theorem dL_count_21 : decode bL_count 21 = .ok (.goto 4, 3) := by decide +kernel
theorem dL_count_24 : decode bL_count 24 = .ok (.iconst (-1), 1) := by decide +kernel
theorem dL_count_25 : decode bL_count 25 = .ok (.ireturn, 1) := by decide +kernel
theorem dW_add_0 : decode bW_add 0 = .ok (.aload 4, 2) := by decide +kernel
theorem dW_add_2 : decode bW_add 2 = .ok (.iconst 0, 1) := by decide +kernel
theorem dW_add_3 : decode bW_add 3 = .ok (.aload_n 0, 1) := by decide +kernel
theorem dW_add_4 : decode bW_add 4 = .ok (.iload_n 1, 1) := by decide +kernel
theorem dW_add_5 : decode bW_add 5 = .ok (.iload_n 2, 1) := by decide +kernel
theorem dW_add_6 : decode bW_add 6 = .ok (.iload_n 3, 1) := by decide +kernel
theorem dW_add_7 : decode bW_add 7 = .ok (.invokevirtual 7, 3) := by decide +kernel
theorem dW_add_10 : decode bW_add 10 = .ok (.i2l, 1) := by decide +kernel
theorem dW_add_11 : decode bW_add 11 = .ok (.lastore, 1) := by decide +kernel
theorem dW_add_12 : decode bW_add 12 = .ok (.goto 7, 3) := by decide +kernel
theorem dW_add_15 : decode bW_add 15 = .ok (.astore 5, 2) := by decide +kernel
theorem dW_add_17 : decode bW_add 17 = .ok (.iconst 1, 1) := by decide +kernel
theorem dW_add_18 : decode bW_add 18 = .ok (.ireturn, 1) := by decide +kernel
theorem dW_add_19 : decode bW_add 19 = .ok (.iconst 0, 1) := by decide +kernel
theorem dW_add_20 : decode bW_add 20 = .ok (.ireturn, 1) := by decide +kernel
theorem dL_add_0 : decode bL_add 0 = .ok (.aload_n 0, 1) := by decide +kernel
theorem dL_add_1 : decode bL_add 1 = .ok (.getfield 23, 3) := by decide +kernel
theorem dL_add_4 : decode bL_add 4 = .ok (.sipush 3997, 3) := by decide +kernel
theorem dL_add_7 : decode bL_add 7 = .ok (.if_icmp .le 13, 3) := by decide +kernel
theorem dL_add_10 : decode bL_add 10 = .ok (.new 30, 3) := by decide +kernel
theorem dL_add_13 : decode bL_add 13 = .ok (.dup, 1) := by decide +kernel
theorem dL_add_14 : decode bL_add 14 = .ok (.ldc 32, 2) := by decide +kernel
theorem dL_add_16 : decode bL_add 16 = .ok (.invokespecial 34, 3) := by decide +kernel
theorem dL_add_19 : decode bL_add 19 = .ok (.athrow, 1) := by decide +kernel
theorem dL_add_20 : decode bL_add 20 = .ok (.aload_n 0, 1) := by decide +kernel
theorem dL_add_21 : decode bL_add 21 = .ok (.getfield 9, 3) := by decide +kernel
theorem dL_add_24 : decode bL_add 24 = .ok (.aload_n 0, 1) := by decide +kernel
theorem dL_add_25 : decode bL_add 25 = .ok (.getfield 23, 3) := by decide +kernel
theorem dL_add_28 : decode bL_add 28 = .ok (.iload_n 1, 1) := by decide +kernel
theorem dL_add_29 : decode bL_add 29 = .ok (.sipush 511, 3) := by decide +kernel
theorem dL_add_32 : decode bL_add 32 = .ok (.iand, 1) := by decide +kernel
theorem dL_add_33 : decode bL_add 33 = .ok (.iastore, 1) := by decide +kernel
theorem dL_add_34 : decode bL_add 34 = .ok (.aload_n 0, 1) := by decide +kernel
theorem dL_add_35 : decode bL_add 35 = .ok (.getfield 9, 3) := by decide +kernel
theorem dL_add_38 : decode bL_add 38 = .ok (.aload_n 0, 1) := by decide +kernel
theorem dL_add_39 : decode bL_add 39 = .ok (.getfield 23, 3) := by decide +kernel
theorem dL_add_42 : decode bL_add 42 = .ok (.iconst 1, 1) := by decide +kernel
theorem dL_add_43 : decode bL_add 43 = .ok (.iadd, 1) := by decide +kernel
theorem dL_add_44 : decode bL_add 44 = .ok (.iload_n 2, 1) := by decide +kernel
theorem dL_add_45 : decode bL_add 45 = .ok (.sipush 511, 3) := by decide +kernel
theorem dL_add_48 : decode bL_add 48 = .ok (.iand, 1) := by decide +kernel
theorem dL_add_49 : decode bL_add 49 = .ok (.iastore, 1) := by decide +kernel
theorem dL_add_50 : decode bL_add 50 = .ok (.aload_n 0, 1) := by decide +kernel
theorem dL_add_51 : decode bL_add 51 = .ok (.getfield 9, 3) := by decide +kernel
theorem dL_add_54 : decode bL_add 54 = .ok (.aload_n 0, 1) := by decide +kernel
theorem dL_add_55 : decode bL_add 55 = .ok (.getfield 23, 3) := by decide +kernel
theorem dL_add_58 : decode bL_add 58 = .ok (.iconst 2, 1) := by decide +kernel
theorem dL_add_59 : decode bL_add 59 = .ok (.iadd, 1) := by decide +kernel
theorem dL_add_60 : decode bL_add 60 = .ok (.iload_n 3, 1) := by decide +kernel
theorem dL_add_61 : decode bL_add 61 = .ok (.sipush 511, 3) := by decide +kernel
theorem dL_add_64 : decode bL_add 64 = .ok (.iand, 1) := by decide +kernel
theorem dL_add_65 : decode bL_add 65 = .ok (.iastore, 1) := by decide +kernel
theorem dL_add_66 : decode bL_add 66 = .ok (.aload_n 0, 1) := by decide +kernel
theorem dL_add_67 : decode bL_add 67 = .ok (.dup, 1) := by decide +kernel
theorem dL_add_68 : decode bL_add 68 = .ok (.getfield 23, 3) := by decide +kernel
theorem dL_add_71 : decode bL_add 71 = .ok (.iconst 3, 1) := by decide +kernel
theorem dL_add_72 : decode bL_add 72 = .ok (.iadd, 1) := by decide +kernel
theorem dL_add_73 : decode bL_add 73 = .ok (.putfield 23, 3) := by decide +kernel
theorem dL_add_76 : decode bL_add 76 = .ok (.aload_n 0, 1) := by decide +kernel
theorem dL_add_77 : decode bL_add 77 = .ok (.getfield 23, 3) := by decide +kernel
theorem dL_add_80 : decode bL_add 80 = .ok (.ireturn, 1) := by decide +kernel
theorem dW_cut_0 : decode bW_cut 0 = .ok (.aload_n 2, 1) := by decide +kernel
theorem dW_cut_1 : decode bW_cut 1 = .ok (.iconst 0, 1) := by decide +kernel
theorem dW_cut_2 : decode bW_cut 2 = .ok (.aload_n 0, 1) := by decide +kernel
theorem dW_cut_3 : decode bW_cut 3 = .ok (.iload_n 1, 1) := by decide +kernel
theorem dW_cut_4 : decode bW_cut 4 = .ok (.invokevirtual 15, 3) := by decide +kernel
theorem dW_cut_7 : decode bW_cut 7 = .ok (.i2l, 1) := by decide +kernel
theorem dW_cut_8 : decode bW_cut 8 = .ok (.lastore, 1) := by decide +kernel
theorem dW_cut_9 : decode bW_cut 9 = .ok (.goto 6, 3) := by decide +kernel
theorem dW_cut_12 : decode bW_cut 12 = .ok (.astore_n 3, 1) := by decide +kernel
theorem dW_cut_13 : decode bW_cut 13 = .ok (.iconst 1, 1) := by decide +kernel
theorem dW_cut_14 : decode bW_cut 14 = .ok (.ireturn, 1) := by decide +kernel
theorem dW_cut_15 : decode bW_cut 15 = .ok (.iconst 0, 1) := by decide +kernel
theorem dW_cut_16 : decode bW_cut 16 = .ok (.ireturn, 1) := by decide +kernel
theorem dL_cut_0 : decode bL_cut 0 = .ok (.iload_n 1, 1) := by decide +kernel
theorem dL_cut_1 : decode bL_cut 1 = .ok (.ifCond .lt 11, 3) := by decide +kernel
theorem dL_cut_4 : decode bL_cut 4 = .ok (.iload_n 1, 1) := by decide +kernel
theorem dL_cut_5 : decode bL_cut 5 = .ok (.aload_n 0, 1) := by decide +kernel
theorem dL_cut_6 : decode bL_cut 6 = .ok (.getfield 23, 3) := by decide +kernel
theorem dL_cut_9 : decode bL_cut 9 = .ok (.if_icmp .le 13, 3) := by decide +kernel
theorem dL_cut_12 : decode bL_cut 12 = .ok (.new 37, 3) := by decide +kernel
theorem dL_cut_15 : decode bL_cut 15 = .ok (.dup, 1) := by decide +kernel
theorem dL_cut_16 : decode bL_cut 16 = .ok (.ldc 39, 2) := by decide +kernel
theorem dL_cut_18 : decode bL_cut 18 = .ok (.invokespecial 41, 3) := by decide +kernel
theorem dL_cut_21 : decode bL_cut 21 = .ok (.athrow, 1) := by decide +kernel
theorem dL_cut_22 : decode bL_cut 22 = .ok (.aload_n 0, 1) := by decide +kernel
theorem dL_cut_23 : decode bL_cut 23 = .ok (.iload_n 1, 1) := by decide +kernel
theorem dL_cut_24 : decode bL_cut 24 = .ok (.putfield 23, 3) := by decide +kernel
theorem dL_cut_27 : decode bL_cut 27 = .ok (.iload_n 1, 1) := by decide +kernel
theorem dL_cut_28 : decode bL_cut 28 = .ok (.ireturn, 1) := by decide +kernel
theorem dW_at_0 : decode bW_at 0 = .ok (.aload_n 2, 1) := by decide +kernel
theorem dW_at_1 : decode bW_at 1 = .ok (.iconst 0, 1) := by decide +kernel
theorem dW_at_2 : decode bW_at 2 = .ok (.aload_n 0, 1) := by decide +kernel
theorem dW_at_3 : decode bW_at 3 = .ok (.iload_n 1, 1) := by decide +kernel
theorem dW_at_4 : decode bW_at 4 = .ok (.invokevirtual 21, 3) := by decide +kernel
theorem dW_at_7 : decode bW_at 7 = .ok (.i2l, 1) := by decide +kernel
theorem dW_at_8 : decode bW_at 8 = .ok (.lastore, 1) := by decide +kernel
theorem dW_at_9 : decode bW_at 9 = .ok (.goto 6, 3) := by decide +kernel
theorem dW_at_12 : decode bW_at 12 = .ok (.astore_n 3, 1) := by decide +kernel
theorem dW_at_13 : decode bW_at 13 = .ok (.iconst 1, 1) := by decide +kernel
theorem dW_at_14 : decode bW_at 14 = .ok (.ireturn, 1) := by decide +kernel
theorem dW_at_15 : decode bW_at 15 = .ok (.iconst 0, 1) := by decide +kernel
theorem dW_at_16 : decode bW_at 16 = .ok (.ireturn, 1) := by decide +kernel
theorem dL_at_0 : decode bL_at 0 = .ok (.iload_n 1, 1) := by decide +kernel
theorem dL_at_1 : decode bL_at 1 = .ok (.ifCond .lt 14, 3) := by decide +kernel
theorem dL_at_4 : decode bL_at 4 = .ok (.iload_n 1, 1) := by decide +kernel
theorem dL_at_5 : decode bL_at 5 = .ok (.aload_n 0, 1) := by decide +kernel
theorem dL_at_6 : decode bL_at 6 = .ok (.getfield 16, 3) := by decide +kernel
theorem dL_at_9 : decode bL_at 9 = .ok (.invokevirtual 46, 3) := by decide +kernel
theorem dL_at_12 : decode bL_at 12 = .ok (.if_icmp .lt 13, 3) := by decide +kernel
theorem dL_at_15 : decode bL_at 15 = .ok (.new 50, 3) := by decide +kernel
theorem dL_at_18 : decode bL_at 18 = .ok (.dup, 1) := by decide +kernel
theorem dL_at_19 : decode bL_at 19 = .ok (.ldc 52, 2) := by decide +kernel
theorem dL_at_21 : decode bL_at 21 = .ok (.invokespecial 54, 3) := by decide +kernel
theorem dL_at_24 : decode bL_at 24 = .ok (.athrow, 1) := by decide +kernel
theorem dL_at_25 : decode bL_at 25 = .ok (.aload_n 0, 1) := by decide +kernel
theorem dL_at_26 : decode bL_at 26 = .ok (.getfield 16, 3) := by decide +kernel
theorem dL_at_29 : decode bL_at 29 = .ok (.iload_n 1, 1) := by decide +kernel
theorem dL_at_30 : decode bL_at 30 = .ok (.invokevirtual 55, 3) := by decide +kernel
theorem dL_at_33 : decode bL_at 33 = .ok (.ireturn, 1) := by decide +kernel
theorem dT_numberAt_0 : decode bT_numberAt 0 = .ok (.iconst 0, 1) := by decide +kernel
theorem dT_numberAt_1 : decode bT_numberAt 1 = .ok (.istore_n 2, 1) := by decide +kernel
theorem dT_numberAt_2 : decode bT_numberAt 2 = .ok (.iload_n 1, 1) := by decide +kernel
theorem dT_numberAt_3 : decode bT_numberAt 3 = .ok (.istore_n 3, 1) := by decide +kernel
theorem dT_numberAt_4 : decode bT_numberAt 4 = .ok (.iconst 0, 1) := by decide +kernel
theorem dT_numberAt_5 : decode bT_numberAt 5 = .ok (.istore 4, 2) := by decide +kernel
theorem dT_numberAt_7 : decode bT_numberAt 7 = .ok (.iload 4, 2) := by decide +kernel
theorem dT_numberAt_9 : decode bT_numberAt 9 = .ok (.bipush 9, 2) := by decide +kernel
theorem dT_numberAt_11 : decode bT_numberAt 11 = .ok (.if_icmp .ge 43, 3) := by decide +kernel
theorem dT_numberAt_14 : decode bT_numberAt 14 = .ok (.aload_n 0, 1) := by decide +kernel
theorem dT_numberAt_15 : decode bT_numberAt 15 = .ok (.getfield 11, 3) := by decide +kernel
theorem dT_numberAt_18 : decode bT_numberAt 18 = .ok (.iload 4, 2) := by decide +kernel
theorem dT_numberAt_20 : decode bT_numberAt 20 = .ok (.aaload, 1) := by decide +kernel
theorem dT_numberAt_21 : decode bT_numberAt 21 = .ok (.iload_n 3, 1) := by decide +kernel
theorem dT_numberAt_22 : decode bT_numberAt 22 = .ok (.invokevirtual 47, 3) := by decide +kernel
theorem dT_numberAt_25 : decode bT_numberAt 25 = .ok (.istore 5, 2) := by decide +kernel
theorem dT_numberAt_27 : decode bT_numberAt 27 = .ok (.iload_n 2, 1) := by decide +kernel
theorem dT_numberAt_28 : decode bT_numberAt 28 = .ok (.iconst 2, 1) := by decide +kernel
theorem dT_numberAt_29 : decode bT_numberAt 29 = .ok (.imul, 1) := by decide +kernel
theorem dT_numberAt_30 : decode bT_numberAt 30 = .ok (.iload 5, 2) := by decide +kernel
theorem dT_numberAt_32 : decode bT_numberAt 32 = .ok (.iadd, 1) := by decide +kernel
theorem dT_numberAt_33 : decode bT_numberAt 33 = .ok (.istore_n 2, 1) := by decide +kernel
theorem dT_numberAt_34 : decode bT_numberAt 34 = .ok (.aload_n 0, 1) := by decide +kernel
theorem dT_numberAt_35 : decode bT_numberAt 35 = .ok (.getfield 11, 3) := by decide +kernel
theorem dT_numberAt_38 : decode bT_numberAt 38 = .ok (.iload 4, 2) := by decide +kernel
theorem dT_numberAt_40 : decode bT_numberAt 40 = .ok (.aaload, 1) := by decide +kernel
theorem dT_numberAt_41 : decode bT_numberAt 41 = .ok (.iload 5, 2) := by decide +kernel
theorem dT_numberAt_43 : decode bT_numberAt 43 = .ok (.iload_n 3, 1) := by decide +kernel
theorem dT_numberAt_44 : decode bT_numberAt 44 = .ok (.invokevirtual 50, 3) := by decide +kernel
theorem dT_numberAt_47 : decode bT_numberAt 47 = .ok (.istore_n 3, 1) := by decide +kernel
theorem dT_numberAt_48 : decode bT_numberAt 48 = .ok (.iinc 4 1, 3) := by decide +kernel
theorem dT_numberAt_51 : decode bT_numberAt 51 = .ok (.goto (-44), 3) := by decide +kernel
theorem dT_numberAt_54 : decode bT_numberAt 54 = .ok (.iload_n 2, 1) := by decide +kernel
theorem dT_numberAt_55 : decode bT_numberAt 55 = .ok (.ireturn, 1) := by decide +kernel
theorem dV_bitAt_0 : decode bV_bitAt 0 = .ok (.aload_n 0, 1) := by decide +kernel
theorem dV_bitAt_1 : decode bV_bitAt 1 = .ok (.getfield 9, 3) := by decide +kernel
theorem dV_bitAt_4 : decode bV_bitAt 4 = .ok (.iload_n 1, 1) := by decide +kernel
theorem dV_bitAt_5 : decode bV_bitAt 5 = .ok (.bipush 32, 2) := by decide +kernel
theorem dV_bitAt_7 : decode bV_bitAt 7 = .ok (.idiv, 1) := by decide +kernel
theorem dV_bitAt_8 : decode bV_bitAt 8 = .ok (.iaload, 1) := by decide +kernel
theorem dV_bitAt_9 : decode bV_bitAt 9 = .ok (.iload_n 1, 1) := by decide +kernel
theorem dV_bitAt_10 : decode bV_bitAt 10 = .ok (.bipush 32, 2) := by decide +kernel
theorem dV_bitAt_12 : decode bV_bitAt 12 = .ok (.irem, 1) := by decide +kernel
theorem dV_bitAt_13 : decode bV_bitAt 13 = .ok (.iushr, 1) := by decide +kernel
theorem dV_bitAt_14 : decode bV_bitAt 14 = .ok (.iconst 1, 1) := by decide +kernel
theorem dV_bitAt_15 : decode bV_bitAt 15 = .ok (.iand, 1) := by decide +kernel
theorem dV_bitAt_16 : decode bV_bitAt 16 = .ok (.ireturn, 1) := by decide +kernel
theorem dV_down_0 : decode bV_down 0 = .ok (.iload_n 1, 1) := by decide +kernel
theorem dV_down_1 : decode bV_down 1 = .ok (.iconst 1, 1) := by decide +kernel
theorem dV_down_2 : decode bV_down 2 = .ok (.if_icmp .ne 16, 3) := by decide +kernel
theorem dV_down_5 : decode bV_down 5 = .ok (.aload_n 0, 1) := by decide +kernel
theorem dV_down_6 : decode bV_down 6 = .ok (.getfield 22, 3) := by decide +kernel
theorem dV_down_9 : decode bV_down 9 = .ok (.aload_n 0, 1) := by decide +kernel
theorem dV_down_10 : decode bV_down 10 = .ok (.iload_n 2, 1) := by decide +kernel
theorem dV_down_11 : decode bV_down 11 = .ok (.invokevirtual 37, 3) := by decide +kernel
theorem dV_down_14 : decode bV_down 14 = .ok (.iadd, 1) := by decide +kernel
theorem dV_down_15 : decode bV_down 15 = .ok (.goto 10, 3) := by decide +kernel
theorem dV_down_18 : decode bV_down 18 = .ok (.iload_n 2, 1) := by decide +kernel
theorem dV_down_19 : decode bV_down 19 = .ok (.aload_n 0, 1) := by decide +kernel
theorem dV_down_20 : decode bV_down 20 = .ok (.iload_n 2, 1) := by decide +kernel
theorem dV_down_21 : decode bV_down 21 = .ok (.invokevirtual 37, 3) := by decide +kernel
theorem dV_down_24 : decode bV_down 24 = .ok (.isub, 1) := by decide +kernel
theorem dV_down_25 : decode bV_down 25 = .ok (.ireturn, 1) := by decide +kernel
theorem dV_onesBefore_0 : decode bV_onesBefore 0 = .ok (.iload_n 1, 1) := by decide +kernel
theorem dV_onesBefore_1 : decode bV_onesBefore 1 = .ok (.bipush 32, 2) := by decide +kernel
theorem dV_onesBefore_3 : decode bV_onesBefore 3 = .ok (.idiv, 1) := by decide +kernel
theorem dV_onesBefore_4 : decode bV_onesBefore 4 = .ok (.istore_n 2, 1) := by decide +kernel
theorem dV_onesBefore_5 : decode bV_onesBefore 5 = .ok (.iconst 1, 1) := by decide +kernel
theorem dV_onesBefore_6 : decode bV_onesBefore 6 = .ok (.iload_n 1, 1) := by decide +kernel
theorem dV_onesBefore_7 : decode bV_onesBefore 7 = .ok (.bipush 32, 2) := by decide +kernel
theorem dV_onesBefore_9 : decode bV_onesBefore 9 = .ok (.irem, 1) := by decide +kernel
theorem dV_onesBefore_10 : decode bV_onesBefore 10 = .ok (.ishl, 1) := by decide +kernel
theorem dV_onesBefore_11 : decode bV_onesBefore 11 = .ok (.iconst 1, 1) := by decide +kernel
theorem dV_onesBefore_12 : decode bV_onesBefore 12 = .ok (.isub, 1) := by decide +kernel
theorem dV_onesBefore_13 : decode bV_onesBefore 13 = .ok (.istore_n 3, 1) := by decide +kernel
theorem dV_onesBefore_14 : decode bV_onesBefore 14 = .ok (.aload_n 0, 1) := by decide +kernel
theorem dV_onesBefore_15 : decode bV_onesBefore 15 = .ok (.getfield 15, 3) := by decide +kernel
theorem dV_onesBefore_18 : decode bV_onesBefore 18 = .ok (.iload_n 2, 1) := by decide +kernel
theorem dV_onesBefore_19 : decode bV_onesBefore 19 = .ok (.iaload, 1) := by decide +kernel
theorem dV_onesBefore_20 : decode bV_onesBefore 20 = .ok (.aload_n 0, 1) := by decide +kernel
theorem dV_onesBefore_21 : decode bV_onesBefore 21 = .ok (.getfield 9, 3) := by decide +kernel
theorem dV_onesBefore_24 : decode bV_onesBefore 24 = .ok (.iload_n 2, 1) := by decide +kernel
theorem dV_onesBefore_25 : decode bV_onesBefore 25 = .ok (.iaload, 1) := by decide +kernel
theorem dV_onesBefore_26 : decode bV_onesBefore 26 = .ok (.iload_n 3, 1) := by decide +kernel
theorem dV_onesBefore_27 : decode bV_onesBefore 27 = .ok (.iand, 1) := by decide +kernel
theorem dV_onesBefore_28 : decode bV_onesBefore 28 = .ok (.invokestatic 31, 3) := by decide +kernel
theorem dV_onesBefore_31 : decode bV_onesBefore 31 = .ok (.iadd, 1) := by decide +kernel
theorem dV_onesBefore_32 : decode bV_onesBefore 32 = .ok (.ireturn, 1) := by decide +kernel
theorem dW_often_0 : decode bW_often 0 = .ok (.aload 4, 2) := by decide +kernel
theorem dW_often_2 : decode bW_often 2 = .ok (.iconst 0, 1) := by decide +kernel
theorem dW_often_3 : decode bW_often 3 = .ok (.aload_n 0, 1) := by decide +kernel
theorem dW_often_4 : decode bW_often 4 = .ok (.iload_n 1, 1) := by decide +kernel
theorem dW_often_5 : decode bW_often 5 = .ok (.iload_n 2, 1) := by decide +kernel
theorem dW_often_6 : decode bW_often 6 = .ok (.iload_n 3, 1) := by decide +kernel
theorem dW_often_7 : decode bW_often 7 = .ok (.invokevirtual 26, 3) := by decide +kernel
theorem dW_often_10 : decode bW_often 10 = .ok (.i2l, 1) := by decide +kernel
theorem dW_often_11 : decode bW_often 11 = .ok (.lastore, 1) := by decide +kernel
theorem dW_often_12 : decode bW_often 12 = .ok (.goto 7, 3) := by decide +kernel
theorem dW_often_15 : decode bW_often 15 = .ok (.astore 5, 2) := by decide +kernel
theorem dW_often_17 : decode bW_often 17 = .ok (.iconst 1, 1) := by decide +kernel
theorem dW_often_18 : decode bW_often 18 = .ok (.ireturn, 1) := by decide +kernel
theorem dW_often_19 : decode bW_often 19 = .ok (.iconst 0, 1) := by decide +kernel
theorem dW_often_20 : decode bW_often 20 = .ok (.ireturn, 1) := by decide +kernel
theorem dL_often_0 : decode bL_often 0 = .ok (.iload_n 1, 1) := by decide +kernel
theorem dL_often_1 : decode bL_often 1 = .ok (.sipush 511, 3) := by decide +kernel
theorem dL_often_4 : decode bL_often 4 = .ok (.invokestatic 59, 3) := by decide +kernel
theorem dL_often_7 : decode bL_often 7 = .ok (.aload_n 0, 1) := by decide +kernel
theorem dL_often_8 : decode bL_often 8 = .ok (.iload_n 2, 1) := by decide +kernel
theorem dL_often_9 : decode bL_often 9 = .ok (.iload_n 3, 1) := by decide +kernel
theorem dL_often_10 : decode bL_often 10 = .ok (.invokevirtual 63, 3) := by decide +kernel
theorem dL_often_13 : decode bL_often 13 = .ok (.aload_n 0, 1) := by decide +kernel
theorem dL_often_14 : decode bL_often 14 = .ok (.getfield 16, 3) := by decide +kernel
theorem dL_often_17 : decode bL_often 17 = .ok (.iload_n 1, 1) := by decide +kernel
theorem dL_often_18 : decode bL_often 18 = .ok (.iload_n 2, 1) := by decide +kernel
theorem dL_often_19 : decode bL_often 19 = .ok (.iload_n 3, 1) := by decide +kernel
theorem dL_often_20 : decode bL_often 20 = .ok (.invokevirtual 66, 3) := by decide +kernel
theorem dL_often_23 : decode bL_often 23 = .ok (.ireturn, 1) := by decide +kernel
theorem dL_checkNumber_0 : decode bL_checkNumber 0 = .ok (.iload_n 0, 1) := by decide +kernel
theorem dL_checkNumber_1 : decode bL_checkNumber 1 = .ok (.ifCond .lt 8, 3) := by decide +kernel
theorem dL_checkNumber_4 : decode bL_checkNumber 4 = .ok (.iload_n 0, 1) := by decide +kernel
theorem dL_checkNumber_5 : decode bL_checkNumber 5 = .ok (.iload_n 1, 1) := by decide +kernel
theorem dL_checkNumber_6 : decode bL_checkNumber 6 = .ok (.if_icmp .le 13, 3) := by decide +kernel
theorem dL_checkNumber_9 : decode bL_checkNumber 9 = .ok (.new 37, 3) := by decide +kernel
theorem dL_checkNumber_12 : decode bL_checkNumber 12 = .ok (.dup, 1) := by decide +kernel
theorem dL_checkNumber_13 : decode bL_checkNumber 13 = .ok (.ldc 92, 2) := by decide +kernel
theorem dL_checkNumber_15 : decode bL_checkNumber 15 = .ok (.invokespecial 41, 3) := by decide +kernel
theorem dL_checkNumber_18 : decode bL_checkNumber 18 = .ok (.athrow, 1) := by decide +kernel
theorem dL_checkNumber_19 : decode bL_checkNumber 19 = .ok (.return_, 1) := by decide +kernel
theorem dL_checkPart_0 : decode bL_checkPart 0 = .ok (.iload_n 1, 1) := by decide +kernel
theorem dL_checkPart_1 : decode bL_checkPart 1 = .ok (.ifCond .lt 19, 3) := by decide +kernel
theorem dL_checkPart_4 : decode bL_checkPart 4 = .ok (.iload_n 1, 1) := by decide +kernel
theorem dL_checkPart_5 : decode bL_checkPart 5 = .ok (.iload_n 2, 1) := by decide +kernel
theorem dL_checkPart_6 : decode bL_checkPart 6 = .ok (.if_icmp .gt 14, 3) := by decide +kernel
theorem dL_checkPart_9 : decode bL_checkPart 9 = .ok (.iload_n 2, 1) := by decide +kernel
theorem dL_checkPart_10 : decode bL_checkPart 10 = .ok (.aload_n 0, 1) := by decide +kernel
theorem dL_checkPart_11 : decode bL_checkPart 11 = .ok (.getfield 16, 3) := by decide +kernel
theorem dL_checkPart_14 : decode bL_checkPart 14 = .ok (.invokevirtual 46, 3) := by decide +kernel
theorem dL_checkPart_17 : decode bL_checkPart 17 = .ok (.if_icmp .le 13, 3) := by decide +kernel
theorem dL_checkPart_20 : decode bL_checkPart 20 = .ok (.new 37, 3) := by decide +kernel
theorem dL_checkPart_23 : decode bL_checkPart 23 = .ok (.dup, 1) := by decide +kernel
theorem dL_checkPart_24 : decode bL_checkPart 24 = .ok (.ldc 94, 2) := by decide +kernel
theorem dL_checkPart_26 : decode bL_checkPart 26 = .ok (.invokespecial 41, 3) := by decide +kernel
theorem dL_checkPart_29 : decode bL_checkPart 29 = .ok (.athrow, 1) := by decide +kernel
theorem dL_checkPart_30 : decode bL_checkPart 30 = .ok (.return_, 1) := by decide +kernel
theorem dT_timesOf_0 : decode bT_timesOf 0 = .ok (.aload_n 0, 1) := by decide +kernel
theorem dT_timesOf_1 : decode bT_timesOf 1 = .ok (.iload_n 1, 1) := by decide +kernel
theorem dT_timesOf_2 : decode bT_timesOf 2 = .ok (.iload_n 3, 1) := by decide +kernel
theorem dT_timesOf_3 : decode bT_timesOf 3 = .ok (.invokevirtual 54, 3) := by decide +kernel
theorem dT_timesOf_6 : decode bT_timesOf 6 = .ok (.aload_n 0, 1) := by decide +kernel
theorem dT_timesOf_7 : decode bT_timesOf 7 = .ok (.iload_n 1, 1) := by decide +kernel
theorem dT_timesOf_8 : decode bT_timesOf 8 = .ok (.iload_n 2, 1) := by decide +kernel
theorem dT_timesOf_9 : decode bT_timesOf 9 = .ok (.invokevirtual 54, 3) := by decide +kernel
theorem dT_timesOf_12 : decode bT_timesOf 12 = .ok (.isub, 1) := by decide +kernel
theorem dT_timesOf_13 : decode bT_timesOf 13 = .ok (.ireturn, 1) := by decide +kernel
theorem dT_bottomOf_0 : decode bT_bottomOf 0 = .ok (.iload_n 2, 1) := by decide +kernel
theorem dT_bottomOf_1 : decode bT_bottomOf 1 = .ok (.istore_n 3, 1) := by decide +kernel
theorem dT_bottomOf_2 : decode bT_bottomOf 2 = .ok (.iconst 0, 1) := by decide +kernel
theorem dT_bottomOf_3 : decode bT_bottomOf 3 = .ok (.istore 4, 2) := by decide +kernel
theorem dT_bottomOf_5 : decode bT_bottomOf 5 = .ok (.iload 4, 2) := by decide +kernel
theorem dT_bottomOf_7 : decode bT_bottomOf 7 = .ok (.bipush 9, 2) := by decide +kernel
theorem dT_bottomOf_9 : decode bT_bottomOf 9 = .ok (.if_icmp .ge 30, 3) := by decide +kernel
theorem dT_bottomOf_12 : decode bT_bottomOf 12 = .ok (.aload_n 0, 1) := by decide +kernel
theorem dT_bottomOf_13 : decode bT_bottomOf 13 = .ok (.getfield 11, 3) := by decide +kernel
theorem dT_bottomOf_16 : decode bT_bottomOf 16 = .ok (.iload 4, 2) := by decide +kernel
theorem dT_bottomOf_18 : decode bT_bottomOf 18 = .ok (.aaload, 1) := by decide +kernel
theorem dT_bottomOf_19 : decode bT_bottomOf 19 = .ok (.iload_n 1, 1) := by decide +kernel
theorem dT_bottomOf_20 : decode bT_bottomOf 20 = .ok (.iload 4, 2) := by decide +kernel
theorem dT_bottomOf_22 : decode bT_bottomOf 22 = .ok (.invokestatic 35, 3) := by decide +kernel
theorem dT_bottomOf_25 : decode bT_bottomOf 25 = .ok (.ishr, 1) := by decide +kernel
theorem dT_bottomOf_26 : decode bT_bottomOf 26 = .ok (.iconst 1, 1) := by decide +kernel
theorem dT_bottomOf_27 : decode bT_bottomOf 27 = .ok (.iand, 1) := by decide +kernel
theorem dT_bottomOf_28 : decode bT_bottomOf 28 = .ok (.iload_n 3, 1) := by decide +kernel
theorem dT_bottomOf_29 : decode bT_bottomOf 29 = .ok (.invokevirtual 50, 3) := by decide +kernel
theorem dT_bottomOf_32 : decode bT_bottomOf 32 = .ok (.istore_n 3, 1) := by decide +kernel
theorem dT_bottomOf_33 : decode bT_bottomOf 33 = .ok (.iinc 4 1, 3) := by decide +kernel
theorem dT_bottomOf_36 : decode bT_bottomOf 36 = .ok (.goto (-31), 3) := by decide +kernel
theorem dT_bottomOf_39 : decode bT_bottomOf 39 = .ok (.iload_n 3, 1) := by decide +kernel
theorem dT_bottomOf_40 : decode bT_bottomOf 40 = .ok (.ireturn, 1) := by decide +kernel
theorem dW_place_0 : decode bW_place 0 = .ok (.aload_n 3, 1) := by decide +kernel
theorem dW_place_1 : decode bW_place 1 = .ok (.iconst 0, 1) := by decide +kernel
theorem dW_place_2 : decode bW_place 2 = .ok (.aload_n 0, 1) := by decide +kernel
theorem dW_place_3 : decode bW_place 3 = .ok (.iload_n 1, 1) := by decide +kernel
theorem dW_place_4 : decode bW_place 4 = .ok (.iload_n 2, 1) := by decide +kernel
theorem dW_place_5 : decode bW_place 5 = .ok (.invokevirtual 29, 3) := by decide +kernel
theorem dW_place_8 : decode bW_place 8 = .ok (.i2l, 1) := by decide +kernel
theorem dW_place_9 : decode bW_place 9 = .ok (.lastore, 1) := by decide +kernel
theorem dW_place_10 : decode bW_place 10 = .ok (.goto 11, 3) := by decide +kernel
theorem dW_place_13 : decode bW_place 13 = .ok (.astore 4, 2) := by decide +kernel
theorem dW_place_15 : decode bW_place 15 = .ok (.iconst 1, 1) := by decide +kernel
theorem dW_place_16 : decode bW_place 16 = .ok (.ireturn, 1) := by decide +kernel
theorem dW_place_17 : decode bW_place 17 = .ok (.astore 4, 2) := by decide +kernel
theorem dW_place_19 : decode bW_place 19 = .ok (.iconst 2, 1) := by decide +kernel
theorem dW_place_20 : decode bW_place 20 = .ok (.ireturn, 1) := by decide +kernel
theorem dW_place_21 : decode bW_place 21 = .ok (.iconst 0, 1) := by decide +kernel
theorem dW_place_22 : decode bW_place 22 = .ok (.ireturn, 1) := by decide +kernel
theorem dL_place_0 : decode bL_place 0 = .ok (.iload_n 1, 1) := by decide +kernel
theorem dL_place_1 : decode bL_place 1 = .ok (.sipush 511, 3) := by decide +kernel
theorem dL_place_4 : decode bL_place 4 = .ok (.invokestatic 59, 3) := by decide +kernel
theorem dL_place_7 : decode bL_place 7 = .ok (.iload_n 2, 1) := by decide +kernel
theorem dL_place_8 : decode bL_place 8 = .ok (.ifCond .lt 23, 3) := by decide +kernel
theorem dL_place_11 : decode bL_place 11 = .ok (.iload_n 2, 1) := by decide +kernel
theorem dL_place_12 : decode bL_place 12 = .ok (.aload_n 0, 1) := by decide +kernel
theorem dL_place_13 : decode bL_place 13 = .ok (.getfield 16, 3) := by decide +kernel
theorem dL_place_16 : decode bL_place 16 = .ok (.iload_n 1, 1) := by decide +kernel
theorem dL_place_17 : decode bL_place 17 = .ok (.iconst 0, 1) := by decide +kernel
theorem dL_place_18 : decode bL_place 18 = .ok (.aload_n 0, 1) := by decide +kernel
theorem dL_place_19 : decode bL_place 19 = .ok (.getfield 16, 3) := by decide +kernel
theorem dL_place_22 : decode bL_place 22 = .ok (.invokevirtual 46, 3) := by decide +kernel
theorem dL_place_25 : decode bL_place 25 = .ok (.invokevirtual 66, 3) := by decide +kernel
theorem dL_place_28 : decode bL_place 28 = .ok (.if_icmp .lt 13, 3) := by decide +kernel
theorem dL_place_31 : decode bL_place 31 = .ok (.new 50, 3) := by decide +kernel
theorem dL_place_34 : decode bL_place 34 = .ok (.dup, 1) := by decide +kernel
theorem dL_place_35 : decode bL_place 35 = .ok (.ldc 70, 2) := by decide +kernel
theorem dL_place_37 : decode bL_place 37 = .ok (.invokespecial 54, 3) := by decide +kernel
theorem dL_place_40 : decode bL_place 40 = .ok (.athrow, 1) := by decide +kernel
theorem dL_place_41 : decode bL_place 41 = .ok (.aload_n 0, 1) := by decide +kernel
theorem dL_place_42 : decode bL_place 42 = .ok (.getfield 16, 3) := by decide +kernel
theorem dL_place_45 : decode bL_place 45 = .ok (.iload_n 1, 1) := by decide +kernel
theorem dL_place_46 : decode bL_place 46 = .ok (.iload_n 2, 1) := by decide +kernel
theorem dL_place_47 : decode bL_place 47 = .ok (.invokevirtual 72, 3) := by decide +kernel
theorem dL_place_50 : decode bL_place 50 = .ok (.ireturn, 1) := by decide +kernel
theorem dT_placeOf_0 : decode bT_placeOf 0 = .ok (.aload_n 0, 1) := by decide +kernel
theorem dT_placeOf_1 : decode bT_placeOf 1 = .ok (.iload_n 1, 1) := by decide +kernel
theorem dT_placeOf_2 : decode bT_placeOf 2 = .ok (.iconst 0, 1) := by decide +kernel
theorem dT_placeOf_3 : decode bT_placeOf 3 = .ok (.invokevirtual 54, 3) := by decide +kernel
theorem dT_placeOf_6 : decode bT_placeOf 6 = .ok (.iload_n 2, 1) := by decide +kernel
theorem dT_placeOf_7 : decode bT_placeOf 7 = .ok (.iadd, 1) := by decide +kernel
theorem dT_placeOf_8 : decode bT_placeOf 8 = .ok (.istore_n 3, 1) := by decide +kernel
theorem dT_placeOf_9 : decode bT_placeOf 9 = .ok (.bipush 8, 2) := by decide +kernel
theorem dT_placeOf_11 : decode bT_placeOf 11 = .ok (.istore 4, 2) := by decide +kernel
theorem dT_placeOf_13 : decode bT_placeOf 13 = .ok (.iload 4, 2) := by decide +kernel
theorem dT_placeOf_15 : decode bT_placeOf 15 = .ok (.ifCond .lt 30, 3) := by decide +kernel
theorem dT_placeOf_18 : decode bT_placeOf 18 = .ok (.aload_n 0, 1) := by decide +kernel
theorem dT_placeOf_19 : decode bT_placeOf 19 = .ok (.getfield 11, 3) := by decide +kernel
theorem dT_placeOf_22 : decode bT_placeOf 22 = .ok (.iload 4, 2) := by decide +kernel
theorem dT_placeOf_24 : decode bT_placeOf 24 = .ok (.aaload, 1) := by decide +kernel
theorem dT_placeOf_25 : decode bT_placeOf 25 = .ok (.iload_n 1, 1) := by decide +kernel
theorem dT_placeOf_26 : decode bT_placeOf 26 = .ok (.iload 4, 2) := by decide +kernel
theorem dT_placeOf_28 : decode bT_placeOf 28 = .ok (.invokestatic 35, 3) := by decide +kernel
theorem dT_placeOf_31 : decode bT_placeOf 31 = .ok (.ishr, 1) := by decide +kernel
theorem dT_placeOf_32 : decode bT_placeOf 32 = .ok (.iconst 1, 1) := by decide +kernel
theorem dT_placeOf_33 : decode bT_placeOf 33 = .ok (.iand, 1) := by decide +kernel
theorem dT_placeOf_34 : decode bT_placeOf 34 = .ok (.iload_n 3, 1) := by decide +kernel
theorem dT_placeOf_35 : decode bT_placeOf 35 = .ok (.invokevirtual 57, 3) := by decide +kernel
theorem dT_placeOf_38 : decode bT_placeOf 38 = .ok (.istore_n 3, 1) := by decide +kernel
theorem dT_placeOf_39 : decode bT_placeOf 39 = .ok (.iinc 4 (-1), 3) := by decide +kernel
theorem dT_placeOf_42 : decode bT_placeOf 42 = .ok (.goto (-29), 3) := by decide +kernel
theorem dT_placeOf_45 : decode bT_placeOf 45 = .ok (.iload_n 3, 1) := by decide +kernel
theorem dT_placeOf_46 : decode bT_placeOf 46 = .ok (.ireturn, 1) := by decide +kernel
theorem dV_up_0 : decode bV_up 0 = .ok (.iconst 0, 1) := by decide +kernel
theorem dV_up_1 : decode bV_up 1 = .ok (.istore_n 3, 1) := by decide +kernel
theorem dV_up_2 : decode bV_up 2 = .ok (.sipush 2048, 3) := by decide +kernel
theorem dV_up_5 : decode bV_up 5 = .ok (.istore 4, 2) := by decide +kernel
theorem dV_up_7 : decode bV_up 7 = .ok (.iload 4, 2) := by decide +kernel
theorem dV_up_9 : decode bV_up 9 = .ok (.ifCond .le 41, 3) := by decide +kernel
theorem dV_up_12 : decode bV_up 12 = .ok (.iload_n 3, 1) := by decide +kernel
theorem dV_up_13 : decode bV_up 13 = .ok (.iload 4, 2) := by decide +kernel
theorem dV_up_15 : decode bV_up 15 = .ok (.iadd, 1) := by decide +kernel
theorem dV_up_16 : decode bV_up 16 = .ok (.aload_n 0, 1) := by decide +kernel
theorem dV_up_17 : decode bV_up 17 = .ok (.getfield 18, 3) := by decide +kernel
theorem dV_up_20 : decode bV_up 20 = .ok (.if_icmp .ge 21, 3) := by decide +kernel
theorem dV_up_23 : decode bV_up 23 = .ok (.aload_n 0, 1) := by decide +kernel
theorem dV_up_24 : decode bV_up 24 = .ok (.iload_n 1, 1) := by decide +kernel
theorem dV_up_25 : decode bV_up 25 = .ok (.iload_n 3, 1) := by decide +kernel
theorem dV_up_26 : decode bV_up 26 = .ok (.iload 4, 2) := by decide +kernel
theorem dV_up_28 : decode bV_up 28 = .ok (.iadd, 1) := by decide +kernel
theorem dV_up_29 : decode bV_up 29 = .ok (.invokevirtual 40, 3) := by decide +kernel
theorem dV_up_32 : decode bV_up 32 = .ok (.iload_n 2, 1) := by decide +kernel
theorem dV_up_33 : decode bV_up 33 = .ok (.if_icmp .gt 8, 3) := by decide +kernel
theorem dV_up_36 : decode bV_up 36 = .ok (.iload_n 3, 1) := by decide +kernel
theorem dV_up_37 : decode bV_up 37 = .ok (.iload 4, 2) := by decide +kernel
theorem dV_up_39 : decode bV_up 39 = .ok (.iadd, 1) := by decide +kernel
theorem dV_up_40 : decode bV_up 40 = .ok (.istore_n 3, 1) := by decide +kernel
theorem dV_up_41 : decode bV_up 41 = .ok (.iload 4, 2) := by decide +kernel
theorem dV_up_43 : decode bV_up 43 = .ok (.iconst 2, 1) := by decide +kernel
theorem dV_up_44 : decode bV_up 44 = .ok (.idiv, 1) := by decide +kernel
theorem dV_up_45 : decode bV_up 45 = .ok (.istore 4, 2) := by decide +kernel
theorem dV_up_47 : decode bV_up 47 = .ok (.goto (-40), 3) := by decide +kernel
theorem dV_up_50 : decode bV_up 50 = .ok (.iload_n 3, 1) := by decide +kernel
theorem dV_up_51 : decode bV_up 51 = .ok (.ireturn, 1) := by decide +kernel
theorem dW_least_0 : decode bW_least 0 = .ok (.aload 4, 2) := by decide +kernel
theorem dW_least_2 : decode bW_least 2 = .ok (.iconst 0, 1) := by decide +kernel
theorem dW_least_3 : decode bW_least 3 = .ok (.aload_n 0, 1) := by decide +kernel
theorem dW_least_4 : decode bW_least 4 = .ok (.iload_n 1, 1) := by decide +kernel
theorem dW_least_5 : decode bW_least 5 = .ok (.iload_n 2, 1) := by decide +kernel
theorem dW_least_6 : decode bW_least 6 = .ok (.iload_n 3, 1) := by decide +kernel
theorem dW_least_7 : decode bW_least 7 = .ok (.invokevirtual 33, 3) := by decide +kernel
theorem dW_least_10 : decode bW_least 10 = .ok (.i2l, 1) := by decide +kernel
theorem dW_least_11 : decode bW_least 11 = .ok (.lastore, 1) := by decide +kernel
theorem dW_least_12 : decode bW_least 12 = .ok (.goto 11, 3) := by decide +kernel
theorem dW_least_15 : decode bW_least 15 = .ok (.astore 5, 2) := by decide +kernel
theorem dW_least_17 : decode bW_least 17 = .ok (.iconst 1, 1) := by decide +kernel
theorem dW_least_18 : decode bW_least 18 = .ok (.ireturn, 1) := by decide +kernel
theorem dW_least_19 : decode bW_least 19 = .ok (.astore 5, 2) := by decide +kernel
theorem dW_least_21 : decode bW_least 21 = .ok (.iconst 2, 1) := by decide +kernel
theorem dW_least_22 : decode bW_least 22 = .ok (.ireturn, 1) := by decide +kernel
theorem dW_least_23 : decode bW_least 23 = .ok (.iconst 0, 1) := by decide +kernel
theorem dW_least_24 : decode bW_least 24 = .ok (.ireturn, 1) := by decide +kernel
theorem dL_least_0 : decode bL_least 0 = .ok (.aload_n 0, 1) := by decide +kernel
theorem dL_least_1 : decode bL_least 1 = .ok (.iload_n 1, 1) := by decide +kernel
theorem dL_least_2 : decode bL_least 2 = .ok (.iload_n 2, 1) := by decide +kernel
theorem dL_least_3 : decode bL_least 3 = .ok (.invokevirtual 63, 3) := by decide +kernel
theorem dL_least_6 : decode bL_least 6 = .ok (.iload_n 3, 1) := by decide +kernel
theorem dL_least_7 : decode bL_least 7 = .ok (.ifCond .lt 10, 3) := by decide +kernel
theorem dL_least_10 : decode bL_least 10 = .ok (.iload_n 3, 1) := by decide +kernel
theorem dL_least_11 : decode bL_least 11 = .ok (.iload_n 2, 1) := by decide +kernel
theorem dL_least_12 : decode bL_least 12 = .ok (.iload_n 1, 1) := by decide +kernel
theorem dL_least_13 : decode bL_least 13 = .ok (.isub, 1) := by decide +kernel
theorem dL_least_14 : decode bL_least 14 = .ok (.if_icmp .lt 13, 3) := by decide +kernel
theorem dL_least_17 : decode bL_least 17 = .ok (.new 50, 3) := by decide +kernel
theorem dL_least_20 : decode bL_least 20 = .ok (.dup, 1) := by decide +kernel
theorem dL_least_21 : decode bL_least 21 = .ok (.ldc 76, 2) := by decide +kernel
theorem dL_least_23 : decode bL_least 23 = .ok (.invokespecial 54, 3) := by decide +kernel
theorem dL_least_26 : decode bL_least 26 = .ok (.athrow, 1) := by decide +kernel
theorem dL_least_27 : decode bL_least 27 = .ok (.aload_n 0, 1) := by decide +kernel
theorem dL_least_28 : decode bL_least 28 = .ok (.getfield 16, 3) := by decide +kernel
theorem dL_least_31 : decode bL_least 31 = .ok (.iload_n 1, 1) := by decide +kernel
theorem dL_least_32 : decode bL_least 32 = .ok (.iload_n 2, 1) := by decide +kernel
theorem dL_least_33 : decode bL_least 33 = .ok (.iload_n 3, 1) := by decide +kernel
theorem dL_least_34 : decode bL_least 34 = .ok (.invokevirtual 78, 3) := by decide +kernel
theorem dL_least_37 : decode bL_least 37 = .ok (.invokestatic 81, 3) := by decide +kernel
theorem dL_least_40 : decode bL_least 40 = .ok (.ireturn, 1) := by decide +kernel
theorem dT_groupOf_0 : decode bT_groupOf 0 = .ok (.iconst 0, 1) := by decide +kernel
theorem dT_groupOf_1 : decode bT_groupOf 1 = .ok (.istore 4, 2) := by decide +kernel
theorem dT_groupOf_3 : decode bT_groupOf 3 = .ok (.iload_n 1, 1) := by decide +kernel
theorem dT_groupOf_4 : decode bT_groupOf 4 = .ok (.istore 5, 2) := by decide +kernel
theorem dT_groupOf_6 : decode bT_groupOf 6 = .ok (.iload_n 2, 1) := by decide +kernel
theorem dT_groupOf_7 : decode bT_groupOf 7 = .ok (.istore 6, 2) := by decide +kernel
theorem dT_groupOf_9 : decode bT_groupOf 9 = .ok (.iload_n 3, 1) := by decide +kernel
theorem dT_groupOf_10 : decode bT_groupOf 10 = .ok (.istore 7, 2) := by decide +kernel
theorem dT_groupOf_12 : decode bT_groupOf 12 = .ok (.iconst 0, 1) := by decide +kernel
theorem dT_groupOf_13 : decode bT_groupOf 13 = .ok (.istore 8, 2) := by decide +kernel
theorem dT_groupOf_15 : decode bT_groupOf 15 = .ok (.iload 8, 2) := by decide +kernel
theorem dT_groupOf_17 : decode bT_groupOf 17 = .ok (.bipush 9, 2) := by decide +kernel
theorem dT_groupOf_19 : decode bT_groupOf 19 = .ok (.if_icmp .ge 95, 3) := by decide +kernel
theorem dT_groupOf_22 : decode bT_groupOf 22 = .ok (.aload_n 0, 1) := by decide +kernel
theorem dT_groupOf_23 : decode bT_groupOf 23 = .ok (.getfield 11, 3) := by decide +kernel
theorem dT_groupOf_26 : decode bT_groupOf 26 = .ok (.iload 8, 2) := by decide +kernel
theorem dT_groupOf_28 : decode bT_groupOf 28 = .ok (.aaload, 1) := by decide +kernel
theorem dT_groupOf_29 : decode bT_groupOf 29 = .ok (.astore 9, 2) := by decide +kernel
theorem dT_groupOf_31 : decode bT_groupOf 31 = .ok (.aload 9, 2) := by decide +kernel
theorem dT_groupOf_33 : decode bT_groupOf 33 = .ok (.iconst 0, 1) := by decide +kernel
theorem dT_groupOf_34 : decode bT_groupOf 34 = .ok (.iload 6, 2) := by decide +kernel
theorem dT_groupOf_36 : decode bT_groupOf 36 = .ok (.invokevirtual 50, 3) := by decide +kernel
theorem dT_groupOf_39 : decode bT_groupOf 39 = .ok (.aload 9, 2) := by decide +kernel
theorem dT_groupOf_41 : decode bT_groupOf 41 = .ok (.iconst 0, 1) := by decide +kernel
theorem dT_groupOf_42 : decode bT_groupOf 42 = .ok (.iload 5, 2) := by decide +kernel
theorem dT_groupOf_44 : decode bT_groupOf 44 = .ok (.invokevirtual 50, 3) := by decide +kernel
theorem dT_groupOf_47 : decode bT_groupOf 47 = .ok (.isub, 1) := by decide +kernel
theorem dT_groupOf_48 : decode bT_groupOf 48 = .ok (.istore 10, 2) := by decide +kernel
theorem dT_groupOf_50 : decode bT_groupOf 50 = .ok (.iload 7, 2) := by decide +kernel
theorem dT_groupOf_52 : decode bT_groupOf 52 = .ok (.iload 10, 2) := by decide +kernel
theorem dT_groupOf_54 : decode bT_groupOf 54 = .ok (.if_icmp .ge 7, 3) := by decide +kernel
theorem dT_groupOf_57 : decode bT_groupOf 57 = .ok (.iconst 0, 1) := by decide +kernel
theorem dT_groupOf_58 : decode bT_groupOf 58 = .ok (.goto 4, 3) := by decide +kernel
theorem dT_groupOf_61 : decode bT_groupOf 61 = .ok (.iconst 1, 1) := by decide +kernel
theorem dT_groupOf_62 : decode bT_groupOf 62 = .ok (.istore 11, 2) := by decide +kernel
theorem dT_groupOf_64 : decode bT_groupOf 64 = .ok (.iload 11, 2) := by decide +kernel
theorem dT_groupOf_66 : decode bT_groupOf 66 = .ok (.iconst 1, 1) := by decide +kernel
theorem dT_groupOf_67 : decode bT_groupOf 67 = .ok (.if_icmp .ne 10, 3) := by decide +kernel
theorem dT_groupOf_70 : decode bT_groupOf 70 = .ok (.iload 7, 2) := by decide +kernel
theorem dT_groupOf_72 : decode bT_groupOf 72 = .ok (.iload 10, 2) := by decide +kernel
theorem dT_groupOf_74 : decode bT_groupOf 74 = .ok (.isub, 1) := by decide +kernel
theorem dT_groupOf_75 : decode bT_groupOf 75 = .ok (.istore 7, 2) := by decide +kernel
theorem dT_groupOf_77 : decode bT_groupOf 77 = .ok (.iload 4, 2) := by decide +kernel
theorem dT_groupOf_79 : decode bT_groupOf 79 = .ok (.iconst 2, 1) := by decide +kernel
theorem dT_groupOf_80 : decode bT_groupOf 80 = .ok (.imul, 1) := by decide +kernel
theorem dT_groupOf_81 : decode bT_groupOf 81 = .ok (.iload 11, 2) := by decide +kernel
theorem dT_groupOf_83 : decode bT_groupOf 83 = .ok (.iadd, 1) := by decide +kernel
theorem dT_groupOf_84 : decode bT_groupOf 84 = .ok (.istore 4, 2) := by decide +kernel
theorem dT_groupOf_86 : decode bT_groupOf 86 = .ok (.aload 9, 2) := by decide +kernel
theorem dT_groupOf_88 : decode bT_groupOf 88 = .ok (.iload 11, 2) := by decide +kernel
theorem dT_groupOf_90 : decode bT_groupOf 90 = .ok (.iload 5, 2) := by decide +kernel
theorem dT_groupOf_92 : decode bT_groupOf 92 = .ok (.invokevirtual 50, 3) := by decide +kernel
theorem dT_groupOf_95 : decode bT_groupOf 95 = .ok (.istore 5, 2) := by decide +kernel
theorem dT_groupOf_97 : decode bT_groupOf 97 = .ok (.aload 9, 2) := by decide +kernel
theorem dT_groupOf_99 : decode bT_groupOf 99 = .ok (.iload 11, 2) := by decide +kernel
theorem dT_groupOf_101 : decode bT_groupOf 101 = .ok (.iload 6, 2) := by decide +kernel
theorem dT_groupOf_103 : decode bT_groupOf 103 = .ok (.invokevirtual 50, 3) := by decide +kernel
theorem dT_groupOf_106 : decode bT_groupOf 106 = .ok (.istore 6, 2) := by decide +kernel
theorem dT_groupOf_108 : decode bT_groupOf 108 = .ok (.iinc 8 1, 3) := by decide +kernel
theorem dT_groupOf_111 : decode bT_groupOf 111 = .ok (.goto (-96), 3) := by decide +kernel
theorem dT_groupOf_114 : decode bT_groupOf 114 = .ok (.iload 4, 2) := by decide +kernel
theorem dT_groupOf_116 : decode bT_groupOf 116 = .ok (.sipush 4096, 3) := by decide +kernel
theorem dT_groupOf_119 : decode bT_groupOf 119 = .ok (.imul, 1) := by decide +kernel
theorem dT_groupOf_120 : decode bT_groupOf 120 = .ok (.iload 6, 2) := by decide +kernel
theorem dT_groupOf_122 : decode bT_groupOf 122 = .ok (.iload 5, 2) := by decide +kernel
theorem dT_groupOf_124 : decode bT_groupOf 124 = .ok (.isub, 1) := by decide +kernel
theorem dT_groupOf_125 : decode bT_groupOf 125 = .ok (.iadd, 1) := by decide +kernel
theorem dT_groupOf_126 : decode bT_groupOf 126 = .ok (.ireturn, 1) := by decide +kernel
theorem dL_numberOf_0 : decode bL_numberOf 0 = .ok (.iload_n 0, 1) := by decide +kernel
theorem dL_numberOf_1 : decode bL_numberOf 1 = .ok (.sipush 4096, 3) := by decide +kernel
theorem dL_numberOf_4 : decode bL_numberOf 4 = .ok (.idiv, 1) := by decide +kernel
theorem dL_numberOf_5 : decode bL_numberOf 5 = .ok (.ireturn, 1) := by decide +kernel
theorem dW_below_0 : decode bW_below 0 = .ok (.aload 4, 2) := by decide +kernel
theorem dW_below_2 : decode bW_below 2 = .ok (.iconst 0, 1) := by decide +kernel
theorem dW_below_3 : decode bW_below 3 = .ok (.aload_n 0, 1) := by decide +kernel
theorem dW_below_4 : decode bW_below 4 = .ok (.iload_n 1, 1) := by decide +kernel
theorem dW_below_5 : decode bW_below 5 = .ok (.iload_n 2, 1) := by decide +kernel
theorem dW_below_6 : decode bW_below 6 = .ok (.iload_n 3, 1) := by decide +kernel
theorem dW_below_7 : decode bW_below 7 = .ok (.invokevirtual 36, 3) := by decide +kernel
theorem dW_below_10 : decode bW_below 10 = .ok (.i2l, 1) := by decide +kernel
theorem dW_below_11 : decode bW_below 11 = .ok (.lastore, 1) := by decide +kernel
theorem dW_below_12 : decode bW_below 12 = .ok (.goto 7, 3) := by decide +kernel
theorem dW_below_15 : decode bW_below 15 = .ok (.astore 5, 2) := by decide +kernel
theorem dW_below_17 : decode bW_below 17 = .ok (.iconst 1, 1) := by decide +kernel
theorem dW_below_18 : decode bW_below 18 = .ok (.ireturn, 1) := by decide +kernel
theorem dW_below_19 : decode bW_below 19 = .ok (.iconst 0, 1) := by decide +kernel
theorem dW_below_20 : decode bW_below 20 = .ok (.ireturn, 1) := by decide +kernel
theorem dL_below_0 : decode bL_below 0 = .ok (.iload_n 1, 1) := by decide +kernel
theorem dL_below_1 : decode bL_below 1 = .ok (.sipush 512, 3) := by decide +kernel
theorem dL_below_4 : decode bL_below 4 = .ok (.invokestatic 59, 3) := by decide +kernel
theorem dL_below_7 : decode bL_below 7 = .ok (.aload_n 0, 1) := by decide +kernel
theorem dL_below_8 : decode bL_below 8 = .ok (.iload_n 2, 1) := by decide +kernel
theorem dL_below_9 : decode bL_below 9 = .ok (.iload_n 3, 1) := by decide +kernel
theorem dL_below_10 : decode bL_below 10 = .ok (.invokevirtual 63, 3) := by decide +kernel
theorem dL_below_13 : decode bL_below 13 = .ok (.aload_n 0, 1) := by decide +kernel
theorem dL_below_14 : decode bL_below 14 = .ok (.getfield 16, 3) := by decide +kernel
theorem dL_below_17 : decode bL_below 17 = .ok (.iload_n 1, 1) := by decide +kernel
theorem dL_below_18 : decode bL_below 18 = .ok (.iload_n 2, 1) := by decide +kernel
theorem dL_below_19 : decode bL_below 19 = .ok (.iload_n 3, 1) := by decide +kernel
theorem dL_below_20 : decode bL_below 20 = .ok (.invokevirtual 84, 3) := by decide +kernel
theorem dL_below_23 : decode bL_below 23 = .ok (.ireturn, 1) := by decide +kernel
theorem dT_countBelow_0 : decode bT_countBelow 0 = .ok (.iload_n 1, 1) := by decide +kernel
theorem dT_countBelow_1 : decode bT_countBelow 1 = .ok (.sipush 512, 3) := by decide +kernel
theorem dT_countBelow_4 : decode bT_countBelow 4 = .ok (.if_icmp .lt 7, 3) := by decide +kernel
theorem dT_countBelow_7 : decode bT_countBelow 7 = .ok (.iload_n 3, 1) := by decide +kernel
theorem dT_countBelow_8 : decode bT_countBelow 8 = .ok (.iload_n 2, 1) := by decide +kernel
theorem dT_countBelow_9 : decode bT_countBelow 9 = .ok (.isub, 1) := by decide +kernel
theorem dT_countBelow_10 : decode bT_countBelow 10 = .ok (.ireturn, 1) := by decide +kernel
theorem dT_countBelow_11 : decode bT_countBelow 11 = .ok (.iconst 0, 1) := by decide +kernel
theorem dT_countBelow_12 : decode bT_countBelow 12 = .ok (.istore 4, 2) := by decide +kernel
theorem dT_countBelow_14 : decode bT_countBelow 14 = .ok (.iload_n 2, 1) := by decide +kernel
theorem dT_countBelow_15 : decode bT_countBelow 15 = .ok (.istore 5, 2) := by decide +kernel
theorem dT_countBelow_17 : decode bT_countBelow 17 = .ok (.iload_n 3, 1) := by decide +kernel
theorem dT_countBelow_18 : decode bT_countBelow 18 = .ok (.istore 6, 2) := by decide +kernel
theorem dT_countBelow_20 : decode bT_countBelow 20 = .ok (.iconst 0, 1) := by decide +kernel
theorem dT_countBelow_21 : decode bT_countBelow 21 = .ok (.istore 7, 2) := by decide +kernel
theorem dT_countBelow_23 : decode bT_countBelow 23 = .ok (.iload 7, 2) := by decide +kernel
theorem dT_countBelow_25 : decode bT_countBelow 25 = .ok (.bipush 9, 2) := by decide +kernel
theorem dT_countBelow_27 : decode bT_countBelow 27 = .ok (.if_icmp .ge 79, 3) := by decide +kernel
theorem dT_countBelow_30 : decode bT_countBelow 30 = .ok (.aload_n 0, 1) := by decide +kernel
theorem dT_countBelow_31 : decode bT_countBelow 31 = .ok (.getfield 11, 3) := by decide +kernel
theorem dT_countBelow_34 : decode bT_countBelow 34 = .ok (.iload 7, 2) := by decide +kernel
theorem dT_countBelow_36 : decode bT_countBelow 36 = .ok (.aaload, 1) := by decide +kernel
theorem dT_countBelow_37 : decode bT_countBelow 37 = .ok (.astore 8, 2) := by decide +kernel
theorem dT_countBelow_39 : decode bT_countBelow 39 = .ok (.iload_n 1, 1) := by decide +kernel
theorem dT_countBelow_40 : decode bT_countBelow 40 = .ok (.iload 7, 2) := by decide +kernel
theorem dT_countBelow_42 : decode bT_countBelow 42 = .ok (.invokestatic 35, 3) := by decide +kernel
theorem dT_countBelow_45 : decode bT_countBelow 45 = .ok (.ishr, 1) := by decide +kernel
theorem dT_countBelow_46 : decode bT_countBelow 46 = .ok (.iconst 1, 1) := by decide +kernel
theorem dT_countBelow_47 : decode bT_countBelow 47 = .ok (.iand, 1) := by decide +kernel
theorem dT_countBelow_48 : decode bT_countBelow 48 = .ok (.istore 9, 2) := by decide +kernel
theorem dT_countBelow_50 : decode bT_countBelow 50 = .ok (.iload 9, 2) := by decide +kernel
theorem dT_countBelow_52 : decode bT_countBelow 52 = .ok (.iconst 1, 1) := by decide +kernel
theorem dT_countBelow_53 : decode bT_countBelow 53 = .ok (.if_icmp .ne 25, 3) := by decide +kernel
theorem dT_countBelow_56 : decode bT_countBelow 56 = .ok (.iload 4, 2) := by decide +kernel
theorem dT_countBelow_58 : decode bT_countBelow 58 = .ok (.aload 8, 2) := by decide +kernel
theorem dT_countBelow_60 : decode bT_countBelow 60 = .ok (.iconst 0, 1) := by decide +kernel
theorem dT_countBelow_61 : decode bT_countBelow 61 = .ok (.iload 6, 2) := by decide +kernel
theorem dT_countBelow_63 : decode bT_countBelow 63 = .ok (.invokevirtual 50, 3) := by decide +kernel
theorem dT_countBelow_66 : decode bT_countBelow 66 = .ok (.aload 8, 2) := by decide +kernel
theorem dT_countBelow_68 : decode bT_countBelow 68 = .ok (.iconst 0, 1) := by decide +kernel
theorem dT_countBelow_69 : decode bT_countBelow 69 = .ok (.iload 5, 2) := by decide +kernel
theorem dT_countBelow_71 : decode bT_countBelow 71 = .ok (.invokevirtual 50, 3) := by decide +kernel
theorem dT_countBelow_74 : decode bT_countBelow 74 = .ok (.isub, 1) := by decide +kernel
theorem dT_countBelow_75 : decode bT_countBelow 75 = .ok (.iadd, 1) := by decide +kernel
theorem dT_countBelow_76 : decode bT_countBelow 76 = .ok (.istore 4, 2) := by decide +kernel
theorem dT_countBelow_78 : decode bT_countBelow 78 = .ok (.aload 8, 2) := by decide +kernel
theorem dT_countBelow_80 : decode bT_countBelow 80 = .ok (.iload 9, 2) := by decide +kernel
theorem dT_countBelow_82 : decode bT_countBelow 82 = .ok (.iload 5, 2) := by decide +kernel
theorem dT_countBelow_84 : decode bT_countBelow 84 = .ok (.invokevirtual 50, 3) := by decide +kernel
theorem dT_countBelow_87 : decode bT_countBelow 87 = .ok (.istore 5, 2) := by decide +kernel
theorem dT_countBelow_89 : decode bT_countBelow 89 = .ok (.aload 8, 2) := by decide +kernel
theorem dT_countBelow_91 : decode bT_countBelow 91 = .ok (.iload 9, 2) := by decide +kernel
theorem dT_countBelow_93 : decode bT_countBelow 93 = .ok (.iload 6, 2) := by decide +kernel
theorem dT_countBelow_95 : decode bT_countBelow 95 = .ok (.invokevirtual 50, 3) := by decide +kernel
theorem dT_countBelow_98 : decode bT_countBelow 98 = .ok (.istore 6, 2) := by decide +kernel
theorem dT_countBelow_100 : decode bT_countBelow 100 = .ok (.iinc 7 1, 3) := by decide +kernel
theorem dT_countBelow_103 : decode bT_countBelow 103 = .ok (.goto (-80), 3) := by decide +kernel
theorem dT_countBelow_106 : decode bT_countBelow 106 = .ok (.iload 4, 2) := by decide +kernel
theorem dT_countBelow_108 : decode bT_countBelow 108 = .ok (.ireturn, 1) := by decide +kernel
theorem dW_different_0 : decode bW_different 0 = .ok (.aload_n 3, 1) := by decide +kernel
theorem dW_different_1 : decode bW_different 1 = .ok (.iconst 0, 1) := by decide +kernel
theorem dW_different_2 : decode bW_different 2 = .ok (.aload_n 0, 1) := by decide +kernel
theorem dW_different_3 : decode bW_different 3 = .ok (.iload_n 1, 1) := by decide +kernel
theorem dW_different_4 : decode bW_different 4 = .ok (.iload_n 2, 1) := by decide +kernel
theorem dW_different_5 : decode bW_different 5 = .ok (.invokevirtual 39, 3) := by decide +kernel
theorem dW_different_8 : decode bW_different 8 = .ok (.i2l, 1) := by decide +kernel
theorem dW_different_9 : decode bW_different 9 = .ok (.lastore, 1) := by decide +kernel
theorem dW_different_10 : decode bW_different 10 = .ok (.goto 7, 3) := by decide +kernel
theorem dW_different_13 : decode bW_different 13 = .ok (.astore 4, 2) := by decide +kernel
theorem dW_different_15 : decode bW_different 15 = .ok (.iconst 1, 1) := by decide +kernel
theorem dW_different_16 : decode bW_different 16 = .ok (.ireturn, 1) := by decide +kernel
theorem dW_different_17 : decode bW_different 17 = .ok (.iconst 0, 1) := by decide +kernel
theorem dW_different_18 : decode bW_different 18 = .ok (.ireturn, 1) := by decide +kernel
theorem dL_different_0 : decode bL_different 0 = .ok (.aload_n 0, 1) := by decide +kernel
theorem dL_different_1 : decode bL_different 1 = .ok (.iload_n 1, 1) := by decide +kernel
theorem dL_different_2 : decode bL_different 2 = .ok (.iload_n 2, 1) := by decide +kernel
theorem dL_different_3 : decode bL_different 3 = .ok (.invokevirtual 63, 3) := by decide +kernel
theorem dL_different_6 : decode bL_different 6 = .ok (.iconst 0, 1) := by decide +kernel
theorem dL_different_7 : decode bL_different 7 = .ok (.istore_n 3, 1) := by decide +kernel
theorem dL_different_8 : decode bL_different 8 = .ok (.iconst 0, 1) := by decide +kernel
theorem dL_different_9 : decode bL_different 9 = .ok (.istore 4, 2) := by decide +kernel
theorem dL_different_11 : decode bL_different 11 = .ok (.iload 4, 2) := by decide +kernel
theorem dL_different_13 : decode bL_different 13 = .ok (.sipush 512, 3) := by decide +kernel
theorem dL_different_16 : decode bL_different 16 = .ok (.if_icmp .ge 46, 3) := by decide +kernel
theorem dL_different_19 : decode bL_different 19 = .ok (.iload_n 3, 1) := by decide +kernel
theorem dL_different_20 : decode bL_different 20 = .ok (.iload_n 2, 1) := by decide +kernel
theorem dL_different_21 : decode bL_different 21 = .ok (.iload_n 1, 1) := by decide +kernel
theorem dL_different_22 : decode bL_different 22 = .ok (.isub, 1) := by decide +kernel
theorem dL_different_23 : decode bL_different 23 = .ok (.if_icmp .ge 39, 3) := by decide +kernel
theorem dL_different_26 : decode bL_different 26 = .ok (.aload_n 0, 1) := by decide +kernel
theorem dL_different_27 : decode bL_different 27 = .ok (.getfield 20, 3) := by decide +kernel
theorem dL_different_30 : decode bL_different 30 = .ok (.iload 4, 2) := by decide +kernel
theorem dL_different_32 : decode bL_different 32 = .ok (.aload_n 0, 1) := by decide +kernel
theorem dL_different_33 : decode bL_different 33 = .ok (.getfield 16, 3) := by decide +kernel
theorem dL_different_36 : decode bL_different 36 = .ok (.iload_n 1, 1) := by decide +kernel
theorem dL_different_37 : decode bL_different 37 = .ok (.iload_n 2, 1) := by decide +kernel
theorem dL_different_38 : decode bL_different 38 = .ok (.iload_n 3, 1) := by decide +kernel
theorem dL_different_39 : decode bL_different 39 = .ok (.invokevirtual 78, 3) := by decide +kernel
theorem dL_different_42 : decode bL_different 42 = .ok (.iastore, 1) := by decide +kernel
theorem dL_different_43 : decode bL_different 43 = .ok (.iload_n 3, 1) := by decide +kernel
theorem dL_different_44 : decode bL_different 44 = .ok (.aload_n 0, 1) := by decide +kernel
theorem dL_different_45 : decode bL_different 45 = .ok (.getfield 20, 3) := by decide +kernel
theorem dL_different_48 : decode bL_different 48 = .ok (.iload 4, 2) := by decide +kernel
theorem dL_different_50 : decode bL_different 50 = .ok (.iaload, 1) := by decide +kernel
theorem dL_different_51 : decode bL_different 51 = .ok (.invokestatic 87, 3) := by decide +kernel
theorem dL_different_54 : decode bL_different 54 = .ok (.iadd, 1) := by decide +kernel
theorem dL_different_55 : decode bL_different 55 = .ok (.istore_n 3, 1) := by decide +kernel
theorem dL_different_56 : decode bL_different 56 = .ok (.iinc 4 1, 3) := by decide +kernel
theorem dL_different_59 : decode bL_different 59 = .ok (.goto (-48), 3) := by decide +kernel
theorem dL_different_62 : decode bL_different 62 = .ok (.aload_n 0, 1) := by decide +kernel
theorem dL_different_63 : decode bL_different 63 = .ok (.iload 4, 2) := by decide +kernel
theorem dL_different_65 : decode bL_different 65 = .ok (.putfield 27, 3) := by decide +kernel
theorem dL_different_68 : decode bL_different 68 = .ok (.iload 4, 2) := by decide +kernel
theorem dL_different_70 : decode bL_different 70 = .ok (.ireturn, 1) := by decide +kernel
theorem dL_timesIn_0 : decode bL_timesIn 0 = .ok (.iload_n 0, 1) := by decide +kernel
theorem dL_timesIn_1 : decode bL_timesIn 1 = .ok (.sipush 4096, 3) := by decide +kernel
theorem dL_timesIn_4 : decode bL_timesIn 4 = .ok (.irem, 1) := by decide +kernel
theorem dL_timesIn_5 : decode bL_timesIn 5 = .ok (.ireturn, 1) := by decide +kernel
theorem dW_number_0 : decode bW_number 0 = .ok (.aload_n 2, 1) := by decide +kernel
theorem dW_number_1 : decode bW_number 1 = .ok (.iconst 0, 1) := by decide +kernel
theorem dW_number_2 : decode bW_number 2 = .ok (.aload_n 0, 1) := by decide +kernel
theorem dW_number_3 : decode bW_number 3 = .ok (.iload_n 1, 1) := by decide +kernel
theorem dW_number_4 : decode bW_number 4 = .ok (.invokevirtual 42, 3) := by decide +kernel
theorem dW_number_7 : decode bW_number 7 = .ok (.i2l, 1) := by decide +kernel
theorem dW_number_8 : decode bW_number 8 = .ok (.lastore, 1) := by decide +kernel
theorem dW_number_9 : decode bW_number 9 = .ok (.goto 6, 3) := by decide +kernel
theorem dW_number_12 : decode bW_number 12 = .ok (.astore_n 3, 1) := by decide +kernel
theorem dW_number_13 : decode bW_number 13 = .ok (.iconst 1, 1) := by decide +kernel
theorem dW_number_14 : decode bW_number 14 = .ok (.ireturn, 1) := by decide +kernel
theorem dW_number_15 : decode bW_number 15 = .ok (.iconst 0, 1) := by decide +kernel
theorem dW_number_16 : decode bW_number 16 = .ok (.ireturn, 1) := by decide +kernel
theorem dL_number_0 : decode bL_number 0 = .ok (.iload_n 1, 1) := by decide +kernel
theorem dL_number_1 : decode bL_number 1 = .ok (.ifCond .lt 11, 3) := by decide +kernel
theorem dL_number_4 : decode bL_number 4 = .ok (.iload_n 1, 1) := by decide +kernel
theorem dL_number_5 : decode bL_number 5 = .ok (.aload_n 0, 1) := by decide +kernel
theorem dL_number_6 : decode bL_number 6 = .ok (.getfield 27, 3) := by decide +kernel
theorem dL_number_9 : decode bL_number 9 = .ok (.if_icmp .lt 13, 3) := by decide +kernel
theorem dL_number_12 : decode bL_number 12 = .ok (.new 50, 3) := by decide +kernel
theorem dL_number_15 : decode bL_number 15 = .ok (.dup, 1) := by decide +kernel
theorem dL_number_16 : decode bL_number 16 = .ok (.ldc 90, 2) := by decide +kernel
theorem dL_number_18 : decode bL_number 18 = .ok (.invokespecial 54, 3) := by decide +kernel
theorem dL_number_21 : decode bL_number 21 = .ok (.athrow, 1) := by decide +kernel
theorem dL_number_22 : decode bL_number 22 = .ok (.aload_n 0, 1) := by decide +kernel
theorem dL_number_23 : decode bL_number 23 = .ok (.getfield 20, 3) := by decide +kernel
theorem dL_number_26 : decode bL_number 26 = .ok (.iload_n 1, 1) := by decide +kernel
theorem dL_number_27 : decode bL_number 27 = .ok (.iaload, 1) := by decide +kernel
theorem dL_number_28 : decode bL_number 28 = .ok (.ireturn, 1) := by decide +kernel
theorem dW_before_0 : decode bW_before 0 = .ok (.aload 4, 2) := by decide +kernel
theorem dW_before_2 : decode bW_before 2 = .ok (.iconst 0, 1) := by decide +kernel
theorem dW_before_3 : decode bW_before 3 = .ok (.aload_n 0, 1) := by decide +kernel
theorem dW_before_4 : decode bW_before 4 = .ok (.iload_n 1, 1) := by decide +kernel
theorem dW_before_5 : decode bW_before 5 = .ok (.iload_n 2, 1) := by decide +kernel
theorem dW_before_6 : decode bW_before 6 = .ok (.iload_n 3, 1) := by decide +kernel
theorem dW_before_7 : decode bW_before 7 = .ok (.invokevirtual 45, 3) := by decide +kernel
theorem dW_before_10 : decode bW_before 10 = .ok (.i2l, 1) := by decide +kernel
theorem dW_before_11 : decode bW_before 11 = .ok (.lastore, 1) := by decide +kernel
theorem dW_before_12 : decode bW_before 12 = .ok (.goto 7, 3) := by decide +kernel
theorem dW_before_15 : decode bW_before 15 = .ok (.astore 5, 2) := by decide +kernel
theorem dW_before_17 : decode bW_before 17 = .ok (.iconst 1, 1) := by decide +kernel
theorem dW_before_18 : decode bW_before 18 = .ok (.ireturn, 1) := by decide +kernel
theorem dW_before_19 : decode bW_before 19 = .ok (.iconst 0, 1) := by decide +kernel
theorem dW_before_20 : decode bW_before 20 = .ok (.ireturn, 1) := by decide +kernel
theorem dL_before_0 : decode bL_before 0 = .ok (.iload_n 1, 1) := by decide +kernel
theorem dL_before_1 : decode bL_before 1 = .ok (.sipush 511, 3) := by decide +kernel
theorem dL_before_4 : decode bL_before 4 = .ok (.invokestatic 59, 3) := by decide +kernel
theorem dL_before_7 : decode bL_before 7 = .ok (.aload_n 0, 1) := by decide +kernel
theorem dL_before_8 : decode bL_before 8 = .ok (.iload_n 2, 1) := by decide +kernel
theorem dL_before_9 : decode bL_before 9 = .ok (.iload_n 3, 1) := by decide +kernel
theorem dL_before_10 : decode bL_before 10 = .ok (.invokevirtual 63, 3) := by decide +kernel
theorem dL_before_13 : decode bL_before 13 = .ok (.aload_n 0, 1) := by decide +kernel
theorem dL_before_14 : decode bL_before 14 = .ok (.getfield 16, 3) := by decide +kernel
theorem dL_before_17 : decode bL_before 17 = .ok (.iload_n 1, 1) := by decide +kernel
theorem dL_before_18 : decode bL_before 18 = .ok (.iconst 1, 1) := by decide +kernel
theorem dL_before_19 : decode bL_before 19 = .ok (.iadd, 1) := by decide +kernel
theorem dL_before_20 : decode bL_before 20 = .ok (.iload_n 2, 1) := by decide +kernel
theorem dL_before_21 : decode bL_before 21 = .ok (.iload_n 3, 1) := by decide +kernel
theorem dL_before_22 : decode bL_before 22 = .ok (.invokevirtual 84, 3) := by decide +kernel
theorem dL_before_25 : decode bL_before 25 = .ok (.istore 4, 2) := by decide +kernel
theorem dL_before_27 : decode bL_before 27 = .ok (.iload 4, 2) := by decide +kernel
theorem dL_before_29 : decode bL_before 29 = .ok (.ifCond .ne 7, 3) := by decide +kernel
theorem dL_before_32 : decode bL_before 32 = .ok (.iconst (-1), 1) := by decide +kernel
theorem dL_before_33 : decode bL_before 33 = .ok (.goto 19, 3) := by decide +kernel
theorem dL_before_36 : decode bL_before 36 = .ok (.aload_n 0, 1) := by decide +kernel
theorem dL_before_37 : decode bL_before 37 = .ok (.getfield 16, 3) := by decide +kernel
theorem dL_before_40 : decode bL_before 40 = .ok (.iload_n 2, 1) := by decide +kernel
theorem dL_before_41 : decode bL_before 41 = .ok (.iload_n 3, 1) := by decide +kernel
theorem dL_before_42 : decode bL_before 42 = .ok (.iload 4, 2) := by decide +kernel
theorem dL_before_44 : decode bL_before 44 = .ok (.iconst 1, 1) := by decide +kernel
theorem dL_before_45 : decode bL_before 45 = .ok (.isub, 1) := by decide +kernel
theorem dL_before_46 : decode bL_before 46 = .ok (.invokevirtual 78, 3) := by decide +kernel
theorem dL_before_49 : decode bL_before 49 = .ok (.invokestatic 81, 3) := by decide +kernel
theorem dL_before_52 : decode bL_before 52 = .ok (.ireturn, 1) := by decide +kernel
theorem dW_most_0 : decode bW_most 0 = .ok (.aload_n 3, 1) := by decide +kernel
theorem dW_most_1 : decode bW_most 1 = .ok (.iconst 0, 1) := by decide +kernel
theorem dW_most_2 : decode bW_most 2 = .ok (.aload_n 0, 1) := by decide +kernel
theorem dW_most_3 : decode bW_most 3 = .ok (.iload_n 1, 1) := by decide +kernel
theorem dW_most_4 : decode bW_most 4 = .ok (.iload_n 2, 1) := by decide +kernel
theorem dW_most_5 : decode bW_most 5 = .ok (.invokevirtual 48, 3) := by decide +kernel
theorem dW_most_8 : decode bW_most 8 = .ok (.i2l, 1) := by decide +kernel
theorem dW_most_9 : decode bW_most 9 = .ok (.lastore, 1) := by decide +kernel
theorem dW_most_10 : decode bW_most 10 = .ok (.goto 7, 3) := by decide +kernel
theorem dW_most_13 : decode bW_most 13 = .ok (.astore 4, 2) := by decide +kernel
theorem dW_most_15 : decode bW_most 15 = .ok (.iconst 1, 1) := by decide +kernel
theorem dW_most_16 : decode bW_most 16 = .ok (.ireturn, 1) := by decide +kernel
theorem dW_most_17 : decode bW_most 17 = .ok (.iconst 0, 1) := by decide +kernel
theorem dW_most_18 : decode bW_most 18 = .ok (.ireturn, 1) := by decide +kernel
theorem dL_most_0 : decode bL_most 0 = .ok (.aload_n 0, 1) := by decide +kernel
theorem dL_most_1 : decode bL_most 1 = .ok (.iload_n 1, 1) := by decide +kernel
theorem dL_most_2 : decode bL_most 2 = .ok (.iload_n 2, 1) := by decide +kernel
theorem dL_most_3 : decode bL_most 3 = .ok (.invokevirtual 63, 3) := by decide +kernel
theorem dL_most_6 : decode bL_most 6 = .ok (.iconst (-1), 1) := by decide +kernel
theorem dL_most_7 : decode bL_most 7 = .ok (.istore_n 3, 1) := by decide +kernel
theorem dL_most_8 : decode bL_most 8 = .ok (.iconst 0, 1) := by decide +kernel
theorem dL_most_9 : decode bL_most 9 = .ok (.istore 4, 2) := by decide +kernel
theorem dL_most_11 : decode bL_most 11 = .ok (.iconst 0, 1) := by decide +kernel
theorem dL_most_12 : decode bL_most 12 = .ok (.istore 5, 2) := by decide +kernel
theorem dL_most_14 : decode bL_most 14 = .ok (.iconst 0, 1) := by decide +kernel
theorem dL_most_15 : decode bL_most 15 = .ok (.istore 6, 2) := by decide +kernel
theorem dL_most_17 : decode bL_most 17 = .ok (.iload 6, 2) := by decide +kernel
theorem dL_most_19 : decode bL_most 19 = .ok (.sipush 512, 3) := by decide +kernel
theorem dL_most_22 : decode bL_most 22 = .ok (.if_icmp .ge 61, 3) := by decide +kernel
theorem dL_most_25 : decode bL_most 25 = .ok (.iload 5, 2) := by decide +kernel
theorem dL_most_27 : decode bL_most 27 = .ok (.iload_n 2, 1) := by decide +kernel
theorem dL_most_28 : decode bL_most 28 = .ok (.iload_n 1, 1) := by decide +kernel
theorem dL_most_29 : decode bL_most 29 = .ok (.isub, 1) := by decide +kernel
theorem dL_most_30 : decode bL_most 30 = .ok (.if_icmp .ge 53, 3) := by decide +kernel
theorem dL_most_33 : decode bL_most 33 = .ok (.aload_n 0, 1) := by decide +kernel
theorem dL_most_34 : decode bL_most 34 = .ok (.getfield 16, 3) := by decide +kernel
theorem dL_most_37 : decode bL_most 37 = .ok (.iload_n 1, 1) := by decide +kernel
theorem dL_most_38 : decode bL_most 38 = .ok (.iload_n 2, 1) := by decide +kernel
theorem dL_most_39 : decode bL_most 39 = .ok (.iload 5, 2) := by decide +kernel
theorem dL_most_41 : decode bL_most 41 = .ok (.invokevirtual 78, 3) := by decide +kernel
theorem dL_most_44 : decode bL_most 44 = .ok (.istore 7, 2) := by decide +kernel
theorem dL_most_46 : decode bL_most 46 = .ok (.iload 7, 2) := by decide +kernel
theorem dL_most_48 : decode bL_most 48 = .ok (.invokestatic 87, 3) := by decide +kernel
theorem dL_most_51 : decode bL_most 51 = .ok (.istore 8, 2) := by decide +kernel
theorem dL_most_53 : decode bL_most 53 = .ok (.iload 8, 2) := by decide +kernel
theorem dL_most_55 : decode bL_most 55 = .ok (.iload 4, 2) := by decide +kernel
theorem dL_most_57 : decode bL_most 57 = .ok (.if_icmp .le 13, 3) := by decide +kernel
theorem dL_most_60 : decode bL_most 60 = .ok (.iload 7, 2) := by decide +kernel
theorem dL_most_62 : decode bL_most 62 = .ok (.invokestatic 81, 3) := by decide +kernel
theorem dL_most_65 : decode bL_most 65 = .ok (.istore_n 3, 1) := by decide +kernel
theorem dL_most_66 : decode bL_most 66 = .ok (.iload 8, 2) := by decide +kernel
theorem dL_most_68 : decode bL_most 68 = .ok (.istore 4, 2) := by decide +kernel
theorem dL_most_70 : decode bL_most 70 = .ok (.iload 5, 2) := by decide +kernel
theorem dL_most_72 : decode bL_most 72 = .ok (.iload 8, 2) := by decide +kernel
theorem dL_most_74 : decode bL_most 74 = .ok (.iadd, 1) := by decide +kernel
theorem dL_most_75 : decode bL_most 75 = .ok (.istore 5, 2) := by decide +kernel
theorem dL_most_77 : decode bL_most 77 = .ok (.iinc 6 1, 3) := by decide +kernel
theorem dL_most_80 : decode bL_most 80 = .ok (.goto (-63), 3) := by decide +kernel
theorem dL_most_83 : decode bL_most 83 = .ok (.iload_n 3, 1) := by decide +kernel
theorem dL_most_84 : decode bL_most 84 = .ok (.ireturn, 1) := by decide +kernel
theorem dM_init_0 : decode bM_init 0 = .ok (.aload_n 0, 1) := by decide +kernel
theorem dM_init_1 : decode bM_init 1 = .ok (.invokespecial 1, 3) := by decide +kernel
theorem dM_init_4 : decode bM_init 4 = .ok (.aload_n 0, 1) := by decide +kernel
theorem dM_init_5 : decode bM_init 5 = .ok (.iconst 0, 1) := by decide +kernel
theorem dM_init_6 : decode bM_init 6 = .ok (.putfield 7, 3) := by decide +kernel
theorem dM_init_9 : decode bM_init 9 = .ok (.aload_n 0, 1) := by decide +kernel
theorem dM_init_10 : decode bM_init 10 = .ok (.sipush 4000, 3) := by decide +kernel
theorem dM_init_13 : decode bM_init 13 = .ok (.newarray .int, 2) := by decide +kernel
theorem dM_init_15 : decode bM_init 15 = .ok (.putfield 13, 3) := by decide +kernel
theorem dM_init_18 : decode bM_init 18 = .ok (.aload_n 0, 1) := by decide +kernel
theorem dM_init_19 : decode bM_init 19 = .ok (.sipush 4000, 3) := by decide +kernel
theorem dM_init_22 : decode bM_init 22 = .ok (.newarray .int, 2) := by decide +kernel
theorem dM_init_24 : decode bM_init 24 = .ok (.putfield 17, 3) := by decide +kernel
theorem dM_init_27 : decode bM_init 27 = .ok (.aload_n 0, 1) := by decide +kernel
theorem dM_init_28 : decode bM_init 28 = .ok (.sipush 512, 3) := by decide +kernel
theorem dM_init_31 : decode bM_init 31 = .ok (.newarray .int, 2) := by decide +kernel
theorem dM_init_33 : decode bM_init 33 = .ok (.putfield 20, 3) := by decide +kernel
theorem dM_init_36 : decode bM_init 36 = .ok (.aload_n 0, 1) := by decide +kernel
theorem dM_init_37 : decode bM_init 37 = .ok (.sipush 512, 3) := by decide +kernel
theorem dM_init_40 : decode bM_init 40 = .ok (.newarray .int, 2) := by decide +kernel
theorem dM_init_42 : decode bM_init 42 = .ok (.putfield 23, 3) := by decide +kernel
theorem dM_init_45 : decode bM_init 45 = .ok (.aload_n 0, 1) := by decide +kernel
theorem dM_init_46 : decode bM_init 46 = .ok (.sipush 512, 3) := by decide +kernel
theorem dM_init_49 : decode bM_init 49 = .ok (.newarray .int, 2) := by decide +kernel
theorem dM_init_51 : decode bM_init 51 = .ok (.putfield 26, 3) := by decide +kernel
theorem dM_init_54 : decode bM_init 54 = .ok (.aload_n 0, 1) := by decide +kernel
theorem dM_init_55 : decode bM_init 55 = .ok (.iconst 0, 1) := by decide +kernel
theorem dM_init_56 : decode bM_init 56 = .ok (.putfield 29, 3) := by decide +kernel
theorem dM_init_59 : decode bM_init 59 = .ok (.aload_n 0, 1) := by decide +kernel
theorem dM_init_60 : decode bM_init 60 = .ok (.iconst 0, 1) := by decide +kernel
theorem dM_init_61 : decode bM_init 61 = .ok (.putfield 32, 3) := by decide +kernel
theorem dM_init_64 : decode bM_init 64 = .ok (.aload_n 0, 1) := by decide +kernel
theorem dM_init_65 : decode bM_init 65 = .ok (.iconst 0, 1) := by decide +kernel
theorem dM_init_66 : decode bM_init 66 = .ok (.putfield 35, 3) := by decide +kernel
theorem dM_init_69 : decode bM_init 69 = .ok (.return_, 1) := by decide +kernel
theorem dM_thrown_0 : decode bM_thrown 0 = .ok (.aload_n 0, 1) := by decide +kernel
theorem dM_thrown_1 : decode bM_thrown 1 = .ok (.getfield 7, 3) := by decide +kernel
theorem dM_thrown_4 : decode bM_thrown 4 = .ok (.ireturn, 1) := by decide +kernel
theorem dM_add_0 : decode bM_add 0 = .ok (.aload_n 0, 1) := by decide +kernel
theorem dM_add_1 : decode bM_add 1 = .ok (.iconst 0, 1) := by decide +kernel
theorem dM_add_2 : decode bM_add 2 = .ok (.putfield 7, 3) := by decide +kernel
theorem dM_add_5 : decode bM_add 5 = .ok (.aload_n 0, 1) := by decide +kernel
theorem dM_add_6 : decode bM_add 6 = .ok (.iconst 1, 1) := by decide +kernel
theorem dM_add_7 : decode bM_add 7 = .ok (.aload_n 0, 1) := by decide +kernel
theorem dM_add_8 : decode bM_add 8 = .ok (.getfield 29, 3) := by decide +kernel
theorem dM_add_11 : decode bM_add 11 = .ok (.sipush 3997, 3) := by decide +kernel
theorem dM_add_14 : decode bM_add 14 = .ok (.if_icmp .le 7, 3) := by decide +kernel
theorem dM_add_17 : decode bM_add 17 = .ok (.iconst 1, 1) := by decide +kernel
theorem dM_add_18 : decode bM_add 18 = .ok (.goto 4, 3) := by decide +kernel
theorem dM_add_21 : decode bM_add 21 = .ok (.iconst 0, 1) := by decide +kernel
theorem dM_add_22 : decode bM_add 22 = .ok (.invokevirtual 38, 3) := by decide +kernel
theorem dM_add_25 : decode bM_add 25 = .ok (.ifCond .eq 5, 3) := by decide +kernel
theorem dM_add_28 : decode bM_add 28 = .ok (.iconst 0, 1) := by decide +kernel
theorem dM_add_29 : decode bM_add 29 = .ok (.ireturn, 1) := by decide +kernel
theorem dM_add_30 : decode bM_add 30 = .ok (.aload_n 0, 1) := by decide +kernel
theorem dM_add_31 : decode bM_add 31 = .ok (.getfield 13, 3) := by decide +kernel
theorem dM_add_34 : decode bM_add 34 = .ok (.aload_n 0, 1) := by decide +kernel
theorem dM_add_35 : decode bM_add 35 = .ok (.dup, 1) := by decide +kernel
theorem dM_add_36 : decode bM_add 36 = .ok (.getfield 29, 3) := by decide +kernel
theorem dM_add_39 : decode bM_add 39 = .ok (.dup_x1, 1) := by decide +kernel
theorem dM_add_40 : decode bM_add 40 = .ok (.iconst 1, 1) := by decide +kernel
theorem dM_add_41 : decode bM_add 41 = .ok (.iadd, 1) := by decide +kernel
theorem dM_add_42 : decode bM_add 42 = .ok (.putfield 29, 3) := by decide +kernel
theorem dM_add_45 : decode bM_add 45 = .ok (.iload_n 1, 1) := by decide +kernel
theorem dM_add_46 : decode bM_add 46 = .ok (.sipush 511, 3) := by decide +kernel
theorem dM_add_49 : decode bM_add 49 = .ok (.iand, 1) := by decide +kernel
theorem dM_add_50 : decode bM_add 50 = .ok (.iastore, 1) := by decide +kernel
theorem dM_add_51 : decode bM_add 51 = .ok (.aload_n 0, 1) := by decide +kernel
theorem dM_add_52 : decode bM_add 52 = .ok (.getfield 13, 3) := by decide +kernel
theorem dM_add_55 : decode bM_add 55 = .ok (.aload_n 0, 1) := by decide +kernel
theorem dM_add_56 : decode bM_add 56 = .ok (.dup, 1) := by decide +kernel
theorem dM_add_57 : decode bM_add 57 = .ok (.getfield 29, 3) := by decide +kernel
theorem dM_add_60 : decode bM_add 60 = .ok (.dup_x1, 1) := by decide +kernel
theorem dM_add_61 : decode bM_add 61 = .ok (.iconst 1, 1) := by decide +kernel
theorem dM_add_62 : decode bM_add 62 = .ok (.iadd, 1) := by decide +kernel
theorem dM_add_63 : decode bM_add 63 = .ok (.putfield 29, 3) := by decide +kernel
theorem dM_add_66 : decode bM_add 66 = .ok (.iload_n 2, 1) := by decide +kernel
theorem dM_add_67 : decode bM_add 67 = .ok (.sipush 511, 3) := by decide +kernel
theorem dM_add_70 : decode bM_add 70 = .ok (.iand, 1) := by decide +kernel
theorem dM_add_71 : decode bM_add 71 = .ok (.iastore, 1) := by decide +kernel
theorem dM_add_72 : decode bM_add 72 = .ok (.aload_n 0, 1) := by decide +kernel
theorem dM_add_73 : decode bM_add 73 = .ok (.getfield 13, 3) := by decide +kernel
theorem dM_add_76 : decode bM_add 76 = .ok (.aload_n 0, 1) := by decide +kernel
theorem dM_add_77 : decode bM_add 77 = .ok (.dup, 1) := by decide +kernel
theorem dM_add_78 : decode bM_add 78 = .ok (.getfield 29, 3) := by decide +kernel
theorem dM_add_81 : decode bM_add 81 = .ok (.dup_x1, 1) := by decide +kernel
theorem dM_add_82 : decode bM_add 82 = .ok (.iconst 1, 1) := by decide +kernel
theorem dM_add_83 : decode bM_add 83 = .ok (.iadd, 1) := by decide +kernel
theorem dM_add_84 : decode bM_add 84 = .ok (.putfield 29, 3) := by decide +kernel
theorem dM_add_87 : decode bM_add 87 = .ok (.iload_n 3, 1) := by decide +kernel
theorem dM_add_88 : decode bM_add 88 = .ok (.sipush 511, 3) := by decide +kernel
theorem dM_add_91 : decode bM_add 91 = .ok (.iand, 1) := by decide +kernel
theorem dM_add_92 : decode bM_add 92 = .ok (.iastore, 1) := by decide +kernel
theorem dM_add_93 : decode bM_add 93 = .ok (.aload_n 0, 1) := by decide +kernel
theorem dM_add_94 : decode bM_add 94 = .ok (.getfield 29, 3) := by decide +kernel
theorem dM_add_97 : decode bM_add 97 = .ok (.ireturn, 1) := by decide +kernel
theorem dM_refuse_0 : decode bM_refuse 0 = .ok (.iload_n 2, 1) := by decide +kernel
theorem dM_refuse_1 : decode bM_refuse 1 = .ok (.ifCond .eq 8, 3) := by decide +kernel
theorem dM_refuse_4 : decode bM_refuse 4 = .ok (.aload_n 0, 1) := by decide +kernel
theorem dM_refuse_5 : decode bM_refuse 5 = .ok (.iload_n 1, 1) := by decide +kernel
theorem dM_refuse_6 : decode bM_refuse 6 = .ok (.putfield 7, 3) := by decide +kernel
theorem dM_refuse_9 : decode bM_refuse 9 = .ok (.iload_n 2, 1) := by decide +kernel
theorem dM_refuse_10 : decode bM_refuse 10 = .ok (.ireturn, 1) := by decide +kernel
theorem dM_cut_0 : decode bM_cut 0 = .ok (.aload_n 0, 1) := by decide +kernel
theorem dM_cut_1 : decode bM_cut 1 = .ok (.iconst 0, 1) := by decide +kernel
theorem dM_cut_2 : decode bM_cut 2 = .ok (.putfield 7, 3) := by decide +kernel
theorem dM_cut_5 : decode bM_cut 5 = .ok (.aload_n 0, 1) := by decide +kernel
theorem dM_cut_6 : decode bM_cut 6 = .ok (.iconst 1, 1) := by decide +kernel
theorem dM_cut_7 : decode bM_cut 7 = .ok (.iload_n 1, 1) := by decide +kernel
theorem dM_cut_8 : decode bM_cut 8 = .ok (.ifCond .lt 11, 3) := by decide +kernel
theorem dM_cut_11 : decode bM_cut 11 = .ok (.iload_n 1, 1) := by decide +kernel
theorem dM_cut_12 : decode bM_cut 12 = .ok (.aload_n 0, 1) := by decide +kernel
theorem dM_cut_13 : decode bM_cut 13 = .ok (.getfield 29, 3) := by decide +kernel
theorem dM_cut_16 : decode bM_cut 16 = .ok (.if_icmp .le 7, 3) := by decide +kernel
theorem dM_cut_19 : decode bM_cut 19 = .ok (.iconst 1, 1) := by decide +kernel
theorem dM_cut_20 : decode bM_cut 20 = .ok (.goto 4, 3) := by decide +kernel
theorem dM_cut_23 : decode bM_cut 23 = .ok (.iconst 0, 1) := by decide +kernel
theorem dM_cut_24 : decode bM_cut 24 = .ok (.invokevirtual 38, 3) := by decide +kernel
theorem dM_cut_27 : decode bM_cut 27 = .ok (.ifCond .eq 5, 3) := by decide +kernel
theorem dM_cut_30 : decode bM_cut 30 = .ok (.iconst 0, 1) := by decide +kernel
theorem dM_cut_31 : decode bM_cut 31 = .ok (.ireturn, 1) := by decide +kernel
theorem dM_cut_32 : decode bM_cut 32 = .ok (.aload_n 0, 1) := by decide +kernel
theorem dM_cut_33 : decode bM_cut 33 = .ok (.iload_n 1, 1) := by decide +kernel
theorem dM_cut_34 : decode bM_cut 34 = .ok (.putfield 29, 3) := by decide +kernel
theorem dM_cut_37 : decode bM_cut 37 = .ok (.iload_n 1, 1) := by decide +kernel
theorem dM_cut_38 : decode bM_cut 38 = .ok (.ireturn, 1) := by decide +kernel
theorem dM_build_0 : decode bM_build 0 = .ok (.aload_n 0, 1) := by decide +kernel
theorem dM_build_1 : decode bM_build 1 = .ok (.iconst 0, 1) := by decide +kernel
theorem dM_build_2 : decode bM_build 2 = .ok (.putfield 7, 3) := by decide +kernel
theorem dM_build_5 : decode bM_build 5 = .ok (.iconst 0, 1) := by decide +kernel
theorem dM_build_6 : decode bM_build 6 = .ok (.istore_n 1, 1) := by decide +kernel
theorem dM_build_7 : decode bM_build 7 = .ok (.iload_n 1, 1) := by decide +kernel
theorem dM_build_8 : decode bM_build 8 = .ok (.aload_n 0, 1) := by decide +kernel
theorem dM_build_9 : decode bM_build 9 = .ok (.getfield 29, 3) := by decide +kernel
theorem dM_build_12 : decode bM_build 12 = .ok (.if_icmp .ge 21, 3) := by decide +kernel
theorem dM_build_15 : decode bM_build 15 = .ok (.aload_n 0, 1) := by decide +kernel
theorem dM_build_16 : decode bM_build 16 = .ok (.getfield 17, 3) := by decide +kernel
theorem dM_build_19 : decode bM_build 19 = .ok (.iload_n 1, 1) := by decide +kernel
theorem dM_build_20 : decode bM_build 20 = .ok (.aload_n 0, 1) := by decide +kernel
theorem dM_build_21 : decode bM_build 21 = .ok (.getfield 13, 3) := by decide +kernel
theorem dM_build_24 : decode bM_build 24 = .ok (.iload_n 1, 1) := by decide +kernel
theorem dM_build_25 : decode bM_build 25 = .ok (.iaload, 1) := by decide +kernel
theorem dM_build_26 : decode bM_build 26 = .ok (.iastore, 1) := by decide +kernel
theorem dM_build_27 : decode bM_build 27 = .ok (.iinc 1 1, 3) := by decide +kernel
theorem dM_build_30 : decode bM_build 30 = .ok (.goto (-23), 3) := by decide +kernel
theorem dM_build_33 : decode bM_build 33 = .ok (.aload_n 0, 1) := by decide +kernel
theorem dM_build_34 : decode bM_build 34 = .ok (.aload_n 0, 1) := by decide +kernel
theorem dM_build_35 : decode bM_build 35 = .ok (.getfield 29, 3) := by decide +kernel
theorem dM_build_38 : decode bM_build 38 = .ok (.putfield 32, 3) := by decide +kernel
theorem dM_build_41 : decode bM_build 41 = .ok (.aload_n 0, 1) := by decide +kernel
theorem dM_build_42 : decode bM_build 42 = .ok (.getfield 32, 3) := by decide +kernel
theorem dM_build_45 : decode bM_build 45 = .ok (.ireturn, 1) := by decide +kernel
theorem dM_at_0 : decode bM_at 0 = .ok (.aload_n 0, 1) := by decide +kernel
theorem dM_at_1 : decode bM_at 1 = .ok (.iconst 0, 1) := by decide +kernel
theorem dM_at_2 : decode bM_at 2 = .ok (.putfield 7, 3) := by decide +kernel
theorem dM_at_5 : decode bM_at 5 = .ok (.aload_n 0, 1) := by decide +kernel
theorem dM_at_6 : decode bM_at 6 = .ok (.iconst 1, 1) := by decide +kernel
theorem dM_at_7 : decode bM_at 7 = .ok (.iload_n 1, 1) := by decide +kernel
theorem dM_at_8 : decode bM_at 8 = .ok (.ifCond .lt 11, 3) := by decide +kernel
theorem dM_at_11 : decode bM_at 11 = .ok (.iload_n 1, 1) := by decide +kernel
theorem dM_at_12 : decode bM_at 12 = .ok (.aload_n 0, 1) := by decide +kernel
theorem dM_at_13 : decode bM_at 13 = .ok (.getfield 32, 3) := by decide +kernel
theorem dM_at_16 : decode bM_at 16 = .ok (.if_icmp .lt 7, 3) := by decide +kernel
theorem dM_at_19 : decode bM_at 19 = .ok (.iconst 1, 1) := by decide +kernel
theorem dM_at_20 : decode bM_at 20 = .ok (.goto 4, 3) := by decide +kernel
theorem dM_at_23 : decode bM_at 23 = .ok (.iconst 0, 1) := by decide +kernel
theorem dM_at_24 : decode bM_at 24 = .ok (.invokevirtual 38, 3) := by decide +kernel
theorem dM_at_27 : decode bM_at 27 = .ok (.ifCond .eq 5, 3) := by decide +kernel
theorem dM_at_30 : decode bM_at 30 = .ok (.iconst 0, 1) := by decide +kernel
theorem dM_at_31 : decode bM_at 31 = .ok (.ireturn, 1) := by decide +kernel
theorem dM_at_32 : decode bM_at 32 = .ok (.aload_n 0, 1) := by decide +kernel
theorem dM_at_33 : decode bM_at 33 = .ok (.getfield 17, 3) := by decide +kernel
theorem dM_at_36 : decode bM_at 36 = .ok (.iload_n 1, 1) := by decide +kernel
theorem dM_at_37 : decode bM_at 37 = .ok (.iaload, 1) := by decide +kernel
theorem dM_at_38 : decode bM_at 38 = .ok (.ireturn, 1) := by decide +kernel
theorem dM_often_0 : decode bM_often 0 = .ok (.aload_n 0, 1) := by decide +kernel
theorem dM_often_1 : decode bM_often 1 = .ok (.iload_n 2, 1) := by decide +kernel
theorem dM_often_2 : decode bM_often 2 = .ok (.iload_n 3, 1) := by decide +kernel
theorem dM_often_3 : decode bM_often 3 = .ok (.iload_n 1, 1) := by decide +kernel
theorem dM_often_4 : decode bM_often 4 = .ok (.ifCond .lt 10, 3) := by decide +kernel
theorem dM_often_7 : decode bM_often 7 = .ok (.iload_n 1, 1) := by decide +kernel
theorem dM_often_8 : decode bM_often 8 = .ok (.sipush 511, 3) := by decide +kernel
theorem dM_often_11 : decode bM_often 11 = .ok (.if_icmp .le 7, 3) := by decide +kernel
theorem dM_often_14 : decode bM_often 14 = .ok (.iconst 1, 1) := by decide +kernel
theorem dM_often_15 : decode bM_often 15 = .ok (.goto 4, 3) := by decide +kernel
theorem dM_often_18 : decode bM_often 18 = .ok (.iconst 0, 1) := by decide +kernel
theorem dM_often_19 : decode bM_often 19 = .ok (.invokevirtual 42, 3) := by decide +kernel
theorem dM_often_22 : decode bM_often 22 = .ok (.ifCond .eq 5, 3) := by decide +kernel
theorem dM_often_25 : decode bM_often 25 = .ok (.iconst 0, 1) := by decide +kernel
theorem dM_often_26 : decode bM_often 26 = .ok (.ireturn, 1) := by decide +kernel
theorem dM_often_27 : decode bM_often 27 = .ok (.iconst 0, 1) := by decide +kernel
theorem dM_often_28 : decode bM_often 28 = .ok (.istore 4, 2) := by decide +kernel
theorem dM_often_30 : decode bM_often 30 = .ok (.iload_n 2, 1) := by decide +kernel
theorem dM_often_31 : decode bM_often 31 = .ok (.istore 5, 2) := by decide +kernel
theorem dM_often_33 : decode bM_often 33 = .ok (.iload 5, 2) := by decide +kernel
theorem dM_often_35 : decode bM_often 35 = .ok (.iload_n 3, 1) := by decide +kernel
theorem dM_often_36 : decode bM_often 36 = .ok (.if_icmp .ge 23, 3) := by decide +kernel
theorem dM_often_39 : decode bM_often 39 = .ok (.aload_n 0, 1) := by decide +kernel
theorem dM_often_40 : decode bM_often 40 = .ok (.getfield 17, 3) := by decide +kernel
theorem dM_often_43 : decode bM_often 43 = .ok (.iload 5, 2) := by decide +kernel
theorem dM_often_45 : decode bM_often 45 = .ok (.iaload, 1) := by decide +kernel
theorem dM_often_46 : decode bM_often 46 = .ok (.iload_n 1, 1) := by decide +kernel
theorem dM_often_47 : decode bM_often 47 = .ok (.if_icmp .ne 6, 3) := by decide +kernel
theorem dM_often_50 : decode bM_often 50 = .ok (.iinc 4 1, 3) := by decide +kernel
theorem dM_often_53 : decode bM_often 53 = .ok (.iinc 5 1, 3) := by decide +kernel
theorem dM_often_56 : decode bM_often 56 = .ok (.goto (-23), 3) := by decide +kernel
theorem dM_often_59 : decode bM_often 59 = .ok (.iload 4, 2) := by decide +kernel
theorem dM_often_61 : decode bM_often 61 = .ok (.ireturn, 1) := by decide +kernel
theorem dM_noPart_0 : decode bM_noPart 0 = .ok (.aload_n 0, 1) := by decide +kernel
theorem dM_noPart_1 : decode bM_noPart 1 = .ok (.iconst 0, 1) := by decide +kernel
theorem dM_noPart_2 : decode bM_noPart 2 = .ok (.putfield 7, 3) := by decide +kernel
theorem dM_noPart_5 : decode bM_noPart 5 = .ok (.aload_n 0, 1) := by decide +kernel
theorem dM_noPart_6 : decode bM_noPart 6 = .ok (.iconst 1, 1) := by decide +kernel
theorem dM_noPart_7 : decode bM_noPart 7 = .ok (.iload_n 1, 1) := by decide +kernel
theorem dM_noPart_8 : decode bM_noPart 8 = .ok (.ifCond .lt 20, 3) := by decide +kernel
theorem dM_noPart_11 : decode bM_noPart 11 = .ok (.iload_n 1, 1) := by decide +kernel
theorem dM_noPart_12 : decode bM_noPart 12 = .ok (.iload_n 2, 1) := by decide +kernel
theorem dM_noPart_13 : decode bM_noPart 13 = .ok (.if_icmp .gt 15, 3) := by decide +kernel
theorem dM_noPart_16 : decode bM_noPart 16 = .ok (.iload_n 2, 1) := by decide +kernel
theorem dM_noPart_17 : decode bM_noPart 17 = .ok (.aload_n 0, 1) := by decide +kernel
theorem dM_noPart_18 : decode bM_noPart 18 = .ok (.getfield 32, 3) := by decide +kernel
theorem dM_noPart_21 : decode bM_noPart 21 = .ok (.if_icmp .gt 7, 3) := by decide +kernel
theorem dM_noPart_24 : decode bM_noPart 24 = .ok (.iload_n 3, 1) := by decide +kernel
theorem dM_noPart_25 : decode bM_noPart 25 = .ok (.ifCond .eq 7, 3) := by decide +kernel
theorem dM_noPart_28 : decode bM_noPart 28 = .ok (.iconst 1, 1) := by decide +kernel
theorem dM_noPart_29 : decode bM_noPart 29 = .ok (.goto 4, 3) := by decide +kernel
theorem dM_noPart_32 : decode bM_noPart 32 = .ok (.iconst 0, 1) := by decide +kernel
theorem dM_noPart_33 : decode bM_noPart 33 = .ok (.invokevirtual 38, 3) := by decide +kernel
theorem dM_noPart_36 : decode bM_noPart 36 = .ok (.ireturn, 1) := by decide +kernel
theorem dM_place_0 : decode bM_place 0 = .ok (.aload_n 0, 1) := by decide +kernel
theorem dM_place_1 : decode bM_place 1 = .ok (.iconst 0, 1) := by decide +kernel
theorem dM_place_2 : decode bM_place 2 = .ok (.putfield 7, 3) := by decide +kernel
theorem dM_place_5 : decode bM_place 5 = .ok (.aload_n 0, 1) := by decide +kernel
theorem dM_place_6 : decode bM_place 6 = .ok (.iconst 1, 1) := by decide +kernel
theorem dM_place_7 : decode bM_place 7 = .ok (.iload_n 1, 1) := by decide +kernel
theorem dM_place_8 : decode bM_place 8 = .ok (.ifCond .lt 10, 3) := by decide +kernel
theorem dM_place_11 : decode bM_place 11 = .ok (.iload_n 1, 1) := by decide +kernel
theorem dM_place_12 : decode bM_place 12 = .ok (.sipush 511, 3) := by decide +kernel
theorem dM_place_15 : decode bM_place 15 = .ok (.if_icmp .le 7, 3) := by decide +kernel
theorem dM_place_18 : decode bM_place 18 = .ok (.iconst 1, 1) := by decide +kernel
theorem dM_place_19 : decode bM_place 19 = .ok (.goto 4, 3) := by decide +kernel
theorem dM_place_22 : decode bM_place 22 = .ok (.iconst 0, 1) := by decide +kernel
theorem dM_place_23 : decode bM_place 23 = .ok (.invokevirtual 38, 3) := by decide +kernel
theorem dM_place_26 : decode bM_place 26 = .ok (.ifCond .eq 5, 3) := by decide +kernel
theorem dM_place_29 : decode bM_place 29 = .ok (.iconst 0, 1) := by decide +kernel
theorem dM_place_30 : decode bM_place 30 = .ok (.ireturn, 1) := by decide +kernel
theorem dM_place_31 : decode bM_place 31 = .ok (.iconst 0, 1) := by decide +kernel
theorem dM_place_32 : decode bM_place 32 = .ok (.istore_n 3, 1) := by decide +kernel
theorem dM_place_33 : decode bM_place 33 = .ok (.iconst 0, 1) := by decide +kernel
theorem dM_place_34 : decode bM_place 34 = .ok (.istore 4, 2) := by decide +kernel
theorem dM_place_36 : decode bM_place 36 = .ok (.iload 4, 2) := by decide +kernel
theorem dM_place_38 : decode bM_place 38 = .ok (.aload_n 0, 1) := by decide +kernel
theorem dM_place_39 : decode bM_place 39 = .ok (.getfield 32, 3) := by decide +kernel
theorem dM_place_42 : decode bM_place 42 = .ok (.if_icmp .ge 34, 3) := by decide +kernel
theorem dM_place_45 : decode bM_place 45 = .ok (.aload_n 0, 1) := by decide +kernel
theorem dM_place_46 : decode bM_place 46 = .ok (.getfield 17, 3) := by decide +kernel
theorem dM_place_49 : decode bM_place 49 = .ok (.iload 4, 2) := by decide +kernel
theorem dM_place_51 : decode bM_place 51 = .ok (.iaload, 1) := by decide +kernel
theorem dM_place_52 : decode bM_place 52 = .ok (.iload_n 1, 1) := by decide +kernel
theorem dM_place_53 : decode bM_place 53 = .ok (.if_icmp .eq 6, 3) := by decide +kernel
theorem dM_place_56 : decode bM_place 56 = .ok (.goto 14, 3) := by decide +kernel
theorem dM_place_59 : decode bM_place 59 = .ok (.iload_n 3, 1) := by decide +kernel
theorem dM_place_60 : decode bM_place 60 = .ok (.iload_n 2, 1) := by decide +kernel
theorem dM_place_61 : decode bM_place 61 = .ok (.if_icmp .ne 6, 3) := by decide +kernel
theorem dM_place_64 : decode bM_place 64 = .ok (.iload 4, 2) := by decide +kernel
theorem dM_place_66 : decode bM_place 66 = .ok (.ireturn, 1) := by decide +kernel
theorem dM_place_67 : decode bM_place 67 = .ok (.iinc 3 1, 3) := by decide +kernel
theorem dM_place_70 : decode bM_place 70 = .ok (.iinc 4 1, 3) := by decide +kernel
theorem dM_place_73 : decode bM_place 73 = .ok (.goto (-37), 3) := by decide +kernel
theorem dM_place_76 : decode bM_place 76 = .ok (.aload_n 0, 1) := by decide +kernel
theorem dM_place_77 : decode bM_place 77 = .ok (.iconst 2, 1) := by decide +kernel
theorem dM_place_78 : decode bM_place 78 = .ok (.iconst 1, 1) := by decide +kernel
theorem dM_place_79 : decode bM_place 79 = .ok (.invokevirtual 38, 3) := by decide +kernel
theorem dM_place_82 : decode bM_place 82 = .ok (.pop, 1) := by decide +kernel
theorem dM_place_83 : decode bM_place 83 = .ok (.iconst 0, 1) := by decide +kernel
theorem dM_place_84 : decode bM_place 84 = .ok (.ireturn, 1) := by decide +kernel
theorem dM_least_0 : decode bM_least 0 = .ok (.aload_n 0, 1) := by decide +kernel
theorem dM_least_1 : decode bM_least 1 = .ok (.iload_n 1, 1) := by decide +kernel
theorem dM_least_2 : decode bM_least 2 = .ok (.iload_n 2, 1) := by decide +kernel
theorem dM_least_3 : decode bM_least 3 = .ok (.iconst 0, 1) := by decide +kernel
theorem dM_least_4 : decode bM_least 4 = .ok (.invokevirtual 42, 3) := by decide +kernel
theorem dM_least_7 : decode bM_least 7 = .ok (.ifCond .ne 27, 3) := by decide +kernel
theorem dM_least_10 : decode bM_least 10 = .ok (.aload_n 0, 1) := by decide +kernel
theorem dM_least_11 : decode bM_least 11 = .ok (.iconst 2, 1) := by decide +kernel
theorem dM_least_12 : decode bM_least 12 = .ok (.iload_n 3, 1) := by decide +kernel
theorem dM_least_13 : decode bM_least 13 = .ok (.ifCond .lt 10, 3) := by decide +kernel
theorem dM_least_16 : decode bM_least 16 = .ok (.iload_n 3, 1) := by decide +kernel
theorem dM_least_17 : decode bM_least 17 = .ok (.iload_n 2, 1) := by decide +kernel
theorem dM_least_18 : decode bM_least 18 = .ok (.iload_n 1, 1) := by decide +kernel
theorem dM_least_19 : decode bM_least 19 = .ok (.isub, 1) := by decide +kernel
theorem dM_least_20 : decode bM_least 20 = .ok (.if_icmp .lt 7, 3) := by decide +kernel
theorem dM_least_23 : decode bM_least 23 = .ok (.iconst 1, 1) := by decide +kernel
theorem dM_least_24 : decode bM_least 24 = .ok (.goto 4, 3) := by decide +kernel
theorem dM_least_27 : decode bM_least 27 = .ok (.iconst 0, 1) := by decide +kernel
theorem dM_least_28 : decode bM_least 28 = .ok (.invokevirtual 38, 3) := by decide +kernel
theorem dM_least_31 : decode bM_least 31 = .ok (.ifCond .eq 5, 3) := by decide +kernel
theorem dM_least_34 : decode bM_least 34 = .ok (.iconst 0, 1) := by decide +kernel
theorem dM_least_35 : decode bM_least 35 = .ok (.ireturn, 1) := by decide +kernel
theorem dM_least_36 : decode bM_least 36 = .ok (.aload_n 0, 1) := by decide +kernel
theorem dM_least_37 : decode bM_least 37 = .ok (.iload_n 1, 1) := by decide +kernel
theorem dM_least_38 : decode bM_least 38 = .ok (.iload_n 2, 1) := by decide +kernel
theorem dM_least_39 : decode bM_least 39 = .ok (.invokevirtual 46, 3) := by decide +kernel
theorem dM_least_42 : decode bM_least 42 = .ok (.iload_n 3, 1) := by decide +kernel
theorem dM_least_43 : decode bM_least 43 = .ok (.istore 4, 2) := by decide +kernel
theorem dM_least_45 : decode bM_least 45 = .ok (.iconst 0, 1) := by decide +kernel
theorem dM_least_46 : decode bM_least 46 = .ok (.istore 5, 2) := by decide +kernel
theorem dM_least_48 : decode bM_least 48 = .ok (.iload 4, 2) := by decide +kernel
theorem dM_least_50 : decode bM_least 50 = .ok (.aload_n 0, 1) := by decide +kernel
theorem dM_least_51 : decode bM_least 51 = .ok (.getfield 20, 3) := by decide +kernel
theorem dM_least_54 : decode bM_least 54 = .ok (.iload 5, 2) := by decide +kernel
theorem dM_least_56 : decode bM_least 56 = .ok (.iaload, 1) := by decide +kernel
theorem dM_least_57 : decode bM_least 57 = .ok (.if_icmp .lt 21, 3) := by decide +kernel
theorem dM_least_60 : decode bM_least 60 = .ok (.iload 4, 2) := by decide +kernel
theorem dM_least_62 : decode bM_least 62 = .ok (.aload_n 0, 1) := by decide +kernel
theorem dM_least_63 : decode bM_least 63 = .ok (.getfield 20, 3) := by decide +kernel
theorem dM_least_66 : decode bM_least 66 = .ok (.iload 5, 2) := by decide +kernel
theorem dM_least_68 : decode bM_least 68 = .ok (.iaload, 1) := by decide +kernel
theorem dM_least_69 : decode bM_least 69 = .ok (.isub, 1) := by decide +kernel
theorem dM_least_70 : decode bM_least 70 = .ok (.istore 4, 2) := by decide +kernel
theorem dM_least_72 : decode bM_least 72 = .ok (.iinc 5 1, 3) := by decide +kernel
theorem dM_least_75 : decode bM_least 75 = .ok (.goto (-27), 3) := by decide +kernel
theorem dM_least_78 : decode bM_least 78 = .ok (.iload 5, 2) := by decide +kernel
theorem dM_least_80 : decode bM_least 80 = .ok (.ireturn, 1) := by decide +kernel
theorem dM_counted_0 : decode bM_counted 0 = .ok (.iconst 0, 1) := by decide +kernel
theorem dM_counted_1 : decode bM_counted 1 = .ok (.istore_n 3, 1) := by decide +kernel
theorem dM_counted_2 : decode bM_counted 2 = .ok (.iload_n 3, 1) := by decide +kernel
theorem dM_counted_3 : decode bM_counted 3 = .ok (.sipush 512, 3) := by decide +kernel
theorem dM_counted_6 : decode bM_counted 6 = .ok (.if_icmp .ge 16, 3) := by decide +kernel
theorem dM_counted_9 : decode bM_counted 9 = .ok (.aload_n 0, 1) := by decide +kernel
theorem dM_counted_10 : decode bM_counted 10 = .ok (.getfield 20, 3) := by decide +kernel
theorem dM_counted_13 : decode bM_counted 13 = .ok (.iload_n 3, 1) := by decide +kernel
theorem dM_counted_14 : decode bM_counted 14 = .ok (.iconst 0, 1) := by decide +kernel
theorem dM_counted_15 : decode bM_counted 15 = .ok (.iastore, 1) := by decide +kernel
theorem dM_counted_16 : decode bM_counted 16 = .ok (.iinc 3 1, 3) := by decide +kernel
theorem dM_counted_19 : decode bM_counted 19 = .ok (.goto (-17), 3) := by decide +kernel
theorem dM_counted_22 : decode bM_counted 22 = .ok (.iload_n 1, 1) := by decide +kernel
theorem dM_counted_23 : decode bM_counted 23 = .ok (.istore_n 3, 1) := by decide +kernel
theorem dM_counted_24 : decode bM_counted 24 = .ok (.iload_n 3, 1) := by decide +kernel
theorem dM_counted_25 : decode bM_counted 25 = .ok (.iload_n 2, 1) := by decide +kernel
theorem dM_counted_26 : decode bM_counted 26 = .ok (.if_icmp .ge 24, 3) := by decide +kernel
theorem dM_counted_29 : decode bM_counted 29 = .ok (.aload_n 0, 1) := by decide +kernel
theorem dM_counted_30 : decode bM_counted 30 = .ok (.getfield 20, 3) := by decide +kernel
theorem dM_counted_33 : decode bM_counted 33 = .ok (.aload_n 0, 1) := by decide +kernel
theorem dM_counted_34 : decode bM_counted 34 = .ok (.getfield 17, 3) := by decide +kernel
theorem dM_counted_37 : decode bM_counted 37 = .ok (.iload_n 3, 1) := by decide +kernel
theorem dM_counted_38 : decode bM_counted 38 = .ok (.iaload, 1) := by decide +kernel
theorem dM_counted_39 : decode bM_counted 39 = .ok (.dup2, 1) := by decide +kernel
theorem dM_counted_40 : decode bM_counted 40 = .ok (.iaload, 1) := by decide +kernel
theorem dM_counted_41 : decode bM_counted 41 = .ok (.iconst 1, 1) := by decide +kernel
theorem dM_counted_42 : decode bM_counted 42 = .ok (.iadd, 1) := by decide +kernel
theorem dM_counted_43 : decode bM_counted 43 = .ok (.iastore, 1) := by decide +kernel
theorem dM_counted_44 : decode bM_counted 44 = .ok (.iinc 3 1, 3) := by decide +kernel
theorem dM_counted_47 : decode bM_counted 47 = .ok (.goto (-23), 3) := by decide +kernel
theorem dM_counted_50 : decode bM_counted 50 = .ok (.return_, 1) := by decide +kernel
theorem dM_below_0 : decode bM_below 0 = .ok (.aload_n 0, 1) := by decide +kernel
theorem dM_below_1 : decode bM_below 1 = .ok (.iload_n 2, 1) := by decide +kernel
theorem dM_below_2 : decode bM_below 2 = .ok (.iload_n 3, 1) := by decide +kernel
theorem dM_below_3 : decode bM_below 3 = .ok (.iload_n 1, 1) := by decide +kernel
theorem dM_below_4 : decode bM_below 4 = .ok (.ifCond .lt 10, 3) := by decide +kernel
theorem dM_below_7 : decode bM_below 7 = .ok (.iload_n 1, 1) := by decide +kernel
theorem dM_below_8 : decode bM_below 8 = .ok (.sipush 512, 3) := by decide +kernel
theorem dM_below_11 : decode bM_below 11 = .ok (.if_icmp .le 7, 3) := by decide +kernel
theorem dM_below_14 : decode bM_below 14 = .ok (.iconst 1, 1) := by decide +kernel
theorem dM_below_15 : decode bM_below 15 = .ok (.goto 4, 3) := by decide +kernel
theorem dM_below_18 : decode bM_below 18 = .ok (.iconst 0, 1) := by decide +kernel
theorem dM_below_19 : decode bM_below 19 = .ok (.invokevirtual 42, 3) := by decide +kernel
theorem dM_below_22 : decode bM_below 22 = .ok (.ifCond .eq 5, 3) := by decide +kernel
theorem dM_below_25 : decode bM_below 25 = .ok (.iconst 0, 1) := by decide +kernel
theorem dM_below_26 : decode bM_below 26 = .ok (.ireturn, 1) := by decide +kernel
theorem dM_below_27 : decode bM_below 27 = .ok (.iconst 0, 1) := by decide +kernel
theorem dM_below_28 : decode bM_below 28 = .ok (.istore 4, 2) := by decide +kernel
theorem dM_below_30 : decode bM_below 30 = .ok (.iload_n 2, 1) := by decide +kernel
theorem dM_below_31 : decode bM_below 31 = .ok (.istore 5, 2) := by decide +kernel
theorem dM_below_33 : decode bM_below 33 = .ok (.iload 5, 2) := by decide +kernel
theorem dM_below_35 : decode bM_below 35 = .ok (.iload_n 3, 1) := by decide +kernel
theorem dM_below_36 : decode bM_below 36 = .ok (.if_icmp .ge 23, 3) := by decide +kernel
theorem dM_below_39 : decode bM_below 39 = .ok (.aload_n 0, 1) := by decide +kernel
theorem dM_below_40 : decode bM_below 40 = .ok (.getfield 17, 3) := by decide +kernel
theorem dM_below_43 : decode bM_below 43 = .ok (.iload 5, 2) := by decide +kernel
theorem dM_below_45 : decode bM_below 45 = .ok (.iaload, 1) := by decide +kernel
theorem dM_below_46 : decode bM_below 46 = .ok (.iload_n 1, 1) := by decide +kernel
theorem dM_below_47 : decode bM_below 47 = .ok (.if_icmp .ge 6, 3) := by decide +kernel
theorem dM_below_50 : decode bM_below 50 = .ok (.iinc 4 1, 3) := by decide +kernel
theorem dM_below_53 : decode bM_below 53 = .ok (.iinc 5 1, 3) := by decide +kernel
theorem dM_below_56 : decode bM_below 56 = .ok (.goto (-23), 3) := by decide +kernel
theorem dM_below_59 : decode bM_below 59 = .ok (.iload 4, 2) := by decide +kernel
theorem dM_below_61 : decode bM_below 61 = .ok (.ireturn, 1) := by decide +kernel
theorem dM_different_0 : decode bM_different 0 = .ok (.aload_n 0, 1) := by decide +kernel
theorem dM_different_1 : decode bM_different 1 = .ok (.iload_n 1, 1) := by decide +kernel
theorem dM_different_2 : decode bM_different 2 = .ok (.iload_n 2, 1) := by decide +kernel
theorem dM_different_3 : decode bM_different 3 = .ok (.iconst 0, 1) := by decide +kernel
theorem dM_different_4 : decode bM_different 4 = .ok (.invokevirtual 42, 3) := by decide +kernel
theorem dM_different_7 : decode bM_different 7 = .ok (.ifCond .eq 5, 3) := by decide +kernel
theorem dM_different_10 : decode bM_different 10 = .ok (.iconst 0, 1) := by decide +kernel
theorem dM_different_11 : decode bM_different 11 = .ok (.ireturn, 1) := by decide +kernel
theorem dM_different_12 : decode bM_different 12 = .ok (.aload_n 0, 1) := by decide +kernel
theorem dM_different_13 : decode bM_different 13 = .ok (.iload_n 1, 1) := by decide +kernel
theorem dM_different_14 : decode bM_different 14 = .ok (.iload_n 2, 1) := by decide +kernel
theorem dM_different_15 : decode bM_different 15 = .ok (.invokevirtual 46, 3) := by decide +kernel
theorem dM_different_18 : decode bM_different 18 = .ok (.aload_n 0, 1) := by decide +kernel
theorem dM_different_19 : decode bM_different 19 = .ok (.iconst 0, 1) := by decide +kernel
theorem dM_different_20 : decode bM_different 20 = .ok (.putfield 35, 3) := by decide +kernel
theorem dM_different_23 : decode bM_different 23 = .ok (.iconst 0, 1) := by decide +kernel
theorem dM_different_24 : decode bM_different 24 = .ok (.istore_n 3, 1) := by decide +kernel
theorem dM_different_25 : decode bM_different 25 = .ok (.iload_n 3, 1) := by decide +kernel
theorem dM_different_26 : decode bM_different 26 = .ok (.sipush 512, 3) := by decide +kernel
theorem dM_different_29 : decode bM_different 29 = .ok (.if_icmp .ge 53, 3) := by decide +kernel
theorem dM_different_32 : decode bM_different 32 = .ok (.aload_n 0, 1) := by decide +kernel
theorem dM_different_33 : decode bM_different 33 = .ok (.getfield 20, 3) := by decide +kernel
theorem dM_different_36 : decode bM_different 36 = .ok (.iload_n 3, 1) := by decide +kernel
theorem dM_different_37 : decode bM_different 37 = .ok (.iaload, 1) := by decide +kernel
theorem dM_different_38 : decode bM_different 38 = .ok (.ifCond .ne 6, 3) := by decide +kernel
theorem dM_different_41 : decode bM_different 41 = .ok (.goto 35, 3) := by decide +kernel
theorem dM_different_44 : decode bM_different 44 = .ok (.aload_n 0, 1) := by decide +kernel
theorem dM_different_45 : decode bM_different 45 = .ok (.getfield 23, 3) := by decide +kernel
theorem dM_different_48 : decode bM_different 48 = .ok (.aload_n 0, 1) := by decide +kernel
theorem dM_different_49 : decode bM_different 49 = .ok (.getfield 35, 3) := by decide +kernel
theorem dM_different_52 : decode bM_different 52 = .ok (.iload_n 3, 1) := by decide +kernel
theorem dM_different_53 : decode bM_different 53 = .ok (.iastore, 1) := by decide +kernel
theorem dM_different_54 : decode bM_different 54 = .ok (.aload_n 0, 1) := by decide +kernel
theorem dM_different_55 : decode bM_different 55 = .ok (.getfield 26, 3) := by decide +kernel
theorem dM_different_58 : decode bM_different 58 = .ok (.aload_n 0, 1) := by decide +kernel
theorem dM_different_59 : decode bM_different 59 = .ok (.dup, 1) := by decide +kernel
theorem dM_different_60 : decode bM_different 60 = .ok (.getfield 35, 3) := by decide +kernel
theorem dM_different_63 : decode bM_different 63 = .ok (.dup_x1, 1) := by decide +kernel
theorem dM_different_64 : decode bM_different 64 = .ok (.iconst 1, 1) := by decide +kernel
theorem dM_different_65 : decode bM_different 65 = .ok (.iadd, 1) := by decide +kernel
theorem dM_different_66 : decode bM_different 66 = .ok (.putfield 35, 3) := by decide +kernel
theorem dM_different_69 : decode bM_different 69 = .ok (.aload_n 0, 1) := by decide +kernel
theorem dM_different_70 : decode bM_different 70 = .ok (.getfield 20, 3) := by decide +kernel
theorem dM_different_73 : decode bM_different 73 = .ok (.iload_n 3, 1) := by decide +kernel
theorem dM_different_74 : decode bM_different 74 = .ok (.iaload, 1) := by decide +kernel
theorem dM_different_75 : decode bM_different 75 = .ok (.iastore, 1) := by decide +kernel
theorem dM_different_76 : decode bM_different 76 = .ok (.iinc 3 1, 3) := by decide +kernel
theorem dM_different_79 : decode bM_different 79 = .ok (.goto (-54), 3) := by decide +kernel
theorem dM_different_82 : decode bM_different 82 = .ok (.aload_n 0, 1) := by decide +kernel
theorem dM_different_83 : decode bM_different 83 = .ok (.getfield 35, 3) := by decide +kernel
theorem dM_different_86 : decode bM_different 86 = .ok (.ireturn, 1) := by decide +kernel
theorem dM_number_0 : decode bM_number 0 = .ok (.aload_n 0, 1) := by decide +kernel
theorem dM_number_1 : decode bM_number 1 = .ok (.iconst 0, 1) := by decide +kernel
theorem dM_number_2 : decode bM_number 2 = .ok (.putfield 7, 3) := by decide +kernel
theorem dM_number_5 : decode bM_number 5 = .ok (.aload_n 0, 1) := by decide +kernel
theorem dM_number_6 : decode bM_number 6 = .ok (.iconst 1, 1) := by decide +kernel
theorem dM_number_7 : decode bM_number 7 = .ok (.iload_n 1, 1) := by decide +kernel
theorem dM_number_8 : decode bM_number 8 = .ok (.ifCond .lt 11, 3) := by decide +kernel
theorem dM_number_11 : decode bM_number 11 = .ok (.iload_n 1, 1) := by decide +kernel
theorem dM_number_12 : decode bM_number 12 = .ok (.aload_n 0, 1) := by decide +kernel
theorem dM_number_13 : decode bM_number 13 = .ok (.getfield 35, 3) := by decide +kernel
theorem dM_number_16 : decode bM_number 16 = .ok (.if_icmp .lt 7, 3) := by decide +kernel
theorem dM_number_19 : decode bM_number 19 = .ok (.iconst 1, 1) := by decide +kernel
theorem dM_number_20 : decode bM_number 20 = .ok (.goto 4, 3) := by decide +kernel
theorem dM_number_23 : decode bM_number 23 = .ok (.iconst 0, 1) := by decide +kernel
theorem dM_number_24 : decode bM_number 24 = .ok (.invokevirtual 38, 3) := by decide +kernel
theorem dM_number_27 : decode bM_number 27 = .ok (.ifCond .eq 5, 3) := by decide +kernel
theorem dM_number_30 : decode bM_number 30 = .ok (.iconst 0, 1) := by decide +kernel
theorem dM_number_31 : decode bM_number 31 = .ok (.ireturn, 1) := by decide +kernel
theorem dM_number_32 : decode bM_number 32 = .ok (.sipush 4096, 3) := by decide +kernel
theorem dM_number_35 : decode bM_number 35 = .ok (.aload_n 0, 1) := by decide +kernel
theorem dM_number_36 : decode bM_number 36 = .ok (.getfield 23, 3) := by decide +kernel
theorem dM_number_39 : decode bM_number 39 = .ok (.iload_n 1, 1) := by decide +kernel
theorem dM_number_40 : decode bM_number 40 = .ok (.iaload, 1) := by decide +kernel
theorem dM_number_41 : decode bM_number 41 = .ok (.imul, 1) := by decide +kernel
theorem dM_number_42 : decode bM_number 42 = .ok (.aload_n 0, 1) := by decide +kernel
theorem dM_number_43 : decode bM_number 43 = .ok (.getfield 26, 3) := by decide +kernel
theorem dM_number_46 : decode bM_number 46 = .ok (.iload_n 1, 1) := by decide +kernel
theorem dM_number_47 : decode bM_number 47 = .ok (.iaload, 1) := by decide +kernel
theorem dM_number_48 : decode bM_number 48 = .ok (.iadd, 1) := by decide +kernel
theorem dM_number_49 : decode bM_number 49 = .ok (.ireturn, 1) := by decide +kernel
theorem dM_before_0 : decode bM_before 0 = .ok (.aload_n 0, 1) := by decide +kernel
theorem dM_before_1 : decode bM_before 1 = .ok (.iload_n 2, 1) := by decide +kernel
theorem dM_before_2 : decode bM_before 2 = .ok (.iload_n 3, 1) := by decide +kernel
theorem dM_before_3 : decode bM_before 3 = .ok (.iload_n 1, 1) := by decide +kernel
theorem dM_before_4 : decode bM_before 4 = .ok (.ifCond .lt 10, 3) := by decide +kernel
theorem dM_before_7 : decode bM_before 7 = .ok (.iload_n 1, 1) := by decide +kernel
theorem dM_before_8 : decode bM_before 8 = .ok (.sipush 511, 3) := by decide +kernel
theorem dM_before_11 : decode bM_before 11 = .ok (.if_icmp .le 7, 3) := by decide +kernel
theorem dM_before_14 : decode bM_before 14 = .ok (.iconst 1, 1) := by decide +kernel
theorem dM_before_15 : decode bM_before 15 = .ok (.goto 4, 3) := by decide +kernel
theorem dM_before_18 : decode bM_before 18 = .ok (.iconst 0, 1) := by decide +kernel
theorem dM_before_19 : decode bM_before 19 = .ok (.invokevirtual 42, 3) := by decide +kernel
theorem dM_before_22 : decode bM_before 22 = .ok (.ifCond .eq 5, 3) := by decide +kernel
theorem dM_before_25 : decode bM_before 25 = .ok (.iconst 0, 1) := by decide +kernel
theorem dM_before_26 : decode bM_before 26 = .ok (.ireturn, 1) := by decide +kernel
theorem dM_before_27 : decode bM_before 27 = .ok (.iconst (-1), 1) := by decide +kernel
theorem dM_before_28 : decode bM_before 28 = .ok (.istore 4, 2) := by decide +kernel
theorem dM_before_30 : decode bM_before 30 = .ok (.iload_n 2, 1) := by decide +kernel
theorem dM_before_31 : decode bM_before 31 = .ok (.istore 5, 2) := by decide +kernel
theorem dM_before_33 : decode bM_before 33 = .ok (.iload 5, 2) := by decide +kernel
theorem dM_before_35 : decode bM_before 35 = .ok (.iload_n 3, 1) := by decide +kernel
theorem dM_before_36 : decode bM_before 36 = .ok (.if_icmp .ge 41, 3) := by decide +kernel
theorem dM_before_39 : decode bM_before 39 = .ok (.aload_n 0, 1) := by decide +kernel
theorem dM_before_40 : decode bM_before 40 = .ok (.getfield 17, 3) := by decide +kernel
theorem dM_before_43 : decode bM_before 43 = .ok (.iload 5, 2) := by decide +kernel
theorem dM_before_45 : decode bM_before 45 = .ok (.iaload, 1) := by decide +kernel
theorem dM_before_46 : decode bM_before 46 = .ok (.iload_n 1, 1) := by decide +kernel
theorem dM_before_47 : decode bM_before 47 = .ok (.if_icmp .gt 24, 3) := by decide +kernel
theorem dM_before_50 : decode bM_before 50 = .ok (.aload_n 0, 1) := by decide +kernel
theorem dM_before_51 : decode bM_before 51 = .ok (.getfield 17, 3) := by decide +kernel
theorem dM_before_54 : decode bM_before 54 = .ok (.iload 5, 2) := by decide +kernel
theorem dM_before_56 : decode bM_before 56 = .ok (.iaload, 1) := by decide +kernel
theorem dM_before_57 : decode bM_before 57 = .ok (.iload 4, 2) := by decide +kernel
theorem dM_before_59 : decode bM_before 59 = .ok (.if_icmp .le 12, 3) := by decide +kernel
theorem dM_before_62 : decode bM_before 62 = .ok (.aload_n 0, 1) := by decide +kernel
theorem dM_before_63 : decode bM_before 63 = .ok (.getfield 17, 3) := by decide +kernel
theorem dM_before_66 : decode bM_before 66 = .ok (.iload 5, 2) := by decide +kernel
theorem dM_before_68 : decode bM_before 68 = .ok (.iaload, 1) := by decide +kernel
theorem dM_before_69 : decode bM_before 69 = .ok (.istore 4, 2) := by decide +kernel
theorem dM_before_71 : decode bM_before 71 = .ok (.iinc 5 1, 3) := by decide +kernel
theorem dM_before_74 : decode bM_before 74 = .ok (.goto (-41), 3) := by decide +kernel
theorem dM_before_77 : decode bM_before 77 = .ok (.iload 4, 2) := by decide +kernel
theorem dM_before_79 : decode bM_before 79 = .ok (.ireturn, 1) := by decide +kernel
theorem dM_most_0 : decode bM_most 0 = .ok (.aload_n 0, 1) := by decide +kernel
theorem dM_most_1 : decode bM_most 1 = .ok (.iload_n 1, 1) := by decide +kernel
theorem dM_most_2 : decode bM_most 2 = .ok (.iload_n 2, 1) := by decide +kernel
theorem dM_most_3 : decode bM_most 3 = .ok (.iconst 0, 1) := by decide +kernel
theorem dM_most_4 : decode bM_most 4 = .ok (.invokevirtual 42, 3) := by decide +kernel
theorem dM_most_7 : decode bM_most 7 = .ok (.ifCond .eq 5, 3) := by decide +kernel
theorem dM_most_10 : decode bM_most 10 = .ok (.iconst 0, 1) := by decide +kernel
theorem dM_most_11 : decode bM_most 11 = .ok (.ireturn, 1) := by decide +kernel
theorem dM_most_12 : decode bM_most 12 = .ok (.aload_n 0, 1) := by decide +kernel
theorem dM_most_13 : decode bM_most 13 = .ok (.iload_n 1, 1) := by decide +kernel
theorem dM_most_14 : decode bM_most 14 = .ok (.iload_n 2, 1) := by decide +kernel
theorem dM_most_15 : decode bM_most 15 = .ok (.invokevirtual 46, 3) := by decide +kernel
theorem dM_most_18 : decode bM_most 18 = .ok (.iconst (-1), 1) := by decide +kernel
theorem dM_most_19 : decode bM_most 19 = .ok (.istore_n 3, 1) := by decide +kernel
theorem dM_most_20 : decode bM_most 20 = .ok (.iconst 0, 1) := by decide +kernel
theorem dM_most_21 : decode bM_most 21 = .ok (.istore 4, 2) := by decide +kernel
theorem dM_most_23 : decode bM_most 23 = .ok (.iload 4, 2) := by decide +kernel
theorem dM_most_25 : decode bM_most 25 = .ok (.sipush 512, 3) := by decide +kernel
theorem dM_most_28 : decode bM_most 28 = .ok (.if_icmp .ge 42, 3) := by decide +kernel
theorem dM_most_31 : decode bM_most 31 = .ok (.aload_n 0, 1) := by decide +kernel
theorem dM_most_32 : decode bM_most 32 = .ok (.getfield 20, 3) := by decide +kernel
theorem dM_most_35 : decode bM_most 35 = .ok (.iload 4, 2) := by decide +kernel
theorem dM_most_37 : decode bM_most 37 = .ok (.iaload, 1) := by decide +kernel
theorem dM_most_38 : decode bM_most 38 = .ok (.ifCond .le 26, 3) := by decide +kernel
theorem dM_most_41 : decode bM_most 41 = .ok (.iload_n 3, 1) := by decide +kernel
theorem dM_most_42 : decode bM_most 42 = .ok (.ifCond .lt 19, 3) := by decide +kernel
theorem dM_most_45 : decode bM_most 45 = .ok (.aload_n 0, 1) := by decide +kernel
theorem dM_most_46 : decode bM_most 46 = .ok (.getfield 20, 3) := by decide +kernel
theorem dM_most_49 : decode bM_most 49 = .ok (.iload 4, 2) := by decide +kernel
theorem dM_most_51 : decode bM_most 51 = .ok (.iaload, 1) := by decide +kernel
theorem dM_most_52 : decode bM_most 52 = .ok (.aload_n 0, 1) := by decide +kernel
theorem dM_most_53 : decode bM_most 53 = .ok (.getfield 20, 3) := by decide +kernel
theorem dM_most_56 : decode bM_most 56 = .ok (.iload_n 3, 1) := by decide +kernel
theorem dM_most_57 : decode bM_most 57 = .ok (.iaload, 1) := by decide +kernel
theorem dM_most_58 : decode bM_most 58 = .ok (.if_icmp .le 6, 3) := by decide +kernel
theorem dM_most_61 : decode bM_most 61 = .ok (.iload 4, 2) := by decide +kernel
theorem dM_most_63 : decode bM_most 63 = .ok (.istore_n 3, 1) := by decide +kernel
theorem dM_most_64 : decode bM_most 64 = .ok (.iinc 4 1, 3) := by decide +kernel
theorem dM_most_67 : decode bM_most 67 = .ok (.goto (-44), 3) := by decide +kernel
theorem dM_most_70 : decode bM_most 70 = .ok (.iload_n 3, 1) := by decide +kernel
theorem dM_most_71 : decode bM_most 71 = .ok (.ireturn, 1) := by decide +kernel
theorem dM_count_0 : decode bM_count 0 = .ok (.aload_n 0, 1) := by decide +kernel
theorem dM_count_1 : decode bM_count 1 = .ok (.iconst 0, 1) := by decide +kernel
theorem dM_count_2 : decode bM_count 2 = .ok (.putfield 7, 3) := by decide +kernel
theorem dM_count_5 : decode bM_count 5 = .ok (.iload_n 1, 1) := by decide +kernel
theorem dM_count_6 : decode bM_count 6 = .ok (.ifCond .ne 10, 3) := by decide +kernel
theorem dM_count_9 : decode bM_count 9 = .ok (.aload_n 0, 1) := by decide +kernel
theorem dM_count_10 : decode bM_count 10 = .ok (.getfield 29, 3) := by decide +kernel
theorem dM_count_13 : decode bM_count 13 = .ok (.goto 16, 3) := by decide +kernel
theorem dM_count_16 : decode bM_count 16 = .ok (.iload_n 1, 1) := by decide +kernel
theorem dM_count_17 : decode bM_count 17 = .ok (.iconst 1, 1) := by decide +kernel
theorem dM_count_18 : decode bM_count 18 = .ok (.if_icmp .ne 10, 3) := by decide +kernel
theorem dM_count_21 : decode bM_count 21 = .ok (.aload_n 0, 1) := by decide +kernel
theorem dM_count_22 : decode bM_count 22 = .ok (.getfield 32, 3) := by decide +kernel
theorem dM_count_25 : decode bM_count 25 = .ok (.goto 4, 3) := by decide +kernel
theorem dM_count_28 : decode bM_count 28 = .ok (.iconst (-1), 1) := by decide +kernel
theorem dM_count_29 : decode bM_count 29 = .ok (.ireturn, 1) := by decide +kernel
